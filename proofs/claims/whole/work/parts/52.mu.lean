/-! CHANGES: what they share; capacity, limit, orders, turns -/
section MU
variable {m m1 m2 mA mB mC : dM} {s t : gS} {f g : Nat → Int32} {X : Nat × (Nat → Int32)} {i : Nat}
theorem b_one {n j : Nat} (hn : n < 32) (hj : j < 32) : bt (nI 1 <<< (nI n &&& nI 31)) j = decide (j = n) := by
  rw [n31, b_shl n hn _ hj]
  by_cases q : n ≤ j
  · rw [decide_eq_true q, Bool.true_and, b_1 _ (by omega)]
    by_cases e : j = n
    · rw [decide_eq_true (show j - n = 0 by omega), decide_eq_true e]
    · rw [decide_eq_false (show ¬ j - n = 0 by omega), decide_eq_false e]
  · rw [decide_eq_false q, Bool.false_and, decide_eq_false (by omega)]
theorem upd_self {x : Nat} : upd f x (f x) = f := by
  funext y
  by_cases e : y = x
  · rw [e, upd_s]
  · rw [upd_n e]
theorem RC.mks (R : RC m 1 f) (c : chg (fun b => 2 ≤ b ∧ b ≤ 4) m m1) (h : ∀ x, 97 ≤ x → g x = f x) (hs : RCs m1 1 g) (V : rv f) : RC m1 1 g := ⟨hs, R.2.1.cg (fun x q _ => h x q) (fun b _ _ => c.1 b (by omega)), R.2.2.1.cg (fun x q _ => h x (by omega)) (fun b _ _ => c.1 b (by omega)), R.2.2.2.1.cg V.t61 (fun x q => h x (by omega)) (fun b _ _ => ⟨c.1 b (by omega), c.2.1 b (by omega)⟩), R.2.2.2.2.cg (fun x q _ => h x (by omega)) (fun b _ => c.1 b (by omega))⟩
theorem RC.mkc (R : RC m 1 f) (c : chg (fun b => 5 ≤ b ∧ b ≤ 9) m m1) (h : ∀ x, ¬ (97 ≤ x ∧ x < 117) → g x = f x) (hs : RCc m1 1 g) (V : rv f) : RC m1 1 g := ⟨R.1.cg (fun x q => h x (by omega)) (fun b _ _ => c.1 b (by omega)), hs, R.2.2.1.cg (fun x q _ => h x (by omega)) (fun b _ _ => c.1 b (by omega)), R.2.2.2.1.cg V.t61 (fun x q => h x (by omega)) (fun b _ _ => ⟨c.1 b (by omega), c.2.1 b (by omega)⟩), R.2.2.2.2.cg (fun x q _ => h x (by omega)) (fun b _ => c.1 b (by omega))⟩
theorem RC.mkp (R : RC m 1 f) (c : chg (fun b => 10 ≤ b ∧ b ≤ 16) m m1) (h : ∀ x, ¬ (117 ≤ x ∧ x < 166) → x < 174 → g x = f x) (hs : RCp m1 1 g) (hn : RCn m1 1 g) : RC m1 1 g := ⟨R.1.cg (fun x q => h x (by omega) (by omega)) (fun b _ _ => c.1 b (by omega)), R.2.1.cg (fun x q _ => h x (by omega) (by omega)) (fun b _ _ => c.1 b (by omega)), hs, hn, R.2.2.2.2.cg (fun x q _ => h x (by omega) (by omega)) (fun b _ => c.1 b (by omega))⟩
theorem RC.mkm (R : RC m 1 f) (c : chg (fun b => b = 1 ∨ b = 17) m m1) (h : ∀ x, ¬ (166 ≤ x ∧ x < 174) → g x = f x) (hs : RCm m1 1 g) (V : rv f) : RC m1 1 g := ⟨R.1.cg (fun x q => h x (by omega)) (fun b _ _ => c.1 b (by omega)), R.2.1.cg (fun x q _ => h x (by omega)) (fun b _ _ => c.1 b (by omega)), R.2.2.1.cg (fun x q _ => h x (by omega)) (fun b _ _ => c.1 b (by omega)), R.2.2.2.1.cg V.t61 (fun x q => h x (by omega)) (fun b _ _ => ⟨c.1 b (by omega), c.2.1 b (by omega)⟩), hs⟩
def nowC (b : Nat) : Prop := (1 ≤ b ∧ b ≤ 17) ∨ (37 ≤ b ∧ b ≤ 41)
def rowM (b : Nat) : Prop := b = 131 ∨ b = 135 ∨ b = 136 ∨ b = 137
theorem co_n (c1 : chw (fun b => b ≤ 129) m m1) (c2 : chg nowC m1 m2) (h : IC m2 t) {v : Int64} : CO m t 0 v (nI 0, wL m2 138 0 v) := co_v h ((c1.v.mono (fun b q => .inl q)).tr (c2.v.mono (fun b q => by unfold nowC at q; unfold cC; omega))) (c2.2.2.2.trans c1.2.2)
theorem mo_n {v : Int32} (hv : v = nI 0) (cB : chg cM (wI m 130 7 v) mB) (tB : rI mB 130 7 = rI (wI m 130 7 v) 130 7) (cC : chg rowM mB mC) (h : IM mC t) {x : Int32} : MO m t 0 x.toInt64 (x, mC) := ⟨h, by rw [cC.1 130 (by unfold rowM; omega), tB, r7, hv], ((mdq.w7 mdq.rf).cM.tr cB).tr (cC.mono (fun b q => by unfold rowM at q; omega)), fun _ => rfl⟩
theorem mb_n {v : Int32} (hv : v = nI 0) (cB : chg cM (wI m 130 7 v) mB) (tB : rI mB 130 7 = rI (wI m 130 7 v) 130 7) (cC : chg rowM mB mC) (h : IM mC t) {x : Int32} : MB m t 0 (if x = nI 0 then (0 : Int64) else 1) (x, mC) := ⟨h, by rw [cC.1 130 (by unfold rowM; omega), tB, r7, hv], ((mdq.w7 mdq.rf).cM.tr cB).tr (cC.mono (fun b q => by unfold rowM at q; omega)), fun _ => rfl⟩
theorem IC.n5 (h : IC m s) : s.2.1 ≤ 5 := h.2.2.1.1
theorem IC.nowc (h : IC m s) (c : chg nowC m m1) (R : RC m1 1 f) (V : rv f) : IC m1 (nwS s f) := h.nw (c.mono (fun b q => q)) R V
/-- a setting is changed -/
theorem rv_set (V : rv f) {x : Nat} {v : Int32} (hx : x = 166 ∨ x = 167) (hv : x = 167 → ∃ l, l ≤ 60 ∧ v = nI l) : rv (upd f x v) := by
  have e : ∀ y, y ≠ 166 → y ≠ 167 → upd f x v y = f y := fun y q1 q2 => upd_n (fun z => hx.elim (fun h => q1 (z.trans h)) (fun h => q2 (z.trans h)))
  refine ⟨V.1.cg (fun y q => e y (by omega) (by omega)), V.2.1.cg V.s24 (fun y q => e y (by omega) (by omega)), V.2.2.1.cg (fun y _ q => e y (by omega) (by omega)), ?_⟩
  obtain ⟨q1, q2, q3, q4, q5, q6⟩ := V.2.2.2
  unfold rvN
  rw [tN.cg (e 174 (by omega) (by omega)), e 174 (by omega) (by omega), e 168 (by omega) (by omega), e 172 (by omega) (by omega), e 173 (by omega) (by omega), pN.cg (e 117 (by omega) (by omega))]
  refine ⟨q1, q2, q3, ?_, q5, fun pl hpl => ?_⟩
  · rcases hx with h | h
    · rw [h, upd_n (by decide)]; exact q4
    · rw [h, upd_s]; exact hv h
  · rw [e (170 + pl) (by omega) (by omega), q6 pl hpl]
    exact (vd.cg V.p8 (fun y _ q => e y (by omega) (by omega))).symm
theorem RC_cap (R : RC m 1 f) (V : rv f) {v : Int32} : RC (wI m 1 5 v) 1 (upd f 166 v) := by
  have e : ∀ x, ¬ (166 ≤ x ∧ x < 174) → upd f 166 v x = f x := fun x q => upd_n (fun z => q (by omega))
  refine R.mkm (chg.wI chg.rf (.inl rfl)) e ⟨fun j hj => ?_, ?_⟩ V
  · show rI (wI m 1 5 v) 17 j = _
    rw [rI_wn (by decide), R.pt hj, upd_n (by omega)]
  · show rI (wI m 1 5 v) 1 5 = _ ∧ rI (wI m 1 5 v) 1 6 = _ ∧ rI (wI m 1 5 v) 1 7 = _ ∧ rI (wI m 1 5 v) 1 8 = _ ∧ rI (wI m 1 5 v) 1 9 = _
    rw [rI_ws]
    refine ⟨by rw [upd_s, upd_s], ?_, ?_, ?_, ?_⟩
    · rw [upd_n (by decide), upd_n (by decide)]; exact R.lm
    · rw [upd_n (by decide), upd_n (by decide)]; exact R.tn
    · rw [upd_n (by decide), upd_n (by decide)]; exact R.fl
    · rw [upd_n (show 9 ≠ 5 by decide), upd_n (show 172 ≠ 166 by decide), upd_n (show 173 ≠ 166 by decide)]; exact R.st
theorem RC_lim (R : RC m 1 f) (V : rv f) {v : Int32} : RC (wI m 1 6 v) 1 (upd f 167 v) := by
  have e : ∀ x, ¬ (166 ≤ x ∧ x < 174) → upd f 167 v x = f x := fun x q => upd_n (fun z => q (by omega))
  refine R.mkm (chg.wI chg.rf (.inl rfl)) e ⟨fun j hj => ?_, ?_⟩ V
  · show rI (wI m 1 6 v) 17 j = _
    rw [rI_wn (by decide), R.pt hj, upd_n (by omega)]
  · show rI (wI m 1 6 v) 1 5 = _ ∧ rI (wI m 1 6 v) 1 6 = _ ∧ rI (wI m 1 6 v) 1 7 = _ ∧ rI (wI m 1 6 v) 1 8 = _ ∧ rI (wI m 1 6 v) 1 9 = _
    rw [rI_ws]
    refine ⟨?_, by rw [upd_s, upd_s], ?_, ?_, ?_⟩
    · rw [upd_n (by decide), upd_n (by decide)]; exact R.cp
    · rw [upd_n (by decide), upd_n (by decide)]; exact R.tn
    · rw [upd_n (by decide), upd_n (by decide)]; exact R.fl
    · rw [upd_n (show 9 ≠ 6 by decide), upd_n (show 172 ≠ 167 by decide), upd_n (show 173 ≠ 167 by decide)]; exact R.st
theorem rg_or (p : Int32) {a b : Nat} (ha : a ≤ b) (hb : b < 100000) : (∃ j, a ≤ j ∧ j ≤ b ∧ p = nI j) ∨ p < nI a ∨ (¬ p < nI a ∧ ¬ p ≤ nI b) := by
  by_cases h1 : p < nI a
  · exact .inr (.inl h1)
  · by_cases h2 : p ≤ nI b
    · have h0 : ¬ p < 0 := fun z => h1 (Int32.lt_of_lt_of_le z (show nI 0 ≤ nI a from nI_le (by omega) (by omega)))
      obtain ⟨j, hj, rfl⟩ := nI_of h0
      refine .inl ⟨j, ?_, ?_, rfl⟩
      · rw [nI_ltI hj (by omega)] at h1
        omega
      · rw [nI_leI hj (by omega)] at h2
        exact h2
    · exact .inr (.inr ⟨h1, h2⟩)
theorem rg_no {p : Int32} {a b : Nat} (h : p < nI a ∨ (¬ p < nI a ∧ ¬ p ≤ nI b)) : D144 p (nI a) (nI b) = some (nI 0) := by
  rw [d144, if_neg]
  rintro ⟨h1, h2⟩
  rcases h with h | ⟨-, h⟩
  · exact absurd h (Int32.not_lt.mpr h1)
  · exact h h2
theorem k6 (h : INV m) (hi : i + 4 < X.1) (hX : X.1 ≤ 2560) : OK m (C6 X m (nI i)) := by
  unfold C6
  simp only [gx (i := i) (j := 1) (by omega) hX, Option.bind_some]
  refine lkI (A := D251 m (X.2 (i + 1))) (B := fun m1 => D184 m1 (X.2 (i + 1))) h (fun s hC hM => ?_)
  generalize X.2 (i + 1) = p1
  have hbad : (p1 < nI 1 ∨ (¬ p1 < nI 1 ∧ ¬ p1 ≤ nI 60)) → ∃ s' k v r1, D251 m p1 = some r1 ∧ CO m s' k v r1 ∧ ∀ m1, IM m1 s → ∃ r2, D184 m1 p1 = some r2 ∧ MO m1 s' k v r2 := by
    intro hb
    refine ⟨s, 1, 0, (nI 1, bump m), ?_, co_x hC chv.rf rfl (by omega) (by omega), fun m1 hM1 => ⟨(nI 0, wI (wI m1 130 7 (nI 0)) 130 7 (nI 1)), ?_, mo_x hM1 (by omega) t_x r7⟩⟩
    · refine g_X (j := 1) (m1 := bump m) ?_
      unfold D76
      rcases hb with hb | ⟨hb, hb2⟩
      · rw [if_pos hb]
      · rw [if_neg hb, if_neg hb2]
    · unfold D184
      show Option.bind (D144 p1 (nI 1) (nI 60)) _ = _
      rw [rg_no hb]
      rfl
  rcases rg_or p1 (a := 1) (b := 60) (by omega) (by omega) with ⟨l, hl1, hl2, rfl⟩ | hb
  · obtain ⟨m1, e1, I1, c1⟩ := hC.sv
    have V1 := rv_set hC.V (x := 167) (v := nI l) (.inr rfl) (fun _ => ⟨l, hl2, rfl⟩)
    have I2 := I1.nowc (m1 := wI m1 1 6 (nI l)) (chg.wI chg.rf (.inl (by omega))) (RC_lim I1.R hC.V) V1
    refine ⟨_, 0, _, _, g_I (x := s.1 167) (m1 := wI m1 1 6 (nI l)) ?_, co_n c1 (chg.wI chg.rf (.inl (by omega))) I2, fun m2 hM2 => ?_⟩
    · unfold D76
      rw [if_neg (nI_nlt hl1 (by omega)), if_pos (nI_le hl2 (by omega)), e1]
      show some (Sum.inl (rI m1 1 6), wI m1 1 6 (nI l)) = _
      rw [I1.R.lm]
      rfl
    · obtain ⟨mB, eB, IB, cB, tB⟩ := (hM2.w7 (v := nI 0)).sv hC.n5
      refine ⟨(s.1 167, wI mB 131 167 (nI l)), ?_, mo_n rfl cB tB (chg.wI chg.rf (.inl rfl)) (IB.nw (chg.wI chg.rf (.inl rfl)) (by rw [rI_ws, IB.e1]))⟩
      show D184 m2 (nI l) = _
      unfold D184
      show Option.bind (D144 (nI l) (nI 1) (nI 60)) _ = _
      rw [in_ok hl1 hl2 (by omega)]
      show Option.bind (D149 (wI m2 130 7 (nI 0))) _ = _
      rw [eB, Option.bind_some, sI_n (by omega) (by omega)]
      show some (rI mB 131 167, _) = _
      rw [IB.e1]
      rfl
  · exact hbad hb
/-- whether all loads fit -/
def fitB (f : Nat → Int32) (p : Int32) (c : Nat) : Bool := decide (¬ ld f (nI c) (pN f) ≤ (if f (97 + 5 * c + 1) = nI 1 then nI 2 * p else p))
theorem k4 (h : INV m) (hi : i + 4 < X.1) (hX : X.1 ≤ 2560) : OK m (C4 X m (nI i)) := by
  unfold C4
  simp only [gx (i := i) (j := 1) (by omega) hX, Option.bind_some]
  refine lkI (A := D249 m (X.2 (i + 1))) (B := fun m1 => D182 m1 (X.2 (i + 1))) h (fun s hC hM => ?_)
  generalize X.2 (i + 1) = p1
  have hbad : (p1 < nI 1 ∨ (¬ p1 < nI 1 ∧ ¬ p1 ≤ nI 9)) → ∃ s' k v r1, D249 m p1 = some r1 ∧ CO m s' k v r1 ∧ ∀ m1, IM m1 s → ∃ r2, D182 m1 p1 = some r2 ∧ MO m1 s' k v r2 := by
    intro hb
    refine ⟨s, 1, 0, (nI 1, bump m), ?_, co_x hC chv.rf rfl (by omega) (by omega), fun m1 hM1 => ⟨(nI 0, wI (wI m1 130 7 (nI 0)) 130 7 (nI 1)), ?_, mo_x hM1 (by omega) t_x r7⟩⟩
    · refine g_X (j := 1) (m1 := bump m) ?_
      unfold D74
      rcases hb with hb | ⟨hb, hb2⟩
      · rw [if_pos hb]
      · rw [if_neg hb, if_neg hb2]
    · unfold D182
      show Option.bind (D144 p1 (nI 1) (nI 9)) _ = _
      rw [rg_no hb]
      rfl
  rcases rg_or p1 (a := 1) (b := 9) (by omega) (by omega) with ⟨l, hl1, hl2, rfl⟩ | hb
  · have R := hC.R
    have V := hC.V
    obtain ⟨m1, e1, I1, c1⟩ := hC.sv
    have V1 := rv_set V (x := 166) (v := nI l) (.inl rfl) (fun z => by omega)
    have I2 := I1.nowc (m1 := wI m1 1 5 (nI l)) (chg.wI chg.rf (.inl (by omega))) (RC_cap I1.R V) V1
    have hcl : D74 m (nI l) = if anyN (fitB s.1 (nI l)) 4 = true then some (.inr 2, bump m) else some (.inl (s.1 166), wI m1 1 5 (nI l)) := by
      unfold D74
      rw [if_neg (nI_nlt hl1 (by omega)), if_pos (nI_le hl2 (by omega))]
      have k := lp_inv (F := 3000) (s0 := nI 0) (f := fun (s1 : Int32) => if (nI 4) ≤ s1 then (D131 m).bind fun (r2 : dM) => (fI r2 1 5 (nI l)).bind fun (m3 : dM) => some (Sum.inr (α := Int32) (Sum.inl (β := Nat) (rI r2 1 5), m3)) else (D34 m s1).bind fun (x4 : Int32) => (D3 m s1).bind fun (x5 : Int32) => (D129 (nI l) x5).bind fun (x6 : Int32) => if x4 ≤ x6 then some (.inl (s1 + (nI 1))) else some (.inr (.inr 2, (bump m))))
        (fun k t => t = nI k ∧ anyN (fitB s.1 (nI l)) k = false) (fun r => r = if anyN (fitB s.1 (nI l)) 4 = true then (.inr 2, bump m) else (.inl (s.1 166), wI m1 1 5 (nI l))) 4 (by omega) ⟨rfl, rfl⟩ ?_ ?_
      · obtain ⟨r, er, hr⟩ := k
        rw [er, hr]
        split <;> rfl
      · rintro c t hc ⟨rfl, ho⟩
        show (∃ s', (if nI 4 ≤ nI c then _ else Option.bind (D34 m (nI c)) _) = _ ∧ _) ∨ (∃ b, (if nI 4 ≤ nI c then _ else Option.bind (D34 m (nI c)) _) = _ ∧ _)
        rw [if_neg (nI_ge hc (by omega)), d34 R V hc, d3 R V hc]
        show (∃ s', Option.bind (D129 (nI l) (s.1 (97 + 5 * c + 1))) _ = _ ∧ _) ∨ (∃ b, Option.bind (D129 (nI l) (s.1 (97 + 5 * c + 1))) _ = _ ∧ _)
        rw [d129 (vsm V hc)]
        show (∃ s', (if ld s.1 (nI c) (pN s.1) ≤ (if s.1 (97 + 5 * c + 1) = nI 1 then nI 2 * nI l else nI l) then _ else _) = _ ∧ _) ∨ (∃ b, (if ld s.1 (nI c) (pN s.1) ≤ (if s.1 (97 + 5 * c + 1) = nI 1 then nI 2 * nI l else nI l) then _ else _) = _ ∧ _)
        by_cases q : ld s.1 (nI c) (pN s.1) ≤ (if s.1 (97 + 5 * c + 1) = nI 1 then nI 2 * nI l else nI l)
        · rw [if_pos q]
          refine .inl ⟨nI c + nI 1, rfl, nI_add c 1, ?_⟩
          rw [an4, ho, Bool.false_or]
          unfold fitB
          rw [decide_eq_false_iff_not]
          exact fun z => z q
        · rw [if_neg q]
          refine .inr ⟨_, rfl, ?_⟩
          rw [if_pos (an_t 4 c hc (decide_eq_true q))]
      · rintro t ⟨rfl, ho⟩
        refine ⟨_, ?_, rfl⟩
        show (if nI 4 ≤ nI 4 then Option.bind (D131 m) _ else _) = _
        rw [if_pos (nI_le (Nat.le_refl 4) (by omega)), e1, ho, if_neg (by decide)]
        show some (Sum.inr (Sum.inl (rI m1 1 5), wI m1 1 5 (nI l))) = _
        rw [I1.R.cp]
        rfl
    have hm : ∀ m2, IM m2 s → ∃ mB, D149 (wI m2 130 7 (nI 0)) = some mB ∧ D182 m2 (nI l) = if anyN (fitB s.1 (nI l)) 4 = true then some (nI 0, wI (wI m2 130 7 (nI 0)) 130 7 (nI 2)) else some (s.1 166, wI mB 131 166 (nI l)) := by
      intro m2 hM2
      have hf1 : rI (wI m2 130 7 (nI 0)) 131 = s.1 := hM2.f7
      obtain ⟨mB, eB, IB, cB, tB⟩ := (hM2.w7 (v := nI 0)).sv hC.n5
      refine ⟨mB, eB, ?_⟩
      unfold D182
      show Option.bind (D144 (nI l) (nI 1) (nI 9)) _ = _
      rw [in_ok hl1 hl2 (by omega)]
      show lp _ _ _ = _
      have k := lp_inv (F := 3000) (s0 := nI 0) (f := fun (s4 : Int32) => if (nI 4) ≤ s4 then (D149 (wI m2 130 7 (nI 0))).bind fun (r5 : dM) => (sI r5 131 299 (nI 166) (nI l)).bind fun (m6 : dM) => some (Sum.inr (α := Int32) (rI r5 131 166, m6)) else (D158 (wI m2 130 7 (nI 0)) s4).bind fun (x7 : Int32) => (D150 (wI m2 130 7 (nI 0)) s4 (nI 1)).bind fun (x8 : Int32) => (D159 s4 x8 (nI l)).bind fun (x9 : Int32) => if x7 ≤ x9 then some (.inl (s4 + (nI 1))) else (D143 (wI m2 130 7 (nI 0)) (nI 2)).bind fun (r10 : Int32 × dM) => some (.inr (r10.1, r10.2)))
        (fun k t => t = nI k ∧ anyN (fitB s.1 (nI l)) k = false) (fun r => r = if anyN (fitB s.1 (nI l)) 4 = true then (nI 0, wI (wI m2 130 7 (nI 0)) 130 7 (nI 2)) else (s.1 166, wI mB 131 166 (nI l))) 4 (by omega) ⟨rfl, rfl⟩ ?_ ?_
      · obtain ⟨r, er, hr⟩ := k
        refine er.trans ?_
        rw [hr]
        split <;> rfl
      · rintro c t hc ⟨rfl, ho⟩
        show (∃ s', (if nI 4 ≤ nI c then _ else Option.bind (D158 (wI m2 130 7 (nI 0)) (nI c)) _) = _ ∧ _) ∨ (∃ b, (if nI 4 ≤ nI c then _ else Option.bind (D158 (wI m2 130 7 (nI 0)) (nI c)) _) = _ ∧ _)
        rw [if_neg (nI_ge hc (by omega)), d158 hf1 V.p0 V.p8, d150 hf1 hc (by omega)]
        have h159 : D159 (nI c) (s.1 (97 + 5 * c + 1)) (nI l) = some (if s.1 (97 + 5 * c + 1) = nI 1 then nI 2 * nI l else nI l) := by
          unfold D159
          rw [iff_some]
          rfl
        show (∃ s', Option.bind (D159 (nI c) (s.1 (97 + 5 * c + 1)) (nI l)) _ = _ ∧ _) ∨ (∃ b, Option.bind (D159 (nI c) (s.1 (97 + 5 * c + 1)) (nI l)) _ = _ ∧ _)
        rw [h159]
        show (∃ s', (if ld s.1 (nI c) (pN s.1) ≤ (if s.1 (97 + 5 * c + 1) = nI 1 then nI 2 * nI l else nI l) then _ else _) = _ ∧ _) ∨ (∃ b, (if ld s.1 (nI c) (pN s.1) ≤ (if s.1 (97 + 5 * c + 1) = nI 1 then nI 2 * nI l else nI l) then _ else _) = _ ∧ _)
        by_cases q : ld s.1 (nI c) (pN s.1) ≤ (if s.1 (97 + 5 * c + 1) = nI 1 then nI 2 * nI l else nI l)
        · rw [if_pos q]
          refine .inl ⟨nI c + nI 1, rfl, nI_add c 1, ?_⟩
          rw [an4, ho, Bool.false_or]
          unfold fitB
          rw [decide_eq_false_iff_not]
          exact fun z => z q
        · rw [if_neg q]
          refine .inr ⟨_, rfl, ?_⟩
          rw [if_pos (an_t 4 c hc (decide_eq_true q))]
      · rintro t ⟨rfl, ho⟩
        refine ⟨_, ?_, rfl⟩
        show (if nI 4 ≤ nI 4 then Option.bind (D149 (wI m2 130 7 (nI 0))) _ else _) = _
        rw [if_pos (nI_le (Nat.le_refl 4) (by omega)), eB, ho, if_neg (by decide), Option.bind_some, sI_n (by omega) (by omega)]
        show some (Sum.inr (rI mB 131 166, wI mB 131 166 (nI l))) = _
        rw [IB.e1]
        rfl
    by_cases q : anyN (fitB s.1 (nI l)) 4 = true
    · rw [if_pos q] at hcl
      refine ⟨s, 2, 0, (nI 2, bump m), g_X (j := 2) (m1 := bump m) hcl, co_x hC chv.rf rfl (by omega) (by omega), fun m2 hM2 => ?_⟩
      obtain ⟨mB, eB, e⟩ := hm m2 hM2
      rw [if_pos q] at e
      exact ⟨_, e, mo_x hM2 (by omega) t_x r7⟩
    · rw [if_neg q] at hcl
      refine ⟨_, 0, _, _, g_I hcl, co_n c1 (chg.wI chg.rf (.inl (by omega))) I2, fun m2 hM2 => ?_⟩
      obtain ⟨mB, eB, e⟩ := hm m2 hM2
      rw [if_neg q] at e
      obtain ⟨mB', eB', IB, cB, tB⟩ := (hM2.w7 (v := nI 0)).sv hC.n5
      rw [eB] at eB'
      cases eB'
      exact ⟨_, e, mo_n rfl cB tB (chg.wI chg.rf (.inl rfl)) (IB.nw (chg.wI chg.rf (.inl rfl)) (by rw [rI_ws, IB.e1]))⟩
  · exact hbad hb
end MU
