/-! THE LAW'S TURN: as it is told ahead; it is undone -/
section TS
variable {m m1 : dM} {s : gS} {f : Nat → Int32}
theorem IC.tt (h : IC m s) (c : chg (fun b => b = 130) m m1) : IC m1 s := by
  obtain ⟨h1, h2, h3, ⟨b1, b2, b3⟩, l1, l2, l3⟩ := h
  refine ⟨h1.ch c (fun b z1 z2 => by omega), h2, h3.chw c.w c.2.2.1 (fun b z1 z2 => by omega) (by rw [c.1 0 (by omega)]), ⟨b1, ?_, fun e => ⟨(b3 e).1.ch c (fun b z1 z2 => by omega), (b3 e).2⟩⟩, l1, ?_, fun i hi => ?_⟩
  · rw [c.1 0 (by omega)]
    exact b2
  · rw [c.1 42 (by omega)]
    exact l2
  · rw [c.1 43 (by omega)]
    exact l3 i hi
/-- where a courier is behind the turn -/
def tgt (f : Nat → Int32) (c : Nat) : Int32 := if fin f c = nI 0 then eT f c else f (97 + 5 * c + 0)
theorem TF_p (V : rv f) {x : Nat} (hx : 97 ≤ x) (h : x < 117) : TF f x = clr (mvF f) x := by
  have e1 : TF f x = T8 f x := nt_o (by omega) (by omega) (by omega)
  have e2 : T8 f x = P8 (clr (mvF f)) 4 x := upd_n (by omega)
  rw [e1, e2, P8_o (mv_rv V) (by omega) 4 (by omega)]
theorem TF_168 : TF f 168 = f 168 + nI 1 := by
  have e1 : TF f 168 = T8 f 168 := nt_o (by omega) (by omega) (by omega)
  have e2 : T8 f 168 = f 168 + nI 1 := upd_s
  rw [e1, e2]
theorem TF_169 (V : rv f) : TF f 169 = fd f 4 := by
  have e1 : TF f 169 = T8 f 169 := nt_o (by omega) (by omega) (by omega)
  have e2 : T8 f 169 = P8 (clr (mvF f)) 4 169 := upd_n (by omega)
  rw [e1, e2, P8_o (mv_rv V) (by omega) 4 (by omega), cm_169]
theorem TF_0 (V : rv f) {c : Nat} (hc : c < 4) : TF f (97 + 5 * c + 0) = tgt f c := by
  rw [TF_p V (by omega) (by omega), cm_0 hc]
  rfl
theorem TF_2 (V : rv f) {c : Nat} (hc : c < 4) : TF f (97 + 5 * c + 2) = -1 := by
  rw [TF_p V (by omega) (by omega), clr_s hc]
theorem TF_3 (V : rv f) {c : Nat} (hc : c < 4) : TF f (97 + 5 * c + 3) = f (97 + 5 * c + 3) + (if fin f c = nI 0 then nI 1 else nI 0) := by
  rw [TF_p V (by omega) (by omega), cm_at hc (by omega) (by omega), if_neg (fun z => absurd z.1 (by omega))]
  by_cases q : fin f c = nI 0
  · rw [if_pos ⟨rfl, q⟩, if_pos q]
  · rw [if_neg (fun z => q z.2), if_neg (by omega), if_neg q, show ∀ x : Int32, x + nI 0 = x from fun x => Int32.add_zero x]
theorem TF_4 (V : rv f) {c : Nat} (hc : c < 4) : TF f (97 + 5 * c + 4) = fin f c := by
  rw [TF_p V (by omega) (by omega), cm_at hc (by omega) (by omega), if_neg (fun z => absurd z.1 (by omega)), if_neg (fun z => absurd z.1 (by omega)), if_pos rfl]
theorem sv_n (s : gS) : ∃ n, svn s.2.1 = n + 1 ∧ svF s.2.1 s.2.2.1 s.1 n = s.1 := by
  unfold svn svF
  by_cases q : s.2.1 < 5
  · refine ⟨s.2.1, if_pos q, ?_⟩
    simp only
    rw [if_pos q]
    exact if_pos trivial
  · refine ⟨4, if_neg q, ?_⟩
    simp only
    rw [if_neg q]
    exact if_pos trivial
/-- a turn, its row by what the law asks of it -/
theorem c79T (hC : IC m s) (q : ov s.1 = 0) : ∃ m' T, D79 m = some (.inl (mvn s.1 4), m') ∧ IC m' (nwS (svS s) T) ∧ m'.1 = m.1 ∧ rI m' 130 = rI m 130 ∧ T 168 = s.1 168 + nI 1 ∧ T 169 = fd s.1 4 ∧ ∀ c, c < 4 → T (97 + 5 * c + 0) = tgt s.1 c ∧ T (97 + 5 * c + 2) = -1 ∧ T (97 + 5 * c + 3) = s.1 (97 + 5 * c + 3) + (if fin s.1 c = nI 0 then nI 1 else nI 0) ∧ T (97 + 5 * c + 4) = fin s.1 c := by
  have V := hC.V
  obtain ⟨m2, e2, I2, hm2, h130⟩ := c79 hC q
  have t1 := TF_168 (f := s.1)
  have t2 := TF_169 V
  have t3 : ∀ c, c < 4 → TF s.1 (97 + 5 * c + 0) = tgt s.1 c ∧ TF s.1 (97 + 5 * c + 2) = -1 ∧ TF s.1 (97 + 5 * c + 3) = s.1 (97 + 5 * c + 3) + (if fin s.1 c = nI 0 then nI 1 else nI 0) ∧ TF s.1 (97 + 5 * c + 4) = fin s.1 c := fun c hc => ⟨TF_0 V hc, TF_2 V hc, TF_3 V hc, TF_4 V hc⟩
  generalize TF s.1 = T at I2 t1 t2 t3
  exact ⟨m2, T, e2, I2, hm2, h130, t1, t2, t3⟩
theorem l308 (hC : IC m s) : ∃ m' s', D308 m = some (nI 1, m') ∧ IC m' s' ∧ s'.1 = s.1 ∧ m'.1 = m.1 := by
  have R := hC.R
  have V := hC.V
  have h24 := V.s24
  have hov := ov_le (f := s.1)
  suffices h : ∃ r, D308 m = some r ∧ ∃ m' s', r = (nI 1, m') ∧ IC m' s' ∧ s'.1 = s.1 ∧ m'.1 = m.1 by
    obtain ⟨r, e, m', s', rfl, q⟩ := h
    exact ⟨m', s', e, q⟩
  obtain ⟨M, hM0, hMs, eM⟩ : ∃ M : Nat → Int32, M 0 = nI 0 ∧ (∀ i, M (i + 1) = if fin s.1 i = nI 0 then M i + nI 1 else M i) ∧ mvn s.1 4 = M 4 := ⟨mvn s.1, rfl, fun _ => rfl, rfl⟩
  obtain ⟨FD, hF0, hFs, eF⟩ : ∃ FD : Nat → Int32, FD 0 = s.1 169 ∧ (∀ i, FD (i + 1) = if fin s.1 i = nI 0 ∨ fin s.1 i = nI 1 then FD i else FD i + nI 1) ∧ fd s.1 4 = FD 4 := ⟨fd s.1, rfl, fun _ => rfl, rfl⟩
  have hT := fun (m1 : dM) (I1 : IC m1 s) (q : ov s.1 = 0) => c79T I1 q
  rw [eM, eF] at hT
  have hA : ∀ (m1 : dM) (I1 : IC m1 s) (i : Nat), i < 4 → ∃ m', D119 m1 (nI i) = some (.inl (fin s.1 i), m') ∧ chg (fun b => 37 ≤ b ∧ b ≤ 41) m1 m' := fun m1 I1 i hi => a119 I1.R V hi
  have hL : ∀ i, (fin s.1 i ≤ nI 1) = (fin s.1 i = nI 0 ∨ fin s.1 i = nI 1) := fun i => fin_le
  have hg : ∀ i, i < 4 → fin s.1 i = nI 0 → ∃ t, t < sN s.1 ∧ s.1 (97 + 5 * i + 2) = nI t ∧ s.1 (1 + 4 * t + 1) = eT s.1 i ∧ tgt s.1 i = eT s.1 i := fun i hi z => by
    obtain ⟨t, ht, h1, h2, h3⟩ := g0_or V hi (fin_g z)
    exact ⟨t, ht, h1, h3, if_pos z⟩
  have hg2 : ∀ i, ¬ fin s.1 i = nI 0 → tgt s.1 i = s.1 (97 + 5 * i + 0) := fun i z => if_neg z
  generalize fin s.1 = G at hMs hFs hT hA hL hg hg2
  generalize htg : tgt s.1 = W at hT hg hg2
  unfold D308
  by_cases q : ov s.1 = 0
  · rw [a112 R V, Option.bind_some, if_pos (by rw [q]), a109 R, Option.bind_some]
    refine lpx (fun i t => ∃ m1, t = (M i, FD i, nI i, m1) ∧ IC m1 s ∧ m1.1 = m.1 ∧ ∀ c, c < i → rI m1 130 c = G c ∧ rI m1 130 (4 + c) = W c ∧ rI m1 130 (8 + c) = s.1 (97 + 5 * c + 3)) (fun b => ∃ m1, b = (M 4, FD 4, m1) ∧ IC m1 s ∧ m1.1 = m.1 ∧ ∀ c, c < 4 → rI m1 130 c = G c ∧ rI m1 130 (4 + c) = W c ∧ rI m1 130 (8 + c) = s.1 (97 + 5 * c + 3)) 4 (by omega) ⟨m, by rw [hM0, hF0], hC, rfl, fun c hc => by omega⟩ ?_ ?_ ?_
    · rintro i t hi ⟨m1, rfl, I1, hm1, T1⟩
      obtain ⟨m2, e2, c2⟩ := hA m1 I1 i hi
      have I2 := I1.th1 c2
      have I3 : IC (wI m2 130 i (G i)) s := I2.tt (chg.wI chg.rf rfl)
      have I4 : IC (wI (wI m2 130 i (G i)) 130 (4 + i) (W i)) s := I3.tt (chg.wI chg.rf rfl)
      have I5 : IC (wI (wI (wI m2 130 i (G i)) 130 (4 + i) (W i)) 130 (8 + i) (s.1 (97 + 5 * i + 3))) s := I4.tt (chg.wI chg.rf rfl)
      have g3 : gI (wI m2 130 i (G i)) 130 12 (nI i) = some (G i) := by
        rw [gI_n (by omega) (by omega), rI_ws, upd_s]
      have g5 : gI (wI (wI (wI m2 130 i (G i)) 130 (4 + i) (W i)) 130 (8 + i) (s.1 (97 + 5 * i + 3))) 130 12 (nI i) = some (G i) := by
        rw [gI_n (by omega) (by omega), rI_ws, upd_n (by omega), rI_ws, upd_n (by omega), rI_ws, upd_s]
      have w1 : M i + (if G i = nI 0 then nI 1 else nI 0) = M (i + 1) := by
        rw [hMs]
        by_cases z : G i = nI 0
        · rw [if_pos z, if_pos z]
        · rw [if_neg z, if_neg z, show ∀ x : Int32, x + nI 0 = x from fun x => Int32.add_zero x]
      have w2 : FD i + (if G i ≤ nI 1 then nI 0 else nI 1) = FD (i + 1) := by
        rw [hFs]
        by_cases z : G i = nI 0 ∨ G i = nI 1
        · rw [if_pos z, if_pos (by rw [hL]; exact z), show ∀ x : Int32, x + nI 0 = x from fun x => Int32.add_zero x]
        · rw [if_neg z, if_neg (by rw [hL]; exact z)]
      refine .inl ⟨(M (i + 1), FD (i + 1), nI (i + 1), wI (wI (wI m2 130 i (G i)) 130 (4 + i) (W i)) 130 (8 + i) (s.1 (97 + 5 * i + 3))), ?_, _, rfl, I5, c2.2.2.2.trans hm1, fun c hc => ?_⟩
      · refine ifn (nI_ge hi (by omega)) ?_
        refine cGx e2 ?_
        refine bnx (sI_n (by omega) (by omega)) ?_
        refine bnx g3 ?_
        refine bnx (x := W i) ?_ ?_
        · by_cases z : G i = nI 0
          · obtain ⟨t, ht, h1, h3, h4⟩ := hg i hi z
            refine ifx z ?_
            refine cTx (a98 I3.R hi (by rw [h1, nI_m1 (by omega)]; exact id)) ?_
            refine cTx (by rw [h1]; exact a92 I3.R V ht) ?_
            rw [h3, h4]
          · refine ifn z ?_
            refine cTx (a94 I3.R hi) ?_
            rw [hg2 i z]
        refine bnx (by rw [nI_add]; exact sI_n (by omega) (by omega)) ?_
        refine cTx (a99 I4.R hi) ?_
        refine bnx (by rw [nI_add]; exact sI_n (by omega) (by omega)) ?_
        refine bnx g5 ?_
        refine bnx (x := if G i = nI 0 then nI 1 else nI 0) iff_some ?_
        refine bnx g5 ?_
        refine bnx (x := if G i ≤ nI 1 then nI 0 else nI 1) iff_some ?_
        show some (Sum.inl (M i + (if G i = nI 0 then nI 1 else nI 0), FD i + (if G i ≤ nI 1 then nI 0 else nI 1), nI i + nI 1, wI (wI (wI m2 130 i (G i)) 130 (4 + i) (W i)) 130 (8 + i) (s.1 (97 + 5 * i + 3)))) = _
        rw [w1, w2, nI_add]
      · have h2 : rI m2 130 = rI m1 130 := c2.1 130 (by omega)
        rw [rI_ws, rI_ws, rI_ws, h2]
        by_cases e : c = i
        · subst e
          refine ⟨?_, ?_, ?_⟩
          · rw [upd_n (by omega), upd_n (by omega), upd_s]
          · rw [upd_n (by omega), upd_s]
          · rw [upd_s]
        · obtain ⟨t1, t2, t3⟩ := T1 c (by omega)
          refine ⟨?_, ?_, ?_⟩
          · rw [upd_n (by omega), upd_n (by omega), upd_n (by omega)]
            exact t1
          · rw [upd_n (by omega), upd_n (by omega), upd_n (by omega)]
            exact t2
          · rw [upd_n (by omega), upd_n (by omega), upd_n (by omega)]
            exact t3
    · rintro t ⟨m1, rfl, I1, hm1, T1⟩
      exact ⟨(M 4, FD 4, m1), ifx (nI_le (Nat.le_refl 4) (by omega)) rfl, m1, rfl, I1, hm1, T1⟩
    · rintro b ⟨m1, rfl, I1, hm1, T1⟩
      obtain ⟨m2, T, e2, I2, hm2, h130, t168, t169, tc⟩ := hT m1 I1 q
      obtain ⟨n, hn1, hn2⟩ := sv_n s
      obtain ⟨m3, e3, I3, hm3⟩ := c86 I2 (n := n) hn1
      have R2 := I2.R
      have hrow : (nwS (svS s) T).2.2.1 n = s.1 := hn2
      have I4 : IC m3 (s.1, n, (nwS (svS s) T).2.2) := by
        have := I3
        rw [hrow] at this
        exact this
      refine ⟨(nI 1, m3), ?_, m3, _, rfl, I4, rfl, (hm3.trans hm2).trans hm1⟩
      refine bnx (a108 I1.R) ?_
      refine cGx e2 ?_
      refine bnx (x := nI 1) ?_ ?_
      · refine ifx rfl ?_
        refine bnx (a108 R2) ?_
        refine ifx t168 ?_
        refine bnx (a109 R2) ?_
        exact ifx t169 rfl
      refine bnx (x := nI 1) ?_ ?_
      · refine lp_n (fun k => (nI 1, nI k)) 4 (by omega) rfl (fun c hc => ?_) ?_
        · obtain ⟨t1, t2, t3⟩ := T1 c hc
          obtain ⟨u0, u2, u3, u4⟩ := tc c hc
          have g1 : gI m2 130 12 (nI c) = some (G c) := by
            rw [gI_n (by omega) (by omega), h130, t1]
          have g2 : gI m2 130 12 (nI 4 + nI c) = some (W c) := by
            rw [nI_add, gI_n (by omega) (by omega), h130, t2]
          have g3 : gI m2 130 12 (nI 8 + nI c) = some (s.1 (97 + 5 * c + 3)) := by
            rw [nI_add, gI_n (by omega) (by omega), h130, t3]
          refine ifn (nI_ge hc (by omega)) ?_
          refine bnx (x := nI 1) ?_ ?_
          · refine ifn n10n ?_
            refine cTx (a100 R2 hc) ?_
            refine bnx g1 ?_
            refine ifx u4 ?_
            refine cTx (a94 R2 hc) ?_
            refine bnx g2 ?_
            refine ifx u0 ?_
            refine cTx (a99 R2 hc) ?_
            refine bnx g3 ?_
            refine bnx g1 ?_
            refine bnx (x := if G c = nI 0 then nI 1 else nI 0) iff_some ?_
            refine ifx u3 ?_
            refine cTx (a97 R2 hc) ?_
            exact ifx (if_pos u2) rfl
          · show some (Sum.inl (nI 1, nI c + nI 1)) = _
            rw [nI_add]
        · exact ifx (nI_le (Nat.le_refl 4) (by omega)) rfl
      refine cGx e3 ?_
      refine bnx (x := nI 1) ?_ ?_
      · refine ifn n10n ?_
        refine bnx (a89 I4.2.2.1) ?_
        refine ifx rfl ?_
        refine bnx (a108 I4.R) ?_
        exact ifx rfl rfl
      exact bnx gB_1 rfl
  · refine ⟨(nI 1, m), ?_, m, s, rfl, hC, rfl, rfl⟩
    refine bnx (a112 R V) ?_
    exact ifn (fun z => q ((nI_eq (by omega) (by omega)).mp z)) rfl
end TS
