/-! THE LAW'S TURN: as it is told ahead; it is undone -/
section TS
variable {m m1 : dM} {s : gS} {f : Nat → Int32}
theorem IC.tt (h : IC m s) (c : chg (fun b => b = 130) m m1) : IC m1 s := by
  obtain ⟨h1, h2, h3, ⟨b1, b2, b3⟩, l1, l2, l3⟩ := h
  refine ⟨h1.ch c (fun b z1 z2 => by omega), h2, h3.chw c.w c.2.2.1 (fun b z1 z2 => by omega) (by rw [c.1 0 (by omega)]), ⟨b1, ?_, fun e => ⟨(b3 e).1.ch c (fun b z1 z2 => by omega), (b3 e).2⟩⟩, l1, ?_, fun i hi => ?_⟩
  · rw [c.1 0 (by omega)]
    exact b2
  · rw [c.1 42 (by omega)]
    exact l2
  · rw [c.1 43 (by omega)]
    exact l3 i hi
/-- where a courier is behind the turn -/
def tgt (f : Nat → Int32) (c : Nat) : Int32 := if fin f c = nI 0 then eT f c else f (97 + 5 * c + 0)
theorem TF_p (V : rv f) {x : Nat} (hx : 97 ≤ x) (h : x < 117) : TF f x = clr (mvF f) x := by
  have e1 : TF f x = T8 f x := nt_o (by omega) (by omega) (by omega)
  have e2 : T8 f x = P8 (clr (mvF f)) 4 x := upd_n (by omega)
  rw [e1, e2, P8_o (mv_rv V) (by omega) 4 (by omega)]
theorem TF_168 : TF f 168 = f 168 + nI 1 := by
  have e1 : TF f 168 = T8 f 168 := nt_o (by omega) (by omega) (by omega)
  have e2 : T8 f 168 = f 168 + nI 1 := upd_s
  rw [e1, e2]
theorem TF_169 (V : rv f) : TF f 169 = fd f 4 := by
  have e1 : TF f 169 = T8 f 169 := nt_o (by omega) (by omega) (by omega)
  have e2 : T8 f 169 = P8 (clr (mvF f)) 4 169 := upd_n (by omega)
  rw [e1, e2, P8_o (mv_rv V) (by omega) 4 (by omega), cm_169]
theorem TF_0 (V : rv f) {c : Nat} (hc : c < 4) : TF f (97 + 5 * c + 0) = tgt f c := by
  rw [TF_p V (by omega) (by omega), cm_0 hc]
  rfl
theorem TF_2 (V : rv f) {c : Nat} (hc : c < 4) : TF f (97 + 5 * c + 2) = -1 := by
  rw [TF_p V (by omega) (by omega), clr_s hc]
theorem TF_3 (V : rv f) {c : Nat} (hc : c < 4) : TF f (97 + 5 * c + 3) = f (97 + 5 * c + 3) + (if fin f c = nI 0 then nI 1 else nI 0) := by
  rw [TF_p V (by omega) (by omega), cm_at hc (by omega) (by omega), if_neg (fun z => absurd z.1 (by omega))]
  by_cases q : fin f c = nI 0
  · rw [if_pos ⟨rfl, q⟩, if_pos q]
  · rw [if_neg (fun z => q z.2), if_neg (by omega), if_neg q, show ∀ x : Int32, x + nI 0 = x from fun x => Int32.add_zero x]
theorem TF_4 (V : rv f) {c : Nat} (hc : c < 4) : TF f (97 + 5 * c + 4) = fin f c := by
  rw [TF_p V (by omega) (by omega), cm_at hc (by omega) (by omega), if_neg (fun z => absurd z.1 (by omega)), if_neg (fun z => absurd z.1 (by omega)), if_pos rfl]
theorem sv_n (s : gS) : ∃ n, svn s.2.1 = n + 1 ∧ svF s.2.1 s.2.2.1 s.1 n = s.1 := by
  unfold svn svF
  by_cases q : s.2.1 < 5
  · refine ⟨s.2.1, if_pos q, ?_⟩
    simp only
    rw [if_pos q, if_pos rfl]
  · refine ⟨4, if_neg q, ?_⟩
    simp only
    rw [if_neg q, if_pos rfl]
/-- what is told ahead -/
def TC (f : Nat → Int32) (m : dM) (i : Nat) : Prop := ∀ c, c < i → rI m 130 c = fin f c ∧ rI m 130 (4 + c) = tgt f c ∧ rI m 130 (8 + c) = f (97 + 5 * c + 3)
theorem l308 (hC : IC m s) : ∃ m' s', D308 m = some (nI 1, m') ∧ IC m' s' ∧ s'.1 = s.1 ∧ m'.1 = m.1 := by
  have R := hC.R
  have V := hC.V
  have h24 := V.s24
  have hov := ov_le (f := s.1)
  suffices h : ∃ r, D308 m = some r ∧ ∃ m' s', r = (nI 1, m') ∧ IC m' s' ∧ s'.1 = s.1 ∧ m'.1 = m.1 by
    obtain ⟨r, e, m', s', rfl, q⟩ := h
    exact ⟨m', s', e, q⟩
  unfold D308
  rw [a112 R V, Option.bind_some]
  by_cases q : ov s.1 = 0
  · rw [if_pos (by rw [q]), a109 R, Option.bind_some]
    refine lpx (fun i t => ∃ m1, t = (mvn s.1 i, fd s.1 i, nI i, m1) ∧ IC m1 s ∧ m1.1 = m.1 ∧ TC s.1 m1 i) (fun b => ∃ m1, b = (mvn s.1 4, fd s.1 4, m1) ∧ IC m1 s ∧ m1.1 = m.1 ∧ TC s.1 m1 4) 4 (by omega) ⟨m, rfl, hC, rfl, fun c hc => by omega⟩ ?_ ?_ ?_
    · rintro i t hi ⟨m1, rfl, I1, hm1, T1⟩
      obtain ⟨m2, e2, c2⟩ := a119 I1.R V hi
      have I2 := I1.th1 c2
      have I3 : IC (wI m2 130 i (fin s.1 i)) s := I2.tt (chg.wI chg.rf rfl)
      have I4 : IC (wI (wI m2 130 i (fin s.1 i)) 130 (4 + i) (tgt s.1 i)) s := I3.tt (chg.wI chg.rf rfl)
      have I5 : IC (wI (wI (wI m2 130 i (fin s.1 i)) 130 (4 + i) (tgt s.1 i)) 130 (8 + i) (s.1 (97 + 5 * i + 3))) s := I4.tt (chg.wI chg.rf rfl)
      have g3 : gI (wI m2 130 i (fin s.1 i)) 130 12 (nI i) = some (fin s.1 i) := by
        rw [gI_n (by omega) (by omega), rI_ws, upd_s]
      have g5 : gI (wI (wI (wI m2 130 i (fin s.1 i)) 130 (4 + i) (tgt s.1 i)) 130 (8 + i) (s.1 (97 + 5 * i + 3))) 130 12 (nI i) = some (fin s.1 i) := by
        rw [gI_n (by omega) (by omega), rI_ws, upd_n (by omega), rI_ws, upd_n (by omega), rI_ws, upd_s]
      refine .inl ⟨(mvn s.1 (i + 1), fd s.1 (i + 1), nI (i + 1), wI (wI (wI m2 130 i (fin s.1 i)) 130 (4 + i) (tgt s.1 i)) 130 (8 + i) (s.1 (97 + 5 * i + 3))), ?_, _, rfl, I5, c2.2.2.2.trans hm1, fun c hc => ?_⟩
      · refine ifn (nI_ge hi (by omega)) ?_
        refine cGx e2 ?_
        refine bnx (sI_n (by omega) (by omega)) ?_
        refine bnx g3 ?_
        refine bnx (x := tgt s.1 i) ?_ ?_
        · unfold tgt
          by_cases z : fin s.1 i = nI 0
          · rw [if_pos z]
            obtain ⟨t, ht, h1, h2, h3⟩ := g0_or V hi (fin_g z)
            refine ifx z ?_
            refine cTx (a98 I3.R hi (by rw [h1, nI_m1 (by omega)]; exact id)) ?_
            refine cTx (by rw [h1]; exact a92 I3.R V ht) ?_
            rw [h3]
          · rw [if_neg z]
            refine ifn z ?_
            exact cTx (a94 I3.R hi) rfl
        refine bnx (by rw [nI_add]; exact sI_n (by omega) (by omega)) ?_
        refine cTx (a99 I4.R hi) ?_
        refine bnx (by rw [nI_add]; exact sI_n (by omega) (by omega)) ?_
        refine bnx g5 ?_
        refine bnx (x := if fin s.1 i = nI 0 then nI 1 else nI 0) iff_some ?_
        refine bnx g5 ?_
        refine bnx (x := if fin s.1 i ≤ nI 1 then nI 0 else nI 1) iff_some ?_
        have w1 : mvn s.1 i + (if fin s.1 i = nI 0 then nI 1 else nI 0) = mvn s.1 (i + 1) := by
          show _ = (if fin s.1 i = nI 0 then mvn s.1 i + nI 1 else mvn s.1 i)
          by_cases z : fin s.1 i = nI 0
          · rw [if_pos z, if_pos z]
          · rw [if_neg z, if_neg z, show ∀ x : Int32, x + nI 0 = x from fun x => Int32.add_zero x]
        have w2 : fd s.1 i + (if fin s.1 i ≤ nI 1 then nI 0 else nI 1) = fd s.1 (i + 1) := by
          show _ = (if fin s.1 i = nI 0 ∨ fin s.1 i = nI 1 then fd s.1 i else fd s.1 i + nI 1)
          by_cases z : fin s.1 i = nI 0 ∨ fin s.1 i = nI 1
          · rw [if_pos z, if_pos (by rw [fin_le]; exact z), show ∀ x : Int32, x + nI 0 = x from fun x => Int32.add_zero x]
          · rw [if_neg z, if_neg (by rw [fin_le]; exact z)]
        show some (Sum.inl (mvn s.1 i + (if fin s.1 i = nI 0 then nI 1 else nI 0), fd s.1 i + (if fin s.1 i ≤ nI 1 then nI 0 else nI 1), nI i + nI 1, _)) = _
        rw [w1, w2, nI_add]
      · have h2 : rI m2 130 = rI m1 130 := c2.1 130 (by omega)
        rw [rI_ws, rI_ws, rI_ws, h2]
        by_cases e : c = i
        · subst e
          refine ⟨?_, ?_, ?_⟩
          · rw [upd_n (by omega), upd_n (by omega), upd_s]
          · rw [upd_n (by omega), upd_s]
          · rw [upd_s]
        · obtain ⟨t1, t2, t3⟩ := T1 c (by omega)
          refine ⟨?_, ?_, ?_⟩
          · rw [upd_n (by omega), upd_n (by omega), upd_n (by omega)]
            exact t1
          · rw [upd_n (by omega), upd_n (by omega), upd_n (by omega)]
            exact t2
          · rw [upd_n (by omega), upd_n (by omega), upd_n (by omega)]
            exact t3
    · rintro t ⟨m1, rfl, I1, hm1, T1⟩
      exact ⟨(mvn s.1 4, fd s.1 4, m1), ifx (nI_le (Nat.le_refl 4) (by omega)) rfl, m1, rfl, I1, hm1, T1⟩
    · rintro b ⟨m1, rfl, I1, hm1, T1⟩
      obtain ⟨m2, e2, I2, hm2, h130⟩ := c79 I1 q
      obtain ⟨n, hn1, hn2⟩ := sv_n s
      obtain ⟨m3, e3, I3, hm3⟩ := c86 I2 (n := n) hn1
      have R2 := I2.R
      have hrow : (nwS (svS s) (TF s.1)).2.2.1 n = s.1 := hn2
      have I4 : IC m3 (s.1, n, (nwS (svS s) (TF s.1)).2.2) := by
        have := I3
        rw [hrow] at this
        exact this
      refine ⟨(nI 1, m3), ?_, m3, _, rfl, I4, rfl, (hm3.trans hm2).trans hm1⟩
      refine bnx (a108 I1.R) ?_
      refine cGx e2 ?_
      refine bnx (x := nI 1) ?_ ?_
      · refine ifx rfl ?_
        refine bnx (a108 R2) ?_
        refine ifx TF_168 ?_
        refine bnx (a109 R2) ?_
        exact ifx (TF_169 V) rfl
      refine bnx (x := nI 1) ?_ ?_
      · refine lp_n (fun k => (nI 1, nI k)) 4 (by omega) rfl (fun c hc => ?_) ?_
        · obtain ⟨t1, t2, t3⟩ := T1 c hc
          have g1 : gI m2 130 12 (nI c) = some (fin s.1 c) := by
            rw [gI_n (by omega) (by omega), h130, t1]
          have g2 : gI m2 130 12 (nI 4 + nI c) = some (tgt s.1 c) := by
            rw [nI_add, gI_n (by omega) (by omega), h130, t2]
          have g3 : gI m2 130 12 (nI 8 + nI c) = some (s.1 (97 + 5 * c + 3)) := by
            rw [nI_add, gI_n (by omega) (by omega), h130, t3]
          refine ifn (nI_ge hc (by omega)) ?_
          refine bnx (x := nI 1) ?_ ?_
          · refine ifn n10n ?_
            refine cTx (a100 R2 hc) ?_
            refine bnx g1 ?_
            refine ifx (TF_4 V hc) ?_
            refine cTx (a94 R2 hc) ?_
            refine bnx g2 ?_
            refine ifx (TF_0 V hc) ?_
            refine cTx (a99 R2 hc) ?_
            refine bnx g3 ?_
            refine bnx g1 ?_
            refine bnx (x := if fin s.1 c = nI 0 then nI 1 else nI 0) iff_some ?_
            refine ifx (TF_3 V hc) ?_
            refine cTx (a97 R2 hc) ?_
            exact ifx (if_pos (TF_2 V hc)) rfl
          · show some (Sum.inl (nI 1, nI c + nI 1)) = _
            rw [nI_add]
        · exact ifx (nI_le (Nat.le_refl 4) (by omega)) rfl
      refine cGx e3 ?_
      refine bnx (x := nI 1) ?_ ?_
      · refine ifn n10n ?_
        refine bnx (a89 I4.2.2.1) ?_
        refine ifx rfl ?_
        refine bnx (a108 I4.R) ?_
        exact ifx rfl rfl
      exact bnx gB_1 rfl
  · rw [if_neg (fun z => q ((nI_eq (by omega) (by omega)).mp z))]
    exact ⟨(nI 1, m), rfl, m, s, rfl, hC, rfl, rfl⟩
end TS
