/-! THE LAW'S LOOP -/
theorem l_CL {X : Nat × (Nat → Int32)} {m : dM} {s : gS} (hC : IC m s) (hE : EE s.1) (hX : X.1 ≤ 2560) : ∃ m', CL X m = some (nI 1, m') ∧ m'.1 = m.1 := by
  have key : ∃ b : Int32 × dM, CL X m = some b ∧ ∃ m' : dM, b = (nI 1, m') ∧ m'.1 = m.1 := by
    unfold CL
    refine lp_inv (fun e (t : Int32 × dM) => ∃ (m1 : dM) (s1 : gS), t = (nI e, m1) ∧ IC m1 s1 ∧ EE s1.1 ∧ m1.1 = m.1) (fun (b : Int32 × dM) => ∃ m' : dM, b = (nI 1, m') ∧ m'.1 = m.1) 56 (by omega) ⟨m, s, rfl, hC, hE, rfl⟩ ?_ ?_
    · rintro e t he ⟨m1, s1, rfl, I1, E1, hm1⟩
      obtain ⟨v, ev⟩ := l300 (X := X) (m := m1) hX he
      obtain ⟨⟨x, m2⟩, s2, e2, I2, E2, hm2, hx⟩ := l302 I1 E1 v
      replace I2 : IC m2 s2 := I2
      replace hm2 : m2.1 = m1.1 := hm2
      replace hx : ¬ x < nI 0 := hx
      by_cases q : nI e - nI e / nI 2 * nI 2 = nI 0
      · obtain ⟨m3, e3, I3, hm3⟩ := l306 I2
        have e4 := l307 I3.R I3.V E2
        obtain ⟨m5, s5, e5, I5, hs5, hm5⟩ := l308 I3
        refine .inl ⟨(nI (e + 1), m5), ?_, m5, s5, rfl, I5, by rw [hs5]; exact E2, ((hm5.trans hm3).trans hm2).trans hm1⟩
        refine ifn (nI_ge he (by omega)) ?_
        refine bnx ev ?_
        refine bnx e2 ?_
        refine ifn hx ?_
        refine ifx q ?_
        refine bnx e3 ?_
        refine ifn n10n ?_
        refine bnx e4 ?_
        refine ifn n10n ?_
        refine bnx e5 ?_
        refine ifn n10n ?_
        show some (Sum.inl (nI e + nI 1, m5)) = _
        rw [nI_add]
      · have e4 := l307 I2.R I2.V E2
        obtain ⟨m5, s5, e5, I5, hs5, hm5⟩ := l308 I2
        refine .inl ⟨(nI (e + 1), m5), ?_, m5, s5, rfl, I5, by rw [hs5]; exact E2, (hm5.trans hm2).trans hm1⟩
        refine ifn (nI_ge he (by omega)) ?_
        refine bnx ev ?_
        refine bnx e2 ?_
        refine ifn hx ?_
        refine ifn q ?_
        refine bnx e4 ?_
        refine ifn n10n ?_
        refine bnx e5 ?_
        refine ifn n10n ?_
        show some (Sum.inl (nI e + nI 1, m5)) = _
        rw [nI_add]
    · rintro t ⟨m1, s1, rfl, I1, E1, hm1⟩
      exact ⟨(nI 1, m1), ifx (nI_le (Nat.le_refl 56) (by omega)) rfl, m1, rfl, hm1⟩
  obtain ⟨b, e, m', rfl, hm⟩ := key
  exact ⟨m', e, hm⟩
