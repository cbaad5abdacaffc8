/-! THE LAW'S RUN, from its first instruction to its last -/
theorem good : ax_Good := by
  intro L xs hL
  obtain ⟨-, s, hI, hE⟩ := ev1
  obtain ⟨m', e, hm⟩ := l_CL (X := (L, xs)) hI hE (show L ≤ 2560 by omega)
  have w : ax_Wp (L, xs) 12 118 (0, ax_ent 118 [.retAddr 0], []) ax_h1 (fun o h => o = .inl (some (.int (nI 1))) ∧ h = stt m') := by
    refine rp_run 200 _ _ _ _ p1.1 ?_
    rw [hz_m]
    exact c_L (d := 0) e
  obtain ⟨n, o, h', e2, q1, q2⟩ := w
  subst q1 q2
  refine ⟨n, stt m', e2, ?_, ?_⟩
  · show m'.1.1 ≤ 600104
    rw [hm]
    show 131 ≤ 600104
    omega
  · show m'.1.2 ≤ 7301313
    rw [hm]
    show 1427 ≤ 7301313
    omega
