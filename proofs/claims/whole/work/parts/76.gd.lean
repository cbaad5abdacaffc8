/-! THE LAW'S RUN, from its first instruction to its last -/
theorem good : ax_Good := by
  intro L xs hL
  have w : ax_Wp (L, xs) 12 283 (0, ax_ent 283 [.retAddr 0], []) ax_h1 lwQ := by
    refine rp_run 200 _ _ _ _ p1.1 ?_
    rw [hz_m]
    exact lw_lp (X := (L, xs)) hL 512 0 (mof hz) ev1.2 (by show L < 0 + 5 + 5 * 512; omega) (Nat.zero_le _) (by show 139 + 512 ≤ 601024; omega) (by show 3601 + 6 * 512 ≤ 7293034; omega)
  obtain ⟨n, o, h', e, q1, q2, q3⟩ := w
  subst q1
  exact ⟨n, h', e, q2, q3⟩
