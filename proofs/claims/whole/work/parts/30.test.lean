section T1
variable {X : Nat × (Nat → Int32)} {d : Nat} {k : Nat × Nat} {M : ax_M} {N : ax_N} {r : Nat → Nat}
theorem ev_144 {v lo hi : Int32} {h : ax_H} : ax_Ev X (d + 1) 144 [.int v, .int lo, .int hi] h (.inl (some (.int (if lo ≤ v ∧ v ≤ hi then 1 else 0)))) h := by
  show ax_Wp X (d + 1) 144 (0, [some (.int v), some (.int lo), some (.int hi)], []) h _
  refine ax_Wp.go (f' := (2, [some (.int v), some (.int lo), some (.int hi)], [.int lo, .int v])) 2 rfl ?_
  refine ax_Wp.br (c := v < lo) rfl (fun q1 => ?_) (fun q1 => ?_)
  · refine ax_Wp.go (f' := (15, [some (.int v), some (.int lo), some (.int hi)], [.int 0])) 1 rfl ?_
    refine ax_Wp.retc rfl rfl ⟨?_, rfl⟩
    rw [if_neg (fun q => absurd q1 (Int32.not_lt.mpr q.1))]
  · refine ax_Wp.go (f' := (7, [some (.int v), some (.int lo), some (.int hi)], [.int hi, .int v])) 2 rfl ?_
    refine ax_Wp.br (c := hi < v) rfl (fun q2 => ?_) (fun q2 => ?_)
    · refine ax_Wp.go (f' := (15, [some (.int v), some (.int lo), some (.int hi)], [.int 0])) 1 rfl ?_
      refine ax_Wp.retc rfl rfl ⟨?_, rfl⟩
      rw [if_neg (fun q => absurd q2 (Int32.not_lt.mpr q.2))]
    · refine ax_Wp.go (f' := (15, [some (.int v), some (.int lo), some (.int hi)], [.int 1])) 2 rfl ?_
      refine ax_Wp.retc rfl rfl ⟨?_, rfl⟩
      rw [if_pos ⟨Int32.not_lt.mp q1, Int32.not_lt.mp q2⟩]
theorem ev_150 {c w : Nat} (hc : c < 4) (hw : w < 5) : ax_Ev X (d + 1) 150 [.ref 130, .int (nI c), .int (nI w)] (ax_st k M N r) (.inl (some (.int (M 131 (97 + 5 * c + w))))) (ax_st k M N r) := by
  show ax_Wp X (d + 1) 150 (0, [some (.ref 130), some (.int (nI c)), some (.int (nI w))], []) (ax_st k M N r) _
  refine ax_Wp.go (f' := (12, [some (.ref 130), some (.int (nI c)), some (.int (nI w))], [.int (97 + 5 * nI c + nI w), .ref 131])) 9 rfl ?_
  refine ax_Wp.ild (j := 97 + 5 * c + w) rfl rfl rfl (by simp [nI]) (by omega) rfl ?_
  exact ax_Wp.retc rfl rfl ⟨rfl, rfl⟩
end T1
