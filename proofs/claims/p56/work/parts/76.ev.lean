set_option maxRecDepth 100000 in
theorem ev0 : (match ax_rp 200 (0, ax_ent 118 [.retAddr 0], []) ax_h1 with
  | some (_, h) => skB h && ckB (mof h) (f0 (mof h))
  | none => false) = true := by decide +kernel
theorem ev1 : skB hz = true ∧ ∃ s, IC (mof hz) s ∧ EE s.1 := by
  have k := ev0
  rw [p1.1] at k
  generalize hz = z at k ⊢
  replace k : (skB z && ckB (mof z) (f0 (mof z))) = true := k
  rw [Bool.and_eq_true] at k
  exact ⟨k.1, ck_inv k.2⟩
theorem hz_m : hz = stt (mof hz) := st_of p1.2 (fun _ h => hz_a h) hz_r ev1.1
