set_option maxRecDepth 100000 in
theorem ev0 : (match ax_rp 200 (0, ax_ent 283 [.retAddr 0], []) ax_h1 with
  | some (_, h) => skB h && ckB (mof h) (rI (mof h) 131)
  | none => false) = true := by decide +kernel
theorem ev1 : skB hz = true ∧ INV (mof hz) := by
  have k := ev0
  rw [p1.1] at k
  generalize hz = z at k ⊢
  replace k : (skB z && ckB (mof z) (rI (mof z) 131)) = true := k
  rw [Bool.and_eq_true] at k
  exact ⟨k.1, ck_inv k.2⟩
theorem hz_m : hz = stt (mof hz) := st_of p1.2 (fun _ h => hz_a h) hz_r ev1.1
