/-! THE LOOKS AT FLOATS -/
def fq (n : Nat) : UInt32 := FP.fdiv (FP.i2f (nI n)) 1082130432
def dq (d n : Nat) : UInt64 := FP.ddiv (FP.i2d (nI d)) (FP.i2d (nI n))
theorem fq_n : ∀ n, n < 161 → ax_n32 (fq n) = true := by decide +kernel
theorem fq_d : ∀ n, n < 161 → ax_n64 (FP.f2d (fq n)) = true := by decide +kernel
theorem dq_n : ∀ n, n < 9 → ∀ d, d < 9 → 0 < n → ax_n64 (dq d n) = true := by decide +kernel
theorem fq_F {n : Nat} (h : n < 161) : gF (fq n) = some (fq n) := by
  unfold gF
  rw [fq_n n h]
  rfl
theorem fq_D {n : Nat} (h : n < 161) : gD (FP.f2d (fq n)) = some (FP.f2d (fq n)) := by
  unfold gD
  rw [fq_d n h]
  rfl
theorem dq_D {n d : Nat} (h : n < 9) (hd : d < 9) (h0 : 0 < n) : gD (dq d n) = some (dq d n) := by
  unfold gD
  rw [dq_n n h d hd h0]
  rfl
/-- the sum of the loads of the first so many couriers -/
def ldS (f : Nat → Int32) : Nat → Int32
  | 0 => nI 0
  | i + 1 => ldS f i + ld f (nI i) (pN f)
/-- the share of parcels that are there -/
def dsh (f : Nat → Int32) : UInt64 := if pN f = 0 then FP.dconst0 else dq (deN f) (pN f)
section FLT
variable {m m1 : dM} {s : gS} {f g : Nat → Int32} {X : Nat × (Nat → Int32)} {i : Nat}
theorem ld_b (P : rvP f) (c : Int32) : ∀ n, n ≤ pN f → ∃ w, w ≤ 5 * n ∧ ld f c n = nI w := by
  intro n
  induction n with
  | zero => exact fun _ => ⟨0, by omega, rfl⟩
  | succ n ih =>
    intro h
    obtain ⟨w, hw, e⟩ := ih (by omega)
    show ∃ w, _ ∧ ld f c n + (if f (118 + 6 * n + 4) = nI 1 ∧ f (118 + 6 * n + 5) = c then f (118 + 6 * n + 2) else nI 0) = nI w
    rw [e]
    by_cases q : f (118 + 6 * n + 4) = nI 1 ∧ f (118 + 6 * n + 5) = c
    · obtain ⟨u, hu, eu⟩ := (P.2.2 n (by omega)).2.2.1
      rw [if_pos q, eu, nI_add]
      exact ⟨w + u, by omega, rfl⟩
    · rw [if_neg q, nI_add]
      exact ⟨w + 0, by omega, rfl⟩
theorem lds_b (V : rv f) : ∃ n, n < 161 ∧ ldS f 4 = nI n := by
  have P := V.2.2.1
  have h8 := V.p8
  obtain ⟨a, ha, ea⟩ := ld_b P (nI 0) (pN f) (Nat.le_refl _)
  obtain ⟨b, hb, eb⟩ := ld_b P (nI 1) (pN f) (Nat.le_refl _)
  obtain ⟨c, hc, ec⟩ := ld_b P (nI 2) (pN f) (Nat.le_refl _)
  obtain ⟨d, hd, ed⟩ := ld_b P (nI 3) (pN f) (Nat.le_refl _)
  refine ⟨0 + a + b + c + d, by omega, ?_⟩
  show nI 0 + ld f (nI 0) (pN f) + ld f (nI 1) (pN f) + ld f (nI 2) (pN f) + ld f (nI 3) (pN f) = _
  rw [ea, eb, ec, ed, nI_add, nI_add, nI_add, nI_add]
theorem d120 (R : RC m 1 f) (V : rv f) {n : Nat} (hn : n < 161) (h : ldS f 4 = nI n) : D120 m = some (fq n) := by
  unfold D120
  refine lpb (nI n) (fun i => (ldS f i, nI i)) 4 (by omega) rfl (fun i hi => ?_) ?_ ?_
  · show (if nI 4 ≤ nI i then _ else Option.bind (D34 m (nI i)) _) = _
    rw [if_neg (nI_ge hi (by omega)), d34 R V hi, ← nI_add i 1]
    rfl
  · show (if nI 4 ≤ nI 4 then some (Sum.inr (ldS f 4)) else _) = _
    rw [if_pos (nI_le (Nat.le_refl 4) (by omega)), h]
  · show Option.bind (gF (fq n)) _ = _
    rw [fq_F hn]
    rfl
theorem de_le : deN f ≤ pN f := ct_le _
theorem d121 (R : RC m 1 f) (V : rv f) : D121 m = some (dsh f) := by
  have h8 := V.p8
  have hd := de_le (f := f)
  unfold D121 dsh
  rw [R.pc, V.p0]
  by_cases q : pN f = 0
  · rw [if_pos q, if_neg (nI_nlt (by omega) (by omega))]
  · rw [if_neg q, if_pos ((nI_ltI (by omega) (by omega)).mpr (by omega)), d35 R V, Option.bind_some]
    show Option.bind (gD (dq (deN f) (pN f))) _ = _
    rw [dq_D (by omega) (by omega) (by omega)]
    rfl
end FLT
