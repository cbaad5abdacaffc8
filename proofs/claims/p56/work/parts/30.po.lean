/-! POSITIONS, NOTES, THE END. (wb_.., u_tn, g_or are pasted from the kit's laws on bits.) -/
theorem wb_tb (n : Nat) : (lN n).toBitVec = BitVec.ofNat 64 n := rfl
theorem wb_inj {a b : Int64} (h : a.toBitVec = b.toBitVec) : a = b := Int64.toBitVec_inj.mp h
theorem wb_c : ∀ k, k < 64 → ((nI k).toInt64 &&& 63) = lN k := by decide +kernel
theorem wb_sm : ∀ k, k < 64 → (BitVec.ofNat 64 k).smod 64 = BitVec.ofNat 64 k := by decide +kernel
theorem wb_shl (n : Nat) {k : Nat} (hk : k < 64) : lN n <<< ((nI k).toInt64 &&& 63) = lN (n * 2 ^ k) := by
  rw [wb_c k hk]
  apply wb_inj
  rw [Int64.toBitVec_shiftLeft, wb_tb, wb_tb, wb_tb, wb_sm k hk]
  apply BitVec.eq_of_toNat_eq
  rw [BitVec.shiftLeft_eq', BitVec.toNat_shiftLeft, BitVec.toNat_ofNat, BitVec.toNat_ofNat, BitVec.toNat_ofNat, Nat.mod_eq_of_lt (show k < 2 ^ 64 by omega), Nat.shiftLeft_eq, Nat.mul_mod, Nat.mod_mod, ← Nat.mul_mod]
theorem u_tn {n : Nat} (h : n < 2 ^ 64) : (UInt64.ofNat n).toNat = n := Nat.mod_eq_of_lt h
theorem g_or {k p a b : Nat} (hp : 2 ^ k = p) (ha : a < p) (h : b * p + a < 2 ^ 64) : lN (b * p) ||| lN a = lN (b * p + a) := by
  subst hp
  have h1 : b * 2 ^ k ||| a = b * 2 ^ k + a := by rw [← Nat.shiftLeft_eq, Nat.shiftLeft_add_eq_or_of_lt ha]
  have h3 : UInt64.ofNat (b * 2 ^ k) ||| UInt64.ofNat a = UInt64.ofNat (b * 2 ^ k + a) := UInt64.toNat_inj.mp (by rw [UInt64.toNat_or, u_tn (by omega), u_tn (by omega), u_tn h, h1])
  have h2 := congrArg UInt64.toInt64 h3
  exact h2
/-- how many of so many -/
def ct (p : Nat → Bool) : Nat → Nat
  | 0 => 0
  | n + 1 => ct p n + (if p n = true then 1 else 0)
theorem ct_le {p : Nat → Bool} : ∀ n, ct p n ≤ n
  | 0 => Nat.le_refl _
  | n + 1 => by
    have := ct_le (p := p) n
    show ct p n + (if p n = true then 1 else 0) ≤ n + 1
    split <;> omega
theorem ct_all {p : Nat → Bool} (n : Nat) : ct p (n + 1) = n + 1 ↔ (ct p n = n ∧ p n = true) := by
  have := ct_le (p := p) n
  show ct p n + (if p n = true then 1 else 0) = n + 1 ↔ _
  split
  · rename_i h
    simp only [h, and_true]
    omega
  · rename_i h
    simp only [h]
    constructor
    · intro q; omega
    · intro q; exact absurd q.2 (by simp)
theorem ct_eq {p q : Nat → Bool} : ∀ n, (∀ i, i < n → p i = q i) → ct p n = ct q n
  | 0, _ => rfl
  | n + 1, h => by
    show ct p n + (if p n = true then 1 else 0) = ct q n + (if q n = true then 1 else 0)
    rw [ct_eq n (fun i hi => h i (by omega)), h n (by omega)]
def tmN (f : Nat → Int32) (u v : Int32) : Nat := ct (fun i => decide (f (175 + 2 * i) = u ∧ f (175 + 2 * i + 1) = v)) (tN f)
def deN (f : Nat → Int32) : Nat := ct (fun p => decide (f (118 + 6 * p + 4) = nI 2)) (pN f)
/-- why the game is over -/
def ov (f : Nat → Int32) : Nat := if 0 < pN f ∧ deN f = pN f then 1 else if 2 < tmN f (nI (f1 f)) (nI (f2 f)) then 2 else if f 168 < f 167 then 0 else 3
/-- a note that stands there already -/
def old (f : Nat → Int32) (i : Nat) : Bool := decide (∃ j, j < i ∧ f (175 + 2 * i) = f (175 + 2 * j) ∧ f (175 + 2 * i + 1) = f (175 + 2 * j + 1))
def unN (f : Nat → Int32) : Nat := ct (fun i => !old f i) (tN f)
section PO
variable {m : dM} {f : Nat → Int32}
theorem lg0 {x y : Int64} : (lg_cmp x y = nI 0) = (x = y) := by
  unfold lg_cmp
  by_cases h : x = y
  · subst h
    simp only [gt_iff_lt, Int64.lt_irrefl, if_false, if_true, eq_self]
    exact eq_true rfl
  · split
    · simp only [h]
      decide
    · simp only [h, if_false]
      decide
theorem d42 (R : RC m 1 f) (V : rv f) : D42 m = some (lN (fL1 f)) := by
  have h8 := V.p8
  unfold D42
  refine lpb (lN (la (aV f) 4)) (fun i => (lN (la (aV f) i), nI i)) 4 (by omega) rfl (fun i hi => ?_) rfl ?_
  · show (if nI 4 ≤ nI i then _ else _) = _
    rw [if_neg (nI_ge hi (by omega)), gI_n hi (by omega), R.at hi, aV_e V.2.1 hi]
    show some (Sum.inl ((lN _ <<< ((nI 4).toInt64 &&& 63)) ||| (nI _).toInt64, nI i + nI 1)) = _
    have h1 := la_lt (a := aV f) i (fun j hj => Nat.lt_trans (aV_lt V.2.1 (show j < 4 by omega)) (by omega))
    have h2 := aV_lt V.2.1 hi
    have h3 : (16 : Nat) ^ i ≤ 16 ^ 3 := Nat.pow_le_pow_right (by omega) (by omega)
    rw [wb_shl _ (by omega), nI_l (by omega), g_or (k := 4) (p := 2 ^ 4) rfl (by omega) (by omega), nI_add]
    rfl
  · refine lpb (lN (fL1 f)) (fun i => (lN (lb (la (aV f) 4) (qV f) i), nI i)) (pN f) (by omega) rfl (fun i hi => ?_) ?_ rfl
    · show (if rI m 10 4 ≤ nI i then _ else _) = _
      rw [R.pc, V.p0, if_neg (nI_ge hi (by omega)), gI_n (by omega) (by omega), R.sp (by omega) hi]
      have h0 := qV_e V.2.2.1 i
      rw [if_pos hi] at h0
      rw [h0]
      show some (Sum.inl ((lN _ <<< ((nI 5).toInt64 &&& 63)) ||| (nI _).toInt64, nI i + nI 1)) = _
      have h1 := lb_lt (q := qV f) (la_lt (a := aV f) 4 (fun j hj => Nat.lt_trans (aV_lt V.2.1 hj) (by omega))) i (fun j _ => Nat.lt_trans (qV_lt V.2.2.1 j) (by omega))
      have h2 := qV_lt V.2.2.1 i
      have h3 : (32 : Nat) ^ i ≤ 32 ^ 7 := Nat.pow_le_pow_right (by omega) (by omega)
      have h4 : 16 ^ 4 * 32 ^ i ≤ 16 ^ 4 * 32 ^ 7 := Nat.mul_le_mul_left _ h3
      rw [wb_shl _ (by omega), nI_l (by omega), g_or (k := 5) (p := 2 ^ 5) rfl (by omega) (by omega), nI_add]
      rfl
    · show (if rI m 10 4 ≤ nI (pN f) then _ else _) = _
      rw [R.pc, V.p0, if_pos (nI_le (Nat.le_refl _) (by omega))]
      rfl
/-- the position of now is told by its three numbers -/
theorem nowN (V : rv f) : nt3 (pN f) (lN (fL1 f)) (nI (f1 f)) (nI (f2 f)) := by
  refine ⟨aV f, qV f, fun c hc => aV_lt V.2.1 hc, qV_lt V.2.2.1, fun p hp => ?_, rfl, rfl, rfl⟩
  unfold qV
  rw [if_neg (by omega)]
theorem d24 (R : RC m 1 f) (V : rv f) {x : Int64} {u v : Int32} (h : nt3 (pN f) x u v) : D24 m x = some (nI (tmN f u v)) := by
  have h61 := V.t61
  unfold D24
  refine lpb (nI (tmN f u v)) (fun i => (nI (ct (fun i => decide (f (175 + 2 * i) = u ∧ f (175 + 2 * i + 1) = v)) i), nI i)) (tN f) (by omega) rfl (fun i hi => ?_) ?_ rfl
  · show (if rI m 15 1 ≤ nI i then _ else _) = _
    rw [R.tc, V.t0, if_neg (nI_ge hi (by omega)), gL_n (by omega) (by omega)]
    simp only [Option.bind_some, lg0, nt3_eq V.p8 (R.nt hi) h, iff_some]
    show _ = some (Sum.inl (nI (ct _ i + (if decide (f (175 + 2 * i) = u ∧ f (175 + 2 * i + 1) = v) = true then 1 else 0)), nI (i + 1)))
    rw [← nI_add i 1]
    simp only [decide_eq_true_eq]
    split
    · rw [nI_add]
    · rfl
  · show (if rI m 15 1 ≤ nI (tN f) then _ else _) = _
    rw [R.tc, V.t0, if_pos (nI_le (Nat.le_refl _) (by omega))]
    rfl
theorem d35 (R : RC m 1 f) (V : rv f) : D35 m = some (nI (deN f)) := by
  have h8 := V.p8
  unfold D35
  refine lpb (nI (deN f)) (fun i => (nI (ct (fun p => decide (f (118 + 6 * p + 4) = nI 2)) i), nI i)) (pN f) (by omega) rfl (fun i hi => ?_) ?_ rfl
  · show (if rI m 10 4 ≤ nI i then _ else _) = _
    rw [R.pc, V.p0, if_neg (nI_ge hi (by omega)), gI_n (by omega) (by omega), R.sp (by omega) hi]
    simp only [Option.bind_some, spt_d V hi, iff_some]
    show _ = some (Sum.inl (nI (ct _ i + (if decide (f (118 + 6 * i + 4) = nI 2) = true then 1 else 0)), nI (i + 1)))
    rw [← nI_add i 1]
    simp only [decide_eq_true_eq]
    by_cases q1 : f (118 + 6 * i + 4) = nI 2
    · rw [if_neg (by simpa using q1), if_pos q1, nI_add, nI_add]
    · rw [if_pos q1, if_neg q1]
      rfl
  · show (if rI m 10 4 ≤ nI (pN f) then _ else _) = _
    rw [R.pc, V.p0, if_pos (nI_le (Nat.le_refl _) (by omega))]
    rfl
theorem tm_le {u v : Int32} : tmN f u v ≤ tN f := ct_le _
theorem d44t (R : RC m 1 f) (V : rv f) : ((D42 m).bind fun (x5 : Int64) => (D24 m x5).bind fun (x6 : Int32) => if x6 < (nI 3) then Option.bind ((if (rI m 1 7) < (rI m 1 6) then some (nI 0) else some (nI 3)) : Option (Int32)) fun (v7 : Int32) => some v7 else some (nI 2)) = some (nI (if 2 < tmN f (nI (f1 f)) (nI (f2 f)) then 2 else if f 168 < f 167 then 0 else 3)) := by
  have h1 := tm_le (f := f) (u := nI (f1 f)) (v := nI (f2 f))
  have h61 := V.t61
  rw [d42 R V]
  simp only [Option.bind_some, d24 R V (nowN V), R.tn, R.lm, iff_some]
  by_cases q : 2 < tmN f (nI (f1 f)) (nI (f2 f))
  · rw [if_neg (nI_nlt (by omega) (by omega)), if_pos q]
  · rw [if_pos (nI_lt (by omega) (by omega)), if_neg q]
    by_cases q2 : f 168 < f 167
    · rw [if_pos q2, if_pos q2]
    · rw [if_neg q2, if_neg q2]
theorem d44 (R : RC m 1 f) (V : rv f) : D44 m = some (nI (ov f)) := by
  have h8 := V.p8
  have h9 : deN f ≤ pN f := ct_le _
  unfold D44
  rw [d44t R V, d35 R V, R.pc, V.p0]
  unfold ov
  by_cases q : 0 < pN f
  · rw [if_neg (show ¬ nI (pN f) ≤ nI 0 from nI_ge q (by omega))]
    simp only [Option.bind_some, nI_eq (show deN f < 2 ^ 31 by omega) (show pN f < 2 ^ 31 by omega), q, true_and]
    split <;> rfl
  · have q0 : pN f = 0 := by omega
    rw [if_pos (show nI (pN f) ≤ nI 0 from nI_le (by omega) (by omega)), if_neg (show ¬ (0 < pN f ∧ deN f = pN f) from fun z => q z.1)]
theorem ov_le : ov f ≤ 3 := by
  unfold ov
  split
  · omega
  · split
    · omega
    · split <;> omega
end PO
