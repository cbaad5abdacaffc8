/-! THE LAW'S LOOK AT PARCELS -/
theorem n10n : ¬ nI 1 = nI 0 := by decide
theorem n01n : ¬ nI 0 = nI 1 := by decide
theorem iT {α : Type} {dp : Decidable True} {a b : α} : @ite α True dp a b = a := if_pos trivial
theorem i10 {α : Type} {dp : Decidable (nI 1 = nI 0)} {a b : α} : @ite α (nI 1 = nI 0) dp a b = b := if_neg n10n
def shD (d n : Nat) : UInt64 := if n = 0 then FP.dconst0 else dq d n
def okD (d n : Nat) : Bool := ax_n64 (FP.dmul (shD d n) (FP.i2d (nI n))) && decide (¬ Op.cmpValue (FP.dcmp (FP.dmul (shD d n) (FP.i2d (nI n))) (FP.i2d (nI d - nI 1))) .l ≤ nI 0) && (decide (n = 0) || decide (¬ nI 0 ≤ Op.cmpValue (FP.dcmp (FP.dmul (shD d n) (FP.i2d (nI n))) (FP.i2d (nI d + nI 1))) .g))
theorem okD_all : ∀ n, n < 9 → ∀ d, d < n + 1 → okD d n = true := by decide +kernel
theorem ct_pos {p : Nat → Bool} {i : Nat} (h : p i = true) : ∀ n, i < n → 0 < ct p n
  | 0, hi => by omega
  | n + 1, hi => by
    show 0 < ct p n + (if p n = true then 1 else 0)
    by_cases e : i = n
    · subst e
      rw [if_pos h]
      omega
    · have := ct_pos h n (by omega)
      omega
theorem ld_pos {f : Nat → Int32} (V : rvP f) (hw : ∀ p, p < pN f → nI 0 < f (118 + 6 * p + 2)) {i : Nat} {c : Int32} (h4 : f (118 + 6 * i + 4) = nI 1) (h5 : f (118 + 6 * i + 5) = c) : ∀ n, i < n → n ≤ pN f → ∃ w, 0 < w ∧ w ≤ 5 * n ∧ ld f c n = nI w
  | 0, hi, _ => by omega
  | n + 1, hi, hn => by
    have h8 := V.2.1
    obtain ⟨u, hu, eu⟩ := (V.2.2 n (by omega)).2.2.1
    have hu0 : 0 < u := by
      have := hw n (by omega)
      rw [eu, nI_ltI (by omega) (by omega)] at this
      exact this
    show ∃ w, 0 < w ∧ w ≤ 5 * (n + 1) ∧ ld f c n + (if f (118 + 6 * n + 4) = nI 1 ∧ f (118 + 6 * n + 5) = c then f (118 + 6 * n + 2) else nI 0) = nI w
    by_cases e : i = n
    · subst e
      obtain ⟨w, hw', ew⟩ := ld_b V c i (by omega)
      rw [if_pos ⟨h4, h5⟩, ew, eu, nI_add]
      exact ⟨w + u, by omega, by omega, rfl⟩
    · obtain ⟨w, hw0, hw', ew⟩ := ld_pos V hw h4 h5 n (by omega) (by omega)
      rw [ew]
      by_cases q : f (118 + 6 * n + 4) = nI 1 ∧ f (118 + 6 * n + 5) = c
      · rw [if_pos q, eu, nI_add]
        exact ⟨w + u, by omega, by omega, rfl⟩
      · rw [if_neg q, nI_add]
        exact ⟨w + 0, by omega, by omega, rfl⟩
theorem unR_pos {f : Nat → Int32} : ∀ n, 0 < unR f (n + 1)
  | 0 => by
    show 0 < (if oldN f 0 0 = true then unR f 0 else unR f 0 + 1)
    rw [if_neg (show ¬ oldN f 0 0 = true from fun z => by cases z)]
    omega
  | n + 1 => by
    have ih := unR_pos (f := f) n
    show 0 < (if oldN f (n + 1) (n + 1) = true then unR f (n + 1) else unR f (n + 1) + 1)
    split
    · exact ih
    · omega
section PS
variable {m : dM} {f : Nat → Int32}
/-- the reason that is due -/
def due (f : Nat → Int32) : Int32 := if 0 < pN f ∧ deN f = pN f then nI 1 else if 2 < tmN f (nI (f1 f)) (nI (f2 f)) then nI 2 else -1
theorem nI_z {k : Nat} (h0 : 0 < k) (h : k < 2 ^ 31) : ¬ nI k ≤ nI 0 := nI_ge h0 h
theorem l307 (R : RC m 1 f) (V : rv f) (E : EE f) : D307 m = some (nI 1) := by
  have h8 := V.p8
  have h61 := V.t61
  have hde := de_le (f := f)
  have hov := ov_le (f := f)
  have hun := unR_le (f := f) (tN f)
  have hup : 0 < unR f (tN f) := by
    have := V.t1
    obtain ⟨k, hk⟩ : ∃ k, tN f = k + 1 := ⟨tN f - 1, by omega⟩
    rw [hk]
    exact unR_pos k
  have htm := tm_le (f := f) (u := nI (f1 f)) (v := nI (f2 f))
  have htp : 0 < tmN f (nI (f1 f)) (nI (f2 f)) := by
    obtain ⟨i, hi, e1, e2⟩ := E.2
    exact ct_pos (p := fun i => decide (f (175 + 2 * i) = nI (f1 f) ∧ f (175 + 2 * i + 1) = nI (f2 f))) (i := i) (decide_eq_true ⟨e1, e2⟩) (tN f) hi
  have hok := okD_all (pN f) (by omega) (deN f) (by omega)
  unfold okD at hok
  rw [Bool.and_eq_true, Bool.and_eq_true, Bool.or_eq_true, decide_eq_true_eq, decide_eq_true_eq, decide_eq_true_eq] at hok
  obtain ⟨⟨k1, k2⟩, k3⟩ := hok
  have hdsh : dsh f = shD (deN f) (pN f) := rfl
  have eD : D121 m = some (shD (deN f) (pN f)) := by rw [d121 R V, hdsh]
  have eG : gD (FP.dmul (shD (deN f) (pN f)) (FP.i2d (nI (pN f)))) = some (FP.dmul (shD (deN f) (pN f)) (FP.i2d (nI (pN f)))) := by
    unfold gD
    rw [k1]
    rfl
  unfold D307
  rw [a101 R, V.p0, Option.bind_some]
  refine lpb (nI (deN f), nI 1) (fun k => (nI (ct (fun p => decide (f (118 + 6 * p + 4) = nI 2)) k), nI 1, nI k)) (pN f) (by omega) rfl (fun i hi => ?_) ?_ ?_
  · have hct : ct (fun p => decide (f (118 + 6 * p + 4) = nI 2)) (i + 1) = ct (fun p => decide (f (118 + 6 * p + 4) = nI 2)) i + (if decide (f (118 + 6 * i + 4) = nI 2) = true then 1 else 0) := rfl
    rw [hct]
    rcases st3 V hi with h | h | h
    · have e1 : D102 m (nI i) = some (.inl (nI 1)) := by rw [a102 R V hi, if_pos h]
      have e2 : D103 m (nI i) = some (.inl (nI 0)) := by rw [a103 R V hi, if_neg (by rw [h]; decide)]
      rw [if_neg (show ¬ decide (f (118 + 6 * i + 4) = nI 2) = true by rw [h]; decide)]
      simp only [if_neg (nI_ge hi (show pN f < 2 ^ 31 by omega)), e1, e2, cTe, Option.bind_some, iT, i10]
      rw [nI_add, nI_add]
    · obtain ⟨b, hb, eb⟩ := bysm V hi (show f (118 + 6 * i + 4) ≠ nI 0 by rw [h]; decide)
      have e1 : D102 m (nI i) = some (.inl (nI 0)) := by rw [a102 R V hi, if_neg (by rw [h]; decide)]
      have e2 : D103 m (nI i) = some (.inl (nI 0)) := by rw [a103 R V hi, if_neg (by rw [h]; decide)]
      have e3 : D104 m (nI i) = some (.inl (nI b)) := by rw [a104 R V hi (by rw [h]; decide), eb]
      have e4 : D105 m (nI i) = some (.inl (f (97 + 5 * b + 0))) := by
        rw [a105 R V hi]
        unfold plc
        rw [if_neg (by rw [h]; decide), if_pos h, eb, nI_clamp (by omega)]
      have e5 := a94 R hb
      obtain ⟨w, hw0, hw, ew⟩ := ld_pos V.2.2.1 E.1.2.1 h eb (pN f) hi (Nat.le_refl _)
      have e6 : D96 m (nI b) = some (.inl (nI w)) := by rw [a96 R V hb, ew]
      rw [if_neg (show ¬ decide (f (118 + 6 * i + 4) = nI 2) = true by rw [h]; decide)]
      simp only [if_neg (nI_ge hi (show pN f < 2 ^ 31 by omega)), e1, e2, e3, e4, e5, e6, cTe, Option.bind_some, iT, i10, if_neg (nI_nlt (Nat.zero_le b) (show b < 2 ^ 31 by omega)), if_neg (nI_ge hb (show 4 < 2 ^ 31 by omega)), if_neg (nI_z hw0 (show w < 2 ^ 31 by omega)), if_pos (rfl : f (97 + 5 * b + 0) = f (97 + 5 * b + 0))]
      rw [nI_add, nI_add]
    · obtain ⟨b, hb, eb⟩ := bysm V hi (show f (118 + 6 * i + 4) ≠ nI 0 by rw [h]; decide)
      have e1 : D102 m (nI i) = some (.inl (nI 0)) := by rw [a102 R V hi, if_neg (by rw [h]; decide)]
      have e2 : D103 m (nI i) = some (.inl (nI 1)) := by rw [a103 R V hi, if_pos h]
      have e3 : D104 m (nI i) = some (.inl (nI b)) := by rw [a104 R V hi (by rw [h]; decide), eb]
      rw [if_pos (show decide (f (118 + 6 * i + 4) = nI 2) = true from decide_eq_true h)]
      simp only [if_neg (nI_ge hi (show pN f < 2 ^ 31 by omega)), e1, e2, e3, cTe, Option.bind_some, iT, i10, if_neg (nI_nlt (Nat.zero_le b) (show b < 2 ^ 31 by omega)), if_neg (nI_ge hb (show 4 < 2 ^ 31 by omega))]
      rw [nI_add, nI_add]
  · show (if nI (pN f) ≤ nI (pN f) then _ else _) = _
    rw [if_pos (nI_le (Nat.le_refl _) (by omega))]
    rfl
  · simp only [i10, eD, Option.bind_some, eG, if_neg k2]
    have e52 : (if nI (pN f) = nI 0 then some (nI 1) else if nI 0 ≤ Op.cmpValue (FP.dcmp (FP.dmul (shD (deN f) (pN f)) (FP.i2d (nI (pN f)))) (FP.i2d (nI (deN f) + nI 1))) .g then some (nI 0) else some (nI 1)) = some (nI 1) := by
      rcases k3 with k3 | k3
      · rw [if_pos (by rw [k3])]
      · rw [if_neg k3]
        split <;> rfl
    rw [e52, Option.bind_some]
    have e57 : (if nI (pN f) ≤ nI 0 then (D110 m).bind (fun (x58 : Int32) => if x58 ≤ (nI 2) then some (-1) else some (nI 2)) else if nI (deN f) = nI (pN f) then some (nI 1) else (D110 m).bind (fun (x59 : Int32) => if x59 ≤ (nI 2) then some (-1) else some (nI 2))) = some (due f) := by
      have eT : (D110 m).bind (fun (x58 : Int32) => if x58 ≤ (nI 2) then some (-1) else some (nI 2)) = some (if 2 < tmN f (nI (f1 f)) (nI (f2 f)) then nI 2 else -1) := by
        rw [a110 R V, Option.bind_some]
        by_cases q : 2 < tmN f (nI (f1 f)) (nI (f2 f))
        · rw [if_pos q, if_neg (nI_ge q (by omega))]
        · rw [if_neg q, if_pos (nI_le (by omega) (by omega))]
      rw [eT]
      unfold due
      by_cases q : pN f = 0
      · rw [if_pos (by rw [q]; exact nI_le (Nat.le_refl 0) (by omega)), if_neg (show ¬ (0 < pN f ∧ deN f = pN f) from fun z => by omega)]
      · rw [if_neg (nI_z (by omega) (by omega))]
        by_cases w : deN f = pN f
        · rw [if_pos (by rw [w]), if_pos (show 0 < pN f ∧ deN f = pN f from ⟨by omega, w⟩)]
        · rw [if_neg (fun z => w ((nI_eq (by omega) (by omega)).mp z)), if_neg (show ¬ (0 < pN f ∧ deN f = pN f) from fun z => w z.2)]
    rw [e57, Option.bind_some]
    simp only [a112 R V, a110 R V, a111 R V, Option.bind_some, i10, if_neg (nI_z htp (show _ < 2 ^ 31 by omega)), if_neg (nI_z hup (show _ < 2 ^ 31 by omega))]
    have e60 : (if nI 0 ≤ due f then (if nI (ov f) = due f then some (nI 1) else some (nI 0)) else if nI (ov f) = nI 0 then some (nI 1) else if nI (ov f) = nI 3 then some (nI 1) else some (nI 0)) = some (nI 1) := by
      unfold due ov
      by_cases q : 0 < pN f ∧ deN f = pN f
      · rw [if_pos q, if_pos q, if_pos (nI_le (by omega) (by omega)), if_pos rfl]
      · rw [if_neg q, if_neg q]
        by_cases w : 2 < tmN f (nI (f1 f)) (nI (f2 f))
        · rw [if_pos w, if_pos w, if_pos (nI_le (by omega) (by omega)), if_pos rfl]
        · rw [if_neg w, if_neg w, if_neg (show ¬ nI 0 ≤ (-1 : Int32) by decide)]
          by_cases z : f 168 < f 167
          · rw [if_pos z, if_pos rfl]
          · rw [if_neg z, if_neg (show ¬ nI 3 = nI 0 by decide), if_pos rfl]
    rw [e60, Option.bind_some]
    have p0 := V.2.2.2.2.2.2.2.2 0 (by omega)
    have p1 := V.2.2.2.2.2.2.2.2 1 (by omega)
    simp only [i10, iT, a107 R V (show 0 < 2 by omega), a107 R V (show 1 < 2 by omega), a106 R (show 0 < 2 by omega), a106 R (show 1 < 2 by omega), cTe, p0, p1, if_pos (rfl : vd f 0 (pN f) = vd f 0 (pN f)), if_pos (rfl : vd f 1 (pN f) = vd f 1 (pN f)), Option.bind_some, gB_1]
end PS
