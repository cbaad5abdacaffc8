/-! SMALL METHODS again: points by parcels, unlike positions, why no order -/
section H2
variable {m : dM} {f : Nat → Int32}
theorem gB_sm {x : Int32} (h : sm x 2) : gB x = some x := by
  obtain ⟨j, hj, rfl⟩ := h
  have : j = 0 ∨ j = 1 := by omega
  rcases this with rfl | rfl <;> rfl
theorem sb14 {b : Nat} (hb : b < 4) : nI 14 + nI b - nI 14 = nI b := by
  rw [nI_add, nI_sub (by omega), show 14 + b - 14 = b by omega]
theorem d36 (R : RC m 1 f) (V : rv f) {pl : Nat} (hpl : pl < 2) : D36 m (nI pl) = some (vd f pl (pN f)) := by
  have h8 := V.p8
  unfold D36
  refine lpb (vd f pl (pN f)) (fun i => (vd f pl i, nI i)) (pN f) (by omega) rfl (fun i hi => ?_) ?_ rfl
  · show (if rI m 10 4 ≤ nI i then _ else Option.bind (gI m 14 8 (nI i)) _) = _
    rw [R.pc, V.p0, if_neg (nI_ge hi (by omega)), gI_n (by omega) (by omega), R.sp (by omega) hi]
    show Option.bind (if spt f i < nI 14 then some (vd f pl i) else Option.bind (D130 (spt f i - nI 14)) _) _ = some (Sum.inl (vd f pl i + (if f (118 + 6 * i + 4) = nI 2 ∧ (f (118 + 6 * i + 5)).toNatClampNeg / 2 = pl then f (118 + 6 * i + 3) else nI 0), nI (i + 1)))
    rw [← nI_add i 1]
    have hs := spt_d V hi
    by_cases q : f (118 + 6 * i + 4) = nI 2
    · obtain ⟨b, hb, e⟩ := bysm V hi (by rw [q]; decide)
      have es : spt f i = nI 14 + nI b := by
        unfold spt
        rw [q, e, if_neg (by decide), if_neg (by decide)]
      rw [if_neg (fun z => (hs.mp z) q), es, sb14 hb, d130 hb]
      show Option.bind (if nI (b / 2) = nI pl then Option.bind (gI m 13 8 (nI i)) _ else _) _ = _
      rw [gI_n (by omega) (by omega), R.vl (by omega), e, nI_clamp (by omega)]
      by_cases q2 : b / 2 = pl
      · rw [if_pos (show nI (b / 2) = nI pl by rw [q2]), if_pos ⟨q, q2⟩]
        rfl
      · rw [if_neg (fun z => q2 ((nI_eq (by omega) (by omega)).mp z)), if_neg (fun z => q2 z.2), show ∀ x : Int32, x + nI 0 = x from fun x => Int32.add_zero x]
        rfl
    · rw [if_pos (hs.mpr q), if_neg (fun z => q z.1), show ∀ x : Int32, x + nI 0 = x from fun x => Int32.add_zero x]
      rfl
  · show (if rI m 10 4 ≤ nI (pN f) then _ else _) = _
    rw [R.pc, V.p0, if_pos (nI_le (Nat.le_refl _) (by omega))]
/-- whether a note stands there among the first so many -/
def oldN (f : Nat → Int32) (i k : Nat) : Bool := anyN (fun j => decide (f (175 + 2 * i) = f (175 + 2 * j) ∧ f (175 + 2 * i + 1) = f (175 + 2 * j + 1))) k
def unR (f : Nat → Int32) : Nat → Nat
  | 0 => 0
  | n + 1 => if oldN f n n = true then unR f n else unR f n + 1
theorem unR_le : ∀ n, unR f n ≤ n
  | 0 => Nat.le_refl _
  | n + 1 => by
    have := unR_le n
    show (if oldN f n n = true then unR f n else unR f n + 1) ≤ n + 1
    split <;> omega
theorem d26 (R : RC m 1 f) (V : rv f) {i : Nat} (hi : i < tN f) : D26 m (nI i) = some (if oldN f i i = true then nI 1 else nI 0) := by
  have h61 := V.t61
  unfold D26
  have k := lp_inv (F := 3000) (s0 := nI 0) (f := fun (s1 : Int32) => if nI i ≤ s1 then some (Sum.inr (α := Int32) (nI 0)) else if (rI m 15 1) ≤ nI i then some (.inr (nI 0)) else (gL m 16 61 s1).bind fun (x2 : Int64) => (gL m 16 61 (nI i)).bind fun (x3 : Int64) => if (lg_cmp x2 x3) = (nI 0) then some (.inr (nI 1)) else some (.inl (s1 + (nI 1))))
    (fun k s => s = nI k ∧ oldN f i k = false) (fun x => x = if oldN f i i = true then nI 1 else nI 0) i (by omega) ⟨rfl, rfl⟩ ?_ ?_
  · obtain ⟨x, e, h⟩ := k
    rw [e, h]
  · rintro k s hk ⟨rfl, ho⟩
    have hn := nt3_eq V.p8 (R.nt (show k < tN f by omega)) (R.nt hi)
    show (∃ s', (if nI i ≤ nI k then _ else if rI m 15 1 ≤ nI i then _ else Option.bind (gL m 16 61 (nI k)) _) = _ ∧ _) ∨ (∃ b, (if nI i ≤ nI k then _ else if rI m 15 1 ≤ nI i then _ else Option.bind (gL m 16 61 (nI k)) _) = _ ∧ _)
    rw [if_neg (nI_ge hk (by omega)), R.tc, V.t0, if_neg (nI_ge hi (by omega)), gL_n (by omega) (by omega), gL_n (by omega) (by omega)]
    show (∃ s', (if lg_cmp (rL m 16 k) (rL m 16 i) = nI 0 then _ else _) = _ ∧ _) ∨ (∃ b, (if lg_cmp (rL m 16 k) (rL m 16 i) = nI 0 then _ else _) = _ ∧ _)
    by_cases q : rL m 16 k = rL m 16 i
    · rw [if_pos (lg0.mpr q)]
      refine .inr ⟨nI 1, rfl, ?_⟩
      have h2 := hn.mp q
      have ho1 : oldN f i i = true := an_t i k hk (decide_eq_true ⟨h2.1.symm, h2.2.symm⟩)
      rw [if_pos ho1]
    · rw [if_neg (fun z => q (lg0.mp z))]
      refine .inl ⟨nI k + nI 1, rfl, nI_add k 1, ?_⟩
      show (anyN _ k || _) = false
      have : oldN f i k = false := ho
      unfold oldN at this
      rw [this, Bool.false_or, decide_eq_false_iff_not]
      exact fun z => q (hn.mpr ⟨z.1.symm, z.2.symm⟩)
  · rintro s ⟨rfl, ho⟩
    refine ⟨nI 0, ?_, ?_⟩
    · show (if nI i ≤ nI i then _ else _) = _
      rw [if_pos (nI_le (Nat.le_refl _) (by omega))]
    · rw [ho, if_neg (by decide)]
theorem d25 (R : RC m 1 f) (V : rv f) : D25 m = some (nI (unR f (tN f))) := by
  have h61 := V.t61
  unfold D25
  refine lpb (nI (unR f (tN f))) (fun i => (nI (unR f i), nI i)) (tN f) (by omega) rfl (fun i hi => ?_) ?_ rfl
  · show (if rI m 15 1 ≤ nI i then _ else Option.bind (D26 m (nI i)) _) = _
    rw [R.tc, V.t0, if_neg (nI_ge hi (by omega)), d26 R V hi]
    show Option.bind (if (if oldN f i i = true then nI 1 else nI 0) = nI 0 then some (nI (unR f i) + nI 1) else some (nI (unR f i))) _ = some (Sum.inl (nI (if oldN f i i = true then unR f i else unR f i + 1), nI (i + 1)))
    rw [← nI_add i 1]
    by_cases q : oldN f i i = true
    · rw [if_pos q, if_pos q, if_neg (by decide)]
      rfl
    · rw [if_neg q, if_neg q, if_pos rfl, nI_add]
      rfl
  · show (if rI m 15 1 ≤ nI (tN f) then _ else _) = _
    rw [R.tc, V.t0, if_pos (nI_le (Nat.le_refl _) (by omega))]
/-- why a courier cannot take a street -/
def why (f : Nat → Int32) (c s : Nat) : Nat := if ov f = 0 then (if f (1 + 4 * s) = f (97 + 5 * c + 0) then (if f (1 + 4 * s + 3) = nI 1 then (if f (1 + 4 * s + 2) = nI 1 ∧ f (97 + 5 * c + 1) = nI 1 then 4 else 0) else 3) else 2) else 1
theorem why_le {c s : Nat} : why f c s ≤ 4 := by
  unfold why
  split
  · split
    · split
      · split <;> omega
      · omega
    · omega
  · omega
theorem d51 (R : RC m 1 f) (V : rv f) {c s : Nat} (hc : c < 4) (hs : s < sN f) : D51 m (nI c) (nI s) = some (nI (why f c s)) := by
  have h24 := V.s24
  have ho := ov_le (f := f)
  unfold D51 why
  rw [d128 hc, d59 R V hs, d44 R V, gI_n (by omega) (by omega), R.fr (by omega), gI_n hc (by omega), R.at hc, d62 R (by omega), d3 R V hc]
  show (if nI (ov f) = nI 0 then (if f (1 + 4 * s) = f (97 + 5 * c + 0) then (if (if f (1 + 4 * s + 3) = nI 1 then nI 1 else nI 0) = nI 0 then some (nI 3) else Option.bind (D64 m (nI s) (f (97 + 5 * c + 1))) _) else some (nI 2)) else some (nI 1)) = _
  by_cases q1 : ov f = 0
  · rw [if_pos (show nI (ov f) = nI 0 by rw [q1]), if_pos q1]
    by_cases q2 : f (1 + 4 * s) = f (97 + 5 * c + 0)
    · rw [if_pos q2, if_pos q2]
      by_cases q3 : f (1 + 4 * s + 3) = nI 1
      · rw [if_pos q3, if_pos q3, if_neg (by decide)]
        obtain ⟨t, et, ht, -⟩ := d64e R (vsm V hc) (show s < 24 by omega)
        rw [et]
        show Option.bind (if t = nI 0 then some (nI 4) else some (nI 0)) _ = _
        have hcn : cn f s (f (97 + 5 * c + 1)) = ¬ (f (1 + 4 * s + 2) = nI 1 ∧ f (97 + 5 * c + 1) = nI 1) := by
          unfold cn
          simp only [q3, true_and]
        by_cases q4 : f (1 + 4 * s + 2) = nI 1 ∧ f (97 + 5 * c + 1) = nI 1
        · rw [if_pos q4, if_pos (ht.mpr (by rw [hcn]; exact fun z => z q4))]
          rfl
        · rw [if_neg q4, if_neg (fun z => (ht.mp z) (by rw [hcn]; exact q4))]
          rfl
      · rw [if_neg q3, if_neg q3, if_pos rfl]
    · rw [if_neg q2, if_neg q2]
  · rw [if_neg (fun z => q1 ((nI_eq (by omega) (by omega)).mp z)), if_neg q1]
end H2
