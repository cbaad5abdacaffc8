/-! WAYS: the next street, the parcel that suits best -/
/-- a street with which a way of this length begins -/
def okS (f : Nat → Int32) (c b : Nat) (w : Int32) (s : Nat) : Prop := f (1 + 4 * s) = f (97 + 5 * c + 0) ∧ cn f s (f (97 + 5 * c + 1)) ∧ wy f (f (97 + 5 * c + 1)) (f (1 + 4 * s + 1)).toNatClampNeg b = w - nI 1
/-- the lowest such street from some street on -/
def FS (f : Nat → Int32) (c b : Nat) (w : Int32) (k : Nat) (x : Int32) : Prop := (∃ s, k ≤ s ∧ s < sN f ∧ okS f c b w s ∧ (∀ i, k ≤ i → i < s → ¬ okS f c b w i) ∧ x = nI s) ∨ ((∀ s, k ≤ s → s < sN f → ¬ okS f c b w s) ∧ x = -1)
theorem FS_uniq {f : Nat → Int32} {c b k : Nat} {w x y : Int32} (h : FS f c b w k x) (q : FS f c b w k y) : x = y := by
  rcases h with ⟨s, h1, h2, h3, h4, rfl⟩ | ⟨h1, rfl⟩
  · rcases q with ⟨t, q1, q2, q3, q4, rfl⟩ | ⟨q1, rfl⟩
    · have : s = t := by
        rcases Nat.lt_trichotomy s t with e | e | e
        · exact absurd h3 (q4 s h1 e)
        · exact e
        · exact absurd q3 (h4 t q1 e)
      rw [this]
    · exact absurd h3 (q1 s h1 h2)
  · rcases q with ⟨t, q1, q2, q3, q4, rfl⟩ | ⟨q1, rfl⟩
    · exact absurd q3 (h1 t q1 q2)
    · rfl
/-- the way to a parcel and on to its target, or -1 -/
noncomputable def ww (f : Nat → Int32) (c p : Nat) : Int32 := if f (118 + 6 * p + 4) = nI 0 ∧ f (118 + 6 * p + 2) ≤ mx f c ∧ wy f (f (97 + 5 * c + 1)) (aV f c) (f (118 + 6 * p + 0)).toNatClampNeg ≠ -1 ∧ wy f (f (97 + 5 * c + 1)) (f (118 + 6 * p + 0)).toNatClampNeg (f (118 + 6 * p + 1)).toNatClampNeg ≠ -1 then wy f (f (97 + 5 * c + 1)) (aV f c) (f (118 + 6 * p + 0)).toNatClampNeg + wy f (f (97 + 5 * c + 1)) (f (118 + 6 * p + 0)).toNatClampNeg (f (118 + 6 * p + 1)).toNatClampNeg else -1
/-- the best among the first so many parcels: its number, the way, the value -/
noncomputable def bp (f : Nat → Int32) (c : Nat) : Nat → Int32 × Int32 × Int32
  | 0 => (-1, nI 0, nI 0)
  | n + 1 => if ww f c n ≠ -1 ∧ ((bp f c n).1 = -1 ∨ ww f c n < (bp f c n).2.1 ∨ (ww f c n = (bp f c n).2.1 ∧ (bp f c n).2.2 < f (118 + 6 * n + 3))) then (nI n, ww f c n, f (118 + 6 * n + 3)) else bp f c n
theorem bp_or (f : Nat → Int32) (c : Nat) : ∀ n, (bp f c n).1 = -1 ∨ ∃ q, q < n ∧ (bp f c n).1 = nI q ∧ (bp f c n).2.2 = f (118 + 6 * q + 3)
  | 0 => .inl rfl
  | n + 1 => by
    have ih := bp_or f c n
    show (ite _ _ _ : Int32 × Int32 × Int32).1 = -1 ∨ ∃ q, q < n + 1 ∧ (ite _ _ _ : Int32 × Int32 × Int32).1 = nI q ∧ (ite _ _ _ : Int32 × Int32 × Int32).2.2 = f (118 + 6 * q + 3)
    split
    · exact .inr ⟨n, by omega, rfl, rfl⟩
    · rcases ih with h | ⟨q, h1, h2⟩
      · exact .inl h
      · exact .inr ⟨q, by omega, h2⟩
section WA
variable {m : dM} {f : Nat → Int32}
theorem d53 (R : RC m 1 f) (V : rv f) {c b : Nat} (hc : c < 4) (hb : b < 10) : D53 m (nI c) (nI b) = some (wy f (f (97 + 5 * c + 1)) (aV f c) b) := by
  unfold D53
  rw [d128 hc, gI_n hc (by omega), R.at hc, aV_e V.2.1 hc, d3 R V hc]
  show Option.bind (D68 m (nI (aV f c)) (nI b) (f (97 + 5 * c + 1))) _ = _
  rw [d68w R V (vsm V hc) (aV_lt V.2.1 hc) hb]
  rfl
theorem d64e (R : RC m 1 f) {v : Int32} (hv : sm v 2) {s : Nat} (hs : s < 24) : ∃ t, D64 m (nI s) v = some t ∧ (t = nI 0 ↔ ¬ cn f s v) ∧ sm t 2 := by
  have dc : Decidable (cn f s v) := inferInstanceAs (Decidable (_ ∧ _))
  refine ⟨_, d64 R hv hs (dc := dc), by rw [it0], ?_⟩
  by_cases h : cn f s v
  · rw [if_pos h]; exact sm_nI (by omega)
  · rw [if_neg h]; exact sm_nI (by omega)
theorem d54 (R : RC m 1 f) (V : rv f) {c b : Nat} (hc : c < 4) (hb : b < 10) {w : Int32} : ∃ x, D54 m (nI c) (nI b) w = some x ∧ FS f c b w 0 x := by
  have h24 := V.s24
  unfold D54
  rw [d128 hc, d3 R V hc]
  show ∃ x, lp _ _ _ = some x ∧ _
  refine lp_inv (fun k s => s = nI k ∧ ∀ i, i < k → ¬ okS f c b w i) (fun x => FS f c b w 0 x) (sN f) (by omega) ⟨rfl, fun i hi => by omega⟩ ?_ ?_
  · rintro k s hk ⟨rfl, hn⟩
    obtain ⟨⟨i, hi, ei⟩, ⟨j, hj, ej⟩, -⟩ := V.1.2.2.1 k hk
    have e0 : ∀ A B : Option (Int32 ⊕ Int32), (if rI m 2 4 ≤ nI k then A else B) = B := fun A B => by rw [R.sc, V.s0, if_neg (nI_ge hk (by omega))]
    have e1 : gI m 3 24 (nI k) = some (f (1 + 4 * k)) := by rw [gI_n (by omega) (by omega), R.fr (by omega)]
    have e2 : gI m 4 24 (nI k) = some (nI j) := by rw [gI_n (by omega) (by omega), R.to (by omega), ej]
    have e3 : gI m 6 4 (nI c) = some (f (97 + 5 * c + 0)) := by rw [gI_n hc (by omega), R.at hc]
    have hgo : ¬ okS f c b w k → (∃ s', some (Sum.inl (β := Int32) (nI k + nI 1)) = some (Sum.inl s') ∧ s' = nI (k + 1) ∧ ∀ i, i < k + 1 → ¬ okS f c b w i) := fun q => ⟨_, rfl, nI_add k 1, fun i hi => by
      by_cases e : i = k
      · rw [e]; exact q
      · exact hn i (by omega)⟩
    show (∃ s', (if rI m 2 4 ≤ nI k then _ else _) = _ ∧ _) ∨ (∃ b', (if rI m 2 4 ≤ nI k then _ else _) = _ ∧ _)
    rw [e0, e1, e3, e2]
    show (∃ s', (if f (1 + 4 * k) = f (97 + 5 * c + 0) then _ else _) = _ ∧ _) ∨ (∃ b', (if f (1 + 4 * k) = f (97 + 5 * c + 0) then _ else _) = _ ∧ _)
    by_cases q1 : f (1 + 4 * k) = f (97 + 5 * c + 0)
    · obtain ⟨t, et, ht, -⟩ := d64e R (vsm V hc) (show k < 24 by omega)
      rw [if_pos q1, et]
      show (∃ s', (if t = nI 0 then _ else Option.bind (D68 m (nI j) (nI b) (f (97 + 5 * c + 1))) _) = _ ∧ _) ∨ (∃ b', (if t = nI 0 then _ else Option.bind (D68 m (nI j) (nI b) (f (97 + 5 * c + 1))) _) = _ ∧ _)
      rw [d68w R V (vsm V hc) hj hb]
      by_cases q2 : cn f k (f (97 + 5 * c + 1))
      · rw [if_neg (fun z => ht.mp z q2)]
        show (∃ s', (if wy f (f (97 + 5 * c + 1)) j b = w - nI 1 then _ else _) = _ ∧ _) ∨ (∃ b', (if wy f (f (97 + 5 * c + 1)) j b = w - nI 1 then _ else _) = _ ∧ _)
        have ejn : (f (1 + 4 * k + 1)).toNatClampNeg = j := by rw [ej, nI_clamp (by omega)]
        by_cases q3 : wy f (f (97 + 5 * c + 1)) j b = w - nI 1
        · rw [if_pos q3]
          exact .inr ⟨nI k, rfl, .inl ⟨k, Nat.zero_le _, hk, ⟨q1, q2, by rw [ejn]; exact q3⟩, fun i _ hi => hn i hi, rfl⟩⟩
        · rw [if_neg q3]
          exact .inl (hgo (fun z => q3 (by rw [← ejn]; exact z.2.2)))
      · rw [if_pos (ht.mpr q2)]
        exact .inl (hgo (fun z => q2 z.2.1))
    · rw [if_neg q1]
      exact .inl (hgo (fun z => q1 z.1))
  · rintro s ⟨rfl, hn⟩
    refine ⟨-1, ?_, .inr ⟨fun s _ hs => hn s hs, rfl⟩⟩
    show (if rI m 2 4 ≤ nI (sN f) then _ else _) = _
    rw [R.sc, V.s0, if_pos (nI_le (Nat.le_refl _) (by omega))]
end WA
