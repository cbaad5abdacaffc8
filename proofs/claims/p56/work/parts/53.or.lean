/-! CHANGES: orders, turns, places, parcels -/
section OR
variable {m m1 m2 : dM} {s : gS} {f g : Nat → Int32} {X : Nat × (Nat → Int32)} {i : Nat}
theorem RC_ord (R : RC m 1 f) (V : rv f) {c : Nat} (hc : c < 4) {v : Int32} (c1 : chg (fun b => b = 7) m m1) (h7 : rI m1 7 = upd (rI m 7) c v) : RC m1 1 (upd f (97 + 5 * c + 2) v) := by
  refine R.mkc (c1.mono (fun b q => by omega)) (fun x q => upd_n (fun z => q (by omega))) (fun b hb => ?_) V
  show bt (rI m1 5 4) b = _ ∧ rI m1 6 b = _ ∧ rI m1 7 b = _ ∧ rI m1 8 b = _ ∧ rI m1 9 b = _
  rw [c1.1 5 (by omega), c1.1 6 (by omega), c1.1 8 (by omega), c1.1 9 (by omega), h7, upd_n (show 97 + 5 * b + 1 ≠ 97 + 5 * c + 2 by omega), upd_n (show 97 + 5 * b + 0 ≠ 97 + 5 * c + 2 by omega), upd_n (show 97 + 5 * b + 3 ≠ 97 + 5 * c + 2 by omega), upd_n (show 97 + 5 * b + 4 ≠ 97 + 5 * c + 2 by omega)]
  refine ⟨R.vb hb, R.at hb, ?_, R.mv hb, R.oc hb⟩
  by_cases e : b = c
  · subst e
    rw [upd_s, upd_s]
  · rw [upd_n e, upd_n (by omega)]
    exact R.od hb
theorem rv_ord (V : rv f) {c : Nat} (hc : c < 4) {v : Int32} (hv : v = -1 ∨ ∃ s, s < sN f ∧ v = nI s ∧ f (1 + 4 * s) = f (97 + 5 * c + 0) ∧ f (1 + 4 * s + 3) = nI 1) : rv (upd f (97 + 5 * c + 2) v) := by
  have h24 := V.s24
  have e : ∀ x, x ≠ 97 + 5 * c + 2 → upd f (97 + 5 * c + 2) v x = f x := fun x q => upd_n q
  refine ⟨V.1.cg (fun x q => e x (by omega)), ⟨fun b hb => ?_, fun b hb d hd hn => ?_⟩, V.2.2.1.cg (fun x q _ => e x (by omega)), V.2.2.2.cg V.p8 (fun x q _ _ _ => e x (by omega))⟩
  · rw [e (97 + 5 * b + 0) (by omega), e (97 + 5 * b + 1) (by omega), sN.cg (e 0 (by omega))]
    obtain ⟨q1, q2, q3⟩ := V.2.1.1 b hb
    refine ⟨q1, q2, ?_⟩
    by_cases w : b = c
    · subst w
      rw [upd_s]
      rcases hv with hv | ⟨s, z1, z2, z3, z4⟩
      · exact .inl hv
      · refine .inr ⟨s, z1, z2, ?_, ?_⟩
        · rw [e (1 + 4 * s) (by omega)]; exact z3
        · rw [e (1 + 4 * s + 3) (by omega)]; exact z4
    · rw [e (97 + 5 * b + 2) (by omega)]
      rcases q3 with hv | ⟨s, z1, z2, z3, z4⟩
      · exact .inl hv
      · refine .inr ⟨s, z1, z2, ?_, ?_⟩
        · rw [e (1 + 4 * s) (by omega)]; exact z3
        · rw [e (1 + 4 * s + 3) (by omega)]; exact z4
  · rw [e (97 + 5 * b + 0) (by omega), e (97 + 5 * d + 0) (by omega)]
    exact V.2.1.2 b hb d hd hn
theorem d4 {c : Nat} (hc : c < 4) : ∃ m', D4 m (nI c) = some (if rI m 7 c = -1 then nI 0 else nI 1, m') ∧ chg (fun b => b = 7) m m' ∧ rI m' 7 = upd (rI m 7) c (-1) := by
  unfold D4
  rw [d128 hc, gI_n hc (by omega)]
  show ∃ m', (if rI m 7 c = -1 then some (nI 0, m) else Option.bind (sI m 7 4 (nI c) (-1)) _) = _ ∧ _
  by_cases q : rI m 7 c = -1
  · rw [if_pos q, if_pos q]
    refine ⟨m, rfl, chg.rf, ?_⟩
    have := (upd_self (f := rI m 7) (x := c)).symm
    rw [q] at this
    exact this
  · rw [if_neg q, if_neg q, sI_n hc (by omega)]
    exact ⟨wI m 7 c (-1), rfl, chg.wI chg.rf rfl, rI_ws⟩
theorem why0 {c s' : Nat} (h : why f c s' = 0) : ov f = 0 ∧ f (1 + 4 * s') = f (97 + 5 * c + 0) ∧ f (1 + 4 * s' + 3) = nI 1 := by
  unfold why at h
  split at h
  · rename_i q1
    split at h
    · rename_i q2
      split at h
      · rename_i q3
        exact ⟨q1, q2, q3⟩
      · omega
    · omega
  · omega
theorem d50 (R : RC m 1 f) (V : rv f) {c b : Nat} (hc : c < 4) (hb : b < sN f) : D50 m (nI c) (nI b) = some (f (1 + 4 * b + 1), wI m 7 c (nI b)) := by
  have h24 := V.s24
  unfold D50
  rw [d128 hc, d59 R V hb]
  show Option.bind (sI m 7 4 (nI c) (nI b)) _ = _
  rw [sI_n hc (by omega)]
  show Option.bind (gI (wI m 7 c (nI b)) 4 24 (nI b)) _ = _
  rw [gI_n (by omega) (by omega), rI_wn (by decide), R.to (by omega)]
  rfl
theorem gB_j {p : Prop} {dp : Decidable p} : gB (@ite _ p dp (nI 0) (nI 1)) = some (@ite _ p dp (nI 0) (nI 1)) := by
  by_cases h : p
  · rw [if_pos h]; rfl
  · rw [if_neg h]; rfl
/-- a courier is placed -/
def plF (f : Nat → Int32) (c j : Nat) : Nat → Int32 := upd (upd f (97 + 5 * c + 0) (nI j)) (97 + 5 * c + 2) (-1)
def ocB (f : Nat → Int32) (c j b : Nat) : Bool := decide (b ≠ c ∧ f (97 + 5 * b + 0) = nI j)
theorem oc_no {c j n : Nat} (h : anyN (ocB f c j) n = false) : ∀ b, b < n → b ≠ c → f (97 + 5 * b + 0) ≠ nI j := fun b hb hn e => by
  have := an_f n h b hb
  unfold ocB at this
  rw [decide_eq_false_iff_not] at this
  exact this ⟨hn, e⟩
theorem pl_rv (V : rv f) {c j : Nat} (hc : c < 4) (hj : j < 10) (h : anyN (ocB f c j) 4 = false) : rv (plF f c j) := by
  have h24 := V.s24
  have e : ∀ x, x ≠ 97 + 5 * c + 0 → x ≠ 97 + 5 * c + 2 → plF f c j x = f x := fun x q1 q2 => (upd_n q2).trans (upd_n q1)
  have e0 : plF f c j (97 + 5 * c + 0) = nI j := (upd_n (by omega)).trans upd_s
  have e2 : plF f c j (97 + 5 * c + 2) = -1 := upd_s
  have hno := oc_no h
  refine ⟨V.1.cg (fun x q => e x (by omega) (by omega)), ⟨fun b hb => ?_, fun b hb d hd hn => ?_⟩, V.2.2.1.cg (fun x q _ => e x (by omega) (by omega)), V.2.2.2.cg V.p8 (fun x q _ _ _ => e x (by omega) (by omega))⟩
  · obtain ⟨q1, q2, q3⟩ := V.2.1.1 b hb
    by_cases w : b = c
    · subst w
      rw [e0, e2, e (97 + 5 * b + 1) (by omega) (by omega)]
      exact ⟨sm_nI hj, q2, .inl rfl⟩
    · rw [e (97 + 5 * b + 0) (by omega) (by omega), e (97 + 5 * b + 1) (by omega) (by omega), e (97 + 5 * b + 2) (by omega) (by omega), sN.cg (e 0 (by omega) (by omega))]
      refine ⟨q1, q2, ?_⟩
      rcases q3 with hv | ⟨s, z1, z2, z3, z4⟩
      · exact .inl hv
      · refine .inr ⟨s, z1, z2, ?_, ?_⟩
        · rw [e (1 + 4 * s) (by omega) (by omega)]; exact z3
        · rw [e (1 + 4 * s + 3) (by omega) (by omega)]; exact z4
  · by_cases w : b = c
    · subst w
      rw [e0, e (97 + 5 * d + 0) (by omega) (by omega)]
      exact fun z => hno d hd (Ne.symm hn) z.symm
    · by_cases w2 : d = c
      · subst w2
        rw [e0, e (97 + 5 * b + 0) (by omega) (by omega)]
        exact hno b hb w
      · rw [e (97 + 5 * b + 0) (by omega) (by omega), e (97 + 5 * d + 0) (by omega) (by omega)]
        exact V.2.1.2 b hb d hd hn
theorem d2 (R : RC m 1 f) {p : Int32} : ∃ x, D2 m p = some x ∧ ((x = -1 ∧ ∀ c, c < 4 → f (97 + 5 * c + 0) ≠ p) ∨ ∃ c, c < 4 ∧ x = nI c ∧ f (97 + 5 * c + 0) = p) := by
  unfold D2
  refine lp_inv (fun k t => t = nI k ∧ ∀ c, c < k → f (97 + 5 * c + 0) ≠ p) (fun x => (x = -1 ∧ ∀ c, c < 4 → f (97 + 5 * c + 0) ≠ p) ∨ ∃ c, c < 4 ∧ x = nI c ∧ f (97 + 5 * c + 0) = p) 4 (by omega) ⟨rfl, fun c hc => by omega⟩ ?_ ?_
  · rintro k t hk ⟨rfl, ho⟩
    show (∃ s', (if nI 4 ≤ nI k then _ else Option.bind (gI m 6 4 (nI k)) _) = _ ∧ _) ∨ (∃ b, (if nI 4 ≤ nI k then _ else Option.bind (gI m 6 4 (nI k)) _) = _ ∧ _)
    rw [if_neg (nI_ge hk (by omega)), gI_n hk (by omega), R.at hk]
    show (∃ s', (if f (97 + 5 * k + 0) = p then _ else _) = _ ∧ _) ∨ (∃ b, (if f (97 + 5 * k + 0) = p then _ else _) = _ ∧ _)
    by_cases q : f (97 + 5 * k + 0) = p
    · rw [if_pos q]
      exact .inr ⟨nI k, rfl, .inr ⟨k, hk, rfl, q⟩⟩
    · rw [if_neg q]
      refine .inl ⟨nI k + nI 1, rfl, nI_add k 1, fun c hc => ?_⟩
      by_cases e : c = k
      · rw [e]; exact q
      · exact ho c (by omega)
  · rintro t ⟨rfl, ho⟩
    refine ⟨-1, ?_, .inl ⟨rfl, ho⟩⟩
    show (if nI 4 ≤ nI 4 then _ else _) = _
    rw [if_pos (nI_le (Nat.le_refl 4) (by omega))]
theorem d48 (R : RC m 1 f) (V : rv f) {c j : Nat} (hc : c < 4) (V2 : rv (plF f c j)) : ∃ m', D48 m (nI c) (nI j) = some (f (97 + 5 * c + 0), m') ∧ chg nowC m m' ∧ RC m' 1 (nt (plF f c j) 0) := by
  unfold D48
  rw [d128 hc, gI_n hc (by omega), R.at hc]
  show ∃ m', Option.bind (sI m 6 4 (nI c) (nI j)) _ = _ ∧ _
  rw [sI_n hc (by omega)]
  show ∃ m', Option.bind (D4 (wI m 6 c (nI j)) (nI c)) _ = _ ∧ _
  obtain ⟨m2, e2, c2, h2⟩ := d4 (m := wI m 6 c (nI j)) hc
  rw [e2]
  have c3 : chg (fun b => b = 6 ∨ b = 7) m m2 := (chg.wI chg.rf (.inl rfl)).tr (c2.mono (fun b q => .inr q))
  have R2 : RC m2 1 (plF f c j) := by
    refine R.mkc (c3.mono (fun b q => by omega)) (fun x q => (upd_n (fun z => q (by omega))).trans (upd_n (fun z => q (by omega)))) (fun b hb => ?_) V
    show bt (rI m2 5 4) b = _ ∧ rI m2 6 b = _ ∧ rI m2 7 b = _ ∧ rI m2 8 b = _ ∧ rI m2 9 b = _
    have e : ∀ x, x ≠ 97 + 5 * c + 0 → x ≠ 97 + 5 * c + 2 → plF f c j x = f x := fun x q1 q2 => (upd_n q2).trans (upd_n q1)
    rw [c3.1 5 (by omega), c3.1 8 (by omega), c3.1 9 (by omega), h2, c2.1 6 (by omega), rI_ws, rI_wn (by decide), e (97 + 5 * b + 1) (by omega) (by omega), e (97 + 5 * b + 3) (by omega) (by omega), e (97 + 5 * b + 4) (by omega) (by omega)]
    refine ⟨R.vb hb, ?_, ?_, R.mv hb, R.oc hb⟩
    · by_cases w : b = c
      · subst w
        rw [upd_s]
        exact ((upd_n (by omega)).trans upd_s).symm
      · rw [upd_n w, e (97 + 5 * b + 0) (by omega) (by omega)]
        exact R.at hb
    · by_cases w : b = c
      · subst w
        rw [upd_s]
        exact upd_s.symm
      · rw [upd_n w, e (97 + 5 * b + 2) (by omega) (by omega)]
        exact R.od hb
  obtain ⟨m3, e3, c4, R3⟩ := d43 R2 V2
  show ∃ m', Option.bind (D43 m2) _ = _ ∧ _
  rw [e3]
  exact ⟨m3, rfl, (c3.mono (fun b q => .inl (by omega))).tr (c4.mono (fun b q => .inl (by omega))), R3⟩
end OR
