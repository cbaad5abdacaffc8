/-! THE START: the pictures hold -/
def ckB (m : dM) (f : Nat → Int32) : Bool :=
  decide (rI m 2 4 = f 0 ∧ ∀ s, s < 24 → rI m 3 s = f (1 + 4 * s) ∧ rI m 4 s = f (1 + 4 * s + 1) ∧ bt (rI m 2 2) s = decide (f (1 + 4 * s + 2) = nI 1) ∧ bt (rI m 2 3) s = decide (f (1 + 4 * s + 3) = nI 1)) &&
  decide (∀ c, c < 4 → bt (rI m 5 4) c = decide (f (97 + 5 * c + 1) = nI 1) ∧ rI m 6 c = f (97 + 5 * c + 0) ∧ rI m 7 c = f (97 + 5 * c + 2) ∧ rI m 8 c = f (97 + 5 * c + 3) ∧ rI m 9 c = f (97 + 5 * c + 4)) &&
  decide (rI m 10 4 = f 117 ∧ ∀ p, p < 8 → rI m 11 p = f (118 + 6 * p + 1) ∧ rI m 12 p = f (118 + 6 * p + 2) ∧ rI m 13 p = f (118 + 6 * p + 3)) &&
  decide (rI m 15 1 = f 174 ∧ rL m 16 0 = lN 291 ∧ f 175 = nI (123 * 104976) ∧ f 176 = nI 0) &&
  decide ((∀ j, j < 2 → rI m 17 j = f (170 + j)) ∧ rI m 1 5 = f 166 ∧ rI m 1 6 = f 167 ∧ rI m 1 7 = f 168 ∧ rI m 1 8 = f 169 ∧ rI m 1 9 = if f 172 = nI 1 then f 173 else -1) &&
  decide (f 0 = nI 0 ∧ ∀ s, s < 24 → f (1 + 4 * s + 2) ≠ nI 1) &&
  decide (∀ c, c < 4 → f (97 + 5 * c + 0) = nI c ∧ f (97 + 5 * c + 1) = nI 0 ∧ f (97 + 5 * c + 2) = -1) &&
  decide (f 117 = nI 0 ∧ f 174 = nI 1 ∧ f 168 = nI 0 ∧ f 167 = nI 60 ∧ f 172 ≠ nI 1 ∧ f 170 = nI 0 ∧ f 171 = nI 0) &&
  decide (rI m 0 6 = nI 0 ∧ (∀ i, i < 5 → isS (rR m i) = true) ∧ ∀ i, i < 5 → ∀ j, j < 5 → rR m i = rR m j → i = j) &&
  decide (rI m 0 7 = nI 0 ∧ rI m 42 1 = nI 0 ∧ rI m 130 2 = nI 0 ∧ rI m 130 4 = nI 0 ∧ rI m 130 6 = nI 0)
theorem ck_inv {m : dM} (h : ckB m (rI m 131) = true) : INV m := by
  generalize hf : rI m 131 = f at h
  unfold ckB at h
  simp only [Bool.and_eq_true] at h
  obtain ⟨⟨⟨⟨⟨⟨⟨⟨⟨c1, c2⟩, c3⟩, c4⟩, c5⟩, c6⟩, c7⟩, c8⟩, c9⟩, c10⟩ := h
  replace c1 := of_decide_eq_true c1
  replace c2 := of_decide_eq_true c2
  replace c3 := of_decide_eq_true c3
  replace c4 := of_decide_eq_true c4
  replace c5 := of_decide_eq_true c5
  replace c6 := of_decide_eq_true c6
  replace c7 := of_decide_eq_true c7
  replace c8 := of_decide_eq_true c8
  replace c9 := of_decide_eq_true c9
  replace c10 := of_decide_eq_true c10
  obtain ⟨n1, n2, n3, n4⟩ := c4
  obtain ⟨s1, s2⟩ := c6
  obtain ⟨q1, q2, q3, q4, q5, q6, q7⟩ := c8
  obtain ⟨r1, r2, r3⟩ := c9
  obtain ⟨t1, t2, t3, t4, t5⟩ := c10
  have hs : sN f = 0 := by unfold sN; rw [s1]; rfl
  have hp : pN f = 0 := by unfold pN; rw [q1]; rfl
  have ht : tN f = 1 := by unfold tN; rw [q2]; rfl
  refine ⟨(f, 0, (fun _ _ => 0), 0, (fun _ => 0), 0, (fun _ => 0)), ⟨⟨c1, c2, ⟨c3.1, fun p hp' => ⟨(c3.2 p hp').1, (c3.2 p hp').2.1, (c3.2 p hp').2.2, fun z => ?_⟩⟩, ⟨n1, fun i hi => ?_⟩, c5⟩, ⟨⟨?_, ?_, ?_, ?_⟩, ⟨?_, ?_⟩, ⟨?_, ?_, ?_⟩, ⟨?_, ?_, ?_, ?_, ?_, ?_⟩⟩, ⟨by show 0 ≤ 5; omega, r1, r2, fun i j hi hj => r3 i hi j hj, fun i hi => absurd hi (Nat.not_lt_zero i)⟩, ⟨by show 0 < 2; omega, t1, fun z => by cases z⟩, ⟨by show 0 ≤ 60; omega, t2, fun i hi => absurd hi (Nat.not_lt_zero i)⟩⟩, ⟨hf, ⟨t3, fun i hi => absurd hi (Nat.not_lt_zero i)⟩, ⟨t4, fun z => by cases z⟩, ⟨t5, fun i hi => absurd hi (Nat.not_lt_zero i)⟩⟩⟩
  · omega
  · have hi0 : i = 0 := by omega
    subst hi0
    refine ⟨fun c => c % 10, fun _ => 0, fun c _ => Nat.mod_lt _ (by omega), fun _ => by show 0 < 18; omega, fun _ _ => rfl, ?_, ?_, ?_⟩
    · show rL m 16 0 = _
      rw [n2, hp]
      rfl
    · show f 175 = _
      rw [n3]
      rfl
    · show f 176 = _
      rw [n4]
      rfl
  · rw [hs]; exact s1
  · omega
  · intro s hs'; omega
  · intro s _ hs'; exact s2 s hs'
  · intro c hc
    obtain ⟨a1, a2, a3⟩ := c7 c hc
    exact ⟨⟨c, by omega, a1⟩, ⟨0, by omega, a2⟩, .inl a3⟩
  · intro c hc b hb hn e
    rw [(c7 c hc).1, (c7 b hb).1] at e
    exact hn ((nI_eq (by omega) (by omega)).mp e)
  · rw [hp]; exact q1
  · omega
  · intro p hp'; omega
  · rw [ht]; exact q2
  · omega
  · exact ⟨0, by omega, q3, by omega⟩
  · exact ⟨60, by omega, q4⟩
  · intro z; exact absurd z q5
  · intro pl hpl
    rw [hp]
    have : pl = 0 ∨ pl = 1 := by omega
    rcases this with rfl | rfl
    · exact q6
    · exact q7
