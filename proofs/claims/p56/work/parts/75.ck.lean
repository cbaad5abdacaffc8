/-! THE START: the pictures hold -/
/-- the first row, the outcomes as the class has them -/
def f0 (m : dM) (x : Nat) : Int32 := if 97 ≤ x ∧ x < 117 then (if (x - 97) % 5 = 0 then nI ((x - 97) / 5) else if (x - 97) % 5 = 2 then -1 else if (x - 97) % 5 = 4 then rI m 9 ((x - 97) / 5) else nI 0) else if x = 166 then nI 5 else if x = 167 then nI 40 else if x = 174 then nI 1 else if x = 175 then nI (123 * 104976) else nI 0
def ckB (m : dM) (f : Nat → Int32) : Bool :=
  (decide (rI m 2 4 = f 0) && (List.range 24).all fun s => decide (rI m 3 s = f (1 + 4 * s) ∧ rI m 4 s = f (1 + 4 * s + 1) ∧ bt (rI m 2 2) s = decide (f (1 + 4 * s + 2) = nI 1) ∧ bt (rI m 2 3) s = decide (f (1 + 4 * s + 3) = nI 1))) &&
  ((List.range 4).all fun c => decide (bt (rI m 5 4) c = decide (f (97 + 5 * c + 1) = nI 1) ∧ rI m 6 c = f (97 + 5 * c + 0) ∧ rI m 7 c = f (97 + 5 * c + 2) ∧ rI m 8 c = f (97 + 5 * c + 3) ∧ rI m 9 c = f (97 + 5 * c + 4))) &&
  (decide (rI m 10 4 = f 117) && (List.range 8).all fun p => decide (rI m 11 p = f (118 + 6 * p + 1) ∧ rI m 12 p = f (118 + 6 * p + 2) ∧ rI m 13 p = f (118 + 6 * p + 3))) &&
  decide (rI m 15 1 = f 174 ∧ rL m 16 0 = lN 291 ∧ f 175 = nI (123 * 104976) ∧ f 176 = nI 0) &&
  ((List.range 2).all (fun j => decide (rI m 17 j = f (170 + j))) && decide (rI m 1 5 = f 166 ∧ rI m 1 6 = f 167 ∧ rI m 1 7 = f 168 ∧ rI m 1 8 = f 169 ∧ rI m 1 9 = if f 172 = nI 1 then f 173 else -1)) &&
  (decide (f 0 = nI 0) && (List.range 24).all fun s => decide (f (1 + 4 * s + 2) ≠ nI 1)) &&
  ((List.range 4).all fun c => decide (f (97 + 5 * c + 0) = nI c ∧ f (97 + 5 * c + 1) = nI 0 ∧ f (97 + 5 * c + 2) = -1)) &&
  decide (f 117 = nI 0 ∧ f 174 = nI 1 ∧ f 168 = nI 0 ∧ f 167 = nI 40 ∧ f 172 ≠ nI 1 ∧ f 170 = nI 0 ∧ f 171 = nI 0) &&
  (decide (rI m 0 6 = nI 0) && (List.range 5).all (fun i => isS (rR m i) && (List.range 5).all fun j => decide (rR m i ≠ rR m j) || decide (i = j))) &&
  decide (rI m 0 7 = nI 0 ∧ rI m 42 1 = nI 0 ∧ f 166 = nI 5)
theorem rg_all {n : Nat} {P : Nat → Bool} (h : (List.range n).all P = true) (i : Nat) (hi : i < n) : P i = true := List.all_eq_true.mp h i (List.mem_range.mpr hi)
theorem n_start : nI (pb (pa (fun c => c) 4) (fun _ => 0) 4) = nI (123 * 104976) := by decide +kernel
theorem ck_inv {m : dM} {f : Nat → Int32} (h : ckB m f = true) : ∃ s, IC m s ∧ EE s.1 := by
  unfold ckB at h
  obtain ⟨h, d10⟩ := (Bool.and_eq_true _ _).mp h
  obtain ⟨h, d9⟩ := (Bool.and_eq_true _ _).mp h
  obtain ⟨h, d8⟩ := (Bool.and_eq_true _ _).mp h
  obtain ⟨h, d7⟩ := (Bool.and_eq_true _ _).mp h
  obtain ⟨h, d6⟩ := (Bool.and_eq_true _ _).mp h
  obtain ⟨h, d5⟩ := (Bool.and_eq_true _ _).mp h
  obtain ⟨h, d4⟩ := (Bool.and_eq_true _ _).mp h
  obtain ⟨h, d3⟩ := (Bool.and_eq_true _ _).mp h
  obtain ⟨d1, d2⟩ := (Bool.and_eq_true _ _).mp h
  obtain ⟨d1a, d1b⟩ := (Bool.and_eq_true _ _).mp d1
  obtain ⟨d3a, d3b⟩ := (Bool.and_eq_true _ _).mp d3
  obtain ⟨d5a, d5b⟩ := (Bool.and_eq_true _ _).mp d5
  obtain ⟨d6a, d6b⟩ := (Bool.and_eq_true _ _).mp d6
  obtain ⟨d9a, d9b⟩ := (Bool.and_eq_true _ _).mp d9
  have c1 : RCs m 1 f := ⟨of_decide_eq_true d1a, fun s hs => of_decide_eq_true (rg_all d1b s hs)⟩
  have c2 : RCc m 1 f := fun c hc => of_decide_eq_true (rg_all d2 c hc)
  have c3 : rI m 10 4 = f 117 ∧ ∀ p, p < 8 → rI m 11 p = f (118 + 6 * p + 1) ∧ rI m 12 p = f (118 + 6 * p + 2) ∧ rI m 13 p = f (118 + 6 * p + 3) := ⟨of_decide_eq_true d3a, fun p hp => of_decide_eq_true (rg_all d3b p hp)⟩
  have c4 := of_decide_eq_true d4
  have c5 : RCm m 1 f := ⟨fun j hj => of_decide_eq_true (rg_all d5a j hj), of_decide_eq_true d5b⟩
  have c6 : f 0 = nI 0 ∧ ∀ s, s < 24 → f (1 + 4 * s + 2) ≠ nI 1 := ⟨of_decide_eq_true d6a, fun s hs => of_decide_eq_true (rg_all d6b s hs)⟩
  have c7 : ∀ c, c < 4 → f (97 + 5 * c + 0) = nI c ∧ f (97 + 5 * c + 1) = nI 0 ∧ f (97 + 5 * c + 2) = -1 := fun c hc => of_decide_eq_true (rg_all d7 c hc)
  have c8 := of_decide_eq_true d8
  have r1 : rI m 0 6 = nI 0 := of_decide_eq_true d9a
  have r2 : ∀ i, i < 5 → isS (rR m i) = true := fun i hi => ((Bool.and_eq_true _ _).mp (rg_all d9b i hi)).1
  have r3 : ∀ i, i < 5 → ∀ j, j < 5 → rR m i = rR m j → i = j := fun i hi j hj e => by
    have z := rg_all ((Bool.and_eq_true _ _).mp (rg_all d9b i hi)).2 j hj
    rw [Bool.or_eq_true, decide_eq_true_eq, decide_eq_true_eq] at z
    exact z.resolve_left (fun y => y e)
  have c10 := of_decide_eq_true d10
  obtain ⟨n1, n2, n3, n4⟩ := c4
  obtain ⟨s1, s2⟩ := c6
  obtain ⟨q1, q2, q3, q4, q5, q6, q7⟩ := c8
  obtain ⟨t1, t2, t3⟩ := c10
  have hs : sN f = 0 := (congrArg Int32.toNatClampNeg s1).trans rfl
  have hp : pN f = 0 := (congrArg Int32.toNatClampNeg q1).trans rfl
  have ht : tN f = 1 := (congrArg Int32.toNatClampNeg q2).trans rfl
  have v1 : rvS f := by
    refine ⟨?_, ?_, ?_, ?_⟩
    · rw [hs]; exact s1
    · rw [hs]; exact Nat.zero_le _
    · intro s hs'
      rw [hs] at hs'
      exact absurd hs' (Nat.not_lt_zero s)
    · intro s _ hs'
      exact s2 s hs'
  have v2 : rvC f := by
    refine ⟨fun c hc => ?_, fun c hc b hb hn e => ?_⟩
    · obtain ⟨a1, a2, a3⟩ := c7 c hc
      exact ⟨⟨c, by omega, a1⟩, ⟨0, by omega, a2⟩, .inl a3⟩
    · rw [(c7 c hc).1, (c7 b hb).1] at e
      exact hn ((nI_eq (by omega) (by omega)).mp e)
  have v3 : rvP f := by
    refine ⟨?_, ?_, ?_⟩
    · rw [hp]; exact q1
    · rw [hp]; exact Nat.zero_le _
    · intro p hp'
      rw [hp] at hp'
      exact absurd hp' (Nat.not_lt_zero p)
  have v4 : rvN f := by
    refine ⟨?_, ?_, ?_, ?_, ?_, ?_⟩
    · rw [ht]; exact q2
    · rw [ht]; exact Nat.le_refl _
    · exact ⟨0, by omega, q3, by rw [ht]; exact Nat.le_refl _⟩
    · exact ⟨40, by omega, q4⟩
    · intro z; exact absurd z q5
    · intro pl hpl
      rw [hp]
      have : pl = 0 ∨ pl = 1 := by omega
      rcases this with rfl | rfl
      · exact q6
      · exact q7
  have w3 : RCp m 1 f := ⟨c3.1, fun p hp' => ⟨(c3.2 p hp').1, (c3.2 p hp').2.1, (c3.2 p hp').2.2, fun z => by
    rw [hp] at z
    exact absurd z (Nat.not_lt_zero p)⟩⟩
  have w4 : RCn m 1 f := by
    refine ⟨n1, fun i hi => ?_⟩
    rw [ht] at hi
    have hi0 : i = 0 := by omega
    subst hi0
    rw [hp]
    exact ⟨fun c => c % 10, fun _ => 0, fun c _ => Nat.mod_lt _ (by omega), fun _ => by show 0 < 18; omega, fun _ _ => rfl, n2.trans rfl, n3.trans rfl, n4.trans rfl⟩
  have w : RC m 1 f := ⟨c1, c2, w3, w4, c5⟩
  have v : rv f := ⟨v1, v2, v3, v4⟩
  have no : ∀ i : Nat, ∀ {P : Prop}, i < 0 → P := fun i _ z => absurd z (Nat.not_lt_zero i)
  have n01 : ∀ {P : Prop}, 0 = 1 → P := fun z => absurd z (by decide)
  have x1 : SC m 0 (fun _ _ => 0) := ⟨Nat.zero_le _, r1, r2, fun i j hi hj => r3 i hi j hj, fun i hi => no i hi⟩
  have x2 : KC m 0 (fun _ => 0) := ⟨by decide, t1, fun z => n01 z⟩
  have x3 : BC m 0 (fun _ => 0) := ⟨Nat.zero_le _, t2, fun i hi => no i hi⟩
  have hq : ∀ p, qV f p = 0 := fun p => by
    unfold qV
    rw [hp, if_neg (Nat.not_lt_zero p)]
  have ha : pa (aV f) 4 = pa (fun c => c) 4 := pa_eq 4 fun c hc => by
    unfold aV
    rw [(c7 c hc).1, nI_clamp (by omega)]
  have hf1 : nI (f1 f) = nI (123 * 104976) := by
    unfold f1
    rw [ha, pb_eq (b := fun _ => 0) 4 (fun p _ => hq p)]
    exact n_start
  have hf2 : nI (f2 f) = nI 0 := by
    unfold f2
    rw [pb_eq (b := fun _ => 0) 4 (fun p _ => hq (4 + p))]
    decide +kernel
  have e : EE f := by
    refine ⟨⟨fun c hc => ?_, fun p hp' => ?_, 5, by omega, t3⟩, 0, ?_, ?_, ?_⟩
    · rw [hp]
      show nI 0 ≤ mx f c
      unfold mx
      rw [(c7 c hc).2.1, if_neg (by decide), t3]
      decide
    · rw [hp] at hp'
      exact absurd hp' (Nat.not_lt_zero p)
    · rw [ht]
      omega
    · rw [hf1]
      exact n3
    · rw [hf2]
      exact n4
  exact ⟨(f, 0, (fun _ _ => 0), 0, (fun _ => 0), 0, (fun _ => 0)), ⟨w, v, x1, x2, x3⟩, e⟩
