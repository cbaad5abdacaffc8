/-! THE DIGEST: both -/
theorem fb_ok : ∀ n, n < 161 → (D139 (fq n)).isSome = true ∧ (D139 (fq n)).map Int32.toInt64 = D241 (FP.f2d (fq n)) (nI 23) (nI 127) := by decide +kernel
theorem db_ok : ∀ n, n < 9 → ∀ d, d < 9 → 0 < n → d ≤ n → (D140 (dq d n)).isSome = true ∧ D140 (dq d n) = D241 (dq d n) (nI 52) (nI 1023) := by decide +kernel
theorem d0_ok : (D140 FP.dconst0).isSome = true ∧ D140 FP.dconst0 = D241 FP.dconst0 (nI 52) (nI 1023) := by decide +kernel
theorem lpi {σ α β : Type} {F : Nat} {f : σ → Option (σ ⊕ (α ⊕ β))} {s0 : σ} {Q : β → Prop} (P : Nat → σ → Prop) (N : Nat) (hF : N < F) (h0 : P 0 s0) (step : ∀ i s, i < N → P i s → ∃ s', f s = some (.inl s') ∧ P (i + 1) s') (fin : ∀ s, P N s → ∃ b, f s = some (.inr (.inr b)) ∧ Q b) : ∃ b, lp F f s0 = some (.inr b) ∧ Q b := by
  obtain ⟨z, ez, b, rfl, hb⟩ := lp_inv (F := F) (f := f) (s0 := s0) P (fun z => ∃ b, z = Sum.inr b ∧ Q b) N hF h0 (fun i s hi hp => .inl (step i s hi hp)) (fun s hp => by
    obtain ⟨b, e, hb⟩ := fin s hp
    exact ⟨.inr b, e, b, rfl, hb⟩)
  exact ⟨b, ez, hb⟩
theorem lpi2 {σ α γ β : Type} {F : Nat} {f : σ → Option (σ ⊕ (α ⊕ (γ ⊕ β)))} {s0 : σ} {Q : β → Prop} (P : Nat → σ → Prop) (N : Nat) (hF : N < F) (h0 : P 0 s0) (step : ∀ i s, i < N → P i s → ∃ s', f s = some (.inl s') ∧ P (i + 1) s') (fin : ∀ s, P N s → ∃ b, f s = some (.inr (.inr (.inr b))) ∧ Q b) : ∃ b, lp F f s0 = some (.inr (.inr b)) ∧ Q b := by
  obtain ⟨z, ez, b, rfl, hb⟩ := lpi (F := F) (f := f) (s0 := s0) (Q := fun z => ∃ b, z = Sum.inr b ∧ Q b) P N hF h0 step (fun s hp => by
    obtain ⟨b, e, hb⟩ := fin s hp
    exact ⟨.inr b, e, b, rfl, hb⟩)
  exact ⟨b, ez, hb⟩
section DZ
variable {m m0 m1 : dM} {s : gS} {f g : Nat → Int32} {X : Nat × (Nat → Int32)} {i c p b L : Nat} {cs : Nat → Int32} {h : Int64}
theorem fb_e {n : Nat} (hn : n < 161) : ∃ b : Int32, D139 (fq n) = some b ∧ D241 (FP.f2d (fq n)) (nI 23) (nI 127) = some b.toInt64 := by
  obtain ⟨h1, h2⟩ := fb_ok n hn
  obtain ⟨b, hb⟩ := Option.isSome_iff_exists.mp h1
  rw [hb] at h2
  exact ⟨b, hb, h2.symm⟩
theorem db_e (V : rv f) : ∃ d : Int64, D140 (dsh f) = some d ∧ D241 (dsh f) (nI 52) (nI 1023) = some d := by
  have h8 := V.p8
  have hd := de_le (f := f)
  have key : (D140 (dsh f)).isSome = true ∧ D140 (dsh f) = D241 (dsh f) (nI 52) (nI 1023) := by
    unfold dsh
    by_cases q : pN f = 0
    · rw [if_pos q]
      exact d0_ok
    · rw [if_neg q]
      exact db_ok _ (by omega) _ (by omega) (by omega) hd
  obtain ⟨h1, h2⟩ := key
  obtain ⟨b, hb⟩ := Option.isSome_iff_exists.mp h1
  exact ⟨b, hb, h2.symm.trans hb⟩
def SS (b : Nat) : Prop := (37 ≤ b ∧ b ≤ 41) ∨ b = 44
theorem hB_e (V : rv f) (R : RC m 1 f) : (∃ p, D84 m = some (nI 1) ∧ D85 m = some (.inl (nI p)) ∧ ∀ h, hB f h = hx (hx h (q1 (nI 1))) (nI p).toInt64) ∨ (D84 m = some (nI 0) ∧ ∀ h, hB f h = hx h (q1 (nI 0))) := by
  rcases st_or V with ⟨h1, p, h2, h3, h4⟩ | ⟨h1, h2⟩
  · left
    have hn : ¬ nI p = -1 := by rw [nI_m1 (by omega)]; exact id
    refine ⟨p, ?_, ?_, fun h => ?_⟩
    · unfold D84
      rw [R.st, h4, if_neg hn]
      rfl
    · unfold D85
      rw [R.st, h4, if_neg hn]
    · unfold hB
      rw [if_pos h1, h3]
      rfl
  · right
    refine ⟨?_, fun h => ?_⟩
    · unfold D84
      rw [R.st, h2, if_pos rfl]
      rfl
    · unfold hB
      rw [if_neg h1]
      rfl
set_option maxRecDepth 16384 in
theorem v122 (R : RC m 1 f) (V : rv f) (hB : BC m L cs) {k : Nat} (h0 : rI m 0 6 = nI k) {Y : Nat → Int32} (hY : ∀ c, c < 4 → mk (Y c) (rc f (f (97 + 5 * c + 1)) (aV f c) 10)) {n : Nat} (hn : n < 161) (hl : ldS f 4 = nI n) {bb : Int32} {dd : Int64} (hb : D139 (fq n) = some bb) (hd : D140 (dsh f) = some dd) : ∃ r, D122 m = some r ∧ ∃ m', r = (.inl (hZ f Y k L cs bb.toInt64 dd), m') ∧ chg SS m m' := by
  have h24 := V.s24
  have h8 := V.p8
  unfold D122
  rw [v134 R V h0, cTl]
  refine lp_inv (fun k1 t => t = (hS f (hA f k) k1, nI k1)) _ (sN f) (by omega) rfl ?_ ?_
  · rintro j ⟨t1, t2⟩ hj e
    cases e
    refine .inl ⟨(hS f (hA f k) (j + 1), nI (j + 1)), ?_, rfl⟩
    dsimp only
    rw [R.sc, V.s0, if_neg (nI_ge hj (by omega)), v91 R V hj, cTl, d137, Option.bind_some, v92 R V hj, cTl, d137, Option.bind_some, v93 R V hj, cTl, d138, Option.bind_some, nI_add]
    rfl
  · rintro ⟨t1, t2⟩ e
    cases e
    dsimp only
    rw [R.sc, V.s0, if_pos (nI_le (Nat.le_refl _) (by omega))]
    refine lpi (fun c t => t.1 = hC f Y (hS f (hA f k) (sN f)) c ∧ t.2.1 = nI c ∧ chg SS m t.2.2) 4 (by omega) ⟨rfl, rfl, chg.rf⟩ ?_ ?_
    · rintro c ⟨t1, t2, m2⟩ hc ⟨e1, e2, c2⟩
      replace e1 : t1 = hC f Y (hS f (hA f k) (sN f)) c := e1
      replace e2 : t2 = nI c := e2
      replace c2 : chg SS m m2 := c2
      subst e1 e2
      have R2 := R.ch c2 (fun b q1 q2 => by unfold SS; omega)
      obtain ⟨m3, e3, c3⟩ := v135 (h := hC f Y (hS f (hA f k) (sN f)) c) R2 V hc (hY c hc)
      refine ⟨(hC f Y (hS f (hA f k) (sN f)) (c + 1), nI (c + 1), m3), ?_, rfl, rfl, c2.tr (c3.mono (fun b q => q))⟩
      dsimp only
      rw [if_neg (nI_ge hc (by omega)), e3, cGl, nI_add]
      rfl
    · rintro ⟨t1, t2, m2⟩ ⟨e1, e2, c2⟩
      replace e1 : t1 = hC f Y (hS f (hA f k) (sN f)) 4 := e1
      replace e2 : t2 = nI 4 := e2
      replace c2 : chg SS m m2 := c2
      subst e1 e2
      have R2 := R.ch c2 (fun b q1 q2 => by unfold SS; omega)
      have B2 : BC m2 L cs := ⟨hB.1, by rw [c2.1 42 (by unfold SS; omega)]; exact hB.2.1, fun j hj => by rw [c2.1 43 (by unfold SS; omega)]; exact hB.2.2 j hj⟩
      dsimp only
      rw [if_pos (nI_le (Nat.le_refl 4) (by omega))]
      generalize hh : hC f Y (hS f (hA f k) (sN f)) 4 = h1
      refine lpi2 (fun p t => t = (hP f h1 p, nI p)) (pN f) (by omega) rfl ?_ ?_
      · rintro p ⟨t1, t2⟩ hp e
        cases e
        refine ⟨(hP f h1 (p + 1), nI (p + 1)), ?_, rfl⟩
        dsimp only
        rw [R2.pc, V.p0, if_neg (nI_ge hp (by omega)), v136 R2 V hp, cTl, nI_add]
      · rintro ⟨t1, t2⟩ e
        cases e
        dsimp only
        rw [R2.pc, V.p0, if_pos (nI_le (Nat.le_refl _) (by omega))]
        have hlp : ∀ h' : Int64, lp (β := Int64) 3000 (fun (s17 : Int64 × Int32) => if (nI L) ≤ s17.2 then some (.inr s17.1) else (gI m2 43 60 s17.2).bind fun (x19 : Int32) => some (.inl (hx s17.1 x19.toInt64, s17.2 + (nI 1)))) (h', nI 0) = some (hT cs h' L) := fun h' => by
          have l60 := B2.1
          refine lpr (fun j => (hT cs h' j, nI j)) L (by omega) rfl (fun j hj => ?_) ?_
          · dsimp only
            rw [if_neg (nI_ge hj (by omega)), gI_n (by omega) (by omega), B2.2.2 j hj, Option.bind_some, nI_add]
            rfl
          · dsimp only
            rw [if_pos (nI_le (Nat.le_refl _) (by have := B2.1; omega))]
        rcases hB_e V R2 with ⟨p, e84, e85, eB⟩ | ⟨e84, eB⟩
        · simp only [e84, e85, d137, d138, Option.bind_some, n10, if_false, cTl, d120 R2 V hn hl, d121 R2 V, hb, hd, B2.2.1, hlp]
          refine ⟨_, rfl, m2, ?_, c2⟩
          unfold hZ
          rw [hh, eB]
        · simp only [e84, d137, d138, Option.bind_some, if_true, cTl, d120 R2 V hn hl, d121 R2 V, hb, hd, B2.2.1, hlp]
          refine ⟨_, rfl, m2, ?_, c2⟩
          unfold hZ
          rw [hh, eB]
end DZ
