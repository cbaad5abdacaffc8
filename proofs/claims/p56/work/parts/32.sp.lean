/-! REACHING in the reference; joining in the class -/
/-- only such cells are changed -/
def chg (S : Nat → Prop) (m m' : dM) : Prop := (∀ b, ¬ S b → rI m' b = rI m b) ∧ (∀ b, ¬ S b → rL m' b = rL m b) ∧ rR m' = rR m ∧ m'.1 = m.1
theorem chg.rf {S : Nat → Prop} {m : dM} : chg S m m := ⟨fun _ _ => rfl, fun _ _ => rfl, rfl, rfl⟩
theorem chg.tr {S : Nat → Prop} {m m' m'' : dM} (h : chg S m m') (k : chg S m' m'') : chg S m m'' := ⟨fun b q => (k.1 b q).trans (h.1 b q), fun b q => (k.2.1 b q).trans (h.2.1 b q), k.2.2.1.trans h.2.2.1, k.2.2.2.trans h.2.2.2⟩
theorem chg.mono {S T : Nat → Prop} {m m' : dM} (h : chg S m m') (k : ∀ b, S b → T b) : chg T m m' := ⟨fun b q => h.1 b (fun z => q (k b z)), fun b q => h.2.1 b (fun z => q (k b z)), h.2.2⟩
theorem chg.wI {S : Nat → Prop} {m m' : dM} {a j : Nat} {v : Int32} (h : chg S m m') (ha : S a) : chg S m (wI m' a j v) := ⟨fun b q => (rI_wn (fun (e : b = a) => q (by rw [e]; exact ha))).trans (h.1 b q), h.2⟩
theorem chg.wL {S : Nat → Prop} {m m' : dM} {a j : Nat} {v : Int64} (h : chg S m m') (ha : S a) : chg S m (wL m' a j v) := ⟨h.1, fun b q => (rL_wn (fun (e : b = a) => q (by rw [e]; exact ha))).trans (h.2.1 b q), h.2.2⟩
theorem RC.cg {m m' : dM} {B : Nat} {f : Nat → Int32} (R : RC m B f) (h : ∀ b, B ≤ b → b ≤ B + 16 → rI m' b = rI m b ∧ rL m' b = rL m b) : RC m' B f := by
  unfold RC RCs RCc RCp RCn RCm
  rw [(h (B + 1) (by omega) (by omega)).1, (h (B + 2) (by omega) (by omega)).1, (h (B + 3) (by omega) (by omega)).1, (h (B + 4) (by omega) (by omega)).1, (h (B + 5) (by omega) (by omega)).1, (h (B + 6) (by omega) (by omega)).1, (h (B + 7) (by omega) (by omega)).1, (h (B + 8) (by omega) (by omega)).1, (h (B + 9) (by omega) (by omega)).1, (h (B + 10) (by omega) (by omega)).1, (h (B + 11) (by omega) (by omega)).1, (h (B + 12) (by omega) (by omega)).1, (h (B + 13) (by omega) (by omega)).1, (h (B + 14) (by omega) (by omega)).1, (h (B + 15) (by omega) (by omega)).2, (h (B + 16) (by omega) (by omega)).1, (h B (by omega) (by omega)).1]
  exact R
theorem RC.ch {m m' : dM} {B : Nat} {f : Nat → Int32} {S : Nat → Prop} (R : RC m B f) (h : chg S m m') (q : ∀ b, B ≤ b → b ≤ B + 16 → ¬ S b) : RC m' B f := R.cg fun b h1 h2 => ⟨h.1 b (q b h1 h2), h.2.1 b (q b h1 h2)⟩
theorem rc_nine {f : Nat → Int32} {v : Int32} {a j K : Nat} (ha : a < 10) (hj : j < 10) (r : rc f v a K j) : rc f v a 9 j := by
  by_cases hs : ∃ n, n ≤ 9 ∧ ∀ j, j < 10 → rc f v a (n + 1) j → rc f v a n j
  · obtain ⟨n, h1, h2⟩ := hs
    exact rc_mono h1 (rc_stop' h2 (show n ≤ max n K by omega) hj (rc_mono (by omega) r))
  · refine rc_ten ha hj ?_
    have h1 : ∀ k, rc f v a (9 + k) j → rc f v a 10 j := by
      intro k
      by_cases e : rc f v a 9 j
      · exact fun _ => .inl e
      · -- all ten are reached by nine
        refine absurd ?_ e
        refine Classical.byContradiction fun hx => ?_
        have hb : ∃ b : Nat → Nat → Bool, ∀ n i, (b n i = true) = rc f v a n i := ⟨fun n i => Classical.choose (cdec (rc f v a n i)), fun n i => Classical.choose_spec (cdec (rc f v a n i))⟩
        obtain ⟨b, hb⟩ := hb
        have hgrow : ∀ n, n ≤ 9 → n + 1 ≤ ct (b n) 10 := by
          intro n
          induction n with
          | zero =>
            intro _
            have h0 := ct_more (p := fun _ => false) (q := b 0) (fun i hi => by cases hi) (j := a) (by simp) (by rw [hb]; rfl) 10 ha
            omega
          | succ n ih =>
            intro hn
            have h1 := ih (by omega)
            have h2 : ∃ j, j < 10 ∧ rc f v a (n + 1) j ∧ ¬ rc f v a n j := Classical.byContradiction fun hx => hs ⟨n, by omega, fun j hj hr => Classical.byContradiction fun hy => hx ⟨j, hj, hr, hy⟩⟩
            obtain ⟨j, hj, h3, h4⟩ := h2
            have h5 := ct_more (p := b n) (q := b (n + 1)) (fun i hi => by rw [hb] at hi ⊢; exact .inl hi) (j := j) (by rw [hb]; exact h4) (by rw [hb]; exact h3) 10 hj
            omega
        have h9 := hgrow 9 (by omega)
        have hall : ∀ n, ct (b 9) n = n → ∀ i, i < n → b 9 i = true := by
          intro n
          induction n with
          | zero => intro _ i hi; omega
          | succ n ih =>
            intro h i hi
            obtain ⟨h1, h2⟩ := (ct_all n).mp h
            by_cases e : i = n
            · rw [e]; exact h2
            · exact ih h1 i (by omega)
        have hle := ct_le (p := b 9) 10
        have := hall 10 (by omega) j hj
        rw [hb] at this
        exact hx this
    exact h1 K (rc_mono (by omega) r)
/-- how far, by so many rounds -/
def FR (f : Nat → Int32) (v : Int32) (a t j : Nat) (x : Int32) : Prop := (∃ n, n ≤ t ∧ ds f v a n j ∧ x = nI n) ∨ (¬ rc f v a t j ∧ x = -1)
def NK (f : Nat → Int32) (v : Int32) (a t k j : Nat) : Prop := ∃ s i, s < k ∧ ds f v a t i ∧ eg f v s i j
def FK (f : Nat → Int32) (v : Int32) (a t k j : Nat) (x : Int32) : Prop := (∃ n, n ≤ t ∧ ds f v a n j ∧ x = nI n) ∨ (¬ rc f v a t j ∧ ((NK f v a t k j ∧ x = nI (t + 1)) ∨ (¬ NK f v a t k j ∧ x = -1)))
theorem FK.of {f : Nat → Int32} {v : Int32} {a t j : Nat} {x : Int32} (h : FR f v a t j x) : FK f v a t 0 j x := by
  rcases h with h | ⟨h1, h2⟩
  · exact .inl h
  · exact .inr ⟨h1, .inr ⟨fun ⟨s, i, h, _⟩ => by omega, h2⟩⟩
theorem FK.fin {f : Nat → Int32} {v : Int32} {a t j : Nat} {x : Int32} (h : FK f v a t (sN f) j x) : FR f v a (t + 1) j x := by
  rcases h with ⟨n, h1, h2, h3⟩ | ⟨h1, ⟨⟨s, i, q1, q2, q3⟩, h2⟩ | ⟨h3, h2⟩⟩
  · exact .inl ⟨n, by omega, h2, h3⟩
  · exact .inl ⟨t + 1, Nat.le_refl _, ⟨.inr ⟨s, i, q1, q2.1, q3⟩, fun k hk r => h1 (rc_mono (by omega) r)⟩, h2⟩
  · refine .inr ⟨fun r => ?_, h2⟩
    rcases r with r | ⟨s, i, q1, q2, q3⟩
    · exact h1 r
    · refine h3 ⟨s, i, q1, ⟨q2, fun k hk r => h1 ?_⟩, q3⟩
      exact rc_mono (show k + 1 ≤ t by omega) (.inr ⟨s, i, q1, r, q3⟩)
theorem FK.at {f : Nat → Int32} {v : Int32} {a t k j : Nat} {x : Int32} (ht : t < 10) (h : FK f v a t k j x) : x = nI t ↔ ds f v a t j := by
  rcases h with ⟨n, h1, h2, rfl⟩ | ⟨h1, ⟨h3, rfl⟩ | ⟨h3, rfl⟩⟩
  · rw [nI_eq (by omega) (by omega)]
    constructor
    · rintro rfl; exact h2
    · intro q
      rcases Nat.lt_or_ge n t with e | e
      · exact absurd h2.1 (q.2 n e)
      · omega
  · rw [nI_eq (by omega) (by omega)]
    exact ⟨fun e => by omega, fun q => absurd q.1 h1⟩
  · rw [nI_m1' (by omega)]
    exact ⟨fun e => e.elim, fun q => absurd q.1 h1⟩
theorem FK.up {f : Nat → Int32} {v : Int32} {a t k j : Nat} {x : Int32} (h : FK f v a t k j x) (q : (∃ i, ds f v a t i ∧ eg f v k i j) → rc f v a t j ∨ NK f v a t k j) : FK f v a t (k + 1) j x := by
  rcases h with h | ⟨h1, ⟨h3, h2⟩ | ⟨h3, h2⟩⟩
  · exact .inl h
  · obtain ⟨s, i, q1, q2⟩ := h3
    exact .inr ⟨h1, .inl ⟨⟨s, i, by omega, q2⟩, h2⟩⟩
  · refine .inr ⟨h1, .inr ⟨fun ⟨s, i, q1, q2⟩ => ?_, h2⟩⟩
    by_cases e : s = k
    · subst e
      exact (q ⟨i, q2⟩).elim h1 h3
    · exact h3 ⟨s, i, by omega, q2⟩
section SP
variable {m : dM} {f : Nat → Int32}
theorem FR.wy {v : Int32} {a j : Nat} {x : Int32} (ha : a < 10) (hj : j < 10) (h : FR f v a 10 j x) : WY f v a j x := by
  rcases h with ⟨n, h1, h2, h3⟩ | ⟨h1, h2⟩
  · refine .inl ⟨n, ?_, h2, h3⟩
    by_cases e : n = 10
    · subst e
      exact absurd (rc_nine ha hj h2.1) (h2.2 9 (by omega))
    · omega
  · exact .inr ⟨fun n hn r => h1 (rc_mono (by omega) r), h2⟩
end SP
