/-! REACHING in the reference; joining in the class -/
/-- only such cells are changed -/
def chg (S : Nat → Prop) (m m' : dM) : Prop := (∀ b, ¬ S b → rI m' b = rI m b) ∧ (∀ b, ¬ S b → rL m' b = rL m b) ∧ rR m' = rR m ∧ m'.1 = m.1
theorem chg.rf {S : Nat → Prop} {m : dM} : chg S m m := ⟨fun _ _ => rfl, fun _ _ => rfl, rfl, rfl⟩
theorem chg.tr {S : Nat → Prop} {m m' m'' : dM} (h : chg S m m') (k : chg S m' m'') : chg S m m'' := ⟨fun b q => (k.1 b q).trans (h.1 b q), fun b q => (k.2.1 b q).trans (h.2.1 b q), k.2.2.1.trans h.2.2.1, k.2.2.2.trans h.2.2.2⟩
theorem chg.mono {S T : Nat → Prop} {m m' : dM} (h : chg S m m') (k : ∀ b, S b → T b) : chg T m m' := ⟨fun b q => h.1 b (fun z => q (k b z)), fun b q => h.2.1 b (fun z => q (k b z)), h.2.2⟩
theorem chg.wI {S : Nat → Prop} {m m' : dM} {a j : Nat} {v : Int32} (h : chg S m m') (ha : S a) : chg S m (wI m' a j v) := ⟨fun b q => (rI_wn (fun (e : b = a) => q (by rw [e]; exact ha))).trans (h.1 b q), h.2⟩
theorem chg.wL {S : Nat → Prop} {m m' : dM} {a j : Nat} {v : Int64} (h : chg S m m') (ha : S a) : chg S m (wL m' a j v) := ⟨h.1, fun b q => (rL_wn (fun (e : b = a) => q (by rw [e]; exact ha))).trans (h.2.1 b q), h.2.2⟩
theorem RC.cg {m m' : dM} {B : Nat} {f : Nat → Int32} (R : RC m B f) (h : ∀ b, B ≤ b → b ≤ B + 16 → rI m' b = rI m b ∧ rL m' b = rL m b) : RC m' B f := by
  unfold RC RCs RCc RCp RCn RCm
  rw [(h (B + 1) (by omega) (by omega)).1, (h (B + 2) (by omega) (by omega)).1, (h (B + 3) (by omega) (by omega)).1, (h (B + 4) (by omega) (by omega)).1, (h (B + 5) (by omega) (by omega)).1, (h (B + 6) (by omega) (by omega)).1, (h (B + 7) (by omega) (by omega)).1, (h (B + 8) (by omega) (by omega)).1, (h (B + 9) (by omega) (by omega)).1, (h (B + 10) (by omega) (by omega)).1, (h (B + 11) (by omega) (by omega)).1, (h (B + 12) (by omega) (by omega)).1, (h (B + 13) (by omega) (by omega)).1, (h (B + 14) (by omega) (by omega)).1, (h (B + 15) (by omega) (by omega)).2, (h (B + 16) (by omega) (by omega)).1, (h B (by omega) (by omega)).1]
  exact R
theorem RC.ch {m m' : dM} {B : Nat} {f : Nat → Int32} {S : Nat → Prop} (R : RC m B f) (h : chg S m m') (q : ∀ b, B ≤ b → b ≤ B + 16 → ¬ S b) : RC m' B f := R.cg fun b h1 h2 => ⟨h.1 b (q b h1 h2), h.2.1 b (q b h1 h2)⟩
theorem rc_nine {f : Nat → Int32} {v : Int32} {a j K : Nat} (ha : a < 10) (hj : j < 10) (r : rc f v a K j) : rc f v a 9 j := by
  by_cases hs : ∃ n, n ≤ 9 ∧ ∀ j, j < 10 → rc f v a (n + 1) j → rc f v a n j
  · obtain ⟨n, h1, h2⟩ := hs
    exact rc_mono h1 (rc_stop' h2 (show n ≤ max n K by omega) hj (rc_mono (by omega) r))
  · refine rc_ten ha hj ?_
    have h1 : ∀ k, rc f v a (9 + k) j → rc f v a 10 j := by
      intro k
      by_cases e : rc f v a 9 j
      · exact fun _ => .inl e
      · -- all ten are reached by nine
        refine absurd ?_ e
        refine Classical.byContradiction fun hx => ?_
        have hb : ∃ b : Nat → Nat → Bool, ∀ n i, (b n i = true) = rc f v a n i := ⟨fun n i => Classical.choose (cdec (rc f v a n i)), fun n i => Classical.choose_spec (cdec (rc f v a n i))⟩
        obtain ⟨b, hb⟩ := hb
        have hgrow : ∀ n, n ≤ 9 → n + 1 ≤ ct (b n) 10 := by
          intro n
          induction n with
          | zero =>
            intro _
            have h0 := ct_more (p := fun _ => false) (q := b 0) (fun i hi => by cases hi) (j := a) (by simp) (by rw [hb]; rfl) 10 ha
            omega
          | succ n ih =>
            intro hn
            have h1 := ih (by omega)
            have h2 : ∃ j, j < 10 ∧ rc f v a (n + 1) j ∧ ¬ rc f v a n j := Classical.byContradiction fun hx => hs ⟨n, by omega, fun j hj hr => Classical.byContradiction fun hy => hx ⟨j, hj, hr, hy⟩⟩
            obtain ⟨j, hj, h3, h4⟩ := h2
            have h5 := ct_more (p := b n) (q := b (n + 1)) (fun i hi => by rw [hb] at hi ⊢; exact .inl hi) (j := j) (by rw [hb]; exact h4) (by rw [hb]; exact h3) 10 hj
            omega
        have h9 := hgrow 9 (by omega)
        have hall : ∀ n, ct (b 9) n = n → ∀ i, i < n → b 9 i = true := by
          intro n
          induction n with
          | zero => intro _ i hi; omega
          | succ n ih =>
            intro h i hi
            obtain ⟨h1, h2⟩ := (ct_all n).mp h
            by_cases e : i = n
            · rw [e]; exact h2
            · exact ih h1 i (by omega)
        have hle := ct_le (p := b 9) 10
        have := hall 10 (by omega) j hj
        rw [hb] at this
        exact hx this
    exact h1 K (rc_mono (by omega) r)
/-- how far, by so many rounds -/
def FR (f : Nat → Int32) (v : Int32) (a t j : Nat) (x : Int32) : Prop := (∃ n, n ≤ t ∧ ds f v a n j ∧ x = nI n) ∨ (¬ rc f v a t j ∧ x = -1)
def NK (f : Nat → Int32) (v : Int32) (a t k j : Nat) : Prop := ∃ s i, s < k ∧ ds f v a t i ∧ eg f v s i j
def FK (f : Nat → Int32) (v : Int32) (a t k j : Nat) (x : Int32) : Prop := (∃ n, n ≤ t ∧ ds f v a n j ∧ x = nI n) ∨ (¬ rc f v a t j ∧ ((NK f v a t k j ∧ x = nI (t + 1)) ∨ (¬ NK f v a t k j ∧ x = -1)))
theorem FK.of {f : Nat → Int32} {v : Int32} {a t j : Nat} {x : Int32} (h : FR f v a t j x) : FK f v a t 0 j x := by
  rcases h with h | ⟨h1, h2⟩
  · exact .inl h
  · exact .inr ⟨h1, .inr ⟨fun ⟨s, i, h, _⟩ => by omega, h2⟩⟩
theorem FK.fin {f : Nat → Int32} {v : Int32} {a t j : Nat} {x : Int32} (h : FK f v a t (sN f) j x) : FR f v a (t + 1) j x := by
  rcases h with ⟨n, h1, h2, h3⟩ | ⟨h1, ⟨⟨s, i, q1, q2, q3⟩, h2⟩ | ⟨h3, h2⟩⟩
  · exact .inl ⟨n, by omega, h2, h3⟩
  · exact .inl ⟨t + 1, Nat.le_refl _, ⟨.inr ⟨s, i, q1, q2.1, q3⟩, fun k hk r => h1 (rc_mono (by omega) r)⟩, h2⟩
  · refine .inr ⟨fun r => ?_, h2⟩
    rcases r with r | ⟨s, i, q1, q2, q3⟩
    · exact h1 r
    · refine h3 ⟨s, i, q1, ⟨q2, fun k hk r => h1 ?_⟩, q3⟩
      exact rc_mono (show k + 1 ≤ t by omega) (.inr ⟨s, i, q1, r, q3⟩)
theorem FK.at {f : Nat → Int32} {v : Int32} {a t k j : Nat} {x : Int32} (ht : t < 10) (h : FK f v a t k j x) : x = nI t ↔ ds f v a t j := by
  rcases h with ⟨n, h1, h2, rfl⟩ | ⟨h1, ⟨h3, rfl⟩ | ⟨h3, rfl⟩⟩
  · rw [nI_eq (by omega) (by omega)]
    constructor
    · rintro rfl; exact h2
    · intro q
      rcases Nat.lt_or_ge n t with e | e
      · exact absurd h2.1 (q.2 n e)
      · omega
  · rw [nI_eq (by omega) (by omega)]
    exact ⟨fun e => by omega, fun q => absurd q.1 h1⟩
  · rw [nI_m1' (by omega)]
    exact ⟨fun e => e.elim, fun q => absurd q.1 h1⟩
theorem FK.up {f : Nat → Int32} {v : Int32} {a t k j : Nat} {x : Int32} (h : FK f v a t k j x) (q : (∃ i, ds f v a t i ∧ eg f v k i j) → rc f v a t j ∨ NK f v a t k j) : FK f v a t (k + 1) j x := by
  rcases h with h | ⟨h1, ⟨h3, h2⟩ | ⟨h3, h2⟩⟩
  · exact .inl h
  · obtain ⟨s, i, q1, q2⟩ := h3
    exact .inr ⟨h1, .inl ⟨⟨s, i, by omega, q2⟩, h2⟩⟩
  · refine .inr ⟨h1, .inr ⟨fun ⟨s, i, q1, q2⟩ => ?_, h2⟩⟩
    by_cases e : s = k
    · subst e
      exact (q ⟨i, q2⟩).elim h1 h3
    · exact h3 ⟨s, i, by omega, q2⟩
section SP
variable {m : dM} {f : Nat → Int32}
theorem d227 (hf : rI m 131 = f) (V : rv f) {c a : Nat} (hc : c < 4) (ha : a < 10) : ∃ m', D227 m (nI c) (nI a) = some m' ∧ chg (fun b => b = 137) m m' ∧ ∀ j, j < 10 → FR f (f (97 + 5 * c + 1)) a 10 j (rI m' 137 j) := by
  have h24 := V.s24
  have hf' : ∀ m', chg (fun b => b = 137) m m' → rI m' 131 = f := fun m' h => (h.1 131 (by decide)).trans hf
  unfold D227
  have k1 := lp_inv (F := 3000) (s0 := (nI 0, m)) (f := fun (s1 : Int32 × dM) => if (nI 10) ≤ s1.1 then some (Sum.inr (α := Int32 × dM) s1.2) else Option.bind ((if s1.1 = (nI a) then some (nI 0) else some (-1)) : Option (Int32)) fun (v3 : Int32) => (sI s1.2 137 10 s1.1 v3).bind fun (m4 : dM) => some (.inl (s1.1 + (nI 1), m4)))
    (fun k s => s.1 = nI k ∧ chg (fun b => b = 137) m s.2 ∧ ∀ j, j < k → rI s.2 137 j = if j = a then nI 0 else -1)
    (fun m' => chg (fun b => b = 137) m m' ∧ ∀ j, j < 10 → FR f (f (97 + 5 * c + 1)) a 0 j (rI m' 137 j)) 10 (by omega) ⟨rfl, chg.rf, fun j hj => by omega⟩ ?_ ?_
  · obtain ⟨m1, e1, c1, r1⟩ := k1
    rw [e1]
    show ∃ m', Option.bind (lp _ _ _) _ = some m' ∧ _
    have k2 := lp_inv (F := 3000) (s0 := (nI 0, m1)) (f := fun (s5 : Int32 × dM) => if (nI 10) ≤ s5.1 then some (Sum.inr (α := Int32 × dM) s5.2) else Option.bind (lp (β := dM) 3000 (fun (s7 : Int32 × dM) => if (rI s7.2 131 0) ≤ s7.1 then some (.inr s7.2) else (D157 s7.2 s7.1).bind fun (x9 : Int32) => Option.bind ((if x9 = (nI 0) then some (nI 0) else (D156 s7.2 s7.1).bind fun (x11 : Int32) => if x11 = (nI 0) then some (nI 1) else (D150 s7.2 (nI c) (nI 1)).bind fun (x12 : Int32) => if x12 = (nI 1) then some (nI 0) else some (nI 1)) : Option (Int32)) fun (v10 : Int32) => Option.bind ((if v10 = (nI 0) then some s7.2 else (D154 s7.2 s7.1).bind fun (x14 : Int32) => (gI s7.2 137 10 x14).bind fun (x15 : Int32) => if x15 = s5.1 then (D155 s7.2 s7.1).bind fun (x16 : Int32) => (gI s7.2 137 10 x16).bind fun (x17 : Int32) => if x17 = (-1) then (D155 s7.2 s7.1).bind fun (x18 : Int32) => (sI s7.2 137 10 x18 (s5.1 + (nI 1))).bind fun (m19 : dM) => some m19 else some s7.2 else some s7.2) : Option (dM)) fun (v13 : dM) => some (.inl (s7.1 + (nI 1), v13))) (nI 0, s5.2)) fun (v8 : dM) => some (.inl (s5.1 + (nI 1), v8)))
      (fun t s => s.1 = nI t ∧ chg (fun b => b = 137) m s.2 ∧ ∀ j, j < 10 → FR f (f (97 + 5 * c + 1)) a t j (rI s.2 137 j))
      (fun m' => chg (fun b => b = 137) m m' ∧ ∀ j, j < 10 → FR f (f (97 + 5 * c + 1)) a 10 j (rI m' 137 j)) 10 (by omega) ⟨rfl, c1, r1⟩ ?_ ?_
    · obtain ⟨m2, e2, c2, r2⟩ := k2
      refine ⟨m2, ?_, c2, r2⟩
      rw [e2]
      rfl
    · rintro t ⟨x, m2⟩ ht ⟨hx, c2, r2⟩
      replace hx : x = nI t := hx
      subst hx
      refine .inl ?_
      have e0 : ∀ A B : Option ((Int32 × dM) ⊕ dM), (if nI 10 ≤ nI t then A else B) = B := fun A B => if_neg (nI_ge ht (by omega))
      show ∃ s', (if nI 10 ≤ nI t then _ else _) = _ ∧ _
      rw [e0]
      have k3 := lp_inv (F := 3000) (s0 := (nI 0, m2)) (f := (fun (s7 : Int32 × dM) => if (rI s7.2 131 0) ≤ s7.1 then some (Sum.inr (α := Int32 × dM) s7.2) else (D157 s7.2 s7.1).bind fun (x9 : Int32) => Option.bind ((if x9 = (nI 0) then some (nI 0) else (D156 s7.2 s7.1).bind fun (x11 : Int32) => if x11 = (nI 0) then some (nI 1) else (D150 s7.2 (nI c) (nI 1)).bind fun (x12 : Int32) => if x12 = (nI 1) then some (nI 0) else some (nI 1)) : Option (Int32)) fun (v10 : Int32) => Option.bind ((if v10 = (nI 0) then some s7.2 else (D154 s7.2 s7.1).bind fun (x14 : Int32) => (gI s7.2 137 10 x14).bind fun (x15 : Int32) => if x15 = nI t then (D155 s7.2 s7.1).bind fun (x16 : Int32) => (gI s7.2 137 10 x16).bind fun (x17 : Int32) => if x17 = (-1) then (D155 s7.2 s7.1).bind fun (x18 : Int32) => (sI s7.2 137 10 x18 (nI t + (nI 1))).bind fun (m19 : dM) => some m19 else some s7.2 else some s7.2) : Option (dM)) fun (v13 : dM) => some (.inl (s7.1 + (nI 1), v13))))
        (fun k s => s.1 = nI k ∧ chg (fun b => b = 137) m s.2 ∧ ∀ j, j < 10 → FK f (f (97 + 5 * c + 1)) a t k j (rI s.2 137 j))
        (fun m' => chg (fun b => b = 137) m m' ∧ ∀ j, j < 10 → FR f (f (97 + 5 * c + 1)) a (t + 1) j (rI m' 137 j)) (sN f) (by omega) ⟨rfl, c2, fun j hj => FK.of (r2 j hj)⟩ ?_ ?_
      · obtain ⟨m3, e3, c3, r3⟩ := k3
        refine ⟨(nI t + nI 1, m3), ?_, nI_add t 1, c3, r3⟩
        show Option.bind (lp _ _ _) _ = _
        rw [e3]
        rfl
      · rintro k ⟨x, m3⟩ hk ⟨hx, c3, r3⟩
        replace hx : x = nI k := hx
        replace c3 : chg (fun b => b = 137) m m3 := c3
        replace r3 : ∀ j, j < 10 → FK f (f (97 + 5 * c + 1)) a t k j (rI m3 137 j) := r3
        subst hx
        refine .inl ?_
        have hf3 := hf' m3 c3
        obtain ⟨⟨i, hi, ei⟩, ⟨j, hj, ej⟩, -⟩ := V.1.2.2.1 k hk
        have e3 : ∀ A B : Option ((Int32 × dM) ⊕ dM), (if rI m3 131 0 ≤ nI k then A else B) = B := fun A B => by rw [hf3, V.s0, if_neg (nI_ge hk (by omega))]
        have e4 : D154 m3 (nI k) = some (nI i) := by rw [d154 hf3 (by omega), ei]
        have e5 : D155 m3 (nI k) = some (nI j) := by rw [d155 hf3 (by omega), ej]
        have e6 : gI m3 137 10 (nI i) = some (rI m3 137 i) := gI_n hi (by omega)
        have e7 : gI m3 137 10 (nI j) = some (rI m3 137 j) := gI_n hj (by omega)
        have hcn : ∃ w, (Option.bind (D157 m3 (nI k)) fun (x9 : Int32) => ((if x9 = (nI 0) then some (nI 0) else (D156 m3 (nI k)).bind fun (x11 : Int32) => if x11 = (nI 0) then some (nI 1) else (D150 m3 (nI c) (nI 1)).bind fun (x12 : Int32) => if x12 = (nI 1) then some (nI 0) else some (nI 1)) : Option (Int32))) = some w ∧ (w = nI 0 ↔ ¬ cn f k (f (97 + 5 * c + 1))) := by
          rw [d157 hf3 (by omega), d156 hf3 (by omega), d150 hf3 hc (by omega)]
          unfold cn
          by_cases z1 : f (1 + 4 * k + 3) = nI 1
          · by_cases z2 : f (1 + 4 * k + 2) = nI 1
            · by_cases z3 : f (97 + 5 * c + 1) = nI 1
              · exact ⟨nI 0, by simp [z1, z2, z3, n10], by simp [z1, z2, z3]⟩
              · exact ⟨nI 1, by simp [z1, z2, z3, n10], by simp [z1, z2, z3, n10]⟩
            · exact ⟨nI 1, by simp [z1, z2, n10], by simp [z1, z2, n10]⟩
          · exact ⟨nI 0, by simp [z1], by simp [z1]⟩
        obtain ⟨w, ew, hw⟩ := hcn
        have hstep : ∀ (K : Int32 → Option ((Int32 × dM) ⊕ dM)), ((D157 m3 (nI k)).bind fun (x9 : Int32) => Option.bind ((if x9 = (nI 0) then some (nI 0) else (D156 m3 (nI k)).bind fun (x11 : Int32) => if x11 = (nI 0) then some (nI 1) else (D150 m3 (nI c) (nI 1)).bind fun (x12 : Int32) => if x12 = (nI 1) then some (nI 0) else some (nI 1)) : Option (Int32)) K) = K w := fun K => by
          rw [← Option.bind_assoc, ew]
          rfl
        show ∃ s', (if rI m3 131 0 ≤ nI k then _ else ((D157 m3 (nI k)).bind fun (x9 : Int32) => Option.bind ((if x9 = (nI 0) then some (nI 0) else (D156 m3 (nI k)).bind fun (x11 : Int32) => if x11 = (nI 0) then some (nI 1) else (D150 m3 (nI c) (nI 1)).bind fun (x12 : Int32) => if x12 = (nI 1) then some (nI 0) else some (nI 1)) : Option (Int32)) _)) = _ ∧ _
        rw [e3, hstep]
        by_cases q1 : cn f k (f (97 + 5 * c + 1))
        · rw [if_neg (fun z => hw.mp z q1), e4]
          show ∃ s', Option.bind (Option.bind (gI m3 137 10 (nI i)) _) _ = _ ∧ _
          rw [e6]
          show ∃ s', Option.bind (if rI m3 137 i = nI t then _ else _) _ = _ ∧ _
          by_cases q2 : ds f (f (97 + 5 * c + 1)) a t i
          · rw [if_pos ((FK.at ht (r3 i hi)).mpr q2), e5]
            show ∃ s', Option.bind (Option.bind (gI m3 137 10 (nI j)) _) _ = _ ∧ _
            rw [e7]
            show ∃ s', Option.bind (if rI m3 137 j = -1 then Option.bind (some (nI j)) _ else _) _ = _ ∧ _
            by_cases q3 : rI m3 137 j = -1
            · rw [if_pos q3]
              show ∃ s', Option.bind (Option.bind (sI m3 137 10 (nI j) (nI t + nI 1)) _) _ = _ ∧ _
              rw [sI_n hj (by omega)]
              refine ⟨(nI k + nI 1, wI m3 137 j (nI t + nI 1)), rfl, nI_add k 1, chg.wI c3 rfl, fun j' hj' => ?_⟩
              show FK _ _ a t (k + 1) j' (rI (wI m3 137 j (nI t + nI 1)) 137 j')
              rw [rI_ws]
              by_cases q4 : j' = j
              · subst q4
                rw [upd_s, nI_add]
                have h1 : ¬ rc f (f (97 + 5 * c + 1)) a t j' := by
                  rcases r3 j' hj with ⟨n, z1, -, z2⟩ | z
                  · rw [q3, nI_m1' (by omega)] at z2
                    exact z2.elim
                  · exact z.1
                exact .inr ⟨h1, .inl ⟨⟨k, i, by omega, q2, q1, hi, hj, ei, ej⟩, rfl⟩⟩
              · rw [upd_n q4]
                refine (r3 j' hj').up fun ⟨i2, z1, z2⟩ => absurd ?_ q4
                have h4 := z2.2.2.2.2
                rw [ej] at h4
                exact ((nI_eq (by omega) (by omega)).mp h4).symm
            · rw [if_neg q3]
              refine ⟨(nI k + nI 1, m3), rfl, nI_add k 1, c3, fun j' hj' => (r3 j' hj').up fun ⟨i2, z1, z2⟩ => ?_⟩
              have h4 := z2.2.2.2.2
              rw [ej] at h4
              have h5 := (nI_eq (by omega) (by omega)).mp h4
              subst h5
              rcases r3 j hj with ⟨n, y1, y2, -⟩ | ⟨-, ⟨y, -⟩ | ⟨-, y⟩⟩
              · exact .inl (rc_mono y1 y2.1)
              · exact .inr y
              · exact absurd y q3
          · rw [if_neg (fun z => q2 ((FK.at ht (r3 i hi)).mp z))]
            refine ⟨(nI k + nI 1, m3), rfl, nI_add k 1, c3, fun j' hj' => (r3 j' hj').up fun ⟨i2, z1, z2⟩ => ?_⟩
            have h4 := z2.2.2.2.1
            have h6 := z2.2.1
            rw [ei] at h4
            exact absurd ((nI_eq (by omega) (by omega)).mp h4 ▸ z1) q2
        · rw [if_pos (hw.mpr q1)]
          refine ⟨(nI k + nI 1, m3), rfl, nI_add k 1, c3, fun j' hj' => (r3 j' hj').up fun ⟨i2, z1, z2⟩ => absurd z2.1 q1⟩
      · rintro ⟨x, m3⟩ ⟨hx, c3, r3⟩
        replace hx : x = nI (sN f) := hx
        replace c3 : chg (fun b => b = 137) m m3 := c3
        subst hx
        refine ⟨m3, ?_, c3, fun j hj => FK.fin (r3 j hj)⟩
        show (if rI m3 131 0 ≤ nI (sN f) then _ else _) = _
        rw [hf' m3 c3, V.s0, if_pos (nI_le (Nat.le_refl _) (by omega))]
    · rintro ⟨x, m2⟩ ⟨hx, c2, r2⟩
      replace hx : x = nI 10 := hx
      subst hx
      exact ⟨m2, rfl, c2, r2⟩
  · rintro k ⟨x, m1⟩ hk ⟨hx, c1, r1⟩
    replace hx : x = nI k := hx
    replace r1 : ∀ j, j < k → rI m1 137 j = if j = a then nI 0 else -1 := r1
    replace c1 : chg (fun b => b = 137) m m1 := c1
    subst hx
    refine .inl ⟨(nI k + nI 1, wI m1 137 k (if k = a then nI 0 else -1)), ?_, nI_add k 1, chg.wI c1 rfl, fun j hj => ?_⟩
    · show (if nI 10 ≤ nI k then _ else Option.bind (if nI k = nI a then some (nI 0) else some (-1)) (fun v3 => (sI m1 137 10 (nI k) v3).bind fun m4 => some (Sum.inl (nI k + nI 1, m4)))) = _
      rw [if_neg (nI_ge hk (by omega))]
      by_cases q : k = a
      · subst q
        rw [if_pos rfl, if_pos rfl]
        show Option.bind (sI m1 137 10 (nI k) (nI 0)) _ = _
        rw [sI_n hk (by omega)]
        rfl
      · rw [if_neg (fun z => q ((nI_eq (by omega) (by omega)).mp z)), if_neg q]
        show Option.bind (sI m1 137 10 (nI k) (-1)) _ = _
        rw [sI_n hk (by omega)]
        rfl
    · show rI (wI m1 137 k _) 137 j = _
      rw [rI_ws]
      by_cases q : j = k
      · rw [q, upd_s]
      · rw [upd_n q, r1 j (by omega)]
  · rintro ⟨x, m1⟩ ⟨hx, c1, r1⟩
    replace hx : x = nI 10 := hx
    subst hx
    refine ⟨m1, rfl, c1, fun j hj => ?_⟩
    show FR _ _ a 0 j (rI m1 137 j)
    rw [r1 j hj]
    by_cases q : j = a
    · rw [if_pos q]
      exact .inl ⟨0, Nat.le_refl _, ⟨q, fun k hk => by omega⟩, rfl⟩
    · rw [if_neg q]
      exact .inr ⟨q, rfl⟩
theorem FR.wy {v : Int32} {a j : Nat} {x : Int32} (ha : a < 10) (hj : j < 10) (h : FR f v a 10 j x) : WY f v a j x := by
  rcases h with ⟨n, h1, h2, h3⟩ | ⟨h1, h2⟩
  · refine .inl ⟨n, ?_, h2, h3⟩
    by_cases e : n = 10
    · subst e
      exact absurd (rc_nine ha hj h2.1) (h2.2 9 (by omega))
    · omega
  · exact .inr ⟨fun n hn r => h1 (rc_mono (by omega) r), h2⟩
theorem d231 (hf : rI m 131 = f) (V : rv f) {c a b : Nat} (hc : c < 4) (ha : a < 10) (hb : b < 10) : ∃ x m', D231 m (nI c) (nI a) (nI b) = some (x, m') ∧ chg (fun b => b = 137) m m' ∧ WY f (f (97 + 5 * c + 1)) a b x := by
  obtain ⟨m', e, h1, h2⟩ := d227 hf V hc ha
  refine ⟨rI m' 137 b, m', ?_, h1, FR.wy ha hb (h2 b hb)⟩
  unfold D231
  rw [e]
  show Option.bind (gI m' 137 10 (nI b)) _ = _
  rw [gI_n hb (by omega)]
  rfl
theorem d228 (hf : rI m 131 = f) (V : rv f) {c : Nat} (hc : c < 4) : ∃ x m', D228 m (nI c) = some (x, m') ∧ chg (fun b => b = 137) m m' ∧ mk x (rc f (f (97 + 5 * c + 1)) (aV f c) 10) ∧ ∀ j, j < 10 → WY f (f (97 + 5 * c + 1)) (aV f c) j (rI m' 137 j) := by
  have ha := aV_lt V.2.1 hc
  obtain ⟨m', e, h1, h2⟩ := d227 hf V hc ha
  unfold D228
  rw [d150 hf hc (by omega), aV_e V.2.1 hc]
  show ∃ x m'', Option.bind (D227 m (nI c) (nI (aV f c))) _ = _ ∧ _
  rw [e]
  show ∃ x m'', Option.bind (lp _ _ _) _ = _ ∧ _
  have k := lp_inv (F := 3000) (s0 := (nI 0, nI 0)) (f := fun (s3 : Int32 × Int32) => if (nI 10) ≤ s3.2 then some (Sum.inr (α := Int32 × Int32) s3.1) else (gI m' 137 10 s3.2).bind fun (x5 : Int32) => Option.bind ((if x5 = (-1) then some (nI 0) else some ((nI 1) <<< (s3.2 &&& nI 31))) : Option (Int32)) fun (v6 : Int32) => some (.inl (s3.1 ||| v6, s3.2 + (nI 1))))
    (fun k s => s.2 = nI k ∧ mk s.1 (fun j => j < k ∧ rc f (f (97 + 5 * c + 1)) (aV f c) 10 j)) (fun x => mk x (rc f (f (97 + 5 * c + 1)) (aV f c) 10)) 10 (by omega) ⟨rfl, mk.no.iff fun j _ => ⟨fun z => z.elim, fun z => by omega⟩⟩ ?_ ?_
  · obtain ⟨x, e1, e2⟩ := k
    refine ⟨x, m', ?_, h1, e2, fun j hj => FR.wy ha hj (h2 j hj)⟩
    rw [e1]
    rfl
  · rintro k ⟨x, t⟩ hk ⟨ht, hx⟩
    replace ht : t = nI k := ht
    replace hx : mk x (fun j => j < k ∧ rc f (f (97 + 5 * c + 1)) (aV f c) 10 j) := hx
    subst ht
    refine .inl ?_
    have e0 : ∀ A B : Option ((Int32 × Int32) ⊕ Int32), (if nI 10 ≤ nI k then A else B) = B := fun A B => if_neg (nI_ge hk (by omega))
    show ∃ s', (if nI 10 ≤ nI k then _ else _) = _ ∧ _
    rw [e0]
    show ∃ s', Option.bind (gI m' 137 10 (nI k)) _ = _ ∧ _
    rw [gI_n hk (by omega)]
    show ∃ s', Option.bind (if rI m' 137 k = -1 then _ else _) _ = _ ∧ _
    rcases h2 k hk with ⟨n, z1, z2, z3⟩ | ⟨z1, z2⟩
    · rw [z3, if_neg (by rw [nI_m1 (by omega)]; exact id)]
      refine ⟨(x ||| (nI 1 <<< (nI k &&& nI 31)), nI k + nI 1), rfl, nI_add k 1, (mk.or hx (mk.one hk)).iff fun j hj => ⟨?_, ?_⟩⟩
      · rintro (⟨q1, q2⟩ | rfl)
        · exact ⟨by omega, q2⟩
        · exact ⟨by omega, rc_mono z1 z2.1⟩
      · rintro ⟨q1, q2⟩
        by_cases q : j = k
        · exact .inr q
        · exact .inl ⟨by omega, q2⟩
    · rw [z2, if_pos rfl]
      refine ⟨(x ||| nI 0, nI k + nI 1), rfl, nI_add k 1, (mk.or hx mk.no).iff fun j hj => ⟨?_, ?_⟩⟩
      · rintro (⟨q1, q2⟩ | q)
        · exact ⟨by omega, q2⟩
        · exact q.elim
      · rintro ⟨q1, q2⟩
        by_cases q : j = k
        · exact absurd (q ▸ q2) z1
        · exact .inl ⟨by omega, q2⟩
  · rintro ⟨x, t⟩ ⟨ht, hx⟩
    replace ht : t = nI 10 := ht
    subst ht
    exact ⟨x, rfl, hx.iff fun j hj => ⟨fun z => z.2, fun z => ⟨hj, z⟩⟩⟩
end SP
