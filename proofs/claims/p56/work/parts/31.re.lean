/-! REACHING -/
/-- a street leads a vehicle from one junction to another -/
def eg (f : Nat → Int32) (v : Int32) (s i j : Nat) : Prop := cn f s v ∧ i < 10 ∧ j < 10 ∧ f (1 + 4 * s) = nI i ∧ f (1 + 4 * s + 1) = nI j
/-- reached by so many streets at most -/
def rc (f : Nat → Int32) (v : Int32) (a : Nat) : Nat → Nat → Prop
  | 0, j => j = a
  | n + 1, j => rc f v a n j ∨ ∃ s i, s < sN f ∧ rc f v a n i ∧ eg f v s i j
/-- reached by so many and no fewer -/
def ds (f : Nat → Int32) (v : Int32) (a n j : Nat) : Prop := rc f v a n j ∧ ∀ k, k < n → ¬ rc f v a k j
def WY (f : Nat → Int32) (v : Int32) (a j : Nat) (x : Int32) : Prop := (∃ n, n < 10 ∧ ds f v a n j ∧ x = nI n) ∨ ((∀ n, n < 10 → ¬ rc f v a n j) ∧ x = -1)
/-- a mask of junctions -/
def mk (x : Int32) (P : Nat → Prop) : Prop := ∀ j, j < 32 → ((bt x j = true) ↔ (j < 10 ∧ P j))
theorem mk.eq {x y : Int32} {P : Nat → Prop} (h : mk x P) (k : mk y P) : x = y := by
  refine b_ext fun i hi => ?_
  have e := (h i hi).trans (k i hi).symm
  cases h1 : bt x i <;> cases h2 : bt y i <;> simp_all
theorem mk.iff {x : Int32} {P Q : Nat → Prop} (h : mk x P) (k : ∀ j, j < 10 → (P j ↔ Q j)) : mk x Q := fun j hj => by
  rw [h j hj]
  constructor
  · rintro ⟨h1, h2⟩; exact ⟨h1, (k j h1).mp h2⟩
  · rintro ⟨h1, h2⟩; exact ⟨h1, (k j h1).mpr h2⟩
theorem mk.or {x y : Int32} {P Q : Nat → Prop} (h : mk x P) (k : mk y Q) : mk (x ||| y) (fun j => P j ∨ Q j) := fun j hj => by
  rw [b_or, Bool.or_eq_true, h j hj, k j hj]
  constructor
  · rintro (⟨h1, h2⟩ | ⟨h1, h2⟩)
    · exact ⟨h1, .inl h2⟩
    · exact ⟨h1, .inr h2⟩
  · rintro ⟨h1, h2 | h2⟩
    · exact .inl ⟨h1, h2⟩
    · exact .inr ⟨h1, h2⟩
theorem mk.sub {x y : Int32} {P Q : Nat → Prop} (h : mk x P) (k : mk y Q) : (x ||| y = x) ↔ ∀ j, j < 10 → Q j → P j := by
  constructor
  · intro e j hj q
    have h1 := (mk.or h k j (by omega)).mpr ⟨hj, .inr q⟩
    rw [e] at h1
    exact ((h j (by omega)).mp h1).2
  · intro q
    exact mk.eq (mk.or h k) (h.iff fun j hj => ⟨.inl, fun z => z.elim id (q j hj)⟩)
theorem mk.one {a : Nat} (ha : a < 10) : mk (nI 1 <<< (nI a &&& nI 31)) (fun j => j = a) := fun j hj => by
  rw [n31, b_shl a (by omega) _ hj, Bool.and_eq_true, decide_eq_true_eq]
  constructor
  · rintro ⟨h1, h2⟩
    rw [b_1 _ (by omega), decide_eq_true_eq] at h2
    omega
  · rintro ⟨h1, rfl⟩
    exact ⟨Nat.le_refl _, by rw [Nat.sub_self]; decide⟩
theorem mk.no : mk (nI 0) (fun _ => False) := fun j hj => by
  rw [show nI 0 = 0 from rfl, b_0]
  simp
theorem rc_mono {f : Nat → Int32} {v : Int32} {a j : Nat} : ∀ {n k : Nat}, n ≤ k → rc f v a n j → rc f v a k j
  | n, 0, h, r => by have e : n = 0 := by omega
                     rw [← e]; exact r
  | n, k + 1, h, r => by
    by_cases q : n = k + 1
    · rw [← q]; exact r
    · exact .inl (rc_mono (by omega) r)
/-- once nothing more is reached, nothing more ever is -/
theorem rc_stop {f : Nat → Int32} {v : Int32} {a n : Nat} (h : ∀ j, j < 10 → rc f v a (n + 1) j → rc f v a n j) : ∀ k j, j < 10 → rc f v a (n + k) j → rc f v a n j
  | 0, j, _, r => r
  | k + 1, j, hj, r => by
    have r' : rc f v a (n + k) j ∨ ∃ s i, s < sN f ∧ rc f v a (n + k) i ∧ eg f v s i j := r
    rcases r' with r | ⟨s, i, h1, h2, h3⟩
    · exact rc_stop h k j hj r
    · exact h j hj (.inr ⟨s, i, h1, rc_stop h k i h3.2.1 h2, h3⟩)
theorem rc_stop' {f : Nat → Int32} {v : Int32} {a n k j : Nat} (h : ∀ j, j < 10 → rc f v a (n + 1) j → rc f v a n j) (hk : n ≤ k) (hj : j < 10) (r : rc f v a k j) : rc f v a n j := by
  obtain ⟨e, rfl⟩ : ∃ e, k = n + e := ⟨k - n, by omega⟩
  exact rc_stop h e j hj r
/-- ten junctions: nine streets are enough -/
theorem cdec (p : Prop) : ∃ b : Bool, (b = true) = p := by
  by_cases h : p
  · exact ⟨true, by simp [h]⟩
  · exact ⟨false, by simp [h]⟩
theorem ct_mono {p q : Nat → Bool} (h : ∀ i, p i = true → q i = true) : ∀ n, ct p n ≤ ct q n
  | 0 => Nat.le_refl _
  | n + 1 => by
    have := ct_mono h n
    have h2 := h n
    show ct p n + (if p n = true then 1 else 0) ≤ ct q n + (if q n = true then 1 else 0)
    by_cases h3 : p n = true
    · rw [if_pos h3, if_pos (h2 h3)]; omega
    · rw [if_neg h3]; omega
theorem ct_more {p q : Nat → Bool} (h : ∀ i, p i = true → q i = true) {j : Nat} (hp : ¬ p j = true) (hq : q j = true) : ∀ n, j < n → ct p n < ct q n
  | 0, hj => by omega
  | n + 1, hj => by
    have h2 := h n
    show ct p n + (if p n = true then 1 else 0) < ct q n + (if q n = true then 1 else 0)
    by_cases e : j = n
    · subst e
      have := ct_mono h j
      rw [if_neg hp, if_pos hq]; omega
    · have := ct_more h hp hq n (by omega)
      by_cases h3 : p n = true
      · rw [if_pos h3, if_pos (h2 h3)]; omega
      · rw [if_neg h3]; omega
theorem rc_ten {f : Nat → Int32} {v : Int32} {a j : Nat} (ha : a < 10) (hj : j < 10) (r : rc f v a 10 j) : rc f v a 9 j := by
  have hb : ∃ b : Nat → Nat → Bool, ∀ n i, (b n i = true) = rc f v a n i := ⟨fun n i => Classical.choose (cdec (rc f v a n i)), fun n i => Classical.choose_spec (cdec (rc f v a n i))⟩
  obtain ⟨b, hb⟩ := hb
  by_cases hs : ∃ n, n ≤ 9 ∧ ∀ j, j < 10 → rc f v a (n + 1) j → rc f v a n j
  · obtain ⟨n, h1, h2⟩ := hs
    exact rc_mono h1 (rc_stop' h2 (by omega) hj r)
  · have hgrow : ∀ n, n ≤ 9 → n + 1 ≤ ct (b n) 10 := by
      intro n
      induction n with
      | zero =>
        intro _
        have h0 := ct_more (p := fun _ => false) (q := b 0) (fun i hi => by cases hi) (j := a) (by simp) (by rw [hb]; rfl) 10 ha
        omega
      | succ n ih =>
        intro hn
        have h1 := ih (by omega)
        have h2 : ∃ j, j < 10 ∧ rc f v a (n + 1) j ∧ ¬ rc f v a n j := by
          refine Classical.byContradiction fun hx => hs ⟨n, by omega, fun j hj hr => Classical.byContradiction fun hy => hx ⟨j, hj, hr, hy⟩⟩
        obtain ⟨j, hj, h3, h4⟩ := h2
        have h5 := ct_more (p := b n) (q := b (n + 1)) (fun i hi => by rw [hb] at hi ⊢; exact .inl hi) (j := j) (by rw [hb]; exact h4) (by rw [hb]; exact h3) 10 hj
        omega
    have h9 := hgrow 9 (by omega)
    have hall : ∀ n, ct (b 9) n = n → ∀ i, i < n → b 9 i = true := by
      intro n
      induction n with
      | zero => intro _ i hi; omega
      | succ n ih =>
        intro h i hi
        obtain ⟨h1, h2⟩ := (ct_all n).mp h
        by_cases e : i = n
        · rw [e]; exact h2
        · exact ih h1 i (by omega)
    have hle := ct_le (p := b 9) 10
    have := hall 10 (by omega) j hj
    rwa [hb] at this
theorem WY_uniq {f : Nat → Int32} {v : Int32} {a j : Nat} {x y : Int32} (h : WY f v a j x) (k : WY f v a j y) : x = y := by
  rcases h with ⟨n, h1, h2, rfl⟩ | ⟨h1, rfl⟩
  · rcases k with ⟨n', k1, k2, rfl⟩ | ⟨k1, rfl⟩
    · have : n = n' := by
        rcases Nat.lt_trichotomy n n' with q | q | q
        · exact absurd h2.1 (k2.2 n q)
        · exact q
        · exact absurd k2.1 (h2.2 n' q)
      rw [this]
    · exact absurd h2.1 (k1 n h1)
  · rcases k with ⟨n', k1, k2, rfl⟩ | ⟨k1, rfl⟩
    · exact absurd k2.1 (h1 n' k1)
    · rfl
section RE
variable {m : dM} {f : Nat → Int32}
theorem d65 (R : RC m 1 f) (V : rv f) {v x : Int32} (hv : sm v 2) {P : Nat → Prop} (hx : mk x P) : ∃ y, D65 m x v = some y ∧ mk y (fun j => ∃ s i, s < sN f ∧ P i ∧ eg f v s i j) := by
  have h24 := V.s24
  obtain ⟨u, eu, hu⟩ := d63 R hv
  unfold D65
  rw [eu]
  show ∃ y, Option.bind (lp _ _ _) _ = some y ∧ _
  have key := lp_inv (F := 3000) (s0 := (nI 0, nI 0)) (f := fun (s2 : Int32 × Int32) => if (rI m 2 4) ≤ s2.2 then some (Sum.inr (α := Int32 × Int32) s2.1) else Option.bind ((if ((u >>> (s2.2 &&& nI 31)) &&& (nI 1)) = (nI 1) then (gI m 3 24 s2.2).bind fun (x5 : Int32) => if ((x >>> (x5 &&& nI 31)) &&& (nI 1)) = (nI 1) then (gI m 4 24 s2.2).bind fun (x6 : Int32) => some (s2.1 ||| ((nI 1) <<< (x6 &&& nI 31))) else some s2.1 else some s2.1) : Option (Int32)) fun (v4 : Int32) => some (.inl (v4, s2.2 + (nI 1))))
    (fun k s => s.2 = nI k ∧ mk s.1 (fun j => ∃ s i, s < k ∧ P i ∧ eg f v s i j)) (fun y => mk y (fun j => ∃ s i, s < sN f ∧ P i ∧ eg f v s i j)) (sN f) (by omega) ⟨rfl, mk.no.iff fun j hj => ⟨fun z => z.elim, fun ⟨s, i, z, _⟩ => by omega⟩⟩ ?_ ?_
  · obtain ⟨y, e1, e2⟩ := key
    refine ⟨y, ?_, e2⟩
    rw [e1]
    rfl
  · rintro k ⟨y, t⟩ hk ⟨ht, hy⟩
    replace ht : t = nI k := ht
    replace hy : mk y (fun j => ∃ s i, s < k ∧ P i ∧ eg f v s i j) := hy
    subst ht
    refine .inl ?_
    obtain ⟨⟨i, hi, ei⟩, ⟨j, hj, ej⟩, -⟩ := V.1.2.2.1 k hk
    have b1 : ((u >>> (nI k &&& nI 31)) &&& nI 1 = nI 1) = cn f k v := by rw [bit1 (by omega), hu k (by omega)]
    have b2 : ((x >>> (nI i &&& nI 31)) &&& nI 1 = nI 1) = P i := by rw [bit1 (by omega), hx i (by omega)]; simp [hi]
    have e0 : ∀ A B : Option ((Int32 × Int32) ⊕ Int32), (if rI m 2 4 ≤ nI k then A else B) = B := fun A B => by rw [R.sc, V.s0, if_neg (nI_ge hk (by omega))]
    have e1 : gI m 3 24 (nI k) = some (nI i) := by rw [gI_n (by omega) (by omega), R.fr (by omega), ei]
    have e2 : gI m 4 24 (nI k) = some (nI j) := by rw [gI_n (by omega) (by omega), R.to (by omega), ej]
    by_cases q1 : cn f k v
    · by_cases q2 : P i
      · refine ⟨(y ||| nI 1 <<< (nI j &&& nI 31), nI (k + 1)), ?_, rfl, (mk.or hy (mk.one hj)).iff fun j' hj' => ⟨?_, ?_⟩⟩
        · show (if rI m 2 4 ≤ nI k then _ else _) = _
          rw [e0, if_pos (b1.mpr q1), e1]
          show Option.bind (if (x >>> (nI i &&& nI 31)) &&& nI 1 = nI 1 then _ else _) _ = _
          rw [if_pos (b2.mpr q2), e2, ← nI_add]
          rfl
        · rintro (⟨s, i2, h1, h2, h3⟩ | rfl)
          · exact ⟨s, i2, by omega, h2, h3⟩
          · exact ⟨k, i, by omega, q2, q1, hi, hj, ei, ej⟩
        · rintro ⟨s, i2, h1, h2, h3⟩
          by_cases e : s = k
          · subst e
            refine .inr ?_
            have h4 := h3.2.2.2.2
            have h5 := h3.2.2.1
            rw [ej] at h4
            exact ((nI_eq (by omega) (by omega)).mp h4).symm
          · exact .inl ⟨s, i2, by omega, h2, h3⟩
      · refine ⟨(y, nI (k + 1)), ?_, rfl, hy.iff fun j' hj' => ⟨?_, ?_⟩⟩
        · show (if rI m 2 4 ≤ nI k then _ else _) = _
          rw [e0, if_pos (b1.mpr q1), e1]
          show Option.bind (if (x >>> (nI i &&& nI 31)) &&& nI 1 = nI 1 then _ else _) _ = _
          rw [if_neg (fun z => q2 (b2.mp z)), ← nI_add]
          rfl
        · rintro ⟨s, i2, h1, h2, h3⟩
          exact ⟨s, i2, by omega, h2, h3⟩
        · rintro ⟨s, i2, h1, h2, h3⟩
          by_cases e : s = k
          · subst e
            have h4 := h3.2.2.2.1
            have h5 := h3.2.1
            rw [ei] at h4
            exact absurd ((nI_eq (by omega) (by omega)).mp h4 ▸ h2) q2
          · exact ⟨s, i2, by omega, h2, h3⟩
    · refine ⟨(y, nI (k + 1)), ?_, rfl, hy.iff fun j' hj' => ⟨?_, ?_⟩⟩
      · show (if rI m 2 4 ≤ nI k then _ else _) = _
        rw [e0, if_neg (fun z => q1 (b1.mp z)), ← nI_add]
        rfl
      · rintro ⟨s, i2, h1, h2, h3⟩
        exact ⟨s, i2, by omega, h2, h3⟩
      · rintro ⟨s, i2, h1, h2, h3⟩
        by_cases e : s = k
        · subst e
          exact absurd h3.1 q1
        · exact ⟨s, i2, by omega, h2, h3⟩
  · rintro ⟨y, t⟩ ⟨rfl, hy⟩
    refine ⟨y, ?_, hy⟩
    show (if rI m 2 4 ≤ nI (sN f) then _ else _) = _
    rw [R.sc, V.s0, if_pos (nI_le (Nat.le_refl _) (by omega))]
theorem d66 (R : RC m 1 f) (V : rv f) {v : Int32} (hv : sm v 2) {a : Nat} (ha : a < 10) : ∃ y, D66 m (nI a) v = some y ∧ mk y (rc f v a 10) := by
  unfold D66
  refine lp_inv (fun k s => s.2 = nI k ∧ mk s.1 (rc f v a k)) (fun y => mk y (rc f v a 10)) 10 (by omega) ⟨rfl, mk.one ha⟩ ?_ ?_
  · rintro k ⟨x, t⟩ hk ⟨ht, hx⟩
    replace ht : t = nI k := ht
    replace hx : mk x (rc f v a k) := hx
    subst ht
    obtain ⟨y, ey, hy⟩ := d65 R V hv hx
    have e0 : ∀ A B : Option ((Int32 × Int32) ⊕ Int32), (if nI 10 ≤ nI k then A else B) = B := fun A B => if_neg (nI_ge hk (by omega))
    show (∃ s', (if nI 10 ≤ nI k then _ else (D65 m x v).bind _) = _ ∧ _) ∨ (∃ b, (if nI 10 ≤ nI k then _ else (D65 m x v).bind _) = _ ∧ _)
    rw [e0, ey]
    show (∃ s', (if x ||| y = x then _ else _) = _ ∧ _) ∨ (∃ b, (if x ||| y = x then _ else _) = _ ∧ _)
    by_cases q : ∀ j, j < 10 → (∃ s i, s < sN f ∧ rc f v a k i ∧ eg f v s i j) → rc f v a k j
    · refine .inr ⟨x, if_pos ((mk.sub hx hy).mpr q), hx.iff fun j hj => ⟨rc_mono (by omega), fun r => rc_stop' (fun j hj r => ?_) (show k ≤ 10 by omega) hj r⟩⟩
      rcases r with r | r
      · exact r
      · exact q j hj r
    · exact .inl ⟨(x ||| y, nI k + nI 1), if_neg (fun z => q ((mk.sub hx hy).mp z)), nI_add k 1, mk.or hx hy⟩
  · rintro ⟨x, t⟩ ⟨ht, hx⟩
    replace ht : t = nI 10 := ht
    subst ht
    exact ⟨x, rfl, hx⟩
theorem d68 (R : RC m 1 f) (V : rv f) {v : Int32} (hv : sm v 2) {a b : Nat} (ha : a < 10) (hb : b < 10) : ∃ y, D68 m (nI a) (nI b) v = some y ∧ WY f v a b y := by
  unfold D68
  refine lp_inv (fun k s => s.2 = nI k ∧ mk s.1 (rc f v a k) ∧ ∀ n, n < k → ¬ rc f v a n b) (fun y => WY f v a b y) 10 (by omega) ⟨rfl, mk.one ha, fun n hn => by omega⟩ ?_ ?_
  · rintro k ⟨x, t⟩ hk ⟨ht, hx, hn⟩
    replace ht : t = nI k := ht
    replace hx : mk x (rc f v a k) := hx
    subst ht
    obtain ⟨y, ey, hy⟩ := d65 R V hv hx
    have e0 : ∀ A B : Option ((Int32 × Int32) ⊕ Int32), (if nI 10 ≤ nI k then A else B) = B := fun A B => if_neg (nI_ge hk (by omega))
    have b1 : ((x >>> (nI b &&& nI 31)) &&& nI 1 = nI 1) = rc f v a k b := by rw [bit1 (by omega), hx b (by omega)]; simp [hb]
    show (∃ s', (if nI 10 ≤ nI k then _ else (if (x >>> (nI b &&& nI 31)) &&& nI 1 = nI 1 then _ else (D65 m x v).bind _)) = _ ∧ _) ∨ (∃ b', (if nI 10 ≤ nI k then _ else (if (x >>> (nI b &&& nI 31)) &&& nI 1 = nI 1 then _ else (D65 m x v).bind _)) = _ ∧ _)
    rw [e0]
    by_cases q0 : rc f v a k b
    · exact .inr ⟨nI k, if_pos (b1.mpr q0), .inl ⟨k, hk, ⟨q0, hn⟩, rfl⟩⟩
    · rw [if_neg (fun z => q0 (b1.mp z)), ey]
      show (∃ s', (if x ||| y = x then _ else _) = _ ∧ _) ∨ (∃ b, (if x ||| y = x then _ else _) = _ ∧ _)
      by_cases q : ∀ j, j < 10 → (∃ s i, s < sN f ∧ rc f v a k i ∧ eg f v s i j) → rc f v a k j
      · refine .inr ⟨-1, if_pos ((mk.sub hx hy).mpr q), .inr ⟨fun n _ r => ?_, rfl⟩⟩
        by_cases e : n < k
        · exact hn n e r
        · refine q0 (rc_stop' (fun j hj r => ?_) (show k ≤ n by omega) hb r)
          rcases r with r | r
          · exact r
          · exact q j hj r
      · refine .inl ⟨(x ||| y, nI k + nI 1), if_neg (fun z => q ((mk.sub hx hy).mp z)), nI_add k 1, mk.or hx hy, fun n hn' r => ?_⟩
        by_cases e : n < k
        · exact hn n e r
        · exact q0 ((show n = k by omega) ▸ r)
  · rintro ⟨x, t⟩ ⟨ht, hx, hn⟩
    replace ht : t = nI 10 := ht
    subst ht
    exact ⟨-1, rfl, .inr ⟨fun n h => hn n h, rfl⟩⟩
end RE
