/-! FORETELLING: the fates of the couriers in a turn -/
def anyN (P : Nat → Bool) : Nat → Bool
  | 0 => false
  | n + 1 => anyN P n || P n
def bI (b : Bool) : Int32 := if b = true then nI 1 else nI 0
theorem bI0 {b : Bool} : (bI b = nI 0) = (b = false) := by cases b <;> decide
theorem bI1 {b : Bool} : (bI b = nI 1) = (b = true) := by cases b <;> decide
/-- where a courier is, and where its order leads -/
def aT (f : Nat → Int32) (c : Nat) : Int32 := f (97 + 5 * c + 0)
def eT (f : Nat → Int32) (c : Nat) : Int32 := f (1 + 4 * (f (97 + 5 * c + 2)).toNatClampNeg + 1)
def pE (f g : Nat → Int32) (c b : Nat) : Bool := decide (b ≠ c ∧ g b = nI 0 ∧ eT f b = aT f c ∧ aT f b = eT f c)
def pH (f g : Nat → Int32) (c b : Nat) : Bool := decide (b ≠ c ∧ g b = nI 0 ∧ eT f b = eT f c ∧ ld f (nI c) (pN f) < ld f (nI b) (pN f))
def pA (f g : Nat → Int32) (c b : Nat) : Bool := decide (b ≠ c ∧ g b = nI 0 ∧ eT f b = eT f c ∧ ld f (nI b) (pN f) = ld f (nI c) (pN f))
def pS (f g : Nat → Int32) (c b : Nat) : Bool := decide (b ≠ c ∧ g b ≠ nI 0 ∧ aT f b = eT f c)
/-- the first reason for which a move fails -/
def fl (f g : Nat → Int32) (c : Nat) : Nat := if anyN (pE f g c) 4 = true then 2 else if anyN (pH f g c) 4 = true then 3 else if anyN (pA f g c) 4 = true then 4 else if anyN (pS f g c) 4 = true then 5 else 0
/-- a round -/
def rd (f g : Nat → Int32) : Nat → Int32 := fun c => if c < 4 ∧ g c = nI 0 then nI (fl f g c) else g c
def g0 (f : Nat → Int32) : Nat → Int32 := fun c => if f (97 + 5 * c + 2) = -1 then nI 1 else nI 0
def it (f : Nat → Int32) : Nat → Nat → Int32
  | 0 => g0 f
  | n + 1 => rd f (it f n)
def fin (f : Nat → Int32) : Nat → Int32 := it f 4
def zr (g : Nat → Int32) : Nat := ct (fun c => decide (g c = nI 0)) 4
theorem zr_le (g : Nat → Int32) : zr g ≤ 4 := ct_le 4
theorem fl_le (f g : Nat → Int32) (c : Nat) : fl f g c ≤ 5 := by
  unfold fl
  split
  · omega
  · split
    · omega
    · split
      · omega
      · split <;> omega
theorem rd_0 {f g : Nat → Int32} {c : Nat} (h : rd f g c = nI 0) : g c = nI 0 := by
  unfold rd at h
  split at h
  · rename_i q; exact q.2
  · exact h
theorem rd_n {f g : Nat → Int32} (h : ¬ ∀ c, c < 4 → rd f g c = g c) : zr (rd f g) < zr g := by
  have h1 : ∃ c, c < 4 ∧ rd f g c ≠ g c := Classical.byContradiction fun q => h fun c hc => Classical.byContradiction fun z => q ⟨c, hc, z⟩
  obtain ⟨c, hc, hn⟩ := h1
  have h2 : g c = nI 0 := by
    refine Classical.byContradiction fun q => hn ?_
    unfold rd
    rw [if_neg (fun z => q z.2)]
  refine ct_more (fun i hi => ?_) (j := c) (fun q => hn ?_) ?_ 4 hc
  · rw [decide_eq_true_eq] at hi ⊢
    exact rd_0 hi
  · rw [decide_eq_true_eq] at q
    rw [q, h2]
  · rw [decide_eq_true_eq]
    exact h2
theorem rd_st {f g : Nat → Int32} (h : ∀ c, c < 4 → rd f g c = g c) : rd f g = g := by
  funext c
  by_cases hc : c < 4
  · exact h c hc
  · unfold rd
    rw [if_neg (fun z => hc z.1)]
theorem it_st {f : Nat → Int32} {n : Nat} (h : rd f (it f n) = it f n) : ∀ k, it f (n + k) = it f n
  | 0 => rfl
  | k + 1 => by
    show rd f (it f (n + k)) = it f n
    rw [it_st h k, h]
theorem it_fin {f : Nat → Int32} {n : Nat} (hn : n ≤ 4) (h : rd f (it f n) = it f n) : it f n = fin f := by
  have := it_st h (4 - n)
  rw [show n + (4 - n) = 4 by omega] at this
  exact this.symm
/-- the last round changes nothing -/
theorem fin_st (f : Nat → Int32) : rd f (fin f) = fin f := by
  have key : ∀ n, (∃ k, k ≤ n ∧ rd f (it f k) = it f k) ∨ zr (it f (n + 1)) + n + 1 ≤ 4 := by
    intro n
    induction n with
    | zero =>
      by_cases q : ∀ c, c < 4 → rd f (it f 0) c = it f 0 c
      · exact .inl ⟨0, Nat.le_refl _, rd_st q⟩
      · have := rd_n q
        have h2 := zr_le (it f 0)
        exact .inr (by show zr (rd f (it f 0)) + 0 + 1 ≤ 4; omega)
    | succ n ih =>
      rcases ih with ⟨k, h1, h2⟩ | h
      · exact .inl ⟨k, by omega, h2⟩
      · by_cases q : ∀ c, c < 4 → rd f (it f (n + 1)) c = it f (n + 1) c
        · exact .inl ⟨n + 1, Nat.le_refl _, rd_st q⟩
        · have := rd_n q
          exact .inr (by show zr (rd f (it f (n + 1))) + (n + 1) + 1 ≤ 4; omega)
  rcases key 4 with ⟨k, h1, h2⟩ | h
  · rw [← it_fin h1 h2]
    exact h2
  · omega
theorem it_0 {f : Nat → Int32} {c : Nat} : ∀ n, it f n c = nI 0 → g0 f c = nI 0
  | 0, h => h
  | n + 1, h => it_0 n (rd_0 h)
theorem g0_or {f : Nat → Int32} {c : Nat} (V : rv f) (hc : c < 4) (h : g0 f c = nI 0) : ∃ s, s < sN f ∧ f (97 + 5 * c + 2) = nI s ∧ f (1 + 4 * s) = aT f c ∧ f (1 + 4 * s + 1) = eT f c := by
  rcases (V.2.1.1 c hc).2.2 with q | ⟨s, h1, h2, h3, -⟩
  · unfold g0 at h
    rw [if_pos q] at h
    exact absurd h (by decide)
  · refine ⟨s, h1, h2, h3, ?_⟩
    have := V.s24
    unfold eT
    rw [h2, nI_clamp (by omega)]
section FO
variable {m : dM} {f g : Nat → Int32}
/-- a mover's begin and end differ -/
theorem mv_ne (V : rv f) {c : Nat} (hc : c < 4) (h : g0 f c = nI 0) : aT f c ≠ eT f c := by
  obtain ⟨s, h1, h2, h3, h4⟩ := g0_or V hc h
  have := (V.1.2.2.1 s h1).2.2
  rw [h3, h4] at this
  exact this
theorem an4 {P : Nat → Bool} {n : Nat} : anyN P (n + 1) = (anyN P n || P n) := rfl
/-- the end in the class's rows: -1 where there is no order -/
def eC (f : Nat → Int32) (c : Nat) : Int32 := if g0 f c = nI 0 then eT f c else -1
theorem d9 (V : rv f) (hg : ∀ b, b < 4 → g b = nI 0 → g0 f b = nI 0) (hb : ∀ b, b < 4 → rI m 37 b = aT f b ∧ rI m 38 b = eC f b ∧ rI m 39 b = ld f (nI b) (pN f) ∧ rI m 40 b = g b) {c : Nat} (hc : c < 4) (h0 : g c = nI 0) : D9 m (nI c) (aT f c) (eC f c) (ld f (nI c) (pN f)) = some (nI (fl f g c)) := by
  have hec : ∀ b, b < 4 → g b = nI 0 → eC f b = eT f b := fun b h1 h2 => by unfold eC; rw [if_pos (hg b h1 h2)]
  rw [hec c hc h0]
  have hne := mv_ne V hc (hg c hc h0)
  unfold D9
  refine lpb (bI (anyN (pE f g c) 4), bI (anyN (pH f g c) 4), bI (anyN (pA f g c) 4), bI (anyN (pS f g c) 4)) (fun i => (bI (anyN (pE f g c) i), bI (anyN (pH f g c) i), bI (anyN (pA f g c) i), bI (anyN (pS f g c) i), nI i)) 4 (by omega) rfl (fun i hi => ?_) rfl ?_
  · obtain ⟨b1, b2, b3, b4⟩ := hb i hi
    have e0 : ∀ A B : Option ((Int32 × Int32 × Int32 × Int32 × Int32) ⊕ (Int32 × Int32 × Int32 × Int32)), (if nI 4 ≤ nI i then A else B) = B := fun A B => if_neg (nI_ge hi (by omega))
    show (if nI 4 ≤ nI i then _ else _) = _
    rw [e0]
    simp only [an4, gI_n hi (show 4 ≤ 100000 by omega), b1, b2, b3, b4, Option.bind_some, nI_eq (show i < 2 ^ 31 by omega) (show c < 2 ^ 31 by omega), bI0, nI_add]
    by_cases q1 : i = c
    · have z1 : pE f g c i = false := by unfold pE; simp [q1]
      have z2 : pH f g c i = false := by unfold pH; simp [q1]
      have z3 : pA f g c i = false := by unfold pA; simp [q1]
      have z4 : pS f g c i = false := by unfold pS; simp [q1]
      simp [q1] at z1 z2 z3 z4 ⊢
      simp [z1, z2, z3, z4]
    · by_cases q2 : g i = nI 0
      · have ee := hec i hi q2
        have z4 : pS f g c i = false := by unfold pS; simp [q2]
        by_cases q3 : eT f i = eT f c
        · have z1 : pE f g c i = false := by
            unfold pE
            rw [decide_eq_false_iff_not]
            rintro ⟨-, -, h3, -⟩
            exact hne (h3 ▸ q3)
          have z2 : pH f g c i = decide (ld f (nI c) (pN f) < ld f (nI i) (pN f)) := by unfold pH; simp [q1, q2, q3]
          have z3 : pA f g c i = decide (ld f (nI i) (pN f) = ld f (nI c) (pN f)) := by unfold pA; simp [q1, q2, q3]
          rw [if_neg q1, if_pos q2, ee, if_pos q3, z1, z2, z3, z4]
          have y1 : (if anyN (pH f g c) i = false then (if ld f (nI i) (pN f) ≤ ld f (nI c) (pN f) then some (nI 0) else some (nI 1)) else some (nI 1)) = some (bI (anyN (pH f g c) i || decide (ld f (nI c) (pN f) < ld f (nI i) (pN f)))) := by
            cases anyN (pH f g c) i with
            | true => rfl
            | false =>
              rw [if_pos rfl]
              by_cases w : ld f (nI i) (pN f) ≤ ld f (nI c) (pN f)
              · rw [if_pos w, decide_eq_false (Int32.not_lt.mpr w)]; rfl
              · rw [if_neg w, decide_eq_true (Int32.not_le.mp w)]; rfl
          have y2 : (if anyN (pA f g c) i = false then (if ld f (nI i) (pN f) = ld f (nI c) (pN f) then some (nI 1) else some (nI 0)) else some (nI 1)) = some (bI (anyN (pA f g c) i || decide (ld f (nI i) (pN f) = ld f (nI c) (pN f)))) := by
            cases anyN (pA f g c) i with
            | true => rfl
            | false =>
              rw [if_pos rfl]
              by_cases w : ld f (nI i) (pN f) = ld f (nI c) (pN f)
              · rw [if_pos w, decide_eq_true w]; rfl
              · rw [if_neg w, decide_eq_false w]; rfl
          rw [y1, y2]
          simp only [Option.bind_some, Bool.or_false]
        · have z2 : pH f g c i = false := by unfold pH; simp [q3]
          have z3 : pA f g c i = false := by unfold pA; simp [q3]
          have z1 : pE f g c i = decide (eT f i = aT f c ∧ aT f i = eT f c) := by unfold pE; simp [q1, q2]
          rw [if_neg q1, if_pos q2, ee, if_neg q3, z1, z2, z3, z4]
          have y1 : (if anyN (pE f g c) i = false then (if eT f i = aT f c then (if aT f i = eT f c then some (nI 1) else some (nI 0)) else some (nI 0)) else some (nI 1)) = some (bI (anyN (pE f g c) i || decide (eT f i = aT f c ∧ aT f i = eT f c))) := by
            cases anyN (pE f g c) i with
            | true => rfl
            | false =>
              rw [if_pos rfl]
              by_cases w : eT f i = aT f c
              · by_cases w2 : aT f i = eT f c
                · rw [if_pos w, if_pos w2, decide_eq_true ⟨w, w2⟩]; rfl
                · rw [if_pos w, if_neg w2, decide_eq_false (fun z => w2 z.2)]; rfl
              · rw [if_neg w, decide_eq_false (fun z => w z.1)]; rfl
          rw [y1]
          simp only [Option.bind_some, Bool.or_false]
      · have z1 : pE f g c i = false := by unfold pE; simp [q2]
        have z2 : pH f g c i = false := by unfold pH; simp [q2]
        have z3 : pA f g c i = false := by unfold pA; simp [q2]
        have z4 : pS f g c i = decide (aT f i = eT f c) := by unfold pS; simp [q1, q2]
        rw [if_neg q1, if_neg q2, z1, z2, z3, z4]
        have y1 : (if anyN (pS f g c) i = false then (if aT f i = eT f c then some (nI 1) else some (nI 0)) else some (nI 1)) = some (bI (anyN (pS f g c) i || decide (aT f i = eT f c))) := by
          cases anyN (pS f g c) i with
          | true => rfl
          | false =>
            rw [if_pos rfl]
            by_cases w : aT f i = eT f c
            · rw [if_pos w, decide_eq_true w]; rfl
            · rw [if_neg w, decide_eq_false w]; rfl
        rw [y1]
        simp only [Option.bind_some, Bool.or_false]
  · unfold fl
    simp only [bI0]
    cases anyN (pE f g c) 4 <;> cases anyN (pH f g c) 4 <;> cases anyN (pA f g c) 4 <;> cases anyN (pS f g c) 4 <;> rfl
end FO
