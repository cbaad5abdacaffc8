/-! CHANGES: what they share; capacity, limit, orders, turns -/
section MU
variable {m m1 m2 mA mB mC : dM} {s t : gS} {f g : Nat → Int32} {X : Nat × (Nat → Int32)} {i : Nat}
theorem b_one {n j : Nat} (hn : n < 32) (hj : j < 32) : bt (nI 1 <<< (nI n &&& nI 31)) j = decide (j = n) := by
  rw [n31, b_shl n hn _ hj]
  by_cases q : n ≤ j
  · rw [decide_eq_true q, Bool.true_and, b_1 _ (by omega)]
    by_cases e : j = n
    · rw [decide_eq_true (show j - n = 0 by omega), decide_eq_true e]
    · rw [decide_eq_false (show ¬ j - n = 0 by omega), decide_eq_false e]
  · rw [decide_eq_false q, Bool.false_and, decide_eq_false (by omega)]
theorem upd_self {x : Nat} : upd f x (f x) = f := by
  funext y
  by_cases e : y = x
  · rw [e, upd_s]
  · rw [upd_n e]
theorem RC.mks (R : RC m 1 f) (c : chg (fun b => 2 ≤ b ∧ b ≤ 4) m m1) (h : ∀ x, 97 ≤ x → g x = f x) (hs : RCs m1 1 g) (V : rv f) : RC m1 1 g := ⟨hs, R.2.1.cg (fun x q _ => h x q) (fun b _ _ => c.1 b (by omega)), R.2.2.1.cg (fun x q _ => h x (by omega)) (fun b _ _ => c.1 b (by omega)), R.2.2.2.1.cg V.t61 (fun x q => h x (by omega)) (fun b _ _ => ⟨c.1 b (by omega), c.2.1 b (by omega)⟩), R.2.2.2.2.cg (fun x q _ => h x (by omega)) (fun b _ => c.1 b (by omega))⟩
theorem RC.mkc (R : RC m 1 f) (c : chg (fun b => 5 ≤ b ∧ b ≤ 9) m m1) (h : ∀ x, ¬ (97 ≤ x ∧ x < 117) → g x = f x) (hs : RCc m1 1 g) (V : rv f) : RC m1 1 g := ⟨R.1.cg (fun x q => h x (by omega)) (fun b _ _ => c.1 b (by omega)), hs, R.2.2.1.cg (fun x q _ => h x (by omega)) (fun b _ _ => c.1 b (by omega)), R.2.2.2.1.cg V.t61 (fun x q => h x (by omega)) (fun b _ _ => ⟨c.1 b (by omega), c.2.1 b (by omega)⟩), R.2.2.2.2.cg (fun x q _ => h x (by omega)) (fun b _ => c.1 b (by omega))⟩
theorem RC.mkp (R : RC m 1 f) (c : chg (fun b => 10 ≤ b ∧ b ≤ 16) m m1) (h : ∀ x, ¬ (117 ≤ x ∧ x < 166) → x < 174 → g x = f x) (hs : RCp m1 1 g) (hn : RCn m1 1 g) : RC m1 1 g := ⟨R.1.cg (fun x q => h x (by omega) (by omega)) (fun b _ _ => c.1 b (by omega)), R.2.1.cg (fun x q _ => h x (by omega) (by omega)) (fun b _ _ => c.1 b (by omega)), hs, hn, R.2.2.2.2.cg (fun x q _ => h x (by omega) (by omega)) (fun b _ => c.1 b (by omega))⟩
theorem RC.mkm (R : RC m 1 f) (c : chg (fun b => b = 1 ∨ b = 17) m m1) (h : ∀ x, ¬ (166 ≤ x ∧ x < 174) → g x = f x) (hs : RCm m1 1 g) (V : rv f) : RC m1 1 g := ⟨R.1.cg (fun x q => h x (by omega)) (fun b _ _ => c.1 b (by omega)), R.2.1.cg (fun x q _ => h x (by omega)) (fun b _ _ => c.1 b (by omega)), R.2.2.1.cg (fun x q _ => h x (by omega)) (fun b _ _ => c.1 b (by omega)), R.2.2.2.1.cg V.t61 (fun x q => h x (by omega)) (fun b _ _ => ⟨c.1 b (by omega), c.2.1 b (by omega)⟩), hs⟩
def nowC (b : Nat) : Prop := (1 ≤ b ∧ b ≤ 17) ∨ (37 ≤ b ∧ b ≤ 41)
theorem IC.n5 (h : IC m s) : s.2.1 ≤ 5 := h.2.2.1.1
theorem IC.nowc (h : IC m s) (c : chg nowC m m1) (R : RC m1 1 f) (V : rv f) : IC m1 (nwS s f) := h.nw (c.mono (fun b q => q)) R V
/-- a setting is changed -/
theorem rv_set (V : rv f) {x : Nat} {v : Int32} (hx : x = 166 ∨ x = 167) (hv : x = 167 → ∃ l, l ≤ 60 ∧ v = nI l) : rv (upd f x v) := by
  have e : ∀ y, y ≠ 166 → y ≠ 167 → upd f x v y = f y := fun y q1 q2 => upd_n (fun z => hx.elim (fun h => q1 (z.trans h)) (fun h => q2 (z.trans h)))
  refine ⟨V.1.cg (fun y q => e y (by omega) (by omega)), V.2.1.cg V.s24 (fun y q => e y (by omega) (by omega)), V.2.2.1.cg (fun y _ q => e y (by omega) (by omega)), ?_⟩
  obtain ⟨q1, q2, q3, q4, q5, q6⟩ := V.2.2.2
  unfold rvN
  rw [tN.cg (e 174 (by omega) (by omega)), e 174 (by omega) (by omega), e 168 (by omega) (by omega), e 172 (by omega) (by omega), e 173 (by omega) (by omega), pN.cg (e 117 (by omega) (by omega))]
  refine ⟨q1, q2, q3, ?_, q5, fun pl hpl => ?_⟩
  · rcases hx with h | h
    · rw [h, upd_n (by decide)]; exact q4
    · rw [h, upd_s]; exact hv h
  · rw [e (170 + pl) (by omega) (by omega), q6 pl hpl]
    exact (vd.cg V.p8 (fun y _ q => e y (by omega) (by omega))).symm
theorem RC_cap (R : RC m 1 f) (V : rv f) {v : Int32} : RC (wI m 1 5 v) 1 (upd f 166 v) := by
  have e : ∀ x, ¬ (166 ≤ x ∧ x < 174) → upd f 166 v x = f x := fun x q => upd_n (fun z => q (by omega))
  refine R.mkm (chg.wI chg.rf (.inl rfl)) e ⟨fun j hj => ?_, ?_⟩ V
  · show rI (wI m 1 5 v) 17 j = _
    rw [rI_wn (by decide), R.pt hj, upd_n (by omega)]
  · show rI (wI m 1 5 v) 1 5 = _ ∧ rI (wI m 1 5 v) 1 6 = _ ∧ rI (wI m 1 5 v) 1 7 = _ ∧ rI (wI m 1 5 v) 1 8 = _ ∧ rI (wI m 1 5 v) 1 9 = _
    rw [rI_ws]
    refine ⟨by rw [upd_s, upd_s], ?_, ?_, ?_, ?_⟩
    · rw [upd_n (by decide), upd_n (by decide)]; exact R.lm
    · rw [upd_n (by decide), upd_n (by decide)]; exact R.tn
    · rw [upd_n (by decide), upd_n (by decide)]; exact R.fl
    · rw [upd_n (show 9 ≠ 5 by decide), upd_n (show 172 ≠ 166 by decide), upd_n (show 173 ≠ 166 by decide)]; exact R.st
theorem RC_lim (R : RC m 1 f) (V : rv f) {v : Int32} : RC (wI m 1 6 v) 1 (upd f 167 v) := by
  have e : ∀ x, ¬ (166 ≤ x ∧ x < 174) → upd f 167 v x = f x := fun x q => upd_n (fun z => q (by omega))
  refine R.mkm (chg.wI chg.rf (.inl rfl)) e ⟨fun j hj => ?_, ?_⟩ V
  · show rI (wI m 1 6 v) 17 j = _
    rw [rI_wn (by decide), R.pt hj, upd_n (by omega)]
  · show rI (wI m 1 6 v) 1 5 = _ ∧ rI (wI m 1 6 v) 1 6 = _ ∧ rI (wI m 1 6 v) 1 7 = _ ∧ rI (wI m 1 6 v) 1 8 = _ ∧ rI (wI m 1 6 v) 1 9 = _
    rw [rI_ws]
    refine ⟨?_, by rw [upd_s, upd_s], ?_, ?_, ?_⟩
    · rw [upd_n (by decide), upd_n (by decide)]; exact R.cp
    · rw [upd_n (by decide), upd_n (by decide)]; exact R.tn
    · rw [upd_n (by decide), upd_n (by decide)]; exact R.fl
    · rw [upd_n (show 9 ≠ 6 by decide), upd_n (show 172 ≠ 167 by decide), upd_n (show 173 ≠ 167 by decide)]; exact R.st
theorem rg_or (p : Int32) {a b : Nat} (ha : a ≤ b) (hb : b < 100000) : (∃ j, a ≤ j ∧ j ≤ b ∧ p = nI j) ∨ p < nI a ∨ (¬ p < nI a ∧ ¬ p ≤ nI b) := by
  by_cases h1 : p < nI a
  · exact .inr (.inl h1)
  · by_cases h2 : p ≤ nI b
    · have h0 : ¬ p < 0 := fun z => h1 (Int32.lt_of_lt_of_le z (show nI 0 ≤ nI a from nI_le (by omega) (by omega)))
      obtain ⟨j, hj, rfl⟩ := nI_of h0
      refine .inl ⟨j, ?_, ?_, rfl⟩
      · rw [nI_ltI hj (by omega)] at h1
        omega
      · rw [nI_leI hj (by omega)] at h2
        exact h2
    · exact .inr (.inr ⟨h1, h2⟩)
/-- whether all loads fit -/
def fitB (f : Nat → Int32) (p : Int32) (c : Nat) : Bool := decide (¬ ld f (nI c) (pN f) ≤ (if f (97 + 5 * c + 1) = nI 1 then nI 2 * p else p))
end MU
