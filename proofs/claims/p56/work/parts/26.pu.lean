/-! PURE: numbers, memories, loops -/
theorem nI_mul (a b : Nat) : nI a * nI b = nI (a * b) := (Int32.ofNat_mul a b).symm
theorem nI_sub {a b : Nat} (h : b ≤ a) : nI a - nI b = nI (a - b) := by
  have e : nI a = nI (a - b) + nI b := by rw [nI_add, Nat.sub_add_cancel h]
  rw [e]
  exact Int32.add_sub_cancel _ _
theorem nI_m1 {a : Nat} (h : a < 2 ^ 31) : (nI a = -1) = False := by
  refine eq_false fun e => ?_
  have e2 := congrArg Int32.toInt e
  rw [nI_toInt h] at e2
  have : (-1 : Int32).toInt = -1 := by decide
  omega
theorem nI_m1' {a : Nat} (h : a < 2 ^ 31) : (-1 = nI a) = False := by rw [eq_comm (a := (-1 : Int32)), nI_m1 h]
theorem nI_m1p (a : Nat) : nI (a + 1) + -1 = nI a := by
  have e : nI (a + 1) = nI a + nI 1 := (nI_add a 1).symm
  rw [e, Int32.add_assoc, show nI 1 + -1 = 0 from by decide, Int32.add_zero]
theorem nI_m1s {a : Nat} (h : 0 < a) : nI a + -1 = nI (a - 1) := by
  obtain ⟨b, rfl⟩ : ∃ b, a = b + 1 := ⟨a - 1, by omega⟩
  exact nI_m1p b
theorem kD_n {a : Nat} (h : 0 < a) : kD (nI a) = some (nI (a - 1)) := congrArg some (nI_m1s h)
theorem kD_0 : kD (nI 0) = some (-1) := by decide
theorem m1_lt {a : Nat} (h : a < 2 ^ 31) : ((-1 : Int32) < nI a) = True := by
  refine eq_true ?_
  rw [Int32.lt_iff_toInt_lt, nI_toInt h]
  have : (-1 : Int32).toInt = -1 := by decide
  omega
theorem m1_le {a : Nat} (h : a < 2 ^ 31) : ((-1 : Int32) ≤ nI a) = True := by
  refine eq_true ?_
  rw [Int32.le_iff_toInt_le, nI_toInt h]
  have : (-1 : Int32).toInt = -1 := by decide
  omega
theorem m1_ge {a : Nat} (h : a < 2 ^ 31) : (nI a ≤ (-1 : Int32)) = False := by
  refine eq_false ?_
  rw [Int32.le_iff_toInt_le, nI_toInt h]
  have : (-1 : Int32).toInt = -1 := by decide
  omega
theorem m1_gt {a : Nat} (h : a < 2 ^ 31) : (nI a < (-1 : Int32)) = False := by
  refine eq_false ?_
  rw [Int32.lt_iff_toInt_lt, nI_toInt h]
  have : (-1 : Int32).toInt = -1 := by decide
  omega
theorem nI_inb {j n : Nat} (h : j < n) (hn : n ≤ 100000) : ax_inb (nI j) n = true := by
  simp only [ax_inb, Bool.and_eq_true, decide_eq_true_eq, nI_clamp (show j < 2 ^ 31 by omega)]
  exact ⟨nI_pos' (by omega), Nat.ble_eq_true_of_le (by omega)⟩
theorem gI_n {m : dM} {a n j : Nat} (h : j < n) (hn : n ≤ 100000) : gI m a n (nI j) = some (rI m a j) := by
  unfold gI
  rw [nI_inb h hn, nI_clamp (by omega)]
  rfl
theorem gL_n {m : dM} {a n j : Nat} (h : j < n) (hn : n ≤ 100000) : gL m a n (nI j) = some (rL m a j) := by
  unfold gL
  rw [nI_inb h hn, nI_clamp (by omega)]
  rfl
theorem sI_n {m : dM} {a n j : Nat} {v : Int32} (h : j < n) (hn : n ≤ 100000) : sI m a n (nI j) v = some (wI m a j v) := by
  unfold sI
  rw [nI_inb h hn, nI_clamp (by omega)]
  rfl
theorem sL_n {m : dM} {a n j : Nat} {v : Int64} (h : j < n) (hn : n ≤ 100000) : sL m a n (nI j) v = some (wL m a j v) := by
  unfold sL
  rw [nI_inb h hn, nI_clamp (by omega)]
  rfl
theorem gR_n {m : dM} {j : Nat} (h : j < 5) : gR m (nI j) = some (rR m j) := by
  unfold gR
  rw [nI_inb h (by omega), nI_clamp (by omega)]
  rfl
theorem sR_n {m : dM} {j v : Nat} (h : j < 5) (hv : isS v = true) : sR m (nI j) v = some (wR m j v) := by
  unfold sR
  rw [nI_inb h (by omega), nI_clamp (by omega), hv]
  rfl
theorem gB_1 : gB (nI 1) = some (nI 1) := rfl
theorem gB_0 : gB (nI 0) = some (nI 0) := rfl
theorem gB_i {p : Prop} {dp : Decidable p} : gB (@ite _ p dp (nI 1) (nI 0)) = some (@ite _ p dp (nI 1) (nI 0)) := by
  by_cases h : p
  · rw [if_pos h]; rfl
  · rw [if_neg h]; rfl
theorem n10 : (nI 1 = nI 0) = False := by decide
theorem n01 : (nI 0 = nI 1) = False := by decide
/-- memories -/
theorem beq_no {a b : Nat} (h : a ≠ b) : Nat.beq a b = false := by
  cases e : Nat.beq a b with
  | false => rfl
  | true => exact absurd (Nat.eq_of_beq_eq_true e) h
theorem rI_ws {m : dM} {a j : Nat} {v : Int32} : rI (wI m a j v) a = upd (rI m a) j v := by
  funext i
  show (bif Nat.beq a a then upd (m.2.1 a) j v else m.2.1 a) i = _
  rw [Nat.beq_refl]; rfl
theorem rI_wn {m : dM} {a j b : Nat} {v : Int32} (h : b ≠ a) : rI (wI m a j v) b = rI m b := by
  funext i
  show (bif Nat.beq b a then upd (m.2.1 a) j v else m.2.1 b) i = _
  rw [beq_no h]; rfl
theorem rI_wL {m : dM} {a j : Nat} {v : Int64} : rI (wL m a j v) = rI m := rfl
theorem rI_wR {m : dM} {j v : Nat} : rI (wR m j v) = rI m := rfl
theorem rI_bump {m : dM} : rI (bump m) = rI m := rfl
theorem rL_bump {m : dM} : rL (bump m) = rL m := rfl
theorem rR_bump {m : dM} : rR (bump m) = rR m := rfl
theorem rL_wI {m : dM} {a j : Nat} {v : Int32} : rL (wI m a j v) = rL m := rfl
theorem rL_wR {m : dM} {j v : Nat} : rL (wR m j v) = rL m := rfl
theorem rR_wI {m : dM} {a j : Nat} {v : Int32} : rR (wI m a j v) = rR m := rfl
theorem rR_wL {m : dM} {a j : Nat} {v : Int64} : rR (wL m a j v) = rR m := rfl
theorem rR_wR {m : dM} {j v : Nat} : rR (wR m j v) = fun i => if i = j then v else rR m i := rfl
theorem rL_ws {m : dM} {a j : Nat} {v : Int64} : rL (wL m a j v) a = fun i => if i = j then v else rL m a i := by
  funext i
  show (bif Nat.beq a a then vp_updL (m.2.2.1 a) j v else m.2.2.1 a) i = _
  rw [Nat.beq_refl]; rfl
theorem rL_wn {m : dM} {a j b : Nat} {v : Int64} (h : b ≠ a) : rL (wL m a j v) b = rL m b := by
  funext i
  show (bif Nat.beq b a then vp_updL (m.2.2.1 a) j v else m.2.2.1 b) i = _
  rw [beq_no h]; rfl
theorem rI_cs {m : dM} {a b n : Nat} : rI (cI m a b n) b = fun j => if j < n then rI m a j else rI m b j := by
  funext i
  show (bif Nat.beq b b then _ else m.2.1 b) i = _
  rw [Nat.beq_refl]; rfl
theorem rI_cn {m : dM} {a b n c : Nat} (h : c ≠ b) : rI (cI m a b n) c = rI m c := by
  funext i
  show (bif Nat.beq c b then _ else m.2.1 c) i = _
  rw [beq_no h]; rfl
theorem rL_cs {m : dM} {a b n : Nat} : rL (cL m a b n) b = fun j => if j < n then rL m a j else rL m b j := by
  funext i
  show (bif Nat.beq b b then _ else m.2.2.1 b) i = _
  rw [Nat.beq_refl]; rfl
theorem rL_cn {m : dM} {a b n c : Nat} (h : c ≠ b) : rL (cL m a b n) c = rL m c := by
  funext i
  show (bif Nat.beq c b then _ else m.2.2.1 c) i = _
  rw [beq_no h]; rfl
theorem rI_cL {m : dM} {a b n : Nat} : rI (cL m a b n) = rI m := rfl
theorem rL_cI {m : dM} {a b n : Nat} : rL (cI m a b n) = rL m := rfl
theorem rR_cI {m : dM} {a b n : Nat} : rR (cI m a b n) = rR m := rfl
theorem rR_cL {m : dM} {a b n : Nat} : rR (cL m a b n) = rR m := rfl
theorem fI_e {m : dM} {a j : Nat} {v : Int32} : fI m a j v = some (wI m a j v) := rfl
theorem fL_e {m : dM} {a j : Nat} {v : Int64} : fL m a j v = some (wL m a j v) := rfl
theorem kI_e {m : dM} {a b n : Nat} : kI m a b n = some (cI m a b n) := rfl
theorem kL_e {m : dM} {a b n : Nat} : kL m a b n = some (cL m a b n) := rfl
theorem upd_s {f : Nat → Int32} {k : Nat} {x : Int32} : upd f k x k = x := if_pos rfl
theorem upd_n {f : Nat → Int32} {k j : Nat} {x : Int32} (h : j ≠ k) : upd f k x j = f j := if_neg h
/-- loops -/
theorem lp_n {σ β : Type} {F : Nat} {f : σ → Option (σ ⊕ β)} {b : β} {s0 : σ} (St : Nat → σ) (N : Nat) (hF : N < F) (h0 : s0 = St 0) (step : ∀ i, i < N → f (St i) = some (.inl (St (i + 1)))) (fin : f (St N) = some (.inr b)) : lp F f s0 = some b := by
  have key : ∀ k i F, i + k = N → k < F → lp F f (St i) = some b := by
    intro k
    induction k with
    | zero => intro i F hi hF
              obtain ⟨G, rfl⟩ : ∃ G, F = G + 1 := ⟨F - 1, by omega⟩
              have e : i = N := by omega
              rw [e]
              unfold lp
              rw [fin]
    | succ k ih => intro i F hi hF
                   obtain ⟨G, rfl⟩ : ∃ G, F = G + 1 := ⟨F - 1, by omega⟩
                   unfold lp
                   rw [step i (by omega)]
                   exact ih (i + 1) G (by omega) (by omega)
  rw [h0]
  exact key N 0 F (by omega) hF
theorem lp_inv {σ β : Type} {F : Nat} {f : σ → Option (σ ⊕ β)} {s0 : σ} (P : Nat → σ → Prop) (Q : β → Prop) (N : Nat) (hF : N < F) (h0 : P 0 s0) (step : ∀ i s, i < N → P i s → (∃ s', f s = some (.inl s') ∧ P (i + 1) s') ∨ (∃ b, f s = some (.inr b) ∧ Q b)) (fin : ∀ s, P N s → ∃ b, f s = some (.inr b) ∧ Q b) : ∃ b, lp F f s0 = some b ∧ Q b := by
  have key : ∀ k i F s, i + k = N → k < F → P i s → ∃ b, lp F f s = some b ∧ Q b := by
    intro k
    induction k with
    | zero => intro i F s hi hF hp
              obtain ⟨G, rfl⟩ : ∃ G, F = G + 1 := ⟨F - 1, by omega⟩
              have e : i = N := by omega
              subst e
              obtain ⟨b, e1, e2⟩ := fin s hp
              refine ⟨b, ?_, e2⟩
              unfold lp
              rw [e1]
    | succ k ih => intro i F s hi hF hp
                   obtain ⟨G, rfl⟩ : ∃ G, F = G + 1 := ⟨F - 1, by omega⟩
                   rcases step i s (by omega) hp with ⟨s', e1, e2⟩ | ⟨b, e1, e2⟩
                   · obtain ⟨b, e3, e4⟩ := ih (i + 1) G s' (by omega) (by omega) e2
                     refine ⟨b, ?_, e4⟩
                     unfold lp
                     rw [e1]
                     exact e3
                   · refine ⟨b, ?_, e2⟩
                     unfold lp
                     rw [e1]
  exact key N 0 F s0 (by omega) hF h0
/-- a small number -/
def sm (x : Int32) (n : Nat) : Prop := ∃ j, j < n ∧ x = nI j
/-- an index that is none of so many -/
def bad (p : Int32) (n : Nat) : Prop := p < nI 0 ∨ nI n ≤ p
theorem sm_or {n : Nat} (hn : n ≤ 100000) (p : Int32) : sm p n ∨ bad p n := by
  by_cases h : p < nI 0
  · exact .inr (.inl h)
  · obtain ⟨j, h1, rfl⟩ := nI_of (x := p) h
    by_cases h2 : j < n
    · exact .inl ⟨j, h2, rfl⟩
    · exact .inr (.inr ((nI_leI (by omega) h1).mpr (by omega)))
theorem sm_nI {j n : Nat} (h : j < n) : sm (nI j) n := ⟨j, h, rfl⟩
theorem sm.tn {x : Int32} {n : Nat} (h : sm x n) (hn : n ≤ 100000) : x = nI x.toNatClampNeg ∧ x.toNatClampNeg < n := by
  obtain ⟨j, h1, rfl⟩ := h
  rw [nI_clamp (by omega)]
  exact ⟨rfl, h1⟩
/-- reading a boolean of the machine -/
theorem it0 {p : Prop} {dp : Decidable p} : ((@ite _ p dp (nI 1) (nI 0)) = nI 0) = ¬ p := by
  by_cases h : p
  · rw [if_pos h]; simp [h, n10]
  · rw [if_neg h]; simp [h]
theorem it1 {p : Prop} {dp : Decidable p} : ((@ite _ p dp (nI 1) (nI 0)) = nI 1) = p := by
  by_cases h : p
  · rw [if_pos h]; simp [h]
  · rw [if_neg h]; simp [h, n01]
theorem iff_some {A : Type} {p : Prop} {dp : Decidable p} {a b : A} : (@ite _ p dp (some a) (some b)) = some (@ite _ p dp a b) := by
  by_cases h : p
  · rw [if_pos h, if_pos h]
  · rw [if_neg h, if_neg h]
theorem lpb {σ β γ : Type} {F : Nat} {f : σ → Option (σ ⊕ β)} {s0 : σ} {K : β → Option γ} {r : γ} (b : β) (St : Nat → σ) (N : Nat) (hF : N < F) (h0 : s0 = St 0) (step : ∀ i, i < N → f (St i) = some (.inl (St (i + 1)))) (fin : f (St N) = some (.inr b)) (k : K b = some r) : (lp F f s0).bind K = some r := by
  rw [lp_n St N hF h0 step fin]
  exact k
