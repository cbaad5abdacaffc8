/-! RUNS OF THE ABSTRACT MACHINE: rules -/
theorem ax_more (X : Nat × (Nat → Int32)) : ∀ (n d mi : Nat) (f : ax_F) (h : ax_H) (r : ax_O × ax_H), ax_run X n d mi f h = some r → ax_run X (n + 1) d mi f h = some r
  | 0, _, _, _, _, _, hr => by cases hr
  | _ + 1, 0, _, _, _, _, hr => by cases hr
  | n + 1, d + 1, mi, f, h, r, hr => by
    have e1 := hr
    unfold ax_run at e1
    show (match ax_step X mi f h with
    | none => none
    | some (.inl (f', h')) => ax_run X (n + 1) (d + 1) mi f' h'
    | some (.inr (.inl (.inl v, h'))) => some (.inl v, h')
    | some (.inr (.inl (.inr k, h'))) => bif Nat.ble 6 (d + 1) && (ax_hh mi).isEmpty then some (.inr k, h') else none
    | some (.inr (.inr (m, args, f'))) =>
      bif Nat.ble (ax_fl args).length (ax_maxL m) then
          (match ax_run X (n + 1) d m (0, ax_ent m args, []) h with
           | none => none
           | some (.inl v, h') => bif Nat.beq h'.1.1 h.1.1 || ax_clF h.1.1 f'.2.1 f'.2.2 then ax_run X (n + 1) (d + 1) mi (f'.1, f'.2.1, v.toList ++ f'.2.2) h' else none
           | some (.inr k, h') => bif (ax_hh mi).isEmpty then some (.inr k, h') else
              (match ax_catchIn mi f.1 k (ax_hh mi) with
               | none => none
               | some (pc2, j) => bif ax_has f'.2.1 j && Nat.beq h'.1.1 h.1.1 then ax_run X (n + 1) (d + 1) mi (pc2, ax_set (ax_kill f'.2.1 j) j none, []) h' else none))
          else none) = some r
    split at e1
    · cases e1
    · rename_i f1 h1 e0
      rw [e0]
      exact ax_more X n _ mi f1 h1 r e1
    · rename_i v h1 e0
      rw [e0]
      exact e1
    · rename_i v h1 e0
      rw [e0]
      exact e1
    · rename_i m2 vs f1 e0
      rw [e0]
      obtain ⟨q1, e2⟩ := ax_bifR e1
      simp only [q1, cond_true]
      split at e2
      · cases e2
      · rename_i v h1 e3
        rw [ax_more X n _ _ _ _ _ e3]
        obtain ⟨q2, e4⟩ := ax_bifR e2
        simp only [q2, cond_true]
        exact ax_more X n _ _ _ _ _ e4
      · rename_i k h1 e3
        rw [ax_more X n _ _ _ _ _ e3]
        cases hq : (ax_hh mi).isEmpty with
        | true =>
          rw [hq] at e2
          simp only [hq, cond_true]
          exact e2
        | false =>
          rw [hq] at e2
          simp only [hq, cond_false] at e2 ⊢
          split at e2
          · cases e2
          · rename_i pc2 j e5
            obtain ⟨q2, e4⟩ := ax_bifR e2
            simp only [e5, q2, cond_true]
            exact ax_more X n _ _ _ _ _ e4
theorem ax_mores (X : Nat × (Nat → Int32)) {n d mi : Nat} {f : ax_F} {h : ax_H} {r : ax_O × ax_H} (hr : ax_run X n d mi f h = some r) : ∀ k, ax_run X (n + k) d mi f h = some r
  | 0 => hr
  | k + 1 => ax_more X _ _ _ _ _ _ (ax_mores X hr k)
/-- the run comes to an end with Q -/
def ax_Wp (X : Nat × (Nat → Int32)) (d mi : Nat) (f : ax_F) (h : ax_H) (Q : ax_O → ax_H → Prop) : Prop := ∃ (n : Nat) (o : ax_O) (h' : ax_H), ax_run X n d mi f h = some (o, h') ∧ Q o h'
/-- so many plain steps -/
def ax_go (X : Nat × (Nat → Int32)) (mi : Nat) : Nat → ax_F → ax_H → Option (ax_F × ax_H)
  | 0, f, h => some (f, h)
  | k + 1, f, h => match ax_step X mi f h with
    | some (.inl (f', h')) => ax_go X mi k f' h'
    | _ => none
section AXP
variable {X : Nat × (Nat → Int32)} {d mi : Nat} {f f' : ax_F} {h h' : ax_H} {Q Q' : ax_O → ax_H → Prop}
theorem ax_Wp.imp (w : ax_Wp X d mi f h Q') (k : ∀ o h', Q' o h' → Q o h') : ax_Wp X d mi f h Q := by
  obtain ⟨n, o, h', e, q⟩ := w
  exact ⟨n, o, h', e, k o h' q⟩
theorem ax_Wp.st (e : ax_step X mi f h = some (.inl (f', h'))) (w : ax_Wp X (d + 1) mi f' h' Q) : ax_Wp X (d + 1) mi f h Q := by
  obtain ⟨n, o, h2, e1, q⟩ := w
  refine ⟨n + 1, o, h2, ?_, q⟩
  unfold ax_run
  rw [e]
  exact e1
theorem ax_Wp.go : ∀ (k : Nat) {f f' : ax_F} {h h' : ax_H}, ax_go X mi k f h = some (f', h') → ax_Wp X (d + 1) mi f' h' Q → ax_Wp X (d + 1) mi f h Q
  | 0, f, f', h, h', e, w => by cases e; exact w
  | k + 1, f, f', h, h', e, w => by
    unfold ax_go at e
    split at e
    · rename_i f1 h1 e0
      exact ax_Wp.st e0 (ax_Wp.go k e w)
    · cases e
theorem ax_Wp.chk {b : Bool} (e : ax_step X mi f h = bif b then some (.inl (f', h')) else none) (hb : b = true) (w : ax_Wp X (d + 1) mi f' h' Q) : ax_Wp X (d + 1) mi f h Q := ax_Wp.st (by rw [e, hb]; rfl) w
theorem ax_Wp.br {c : Prop} {dc : Decidable c} {f1 f2 : ax_F} {h1 h2 : ax_H} (e : ax_step X mi f h = bif @decide c dc then some (.inl (f1, h1)) else some (.inl (f2, h2))) (kt : c → ax_Wp X (d + 1) mi f1 h1 Q) (kf : ¬ c → ax_Wp X (d + 1) mi f2 h2 Q) : ax_Wp X (d + 1) mi f h Q := by
  by_cases hc : c
  · exact ax_Wp.st (by rw [e, decide_eq_true hc]; rfl) (kt hc)
  · exact ax_Wp.st (by rw [e, decide_eq_false hc]; rfl) (kf hc)
theorem ax_Wp.ret {v : Option Value} (e : ax_step X mi f h = some (.inr (.inl (.inl v, h')))) (q : Q (.inl v) h') : ax_Wp X (d + 1) mi f h Q := by
  refine ⟨1, .inl v, h', ?_, q⟩
  unfold ax_run
  rw [e]
theorem ax_Wp.retc {b : Bool} {v : Option Value} (e : ax_step X mi f h = bif b then some (.inr (.inl (.inl v, h'))) else none) (hb : b = true) (q : Q (.inl v) h') : ax_Wp X (d + 1) mi f h Q := ax_Wp.ret (by rw [e, hb]; rfl) q
theorem ax_Wp.thr {k : Nat} (e : ax_step X mi f h = some (.inr (.inl (.inr k, h')))) (hd : (Nat.ble 6 (d + 1) && (ax_hh mi).isEmpty) = true) (q : Q (.inr k) h') : ax_Wp X (d + 1) mi f h Q := by
  refine ⟨1, .inr k, h', ?_, q⟩
  unfold ax_run
  rw [e]
  simp only [hd, cond_true]
/-- a call whose callee ends with Q' -/
theorem ax_Wp.call {m : Nat} {args : List Value} (e : ax_step X mi f h = some (.inr (.inr (m, args, f')))) (hl : Nat.ble (ax_fl args).length (ax_maxL m) = true) (c : ax_Wp X d m (0, ax_ent m args, []) h Q')
    (k : ∀ (v : Option Value) (h1 : ax_H), Q' (.inl v) h1 → (Nat.beq h1.1.1 h.1.1 || ax_clF h.1.1 f'.2.1 f'.2.2) = true ∧ ax_Wp X (d + 1) mi (f'.1, f'.2.1, v.toList ++ f'.2.2) h1 Q)
    (kx : ∀ (j : Nat) (h1 : ax_H), Q' (.inr j) h1 → ((ax_hh mi).isEmpty = true ∧ Q (.inr j) h1) ∨ ((ax_hh mi).isEmpty = false ∧ ∃ pc2 i : Nat, ax_catchIn mi f.1 j (ax_hh mi) = some (pc2, i) ∧ (ax_has f'.2.1 i && Nat.beq h1.1.1 h.1.1) = true ∧ ax_Wp X (d + 1) mi (pc2, ax_set (ax_kill f'.2.1 i) i none, []) h1 Q)) : ax_Wp X (d + 1) mi f h Q := by
  obtain ⟨n, o, h1, e1, q1⟩ := c
  cases o with
  | inl v =>
    obtain ⟨hc, n2, o2, h2, e2, q2⟩ := k v h1 q1
    refine ⟨n + n2 + 1, o2, h2, ?_, q2⟩
    have a1 := ax_mores X e1 n2
    have a2 := ax_mores X e2 n
    rw [Nat.add_comm n2 n] at a2
    unfold ax_run
    rw [e]
    simp only [hl, cond_true, a1, hc]
    exact a2
  | inr j =>
    rcases kx j h1 q1 with ⟨b1, b2⟩ | ⟨b1, pc2, i, b2, b3, n2, o2, h2, e2, q2⟩
    · refine ⟨n + 1, .inr j, h1, ?_, b2⟩
      unfold ax_run
      rw [e]
      simp only [hl, cond_true, e1, b1]
    · refine ⟨n + n2 + 1, o2, h2, ?_, q2⟩
      have a1 := ax_mores X e1 n2
      have a2 := ax_mores X e2 n
      rw [Nat.add_comm n2 n] at a2
      unfold ax_run
      rw [e]
      simp only [hl, cond_true, a1, b1, cond_false, b2, b3]
      exact a2
/-- a method's run that ends with one answer in one heap -/
def ax_Ev (X : Nat × (Nat → Int32)) (d m : Nat) (args : List Value) (h : ax_H) (o : ax_O) (h' : ax_H) : Prop := ax_Wp X d m (0, ax_ent m args, []) h (fun o1 h1 => o1 = o ∧ h1 = h')
theorem ax_Wp.callE {m : Nat} {args : List Value} {v : Option Value} {h1 : ax_H} (e : ax_step X mi f h = some (.inr (.inr (m, args, f')))) (hl : Nat.ble (ax_fl args).length (ax_maxL m) = true) (c : ax_Ev X d m args h (.inl v) h1) (hc : (Nat.beq h1.1.1 h.1.1 || ax_clF h.1.1 f'.2.1 f'.2.2) = true)
    (k : ax_Wp X (d + 1) mi (f'.1, f'.2.1, v.toList ++ f'.2.2) h1 Q) : ax_Wp X (d + 1) mi f h Q := by
  refine ax_Wp.call e hl c (fun v' h1' q => ?_) (fun j h1' q => ?_)
  · obtain ⟨q1, q2⟩ := q
    cases q1
    cases q2
    exact ⟨hc, k⟩
  · cases q.1
/-- a loop told by its states: from the state i to the state i + 1 -/
theorem ax_Wp.loop {St : Nat → ax_F × ax_H} (N : Nat) (step : ∀ i, i < N → ax_Wp X (d + 1) mi (St (i + 1)).1 (St (i + 1)).2 Q → ax_Wp X (d + 1) mi (St i).1 (St i).2 Q) (fin : ax_Wp X (d + 1) mi (St N).1 (St N).2 Q) : ∀ i, i ≤ N → ax_Wp X (d + 1) mi (St i).1 (St i).2 Q := by
  have key : ∀ k i, i + k = N → ax_Wp X (d + 1) mi (St i).1 (St i).2 Q := by
    intro k
    induction k with
    | zero => intro i hi; have e : i = N := by omega
              rw [e]; exact fin
    | succ k ih => intro i hi; exact step i (by omega) (ih (i + 1) (by omega))
  intro i hi
  exact key (N - i) i (by omega)
end AXP
