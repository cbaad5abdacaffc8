/-! THE START: a run that doesn't read the script -/
def X0 : Nat × (Nat → Int32) := (0, fun _ => 0)
def rdB (mi : Nat) (f : ax_F) : Bool := match ax_ins mi f.1, f.2.2 with
  | some .iaload, .int _ :: .retAddr _ :: _ => true
  | some .arraylength, .retAddr _ :: _ => true
  | _, _ => false
def ax_rq : Nat → Nat → Nat → ax_F → ax_H → Option (Option Value × ax_H)
  | 0, _, _, _, _ => none
  | _ + 1, 0, _, _, _ => none
  | n + 1, d + 1, mi, f, h => bif rdB mi f then none else match ax_step X0 mi f h with
    | none => none
    | some (.inl (f', h')) => ax_rq n (d + 1) mi f' h'
    | some (.inr (.inl (.inl v, h'))) => some (v, h')
    | some (.inr (.inl (.inr _, _))) => none
    | some (.inr (.inr (m, args, f'))) => bif Nat.ble (ax_fl args).length (ax_maxL m) then
        (match ax_rq n d m (0, ax_ent m args, []) h with
         | none => none
         | some (v, h') => bif Nat.beq h'.1.1 h.1.1 || ax_clF h.1.1 f'.2.1 f'.2.2 then ax_rq n (d + 1) mi (f'.1, f'.2.1, v.toList ++ f'.2.2) h' else none)
        else none
/-- the law's own run, up to its loop -/
def ax_rp : Nat → ax_F → ax_H → Option (ax_F × ax_H)
  | 0, _, _ => none
  | n + 1, f, h => bif Nat.beq f.1 13 then some (f, h) else bif rdB 118 f then none else match ax_step X0 118 f h with
    | some (.inl (f', h')) => ax_rp n f' h'
    | some (.inr (.inr (m, args, f'))) => bif Nat.ble (ax_fl args).length (ax_maxL m) then
        (match ax_rq 3000 11 m (0, ax_ent m args, []) h with
         | none => none
         | some (v, h') => bif Nat.beq h'.1.1 h.1.1 || ax_clF h.1.1 f'.2.1 f'.2.2 then ax_rp n (f'.1, f'.2.1, v.toList ++ f'.2.2) h' else none)
        else none
    | _ => none
def ax_h1 : ax_H := ((0, 0, 0), fun _ => .inl (0, (12, .inl fun _ => 0)))
def LW0 : ax_L := [some (.retAddr 0), some (.ref 0), some (.ref 130), none, none]
section SI
variable {X : Nat × (Nat → Int32)} {mi : Nat} {f : ax_F} {h : ax_H}
theorem do_ia {pc : Nat} {L : ax_L} {S : List Value} (hb : ∀ i a S', S ≠ .int i :: .retAddr a :: S') : ax_do X mi pc L S h .iaload = ax_do X0 mi pc L S h .iaload := by
  match S, hb with
  | [], _ => rfl
  | [v], _ => cases v <;> rfl
  | v :: w :: S, hb =>
    cases v <;> first
      | rfl
      | (cases w <;> first
          | rfl
          | exact absurd rfl (hb _ _ _))
theorem do_al {pc : Nat} {L : ax_L} {S : List Value} (hb : ∀ a S', S ≠ .retAddr a :: S') : ax_do X mi pc L S h .arraylength = ax_do X0 mi pc L S h .arraylength := by
  match S, hb with
  | [], _ => rfl
  | v :: S, hb =>
    cases v <;> first
      | rfl
      | exact absurd rfl (hb _ _)
set_option maxRecDepth 20000 in
theorem do_ot {pc : Nat} {L : ax_L} {S : List Value} (i : Instr) (h1 : i ≠ .iaload) (h2 : i ≠ .arraylength) : ax_do X mi pc L S h i = ax_do X0 mi pc L S h i := by
  cases i <;> first
    | rfl
    | exact absurd rfl h1
    | exact absurd rfl h2
theorem step_ind (hb : rdB mi f = false) : ax_step X mi f h = ax_step X0 mi f h := by
  unfold ax_step
  cases e : ax_ins mi f.1 with
  | none => rfl
  | some i =>
    unfold rdB at hb
    rw [e] at hb
    show ax_do X mi f.1 f.2.1 f.2.2 h i = ax_do X0 mi f.1 f.2.1 f.2.2 h i
    generalize f.2.2 = S at hb
    by_cases h1 : i = .iaload
    · subst h1
      refine do_ia (fun i a S' e2 => ?_)
      rw [e2] at hb
      cases hb
    · by_cases h2 : i = .arraylength
      · subst h2
        refine do_al (fun a S' e2 => ?_)
        rw [e2] at hb
        cases hb
      · exact do_ot i h1 h2
theorem rc_run : ∀ n d mi f h r, ax_rq n d mi f h = some r → ax_run X n d mi f h = some (.inl r.1, r.2) := by
  intro n
  induction n with
  | zero => intro d mi f h r e; cases e
  | succ n ih =>
    intro d mi f h r e
    cases d with
    | zero => cases e
    | succ d =>
      unfold ax_rq at e
      unfold ax_run
      cases hb : rdB mi f with
      | true =>
        rw [hb] at e
        cases e
      | false =>
        rw [hb] at e
        rw [step_ind hb]
        simp only [cond_false] at e
        generalize ax_step X0 mi f h = z at e
        match z with
        | none => cases e
        | some (.inl (f', h')) => exact ih _ _ _ _ _ e
        | some (.inr (.inl (.inl v, h'))) =>
          cases e
          rfl
        | some (.inr (.inl (.inr k, h'))) => cases e
        | some (.inr (.inr (m, args, f'))) =>
          simp only at e ⊢
          obtain ⟨q1, e2⟩ := ax_bifR e
          rw [q1]
          simp only [cond_true]
          split at e2
          · cases e2
          · rename_i v h' e3
            obtain ⟨q2, e4⟩ := ax_bifR e2
            rw [ih _ _ _ _ _ e3]
            simp only
            rw [q2]
            simp only [cond_true]
            exact ih _ _ _ _ _ e4
theorem rp_run {Q : ax_O → ax_H → Prop} : ∀ n f h f' h', ax_rp n f h = some (f', h') → ax_Wp X 12 118 f' h' Q → ax_Wp X 12 118 f h Q := by
  intro n
  induction n with
  | zero => intro f h f' h' e; cases e
  | succ n ih =>
    intro f h f' h' e w
    unfold ax_rp at e
    cases h13 : Nat.beq f.1 13 with
    | true =>
      rw [h13] at e
      cases e
      exact w
    | false =>
      rw [h13] at e
      cases hb : rdB 118 f with
      | true =>
        rw [hb] at e
        cases e
      | false =>
        rw [hb] at e
        simp only [cond_false] at e
        have es := step_ind (X := X) (mi := 118) (f := f) (h := h) hb
        generalize ax_step X0 118 f h = z at e es
        match z with
        | none => cases e
        | some (.inl (f1, h1)) => exact ax_Wp.st (d := 11) es (ih _ _ _ _ e w)
        | some (.inr (.inl (.inl v, h'))) => cases e
        | some (.inr (.inl (.inr k, h'))) => cases e
        | some (.inr (.inr (m, args, f1))) =>
          simp only at e
          obtain ⟨q1, e2⟩ := ax_bifR e
          split at e2
          · cases e2
          · rename_i v h1 e3
            obtain ⟨q2, e4⟩ := ax_bifR e2
            exact ax_Wp.callE (d := 11) es q1 ⟨3000, _, _, rc_run _ _ _ _ _ _ e3, rfl, rfl⟩ q2 (ih _ _ _ _ e4 w)
end SI
def hz : ax_H := match ax_rp 200 (0, ax_ent 118 [.retAddr 0], []) ax_h1 with
  | some (_, h) => h
  | none => ax_h1
set_option maxRecDepth 100000 in
theorem p0 : (match ax_rp 200 (0, ax_ent 118 [.retAddr 0], []) ax_h1 with
  | some (f, h) => decide (f = (13, LW0, [])) && decide (h.1 = (131, 131, 1427))
  | none => false) = true := by decide +kernel
theorem p1 : ax_rp 200 (0, ax_ent 118 [.retAddr 0], []) ax_h1 = some ((13, LW0, []), hz) ∧ hz.1 = (131, 131, 1427) := by
  have k := p0
  revert k
  unfold hz
  generalize ax_rp 200 (0, ax_ent 118 [.retAddr 0], []) ax_h1 = z
  intro k
  match z with
  | none => cases k
  | some (f, h) =>
    simp only [Bool.and_eq_true, decide_eq_true_eq] at k
    obtain ⟨k1, k2⟩ := k
    subst k1
    exact ⟨rfl, k2⟩
