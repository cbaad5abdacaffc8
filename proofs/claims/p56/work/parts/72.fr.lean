/-! THE START: nothing is written above the heap -/
def hle (h h' : ax_H) : Prop := h.1.1 ≤ h'.1.1 ∧ ∀ a, h'.1.1 ≤ a → h'.2 a = h.2 a
theorem hle.rf {h : ax_H} : hle h h := ⟨Nat.le_refl _, fun _ _ => rfl⟩
theorem hle.tr {h h' h'' : ax_H} (p : hle h h') (q : hle h' h'') : hle h h'' := ⟨Nat.le_trans p.1 q.1, fun a ha => (q.2 a ha).trans (p.2 a (Nat.le_trans q.1 ha))⟩
theorem hle.up {h : ax_H} {a : Nat} {c c0 : ax_C} (e : ax_at h a = some c0) : hle h (ax_up h a c) := by
  refine ⟨Nat.le_refl _, fun b hb => ?_⟩
  have ha : a < h.1.1 := by
    unfold ax_at at e
    cases q : Nat.blt a h.1.1 with
    | true => exact Nat.blt_eq.mp q
    | false => rw [q] at e; cases e
  show (bif Nat.beq b a then c else h.2 b) = h.2 b
  have : Nat.beq b a = false := by
    cases q : Nat.beq b a with
    | false => rfl
    | true =>
      have := Nat.eq_of_beq_eq_true q
      have hb' : h.1.1 ≤ b := hb
      omega
  rw [this]
  rfl
theorem hle.push {h : ax_H} {c : ax_C} {k : Nat} : hle h (ax_push h c k) := by
  refine ⟨Nat.le_succ _, fun b hb => ?_⟩
  show (bif Nat.beq b h.1.1 then c else h.2 b) = h.2 b
  have hb' : h.1.1 + 1 ≤ b := hb
  have : Nat.beq b h.1.1 = false := by
    cases q : Nat.beq b h.1.1 with
    | false => rfl
    | true =>
      have := Nat.eq_of_beq_eq_true q
      omega
  rw [this]
  rfl
def frz (h : ax_H) (z : ax_S) : Prop := match z with
  | .inl (_, h') => hle h h'
  | .inr (.inl (_, h')) => hle h h'
  | .inr (.inr _) => True
def fro (h : ax_H) (z : Option ax_S) : Prop := ∀ x, z = some x → frz h x
theorem fro.no {h : ax_H} : fro h none := fun _ e => by cases e
theorem fro.nx {h h' : ax_H} {pc : Nat} {L : ax_L} {S : List Value} (q : hle h h') : fro h (ax_nx pc L S h') := fun x e => by
  cases e
  exact q
theorem fro.sm {h : ax_H} {x : ax_S} (q : frz h x) : fro h (some x) := fun y e => by
  cases e
  exact q
theorem fro.cd {h : ax_H} {b : Bool} {u v : Option ax_S} (p : fro h u) (q : fro h v) : fro h (bif b then u else v) := by
  cases b
  · exact q
  · exact p
theorem fro.s1 {h : ax_H} {pc : Nat} {L : ax_L} {i : Nat} {v : Value} {S : List Value} : fro h (ax_s1 pc L i v S h) := by
  unfold ax_s1
  repeat' first | exact fro.no | exact fro.nx hle.rf | apply fro.cd | split
theorem fro.s2 {h : ax_H} {pc : Nat} {L : ax_L} {i : Nat} {v : Value} {S : List Value} : fro h (ax_s2 pc L i v S h) := by
  unfold ax_s2
  repeat' first | exact fro.no | exact fro.nx hle.rf | apply fro.cd | split
theorem fro.if {h : ax_H} {c : ClassFile.Cond} {x y : Int32} {pc : Nat} {off : Int} {L : ax_L} {S : List Value} : fro h (ax_if c x y pc off L S h) := by
  unfold ax_if
  repeat' first | exact fro.no | exact fro.nx hle.rf | apply fro.cd | split
theorem fro.rt {h : ax_H} {mi : Nat} {v : Value} : fro h (ax_ret1 mi v h) := by
  unfold ax_ret1
  repeat' first
    | exact fro.no
    | exact fro.nx hle.rf
    | exact fro.s1
    | exact fro.s2
    | exact fro.if
    | exact fro.nx hle.push
    | exact fro.nx (hle.up (by assumption))
    | exact fro.sm hle.rf
    | exact fro.sm hle.push
    | exact fro.sm trivial
    | apply fro.cd
    | split
theorem fro.cp {h : ax_H} {pc : Nat} {L : ax_L} {S : List Value} : fro h (ax_cpy L pc h S) := by
  unfold ax_cpy
  repeat' first
    | exact fro.no
    | exact fro.nx hle.rf
    | exact fro.nx (hle.up (by assumption))
    | apply fro.cd
    | split
theorem fro.cl {h : ax_H} {mi pc k ix : Nat} {L : ax_L} {S : List Value} : fro h (ax_call mi pc L S h k ix) := by
  unfold ax_call
  repeat' first
    | exact fro.no
    | exact fro.cp
    | exact fro.nx hle.rf
    | exact fro.s1
    | exact fro.s2
    | exact fro.if
    | exact fro.nx hle.push
    | exact fro.nx (hle.up (by assumption))
    | exact fro.sm hle.rf
    | exact fro.sm hle.push
    | exact fro.sm trivial
    | apply fro.cd
    | split
set_option maxHeartbeats 4000000 in
set_option maxRecDepth 20000 in
theorem do_fr {X : Nat × (Nat → Int32)} {mi pc : Nat} {L : ax_L} {S : List Value} {h : ax_H} (i : Instr) : fro h (ax_do X mi pc L S h i) := by
  cases i <;> simp only [ax_do] <;> repeat' first
    | exact fro.no
    | exact fro.nx hle.rf
    | exact fro.s1
    | exact fro.s2
    | exact fro.if
    | exact fro.rt
    | exact fro.cl
    | exact fro.nx hle.push
    | exact fro.nx (hle.up (by assumption))
    | exact fro.sm hle.rf
    | exact fro.sm hle.push
    | exact fro.sm trivial
    | apply fro.cd
    | split
theorem step_fr {X : Nat × (Nat → Int32)} {mi : Nat} {f : ax_F} {h : ax_H} {x : ax_S} (e : ax_step X mi f h = some x) : frz h x := by
  unfold ax_step at e
  split at e
  · cases e
  · exact do_fr _ x e
theorem rq_fr : ∀ n d mi f h r, ax_rq n d mi f h = some r → hle h r.2 := by
  intro n
  induction n with
  | zero => intro d mi f h r e; cases e
  | succ n ih =>
    intro d mi f h r e
    cases d with
    | zero => cases e
    | succ d =>
      unfold ax_rq at e
      cases hb : rdB mi f with
      | true =>
        rw [hb] at e
        cases e
      | false =>
        rw [hb] at e
        simp only [cond_false] at e
        have es := fun x => step_fr (X := X0) (mi := mi) (f := f) (h := h) (x := x)
        generalize ax_step X0 mi f h = z at e es
        match z with
        | none => cases e
        | some (.inl (f', h')) =>
          have q : hle h h' := es _ rfl
          exact q.tr (ih _ _ _ _ _ e)
        | some (.inr (.inl (.inl v, h'))) =>
          have q : hle h h' := es _ rfl
          cases e
          exact q
        | some (.inr (.inl (.inr k, h'))) => cases e
        | some (.inr (.inr (m, args, f'))) =>
          simp only at e
          obtain ⟨q1, e2⟩ := ax_bifR e
          split at e2
          · cases e2
          · rename_i v h' e3
            obtain ⟨q2, e4⟩ := ax_bifR e2
            have q : hle h h' := ih _ _ _ _ _ e3
            exact q.tr (ih _ _ _ _ _ e4)
theorem rp_fr : ∀ n f h r, ax_rp n f h = some r → hle h r.2 := by
  intro n
  induction n with
  | zero => intro f h r e; cases e
  | succ n ih =>
    intro f h r e
    unfold ax_rp at e
    cases h23 : Nat.beq f.1 13 with
    | true =>
      rw [h23] at e
      cases e
      exact hle.rf
    | false =>
      rw [h23] at e
      cases hb : rdB 118 f with
      | true =>
        rw [hb] at e
        cases e
      | false =>
        rw [hb] at e
        simp only [cond_false] at e
        have es := fun x => step_fr (X := X0) (mi := 118) (f := f) (h := h) (x := x)
        generalize ax_step X0 118 f h = z at e es
        match z with
        | none => cases e
        | some (.inl (f1, h1)) =>
          have q : hle h h1 := es _ rfl
          exact q.tr (ih _ _ _ e)
        | some (.inr (.inl (.inl v, h'))) => cases e
        | some (.inr (.inl (.inr k, h'))) => cases e
        | some (.inr (.inr (m, args, f1))) =>
          simp only at e
          obtain ⟨q1, e2⟩ := ax_bifR e
          split at e2
          · cases e2
          · rename_i v h1 e3
            obtain ⟨q2, e4⟩ := ax_bifR e2
            have q : hle h h1 := rq_fr _ _ _ _ _ _ e3
            exact q.tr (ih _ _ _ e4)
theorem hz_a {a : Nat} (ha : 131 ≤ a) : hz.2 a = .inl (0, (12, .inl fun _ => 0)) := by
  obtain ⟨e, e1⟩ := p1
  generalize hz = z at e e1 ⊢
  have k : hle ax_h1 z := rp_fr 200 (0, ax_ent 118 [.retAddr 0], []) ax_h1 _ e
  exact k.2 a (by rw [e1]; exact ha)
