/-! THE START: an array of references is empty above its length -/
def rfc (c : ax_C) : Prop := ∀ t n F, c = .inl (t, (n, .inr (.inr (.inr (.inr F))))) → ∀ k, n ≤ k → F k = none
def rfz (h : ax_H) : Prop := ∀ a, rfc (h.2 a)
theorem rfz.up {h : ax_H} {a : Nat} {c : ax_C} (p : rfz h) (q : rfc c) : rfz (ax_up h a c) := fun b => by
  show rfc (bif Nat.beq b a then c else h.2 b)
  cases Nat.beq b a
  · exact p b
  · exact q
theorem rfz.push {h : ax_H} {k : Nat} {c : ax_C} (p : rfz h) (q : rfc c) : rfz (ax_push h c k) := fun b => by
  show rfc (bif Nat.beq b h.1.1 then c else h.2 b)
  cases Nat.beq b h.1.1
  · exact p b
  · exact q
theorem rfz.at {h : ax_H} {a : Nat} {c : ax_C} (p : rfz h) (e : ax_at h a = some c) : rfc c := by
  unfold ax_at at e
  cases q : Nat.blt a h.1.1 with
  | false => rw [q] at e; cases e
  | true =>
    rw [q] at e
    cases e
    exact p a
theorem rfc.st {t n : Nat} {F : Nat → Option Nat} {i : Int32} {v : Option Nat} (p : rfc (.inl (t, (n, .inr (.inr (.inr (.inr F))))))) (q : ax_inb i n = true) : rfc (.inl (t, (n, .inr (.inr (.inr (.inr (va_up F i.toNatClampNeg v))))))) := by
  intro t2 n2 F2 e k hk
  cases e
  have q2 := q
  simp only [ax_inb, Bool.and_eq_true] at q2
  have hlt : i.toNatClampNeg < n := Nat.le_of_ble_eq_true q2.2
  show (if k = i.toNatClampNeg then v else F k) = none
  rw [if_neg (by omega)]
  exact p t n F rfl k hk
def grz (h : ax_H) (z : ax_S) : Prop := match z with
  | .inl (_, h') => rfz h'
  | .inr (.inl (_, h')) => rfz h'
  | .inr (.inr _) => True
def gro (h : ax_H) (z : Option ax_S) : Prop := rfz h → ∀ x, z = some x → grz h x
theorem gro.no {h : ax_H} : gro h none := fun _ _ e => by cases e
theorem gro.nx {h h' : ax_H} {pc : Nat} {L : ax_L} {S : List Value} (q : rfz h → rfz h') : gro h (ax_nx pc L S h') := fun p x e => by
  cases e
  exact q p
theorem gro.sm {h : ax_H} {x : ax_S} (q : rfz h → grz h x) : gro h (some x) := fun p y e => by
  cases e
  exact q p
theorem gro.cd {h : ax_H} {b : Bool} {u v : Option ax_S} (p : b = true → gro h u) (q : gro h v) : gro h (bif b then u else v) := by
  cases b
  · exact q
  · exact p rfl
theorem gro.s1 {h : ax_H} {pc : Nat} {L : ax_L} {i : Nat} {v : Value} {S : List Value} : gro h (ax_s1 pc L i v S h) := by
  unfold ax_s1
  exact gro.cd (fun _ => gro.nx id) gro.no
theorem gro.s2 {h : ax_H} {pc : Nat} {L : ax_L} {i : Nat} {v : Value} {S : List Value} : gro h (ax_s2 pc L i v S h) := by
  unfold ax_s2
  exact gro.cd (fun _ => gro.nx id) gro.no
theorem gro.if {h : ax_H} {c : ClassFile.Cond} {x y : Int32} {pc : Nat} {off : Int} {L : ax_L} {S : List Value} : gro h (ax_if c x y pc off L S h) := by
  unfold ax_if
  repeat' first | exact gro.no | exact gro.nx id | (refine gro.cd (fun _ => ?_) ?_) | split
theorem gro.rt {h : ax_H} {mi : Nat} {v : Value} : gro h (ax_ret1 mi v h) := by
  unfold ax_ret1
  repeat' first | exact gro.no | exact gro.nx id | exact gro.sm id | (refine gro.cd (fun _ => ?_) ?_) | split
theorem gro.cp {h : ax_H} {pc : Nat} {L : ax_L} {S : List Value} : gro h (ax_cpy L pc h S) := by
  unfold ax_cpy
  repeat' first
    | exact gro.no
    | exact gro.nx id
    | exact gro.nx (fun p => p.up (by intro t n F e; cases e))
    | (refine gro.cd (fun _ => ?_) ?_)
    | split
theorem gro.cl {h : ax_H} {mi pc k ix : Nat} {L : ax_L} {S : List Value} : gro h (ax_call mi pc L S h k ix) := by
  unfold ax_call
  repeat' first
    | exact gro.no
    | exact gro.cp
    | exact gro.nx id
    | exact gro.sm id
    | exact gro.sm (fun _ => trivial)
    | (refine gro.cd (fun _ => ?_) ?_)
    | split
set_option maxHeartbeats 4000000 in
set_option maxRecDepth 20000 in
theorem do_gr {X : Nat × (Nat → Int32)} {mi pc : Nat} {L : ax_L} {S : List Value} {h : ax_H} (i : Instr) : gro h (ax_do X mi pc L S h i) := by
  cases i <;> simp only [ax_do] <;> repeat' first
    | exact gro.no
    | exact gro.nx id
    | exact gro.s1
    | exact gro.s2
    | exact gro.if
    | exact gro.rt
    | exact gro.cl
    | exact gro.sm id
    | exact gro.sm (fun _ => trivial)
    | exact gro.nx (fun p => p.push (by intro t n F e; cases e <;> exact fun k _ => rfl))
    | exact gro.sm (fun p => p.push (by intro t n F e; cases e <;> exact fun k _ => rfl))
    | exact gro.nx (fun p => p.up (rfc.st (p.at (by assumption)) (by assumption)))
    | exact gro.nx (fun p => p.up (by intro t n F e; cases e))
    | (refine gro.cd (fun _ => ?_) ?_)
    | split
theorem step_gr {X : Nat × (Nat → Int32)} {mi : Nat} {f : ax_F} {h : ax_H} {x : ax_S} (p : rfz h) (e : ax_step X mi f h = some x) : grz h x := by
  unfold ax_step at e
  split at e
  · cases e
  · exact do_gr _ p x e
theorem rq_gr : ∀ n d mi f h r, rfz h → ax_rq n d mi f h = some r → rfz r.2 := by
  intro n
  induction n with
  | zero => intro d mi f h r _ e; cases e
  | succ n ih =>
    intro d mi f h r p e
    cases d with
    | zero => cases e
    | succ d =>
      unfold ax_rq at e
      cases hb : rdB mi f with
      | true =>
        rw [hb] at e
        cases e
      | false =>
        rw [hb] at e
        simp only [cond_false] at e
        have es := fun x => step_gr (X := X0) (mi := mi) (f := f) (h := h) (x := x) p
        generalize ax_step X0 mi f h = z at e es
        match z with
        | none => cases e
        | some (.inl (f', h')) =>
          have q : rfz h' := es _ rfl
          exact ih _ _ _ _ _ q e
        | some (.inr (.inl (.inl v, h'))) =>
          have q : rfz h' := es _ rfl
          cases e
          exact q
        | some (.inr (.inl (.inr k, h'))) => cases e
        | some (.inr (.inr (m, args, f'))) =>
          simp only at e
          obtain ⟨q1, e2⟩ := ax_bifR e
          split at e2
          · cases e2
          · rename_i v h' e3
            obtain ⟨q2, e4⟩ := ax_bifR e2
            have q : rfz h' := ih _ _ _ _ _ p e3
            exact ih _ _ _ _ _ q e4
theorem rp_gr : ∀ n f h r, rfz h → ax_rp n f h = some r → rfz r.2 := by
  intro n
  induction n with
  | zero => intro f h r _ e; cases e
  | succ n ih =>
    intro f h r p e
    unfold ax_rp at e
    cases h23 : Nat.beq f.1 13 with
    | true =>
      rw [h23] at e
      cases e
      exact p
    | false =>
      rw [h23] at e
      cases hb : rdB 118 f with
      | true =>
        rw [hb] at e
        cases e
      | false =>
        rw [hb] at e
        simp only [cond_false] at e
        have es := fun x => step_gr (X := X0) (mi := 118) (f := f) (h := h) (x := x) p
        generalize ax_step X0 118 f h = z at e es
        match z with
        | none => cases e
        | some (.inl (f1, h1)) =>
          have q : rfz h1 := es _ rfl
          exact ih _ _ _ q e
        | some (.inr (.inl (.inl v, h'))) => cases e
        | some (.inr (.inl (.inr k, h'))) => cases e
        | some (.inr (.inr (m, args, f1))) =>
          simp only at e
          obtain ⟨q1, e2⟩ := ax_bifR e
          split at e2
          · cases e2
          · rename_i v h1 e3
            obtain ⟨q2, e4⟩ := ax_bifR e2
            have q : rfz h1 := rq_gr _ _ _ _ _ _ p e3
            exact ih _ _ _ q e4
theorem hz_r : rfz hz := by
  obtain ⟨e, e1⟩ := p1
  generalize hz = z at e e1 ⊢
  exact rp_gr 200 (0, ax_ent 118 [.retAddr 0], []) ax_h1 _ (fun a t n F e => by cases e) e
