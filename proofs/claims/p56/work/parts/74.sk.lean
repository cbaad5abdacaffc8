/-! THE START: its heap is a told one -/
def skV : Value → Nat × Nat
  | .int _ => (0, 0)
  | .long _ => (1, 0)
  | .ref a => (2, a)
  | _ => (9, 0)
def skel (c : ax_C) : Nat × Nat × Nat × List (Nat × Nat) := match c with
  | .inl (t, (n, .inl _)) => (0, t, n, [])
  | .inl (t, (n, .inr (.inl _))) => (1, t, n, [])
  | .inl (t, (n, .inr (.inr (.inr (.inr _))))) => (2, t, n, [])
  | .inl (t, (n, .inr (.inr (.inl _)))) => (7, t, n, [])
  | .inl (t, (n, .inr (.inr (.inr (.inl _))))) => (8, t, n, [])
  | .inr (k, l) => (3, k, 0, l.map skV)
def viI (v : Option Value) : Int32 := match v with
  | some (.int x) => x
  | _ => 0
def viL (v : Option Value) : Int64 := match v with
  | some (.long x) => x
  | _ => 0
def exI (c : ax_C) : Nat → Int32 := match c with
  | .inl (_, (_, .inl f)) => f
  | .inr (_, l) => fun j => viI (l[j]?)
  | _ => fun _ => 0
def exL (c : ax_C) : Nat → Int64 := match c with
  | .inl (_, (_, .inr (.inl g))) => g
  | .inr (_, l) => fun j => viL (l[j]?)
  | _ => fun _ => 0
def exF (c : ax_C) : Nat → Option Nat := match c with
  | .inl (_, (_, .inr (.inr (.inr (.inr F))))) => F
  | _ => fun _ => none
def exR (c : ax_C) : Nat → Nat := fun k => (exF c k).getD 0
def bld (f : Nat → Int32) (g : Nat → Int64) : Nat → List (Nat × Nat) → List Value
  | _, [] => []
  | j, (k, a) :: r => (if k = 0 then Value.int (f j) else if k = 1 then .long (g j) else if k = 2 then .ref a else .null) :: bld f g (j + 1) r
def mkc (s : Nat × Nat × Nat × List (Nat × Nat)) (f : Nat → Int32) (g : Nat → Int64) (r : Nat → Nat) : ax_C := if s.1 = 0 then .inl (s.2.1, (s.2.2.1, .inl f)) else if s.1 = 1 then .inl (s.2.1, (s.2.2.1, .inr (.inl g))) else if s.1 = 2 then .inl (s.2.1, (s.2.2.1, .inr (.inr (.inr (.inr fun k => bif Nat.blt k 5 then some (r k) else none))))) else .inr (s.2.1, bld f g 0 s.2.2.2)
def skO (s : Nat × Nat × Nat × List (Nat × Nat)) : Bool := Nat.beq s.1 0 || Nat.beq s.1 1 || (Nat.beq s.1 3 && s.2.2.2.all (fun q => !(Nat.beq q.1 9)))
theorem bld_e {f : Nat → Int32} {g : Nat → Int64} : ∀ (l : List Value) (j : Nat), (∀ k, f (j + k) = viI (l[k]?)) → (∀ k, g (j + k) = viL (l[k]?)) → (l.map skV).all (fun q => !(Nat.beq q.1 9)) = true → bld f g j (l.map skV) = l := by
  intro l
  induction l with
  | nil => intro j _ _ _; rfl
  | cons v l ih =>
    intro j hf hg ho
    rw [List.map_cons, List.all_cons, Bool.and_eq_true] at ho
    have hr := ih (j + 1) (fun k => by
      have := hf (k + 1)
      rw [show j + 1 + k = j + (k + 1) by omega, this]
      rfl) (fun k => by
      have := hg (k + 1)
      rw [show j + 1 + k = j + (k + 1) by omega, this]
      rfl) ho.2
    have h0 := hf 0
    have g0 := hg 0
    rw [Nat.add_zero] at h0 g0
    show (if (skV v).1 = 0 then Value.int (f j) else if (skV v).1 = 1 then .long (g j) else if (skV v).1 = 2 then .ref (skV v).2 else .null) :: bld f g (j + 1) (l.map skV) = v :: l
    rw [hr, h0, g0]
    cases v <;> first
      | rfl
      | (have z : false = true := ho.1; cases z)
theorem mkc_e (c : ax_C) (r : Nat → Nat) (h : skO (skel c) = true) : mkc (skel c) (exI c) (exL c) r = c := by
  match c with
  | .inl (t, (n, .inl f)) => rfl
  | .inl (t, (n, .inr (.inl g))) => rfl
  | .inl (t, (n, .inr (.inr (.inr (.inr F))))) => cases h
  | .inl (t, (n, .inr (.inr (.inl F)))) => cases h
  | .inl (t, (n, .inr (.inr (.inr (.inl F))))) => cases h
  | .inr (k, l) =>
    show (Sum.inr (k, bld (exI (.inr (k, l))) (exL (.inr (k, l))) 0 (l.map skV)) : ax_C) = _
    rw [bld_e l 0 (fun j => by rw [Nat.zero_add]; rfl) (fun j => by rw [Nat.zero_add]; rfl) h]
theorem cdm {b : Bool} {x y : ax_C} {f : Nat → Int32} {g : Nat → Int64} {r : Nat → Nat} : mkc (skel (bif b then x else y)) f g r = bif b then mkc (skel x) f g r else mkc (skel y) f g r := by cases b <;> rfl
set_option maxRecDepth 20000 in
theorem sh_mk (a : Nat) (f : Nat → Int32) (g : Nat → Int64) (r : Nat → Nat) : ax_sh a f g r = mkc (skel (ax_sh a (fun _ => 0) (fun _ => 0) (fun _ => 0))) f g r := by
  unfold ax_sh
  simp only [cdm]
  rfl
def skB (h : ax_H) : Bool := (List.range 131).all (fun a => decide (skel (h.2 a) = skel (ax_sh a (fun _ => 0) (fun _ => 0) (fun _ => 0))) && (Nat.beq a 18 || skO (skel (h.2 a)))) && (List.range 5).all (fun k => (exF (h.2 18) k).isSome)
def mof (h : ax_H) : dM := ((131, 1427), fun a => exI (h.2 a), fun a => exL (h.2 a), exR (h.2 18))
theorem c18 (c : ax_C) (h : skel c = (2, 2, 5, [])) (h5 : ∀ k, k < 5 → (exF c k).isSome = true) (hr : rfc c) : c = mkc (skel c) (exI c) (exL c) (exR c) := by
  match c with
  | .inl (t, (n, .inl f)) => cases h
  | .inl (t, (n, .inr (.inl g))) => cases h
  | .inl (t, (n, .inr (.inr (.inl F)))) => cases h
  | .inl (t, (n, .inr (.inr (.inr (.inl F))))) => cases h
  | .inr (k, l) => cases h
  | .inl (t, (n, .inr (.inr (.inr (.inr F))))) =>
    have ht : t = 2 := congrArg (fun q => q.2.1) h
    have hn : n = 5 := congrArg (fun q => q.2.2.1) h
    subst ht hn
    show (Sum.inl (2, (5, .inr (.inr (.inr (.inr F))))) : ax_C) = .inl (2, (5, .inr (.inr (.inr (.inr fun k => bif Nat.blt k 5 then some ((F k).getD 0) else none)))))
    congr 7
    funext k
    cases q : Nat.blt k 5 with
    | true =>
      have := h5 k (Nat.blt_eq.mp q)
      change (F k).isSome = true at this
      show F k = some ((F k).getD 0)
      cases e : F k with
      | none => rw [e] at this; cases this
      | some v => rfl
    | false =>
      show F k = none
      refine hr 2 5 F rfl k ?_
      have : ¬ k < 5 := fun z => by rw [Nat.blt_eq.mpr z] at q; cases q
      omega
theorem st_of {z : ax_H} (h1 : z.1 = (131, 131, 1427)) (hA : ∀ a, 131 ≤ a → z.2 a = .inl (0, (12, .inl fun _ => 0))) (hR : rfz z) (hS : skB z = true) : z = stt (mof z) := by
  refine Prod.ext h1 (funext fun a => ?_)
  show z.2 a = ax_sh a (exI (z.2 a)) (exL (z.2 a)) (exR (z.2 18))
  unfold skB at hS
  rw [Bool.and_eq_true, List.all_eq_true, List.all_eq_true] at hS
  by_cases ha : a < 131
  · have q := hS.1 a (List.mem_range.mpr ha)
    rw [Bool.and_eq_true, Bool.or_eq_true, decide_eq_true_eq] at q
    rw [sh_mk, ← q.1]
    by_cases h18 : a = 18
    · subst h18
      refine c18 _ (q.1.trans rfl) (fun k hk => hS.2 k (List.mem_range.mpr hk)) (hR 18)
    · exact (mkc_e _ _ (q.2.resolve_left (fun w => h18 (Nat.eq_of_beq_eq_true w)))).symm
  · rw [hA a (by omega)]
    have e : ∀ k, k ≤ 131 → Nat.ble k a = true := fun k hk => Nat.ble_eq_true_of_le (by omega)
    unfold ax_sh
    rw [e 65 (by omega), e 98 (by omega), e 114 (by omega), e 122 (by omega), e 126 (by omega), e 128 (by omega), e 129 (by omega), e 130 (by omega)]
    rfl
