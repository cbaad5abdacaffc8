/-! DENOTATIONS: what a method's run does, told as a pure function of numbers and of the memory; the rules by which a run of the abstract machine follows it -/
abbrev dM : Type := (Nat × Nat) × ax_M × ax_N × (Nat → Nat)
def stt (m : dM) : ax_H := ax_st m.1 m.2.1 m.2.2.1 m.2.2.2
def rI (m : dM) (a j : Nat) : Int32 := m.2.1 a j
def rL (m : dM) (a j : Nat) : Int64 := m.2.2.1 a j
def rR (m : dM) (j : Nat) : Nat := m.2.2.2 j
def wI (m : dM) (a j : Nat) (v : Int32) : dM := (m.1, ms m.2.1 a j v, m.2.2)
def wL (m : dM) (a j : Nat) (v : Int64) : dM := (m.1, m.2.1, nl m.2.2.1 a j v, m.2.2.2)
def wR (m : dM) (j v : Nat) : dM := (m.1, m.2.1, m.2.2.1, fun i => if i = j then v else m.2.2.2 i)
def bump (m : dM) : dM := ((m.1.1 + 1, m.1.2 + 6), m.2)
def cI (m : dM) (a b n : Nat) : dM := (m.1, mr m.2.1 b (fun j => if j < n then rI m a j else rI m b j), m.2.2)
def cL (m : dM) (a b n : Nat) : dM := (m.1, m.2.1, nr m.2.2.1 b (fun j => if j < n then rL m a j else rL m b j), m.2.2.2)
def gI (m : dM) (a n : Nat) (i : Int32) : Option Int32 := bif ax_inb i n then some (rI m a i.toNatClampNeg) else none
def gL (m : dM) (a n : Nat) (i : Int32) : Option Int64 := bif ax_inb i n then some (rL m a i.toNatClampNeg) else none
def gR (m : dM) (i : Int32) : Option Nat := bif ax_inb i 5 then some (rR m i.toNatClampNeg) else none
def gX (X : Nat × (Nat → Int32)) (i : Int32) : Option Int32 := bif ax_inb i X.1 then some (X.2 i.toNatClampNeg) else none
def sI (m : dM) (a n : Nat) (i v : Int32) : Option dM := bif ax_inb i n then some (wI m a i.toNatClampNeg v) else none
def sL (m : dM) (a n : Nat) (i : Int32) (v : Int64) : Option dM := bif ax_inb i n then some (wL m a i.toNatClampNeg v) else none
def isS (v : Nat) : Bool := Nat.beq v 45 || Nat.beq v 62 || Nat.beq v 79 || Nat.beq v 96 || Nat.beq v 113
def sR (m : dM) (i : Int32) (v : Nat) : Option dM := bif ax_inb i 5 && isS v then some (wR m i.toNatClampNeg v) else none
/-- fields -/
def fI (m : dM) (a j : Nat) (v : Int32) : Option dM := some (wI m a j v)
def fL (m : dM) (a j : Nat) (v : Int64) : Option dM := some (wL m a j v)
def kI (m : dM) (a b n : Nat) : Option dM := some (cI m a b n)
def kL (m : dM) (a b n : Nat) : Option dM := some (cL m a b n)
def gM (x y : Int32) : Option Int32 := bif decide (y = 0) then none else some (x - x / y * y)
def kD (x : Int32) : Option Int32 := some (x + Int32.ofInt (-1))
/-- what a boolean, a float, a double is -/
def gB (x : Int32) : Option Int32 := bif ax_fit .boolean (.int x) then some x else none
def gF (x : UInt32) : Option UInt32 := bif ax_n32 x then some x else none
def gD (x : UInt64) : Option UInt64 := bif ax_n64 x then some x else none
/-- a loop: the body leads on or out -/
def lp {σ β : Type} : Nat → (σ → Option (σ ⊕ β)) → σ → Option β
  | 0, _, _ => none
  | n + 1, f, s => match f s with
    | none => none
    | some (.inl t) => lp n f t
    | some (.inr b) => some b
/-- calls that may throw -/
def cT {α β : Type} (e : Option (α ⊕ Nat)) (m : dM) (k : α → Option β) (x : Nat → dM → Option β) : Option β := match e with
  | none => none
  | some (.inl v) => k v
  | some (.inr j) => x j (bump m)
def cG {α β : Type} (e : Option ((α ⊕ Nat) × dM)) (k : α → dM → Option β) (x : Nat → dM → Option β) : Option β := match e with
  | none => none
  | some (.inl v, m) => k v m
  | some (.inr j, m) => x j m
def oT {α : Type} (f : α → Option Value) : α ⊕ Nat → ax_O
  | .inl x => .inl (f x)
  | .inr k => .inr k
def bT {α : Type} (m : dM) : α ⊕ Nat → dM
  | .inl _ => m
  | .inr _ => bump m
theorem bnd {A B : Type} {e : Option A} {K : A → Option B} {r : B} {G : Prop} (hD : e.bind K = some r) (k : ∀ x, e = some x → K x = some r → G) : G := by
  cases e with
  | none => cases hD
  | some x => exact k x rfl hD
theorem inj {A : Type} {a b : A} (h : some a = some b) : a = b := Option.some.inj h
/-- locals that say less: none for a number -/
def ax_nr : Option Value → Prop
  | some (.ref _) => False
  | _ => True
def ax_le : ax_L → ax_L → Prop
  | [], [] => True
  | x :: L, y :: K => (x = y ∨ (x = none ∧ ax_nr y)) ∧ ax_le L K
  | _, _ => False
theorem ax_le.rf : ∀ L, ax_le L L
  | [] => trivial
  | _ :: L => ⟨.inl rfl, ax_le.rf L⟩
theorem ax_le.ld : ∀ {L K : ax_L}, ax_le L K → ∀ i, ax_ld L i = ax_ld K i ∨ (ax_ld L i = none ∧ ax_nr (ax_ld K i))
  | [], [], _, _ => .inl rfl
  | _ :: _, _ :: _, h, 0 => h.1
  | _ :: _, _ :: _, h, i + 1 => ax_le.ld h.2 i
  | [], _ :: _, h, _ => h.elim
  | _ :: _, [], h, _ => h.elim
theorem ax_le.st : ∀ {L K : ax_L}, ax_le L K → ∀ i v, ax_le (ax_set L i v) (ax_set K i v)
  | [], [], h, _, _ => h
  | _ :: _, _ :: _, h, 0, _ => ⟨.inl rfl, h.2⟩
  | _ :: _, _ :: _, h, i + 1, v => ⟨h.1, ax_le.st h.2 i v⟩
  | [], _ :: _, h, _, _ => h.elim
  | _ :: _, [], h, _, _ => h.elim
theorem ax_le.sn : ∀ {L K : ax_L}, ax_le L K → ∀ i, ax_ld L i = none → ax_nr (ax_ld K i) → ax_le L (ax_set K i none)
  | [], [], h, _, _, _ => h
  | _ :: _, _ :: _, h, 0, e, _ => ⟨.inl e, h.2⟩
  | _ :: _, _ :: _, h, i + 1, e, q => ⟨h.1, ax_le.sn h.2 i e q⟩
  | [], _ :: _, h, _, _, _ => h.elim
  | _ :: _, [], h, _, _, _ => h.elim
theorem ax_le.hs : ∀ {L K : ax_L}, ax_le L K → ∀ i, ax_has K i = ax_has L i
  | [], [], _, _ => rfl
  | _ :: _, _ :: _, _, 0 => rfl
  | _ :: _, _ :: _, h, i + 1 => ax_le.hs h.2 i
  | [], _ :: _, h, _ => h.elim
  | _ :: _, [], h, _ => h.elim
theorem ax_le.kl {L K : ax_L} (h : ax_le L K) (i : Nat) : ax_le (ax_kill L i) (ax_kill K i) := by
  cases i with
  | zero => exact h
  | succ j =>
    show ax_le (bif ax_wide (ax_ld L j) then ax_set L j none else L) (bif ax_wide (ax_ld K j) then ax_set K j none else K)
    rcases h.ld j with e | ⟨e, q⟩
    · rw [e]
      cases ax_wide (ax_ld K j) with
      | false => exact h
      | true => exact h.st j none
    · rw [e]
      show ax_le L (bif ax_wide (ax_ld K j) then ax_set K j none else K)
      cases ax_wide (ax_ld K j) with
      | false => exact h
      | true => exact h.sn j e q
theorem ax_le.cl : ∀ {L K : ax_L} (n : Nat), ax_le L K → L.all (ax_clO n) = K.all (ax_clO n)
  | [], [], _, _ => rfl
  | x :: L, y :: K, n, h => by
    have e := ax_le.cl n h.2
    show (ax_clO n x && L.all (ax_clO n)) = (ax_clO n y && K.all (ax_clO n))
    rw [e]
    rcases h.1 with e1 | ⟨e1, q⟩
    · rw [e1]
    · rw [e1]
      cases y with
      | none => rfl
      | some v => cases v with
        | ref a => exact q.elim
        | _ => rfl
  | [], _ :: _, _, h => h.elim
  | _ :: _, [], _, h => h.elim
theorem ax_le.clF {L K : ax_L} (h : ax_le L K) (n : Nat) (S : List Value) : ax_clF n L S = ax_clF n K S := by
  show (L.all (ax_clO n) && _) = (K.all (ax_clO n) && _)
  rw [h.cl n]
theorem ax_le.clB {L K : ax_L} (h : ax_le L K) (g : ax_H) (S : List Value) : ax_clB g L S = ax_clB g K S := by
  show (_ && ax_clF g.1.1 L S) = (_ && ax_clF g.1.1 K S)
  rw [h.clF]
/-- a step goes the same way over locals that say more -/
def ax_ls : ax_S → ax_S → Prop
  | .inl (f, h), .inl (f', h') => f.1 = f'.1 ∧ ax_le f.2.1 f'.2.1 ∧ f.2.2 = f'.2.2 ∧ h = h'
  | .inr (.inl r), .inr (.inl r') => r = r'
  | .inr (.inr (m, a, f)), .inr (.inr (m', a', f')) => m = m' ∧ a = a' ∧ f.1 = f'.1 ∧ ax_le f.2.1 f'.2.1 ∧ f.2.2 = f'.2.2
  | _, _ => False
def ax_lo (a b : Option ax_S) : Prop := ∀ s, a = some s → ∃ t, b = some t ∧ ax_ls s t
theorem ax_lo.no {b : Option ax_S} : ax_lo none b := fun _ h => by cases h
theorem ax_lo.nx {L K : ax_L} (h : ax_le L K) {pc : Nat} {S : List Value} {g : ax_H} : ax_lo (ax_nx pc L S g) (ax_nx pc K S g) := fun s e => by
  cases e
  exact ⟨_, rfl, rfl, h, rfl, rfl⟩
theorem ax_lo.bf {a b : Option ax_S} {c : Bool} (h : ax_lo a b) : ax_lo (bif c then a else none) (bif c then b else none) := by
  cases c with
  | false => exact ax_lo.no
  | true => exact h
theorem ax_lo.bn {a b : Option ax_S} {c : Bool} (h : ax_lo a b) : ax_lo (bif c then none else a) (bif c then none else b) := by
  cases c with
  | true => exact ax_lo.no
  | false => exact h
theorem ax_lo.b2 {a b a' b' : Option ax_S} {c : Bool} (h : ax_lo a b) (h' : ax_lo a' b') : ax_lo (bif c then a else a') (bif c then b else b') := by
  cases c with
  | true => exact h
  | false => exact h'
theorem ax_lo.nn {b : Option ax_S} {c : Bool} : ax_lo (bif c then none else none) b := by cases c <;> exact ax_lo.no
theorem ax_lo.s1 {L K : ax_L} (h : ax_le L K) {pc i : Nat} {v : Value} {S : List Value} {g : ax_H} : ax_lo (ax_s1 pc L i v S g) (ax_s1 pc K i v S g) := by
  unfold ax_s1
  rw [h.hs i]
  exact ax_lo.bf (ax_lo.nx ((h.kl i).st i _))
theorem ax_lo.s2 {L K : ax_L} (h : ax_le L K) {pc i : Nat} {v : Value} {S : List Value} {g : ax_H} : ax_lo (ax_s2 pc L i v S g) (ax_s2 pc K i v S g) := by
  unfold ax_s2
  rw [h.hs (i + 1)]
  exact ax_lo.bf (ax_lo.nx (((h.kl i).st i _).st (i + 1) none))
theorem ax_lo.fi {L K : ax_L} (h : ax_le L K) {c : ClassFile.Cond} {x y : Int32} {pc : Nat} {off : Int} {S : List Value} {g : ax_H} : ax_lo (ax_if c x y pc off L S g) (ax_if c x y pc off K S g) := by
  unfold ax_if
  cases ax_jmp pc off with
  | none => exact ax_lo.no
  | some t => cases c <;> exact ax_lo.b2 (ax_lo.nx h) (ax_lo.nx h)
theorem ax_lo.jm {L K : ax_L} (h : ax_le L K) {pc : Nat} {off : Int} {S : List Value} {g : ax_H} : ax_lo (match ax_jmp pc off with | some t => ax_nx t L S g | none => none) (match ax_jmp pc off with | some t => ax_nx t K S g | none => none) := by
  cases ax_jmp pc off with
  | none => exact ax_lo.no
  | some t => exact ax_lo.nx h
theorem ax_lo.rf {a : Option ax_S} (h : ∀ s, a = some s → ax_ls s s) : ax_lo a a := fun s e => ⟨s, e, h s e⟩
theorem ax_lo.cp {L K : ax_L} (h : ax_le L K) {pc : Nat} {S : List Value} {g : ax_H} : ax_lo (ax_cpy L pc g S) (ax_cpy K pc g S) := by
  unfold ax_cpy
  split
  · split
    · exact ax_lo.bf (ax_lo.nx h)
    · exact ax_lo.bf (ax_lo.nx h)
    · exact ax_lo.no
  · exact ax_lo.no
theorem ax_lo.ca {L K : ax_L} (h : ax_le L K) {mi pc op ix : Nat} {S : List Value} {g : ax_H} : ax_lo (ax_call mi pc L S g op ix) (ax_call mi pc K S g op ix) := by
  unfold ax_call
  split
  · exact ax_lo.no
  · refine ax_lo.b2 (ax_lo.bf ?_) (ax_lo.b2 (ax_lo.bf (ax_lo.cp h)) (ax_lo.bf ?_))
    · split
      · exact ax_lo.bf (ax_lo.nx h)
      · exact ax_lo.no
    · split
      · exact ax_lo.no
      · refine ax_lo.bf ?_
        intro s e
        cases e
        exact ⟨_, rfl, rfl, rfl, rfl, h, rfl⟩
theorem ax_lo.r1 {mi : Nat} {v : Value} {g : ax_H} : ax_lo (ax_ret1 mi v g) (ax_ret1 mi v g) := by
  refine ax_lo.rf (fun s e => ?_)
  unfold ax_ret1 at e
  split at e
  · cases e
  · obtain ⟨-, e2⟩ := ax_bifR e
    cases e2
    rfl
theorem ax_lo.dc {X : Nat × (Nat → Int32)} {mi pc : Nat} {L K : ax_L} (h : ax_le L K) {S : List Value} {g : ax_H} (i : Instr) : ax_lo (ax_do X mi pc L S g i) (ax_do X mi pc K S g i) := by
  cases i
  all_goals first
    | exact ax_lo.no
    | exact ax_lo.nx h
    | exact ax_lo.ca h
    | exact ax_lo.jm h
    | (simp only [ax_do]
       split
       all_goals first
         | exact ax_lo.no
         | exact ax_lo.nx h
         | exact ax_lo.s1 h
         | exact ax_lo.s2 h
         | exact ax_lo.fi h
         | exact ax_lo.r1
         | exact ax_lo.bf (ax_lo.nx h)
         | exact ax_lo.bn (ax_lo.nx h))
    | (simp only [ax_do]
       rename_i k
       rcases h.ld k with e | ⟨e, -⟩
       · rw [e]
         split
         all_goals first
           | exact ax_lo.no
           | exact ax_lo.nx h
       · rw [e]
         exact ax_lo.no)
    | (simp only [ax_do]
       rename_i k
       rcases h.ld k.val with e | ⟨e, -⟩
       · rw [e]
         split
         all_goals first
           | exact ax_lo.no
           | exact ax_lo.nx h
       · rw [e]
         exact ax_lo.no)
    | (simp only [ax_do]
       rename_i k n
       rcases h.ld k with e | ⟨e, -⟩
       · rw [e]
         split
         all_goals first
           | exact ax_lo.no
           | exact ax_lo.s1 h
       · rw [e]
         exact ax_lo.no)
    | (simp only [ax_do, h.clB g]
       repeat' split
       all_goals first
         | exact ax_lo.no
         | exact ax_lo.nx h
         | exact ax_lo.bf (ax_lo.nx h)
         | exact ax_lo.bn (ax_lo.nx h)
         | exact ax_lo.nn
         | exact ax_lo.b2 (ax_lo.nx h) (ax_lo.nx h)
         | exact ax_lo.b2 (ax_lo.nx h) ax_lo.no
         | exact ax_lo.b2 ax_lo.no (ax_lo.nx h)
         | exact ax_lo.b2 (ax_lo.jm h) ax_lo.no
         | (refine ax_lo.b2 (ax_lo.jm h) ?_
            split
            · exact ax_lo.jm h
            · exact ax_lo.no)
         | (refine ax_lo.bf ?_
            split
            all_goals first
              | exact ax_lo.no
              | exact ax_lo.nx h
              | exact ax_lo.jm h)
         | (refine ax_lo.bf ?_
            intro s e
            cases e
            exact ⟨_, rfl, rfl⟩)
         | (intro s e
            cases e
            exact ⟨_, rfl, rfl⟩))
theorem ax_lo.sp {X : Nat × (Nat → Int32)} {mi pc : Nat} {L K : ax_L} (h : ax_le L K) {S : List Value} {g : ax_H} : ax_lo (ax_step X mi (pc, L, S) g) (ax_step X mi (pc, K, S) g) := by
  unfold ax_step
  show ax_lo (match ax_ins mi pc with | none => none | some i => ax_do X mi pc L S g i) (match ax_ins mi pc with | none => none | some i => ax_do X mi pc K S g i)
  split
  · exact ax_lo.no
  · exact ax_lo.dc h _
theorem ax_run_le (X : Nat × (Nat → Int32)) : ∀ (n d mi pc : Nat) (L K : ax_L) (S : List Value) (h : ax_H) (r : ax_O × ax_H), ax_le L K → ax_run X n d mi (pc, L, S) h = some r → ax_run X n d mi (pc, K, S) h = some r
  | 0, _, _, _, _, _, _, _, _, _, hr => by cases hr
  | _ + 1, 0, _, _, _, _, _, _, _, _, hr => by cases hr
  | n + 1, d + 1, mi, pc, L, K, S, h, r, hl, hr => by
    have e1 := hr
    have hs := ax_lo.sp (X := X) (mi := mi) (pc := pc) hl (S := S) (g := h)
    unfold ax_run at e1
    unfold ax_run
    split at e1
    · cases e1
    · rename_i f1 h1 e0
      obtain ⟨t, e2, q⟩ := hs _ e0
      rw [e2]
      match t, q with
      | .inl (⟨pc', L', S'⟩, h'), ⟨q1, q2, q3, q4⟩ =>
        obtain ⟨pc1, L1, S1⟩ := f1
        cases q1; cases q3; cases q4
        exact ax_run_le X n _ mi _ _ _ _ _ r q2 e1
    · rename_i v h1 e0
      obtain ⟨t, e2, q⟩ := hs _ e0
      rw [e2]
      match t, q with
      | .inr (.inl r'), q => cases q; exact e1
    · rename_i v h1 e0
      obtain ⟨t, e2, q⟩ := hs _ e0
      rw [e2]
      match t, q with
      | .inr (.inl r'), q => cases q; exact e1
    · rename_i m2 vs f1 e0
      obtain ⟨t, e2, q⟩ := hs _ e0
      rw [e2]
      match t, q with
      | .inr (.inr (m', a', ⟨pc', L', S'⟩)), ⟨q0, q1, q2, q3, q4⟩ =>
        obtain ⟨pc1, L1, S1⟩ := f1
        cases q0; cases q1; cases q2; cases q4
        obtain ⟨c1, e3⟩ := ax_bifR e1
        simp only [c1, cond_true]
        split at e3
        · cases e3
        · rename_i v h1 e4
          obtain ⟨c2, e5⟩ := ax_bifR e3
          have c3 : (Nat.beq h1.1.1 h.1.1 || ax_clF h.1.1 L' S') = true := by rw [← ax_le.clF q3]; exact c2
          simp only [c3, cond_true]
          exact ax_run_le X n _ mi _ _ _ _ _ r q3 e5
        · rename_i k h1 e4
          cases hq : (ax_hh mi).isEmpty with
          | true =>
            rw [hq] at e3
            simp only [hq, cond_true]
            exact e3
          | false =>
            rw [hq] at e3
            simp only [hq, cond_false] at e3 ⊢
            split at e3
            · cases e3
            · rename_i pc2 j e5
              obtain ⟨c2, e6⟩ := ax_bifR e3
              have c3 : (ax_has L' j && Nat.beq h1.1.1 h.1.1) = true := by rw [ax_le.hs q3 j]; exact c2
              simp only [e5, c3, cond_true]
              exact ax_run_le X n _ mi _ _ _ _ _ r ((q3.kl j).st j none) e6
section DEN
variable {X : Nat × (Nat → Int32)} {d mi pc : Nat} {f f' : ax_F} {h : ax_H} {L : ax_L} {S : List Value} {Q : ax_O → ax_H → Prop} {m m' : dM}
theorem ax_Wp.dead {L K : ax_L} (w : ax_Wp X d mi (pc, L, S) h Q) (q : ax_le L K) : ax_Wp X d mi (pc, K, S) h Q := by
  obtain ⟨n, o, h', e, w⟩ := w
  exact ⟨n, o, h', ax_run_le X n d mi pc L K S h _ q e, w⟩
/-- a branch -/
theorem ax_Wp.brD {B : Type} {c : Prop} {dc : Decidable c} {u v : Option B} {r : B} (hD : (@ite _ c dc u v) = some r) {f1 f2 : ax_F} {h1 h2 : ax_H} (e : ax_step X mi f h = bif @decide c dc then some (.inl (f1, h1)) else some (.inl (f2, h2))) (kt : c → u = some r → ax_Wp X (d + 1) mi f1 h1 Q) (kf : ¬ c → v = some r → ax_Wp X (d + 1) mi f2 h2 Q) : ax_Wp X (d + 1) mi f h Q := by
  refine ax_Wp.br e (fun q => ?_) (fun q => ?_)
  · rw [if_pos q] at hD
    exact kt q hD
  · rw [if_neg q] at hD
    exact kf q hD
theorem ax_Wp.jn {F : ax_F} {hh : ax_H} (w : ax_Wp X d mi F hh Q) (k : ax_Wp X d mi F hh Q → ax_Wp X d mi f h Q) : ax_Wp X d mi f h Q := k w
theorem ax_inb_lt {i : Int32} {n : Nat} (h : ax_inb i n = true) : i.toNatClampNeg < n := by
  simp only [ax_inb, Bool.and_eq_true] at h
  exact Nat.le_of_ble_eq_true h.2
theorem gI.sp {a n : Nat} {i x : Int32} (h : gI m a n i = some x) : ax_inb i n = true ∧ x = rI m a i.toNatClampNeg := by
  unfold gI at h
  obtain ⟨q, e⟩ := ax_bifR h
  exact ⟨q, (inj e).symm⟩
theorem ax_Wp.rdI {B : Type} {K : Int32 → Option B} {r : B} {a n : Nat} {i : Int32} (hD : (gI m a n i).bind K = some r) (hi : ax_ins mi pc = some .iaload) (ha : Nat.blt a 131 = true) (hs : ax_sh a (m.2.1 a) (m.2.2.1 a) m.2.2.2 = .inl (0, (n, .inl (m.2.1 a)))) (k : ∀ x, K x = some r → ax_Wp X (d + 1) mi (pc + 1, L, .int x :: S) (stt m) Q) : ax_Wp X (d + 1) mi (pc, L, .int i :: .ref a :: S) (stt m) Q := by
  refine bnd hD (fun x hx hD => ?_)
  obtain ⟨q, rfl⟩ := gI.sp hx
  refine ax_Wp.st ?_ (k _ hD)
  show (match ax_ins mi pc with | none => none | some i2 => ax_do X mi pc L (.int i :: .ref a :: S) (stt m) i2) = _
  rw [hi]
  simp only [ax_do, stt, ax_st_at ha, hs, q]
  rfl
theorem ax_Wp.rdL {B : Type} {K : Int64 → Option B} {r : B} {a n : Nat} {i : Int32} (hD : (gL m a n i).bind K = some r) (hi : ax_ins mi pc = some .laload) (ha : Nat.blt a 131 = true) (hs : ax_sh a (m.2.1 a) (m.2.2.1 a) m.2.2.2 = .inl (1, (n, .inr (.inl (m.2.2.1 a))))) (k : ∀ x, K x = some r → ax_Wp X (d + 1) mi (pc + 1, L, .long x :: S) (stt m) Q) : ax_Wp X (d + 1) mi (pc, L, .int i :: .ref a :: S) (stt m) Q := by
  refine bnd hD (fun x hx hD => ?_)
  unfold gL at hx
  obtain ⟨q, e⟩ := ax_bifR hx
  cases e
  refine ax_Wp.st ?_ (k _ hD)
  show (match ax_ins mi pc with | none => none | some i2 => ax_do X mi pc L (.int i :: .ref a :: S) (stt m) i2) = _
  rw [hi]
  simp only [ax_do, stt, ax_st_at ha, hs, q]
  rfl
theorem ax_Wp.rdR {B : Type} {K : Nat → Option B} {r : B} {i : Int32} (hD : (gR m i).bind K = some r) (hi : ax_ins mi pc = some .aaload) (k : ∀ x, K x = some r → ax_Wp X (d + 1) mi (pc + 1, L, .ref x :: S) (stt m) Q) : ax_Wp X (d + 1) mi (pc, L, .int i :: .ref 18 :: S) (stt m) Q := by
  refine bnd hD (fun x hx hD => ?_)
  unfold gR at hx
  obtain ⟨q, e⟩ := ax_bifR hx
  cases e
  refine ax_Wp.st ?_ (k _ hD)
  show (match ax_ins mi pc with | none => none | some i2 => ax_do X mi pc L (.int i :: .ref 18 :: S) (stt m) i2) = _
  rw [hi]
  have hs : ax_sh 18 (m.2.1 18) (m.2.2.1 18) m.2.2.2 = .inl (2, (5, .inr (.inr (.inr (.inr (fun k => bif Nat.blt k 5 then some (m.2.2.2 k) else none)))))) := rfl
  have q2 := q
  simp only [ax_inb, Bool.and_eq_true] at q2
  have hlt : Nat.blt i.toNatClampNeg 5 = true := q2.2
  simp only [ax_do, stt, ax_st_at (a := 18) rfl, hs, q, hlt, cond_true]
  rfl
theorem ax_Wp.rdX {B : Type} {K : Int32 → Option B} {r : B} {i : Int32} {a : Nat} (hD : (gX X i).bind K = some r) (hi : ax_ins mi pc = some .iaload) (k : ∀ x, K x = some r → ax_Wp X (d + 1) mi (pc + 1, L, .int x :: S) (stt m) Q) : ax_Wp X (d + 1) mi (pc, L, .int i :: .retAddr a :: S) (stt m) Q := by
  refine bnd hD (fun x hx hD => ?_)
  unfold gX at hx
  obtain ⟨q, e⟩ := ax_bifR hx
  cases e
  refine ax_Wp.st ?_ (k _ hD)
  show (match ax_ins mi pc with | none => none | some i2 => ax_do X mi pc L (.int i :: .retAddr a :: S) (stt m) i2) = _
  rw [hi]
  simp only [ax_do, q]
  rfl
/-- a remainder by what is no 0 -/
theorem ax_Wp.rmD {B : Type} {K : Int32 → Option B} {r : B} {x y : Int32} (hD : (gM x y).bind K = some r) (hi : ax_ins mi pc = some .irem) (k : ∀ z, K z = some r → ax_Wp X (d + 1) mi (pc + 1, L, .int z :: S) h Q) : ax_Wp X (d + 1) mi (pc, L, .int y :: .int x :: S) h Q := by
  refine bnd hD (fun z hx hD => ?_)
  unfold gM at hx
  cases q : decide (y = 0) with
  | true => rw [q] at hx; cases hx
  | false =>
    rw [q] at hx
    cases hx
    refine ax_Wp.st ?_ (k _ hD)
    show (match ax_ins mi pc with | none => none | some i2 => ax_do X mi pc L (.int y :: .int x :: S) h i2) = _
    rw [hi]
    simp only [ax_do, q]
    rfl
theorem ax_Wp.wrI {B : Type} {K : dM → Option B} {r : B} {a n : Nat} {i x : Int32} (hD : (sI m a n i x).bind K = some r) (hi : ax_ins mi pc = some .iastore) (ha : Nat.blt a 131 = true) (hs : ∀ g : Nat → Int32, ax_sh a g (m.2.2.1 a) m.2.2.2 = .inl (0, (n, .inl g))) (k : ∀ m', K m' = some r → ax_Wp X (d + 1) mi (pc + 1, L, S) (stt m') Q) : ax_Wp X (d + 1) mi (pc, L, .int x :: .int i :: .ref a :: S) (stt m) Q := by
  refine bnd hD (fun m' hx hD => ?_)
  unfold sI at hx
  obtain ⟨q, e⟩ := ax_bifR hx
  cases e
  refine ax_Wp.st ?_ (k _ hD)
  show (match ax_ins mi pc with | none => none | some i2 => ax_do X mi pc L (.int x :: .int i :: .ref a :: S) (stt m) i2) = _
  rw [hi]
  simp only [ax_do, stt, ax_st_at ha, hs, q]
  rw [ax_st_up (f := upd (m.2.1 a) i.toNatClampNeg x) (hs _).symm]
  rfl
theorem ax_Wp.wrL {B : Type} {K : dM → Option B} {r : B} {a n : Nat} {i : Int32} {x : Int64} (hD : (sL m a n i x).bind K = some r) (hi : ax_ins mi pc = some .lastore) (ha : Nat.blt a 131 = true) (hs : ∀ g : Nat → Int64, ax_sh a (m.2.1 a) g m.2.2.2 = .inl (1, (n, .inr (.inl g)))) (k : ∀ m', K m' = some r → ax_Wp X (d + 1) mi (pc + 1, L, S) (stt m') Q) : ax_Wp X (d + 1) mi (pc, L, .long x :: .int i :: .ref a :: S) (stt m) Q := by
  refine bnd hD (fun m' hx hD => ?_)
  unfold sL at hx
  obtain ⟨q, e⟩ := ax_bifR hx
  cases e
  refine ax_Wp.st ?_ (k _ hD)
  show (match ax_ins mi pc with | none => none | some i2 => ax_do X mi pc L (.long x :: .int i :: .ref a :: S) (stt m) i2) = _
  rw [hi]
  simp only [ax_do, stt, ax_st_at ha, hs, q]
  rw [ax_st_upN (g := vp_updL (m.2.2.1 a) i.toNatClampNeg x) (hs _).symm]
  rfl
theorem isS.or {v : Nat} (h : isS v = true) : v = 45 ∨ v = 62 ∨ v = 79 ∨ v = 96 ∨ v = 113 := by
  simp only [isS, Bool.or_eq_true] at h
  rcases h with (((h | h) | h) | h) | h
  · exact .inl (Nat.eq_of_beq_eq_true h)
  · exact .inr (.inl (Nat.eq_of_beq_eq_true h))
  · exact .inr (.inr (.inl (Nat.eq_of_beq_eq_true h)))
  · exact .inr (.inr (.inr (.inl (Nat.eq_of_beq_eq_true h))))
  · exact .inr (.inr (.inr (.inr (Nat.eq_of_beq_eq_true h))))
theorem ax_st_upR {k : Nat × Nat} {M : ax_M} {N : ax_N} {r s : Nat → Nat} : ax_up (ax_st k M N r) 18 (.inl (2, (5, .inr (.inr (.inr (.inr (fun k => bif Nat.blt k 5 then some (s k) else none))))))) = ax_st k M N s := by
  show (((131, k.1, k.2), _) : ax_H) = ((131, k.1, k.2), _)
  congr 1
  funext j
  show (bif Nat.beq j 18 then _ else ax_sh j (M j) (N j) r) = ax_sh j (M j) (N j) s
  cases hb : Nat.beq j 18 with
  | true => cases Nat.eq_of_beq_eq_true hb; rfl
  | false =>
    unfold ax_sh
    cases Nat.ble 65 j with
    | true => rfl
    | false =>
    cases Nat.ble 32 j with
    | true => rfl
    | false =>
    cases Nat.ble 16 j with
    | false => rfl
    | true =>
    cases Nat.ble 24 j with
    | true => rfl
    | false =>
    cases Nat.ble 20 j with
    | true => rfl
    | false =>
    cases h18 : Nat.ble 18 j with
    | false => rfl
    | true =>
    cases h19 : Nat.ble 19 j with
    | true => rfl
    | false =>
      have q1 := Nat.le_of_ble_eq_true h18
      have q2 : ¬ 19 ≤ j := fun q => by rw [Nat.ble_eq_true_of_le q] at h19; cases h19
      have q3 : j = 18 := by omega
      rw [q3] at hb
      cases hb
theorem ax_Wp.wrR {B : Type} {K : dM → Option B} {r : B} {i : Int32} {x : Nat} (hD : (sR m i x).bind K = some r) (hi : ax_ins mi pc = some .aastore) (k : ∀ m', K m' = some r → ax_Wp X (d + 1) mi (pc + 1, L, S) (stt m') Q) : ax_Wp X (d + 1) mi (pc, L, .ref x :: .int i :: .ref 18 :: S) (stt m) Q := by
  refine bnd hD (fun m' hx hD => ?_)
  unfold sR at hx
  obtain ⟨q, e⟩ := ax_bifR hx
  cases e
  rw [Bool.and_eq_true] at q
  refine ax_Wp.st ?_ (k _ hD)
  show (match ax_ins mi pc with | none => none | some i2 => ax_do X mi pc L (.ref x :: .int i :: .ref 18 :: S) (stt m) i2) = _
  rw [hi]
  have hs : ax_sh 18 (m.2.1 18) (m.2.2.1 18) m.2.2.2 = .inl (2, (5, .inr (.inr (.inr (.inr (fun k => bif Nat.blt k 5 then some (m.2.2.2 k) else none)))))) := rfl
  have hx : ∃ fs, ax_at (stt m) x = some (.inr (5, fs)) := by
    rcases isS.or q.2 with rfl | rfl | rfl | rfl | rfl <;> exact ⟨_, rfl⟩
  obtain ⟨fs, hx⟩ := hx
  have h18 : ax_at (stt m) 18 = some (.inl (2, (5, .inr (.inr (.inr (.inr (fun k => bif Nat.blt k 5 then some (m.2.2.2 k) else none))))))) := rfl
  simp only [ax_do, h18, hx, q.1]
  show some (Sum.inl ((pc + 1, L, S), _)) = _
  have q2 := q.1
  simp only [ax_inb, Bool.and_eq_true] at q2
  have hlt : Nat.blt i.toNatClampNeg 5 = true := q2.2
  have hf : va_up (fun k => bif Nat.blt k 5 then some (m.2.2.2 k) else none) i.toNatClampNeg (some x) = fun k => bif Nat.blt k 5 then some (if k = i.toNatClampNeg then x else m.2.2.2 k) else none := by
    funext j
    show (if j = i.toNatClampNeg then some x else bif Nat.blt j 5 then some (m.2.2.2 j) else none) = bif Nat.blt j 5 then some (if j = i.toNatClampNeg then x else m.2.2.2 j) else none
    by_cases e : j = i.toNatClampNeg
    · rw [if_pos e, if_pos e, e, hlt]
      rfl
    · rw [if_neg e, if_neg e]
  have hu := ax_st_upR (k := m.1) (M := m.2.1) (N := m.2.2.1) (r := m.2.2.2) (s := fun k => if k = i.toNatClampNeg then x else m.2.2.2 k)
  rw [hf]
  exact congrArg (fun z => some (Sum.inl ((pc + 1, L, S), z))) hu
theorem ax_Wp.ptI {B : Type} {K : dM → Option B} {r : B} {a j : Nat} {x : Int32} {h1 : ax_H} (hD : (fI m a j x).bind K = some r) (e : ax_step X mi (pc, L, .int x :: .ref a :: S) (stt m) = some (.inl ((pc + 3, L, S), h1))) {c : ax_C} (e1 : h1 = ax_up (stt m) a c) (hs : c = ax_sh a (upd (m.2.1 a) j x) (m.2.2.1 a) m.2.2.2) (k : ∀ m', K m' = some r → ax_Wp X (d + 1) mi (pc + 3, L, S) (stt m') Q) : ax_Wp X (d + 1) mi (pc, L, .int x :: .ref a :: S) (stt m) Q := by
  refine bnd hD (fun m' hx hD => ?_)
  cases hx
  refine ax_Wp.st e ?_
  rw [e1, stt, ax_st_up hs]
  exact k _ hD
theorem ax_Wp.ptL {B : Type} {K : dM → Option B} {r : B} {a j : Nat} {x : Int64} {h1 : ax_H} (hD : (fL m a j x).bind K = some r) (e : ax_step X mi (pc, L, .long x :: .ref a :: S) (stt m) = some (.inl ((pc + 3, L, S), h1))) {c : ax_C} (e1 : h1 = ax_up (stt m) a c) (hs : c = ax_sh a (m.2.1 a) (vp_updL (m.2.2.1 a) j x) m.2.2.2) (k : ∀ m', K m' = some r → ax_Wp X (d + 1) mi (pc + 3, L, S) (stt m') Q) : ax_Wp X (d + 1) mi (pc, L, .long x :: .ref a :: S) (stt m) Q := by
  refine bnd hD (fun m' hx hD => ?_)
  cases hx
  refine ax_Wp.st e ?_
  rw [e1, stt, ax_st_upN hs]
  exact k _ hD
/-- a checked field of a boolean -/
theorem ax_Wp.ptB {B : Type} {K : dM → Option B} {r : B} {a j : Nat} {x : Int32} {h1 : ax_H} (hD : ((gB x).bind fun x => fI m a j x).bind K = some r) (e : ax_step X mi (pc, L, .int x :: .ref a :: S) (stt m) = bif ax_fit .boolean (.int x) then some (.inl ((pc + 3, L, S), h1)) else none) {c : ax_C} (e1 : h1 = ax_up (stt m) a c) (hs : c = ax_sh a (upd (m.2.1 a) j x) (m.2.2.1 a) m.2.2.2) (k : ∀ m', K m' = some r → ax_Wp X (d + 1) mi (pc + 3, L, S) (stt m') Q) : ax_Wp X (d + 1) mi (pc, L, .int x :: .ref a :: S) (stt m) Q := by
  refine bnd hD (fun m' hx hD => ?_)
  refine bnd hx (fun y hy hx => ?_)
  unfold gB at hy
  obtain ⟨q, e2⟩ := ax_bifR hy
  cases e2
  cases hx
  refine ax_Wp.st (by rw [e, q]; rfl) ?_
  rw [e1, stt, ax_st_up hs]
  exact k _ hD
theorem va0 {α : Type} (f g : Nat → α) (n : Nat) : va_cpy f g 0 0 n = fun j => if j < n then f j else g j := by
  funext j
  simp [va_cpy]
theorem ax_Wp.cpI {B : Type} {K : dM → Option B} {r : B} {a b n n1 : Nat} {S' : List Value} {h1 : ax_H} (hD : (kI m a b n).bind K = some r) (e : ax_step X mi (pc, L, S) (stt m) = some (.inl ((pc + 3, L, S'), h1))) (e1 : h1 = ax_up (stt m) b (.inl (0, (n1, .inl (va_cpy (m.2.1 a) (m.2.1 b) 0 0 n))))) (hs : ∀ g : Nat → Int32, ax_sh b g (m.2.2.1 b) m.2.2.2 = .inl (0, (n1, .inl g))) (k : ∀ m', K m' = some r → ax_Wp X (d + 1) mi (pc + 3, L, S') (stt m') Q) : ax_Wp X (d + 1) mi (pc, L, S) (stt m) Q := by
  refine bnd hD (fun m' hx hD => ?_)
  cases hx
  refine ax_Wp.st e ?_
  rw [e1, stt, va0, ax_st_up (hs _).symm]
  exact k _ hD
theorem ax_Wp.cpL {B : Type} {K : dM → Option B} {r : B} {a b n n1 : Nat} {S' : List Value} {h1 : ax_H} (hD : (kL m a b n).bind K = some r) (e : ax_step X mi (pc, L, S) (stt m) = some (.inl ((pc + 3, L, S'), h1))) (e1 : h1 = ax_up (stt m) b (.inl (1, (n1, .inr (.inl (va_cpy (m.2.2.1 a) (m.2.2.1 b) 0 0 n)))))) (hs : ∀ g : Nat → Int64, ax_sh b (m.2.1 b) g m.2.2.2 = .inl (1, (n1, .inr (.inl g)))) (k : ∀ m', K m' = some r → ax_Wp X (d + 1) mi (pc + 3, L, S') (stt m') Q) : ax_Wp X (d + 1) mi (pc, L, S) (stt m) Q := by
  refine bnd hD (fun m' hx hD => ?_)
  cases hx
  refine ax_Wp.st e ?_
  rw [e1, stt, va0, ax_st_upN (hs _).symm]
  exact k _ hD
/-- branches by hand -/
theorem swD {B : Type} {c : Prop} {dc : Decidable c} {u v : Option B} {r : B} {G : Prop} (hD : (@ite _ c dc u v) = some r) (kt : c → u = some r → G) (kf : ¬ c → v = some r → G) : G := by
  by_cases q : c
  · rw [if_pos q] at hD
    exact kt q hD
  · rw [if_neg q] at hD
    exact kf q hD
theorem ax_Wp.eqx {x y : Int32} (q : x = y) (w : ax_Wp X d mi (pc, L, .int y :: S) h Q) : ax_Wp X d mi (pc, L, .int x :: S) h Q := q ▸ w
theorem ax_tsw {x : Int32} {dflt lo hi : Int} {offs : Array Int} {t : Nat} (hi1 : ax_ins mi pc = some (.tableswitch dflt lo hi offs)) (hj : ax_jmp pc dflt = some t) (hc : (decide (x.toInt < lo) || decide (hi < x.toInt)) = true) : ax_step X mi (pc, L, .int x :: S) h = some (.inl ((t, L, S), h)) := by
  show (match ax_ins mi pc with | none => none | some i2 => ax_do X mi pc L (.int x :: S) h i2) = _
  rw [hi1]
  simp only [ax_do, hc, cond_true, hj]
  rfl
theorem ax_tsr {x : Int32} {lo hi : Int} (q : ∀ n : Int, lo ≤ n → n ≤ hi → ¬ x = Int32.ofInt n) : (decide (x.toInt < lo) || decide (hi < x.toInt)) = true := by
  rw [Bool.or_eq_true, decide_eq_true_eq, decide_eq_true_eq]
  refine Classical.byContradiction fun hn => ?_
  exact q x.toInt (by omega) (by omega) (Int32.ofInt_toInt x).symm
theorem ax_ts8 {x : Int32} (q0 : ¬ x = nI 0) (q1 : ¬ x = nI 1) (q2 : ¬ x = nI 2) (q3 : ¬ x = nI 3) (q4 : ¬ x = nI 4) (q5 : ¬ x = nI 5) (q6 : ¬ x = nI 6) (q7 : ¬ x = nI 7) : (decide (x.toInt < 0) || decide (7 < x.toInt)) = true := by
  refine ax_tsr (fun n h1 h2 => ?_)
  have h : n = 0 ∨ n = 1 ∨ n = 2 ∨ n = 3 ∨ n = 4 ∨ n = 5 ∨ n = 6 ∨ n = 7 := by omega
  rcases h with rfl | rfl | rfl | rfl | rfl | rfl | rfl | rfl <;> assumption
theorem ax_ts11 {x : Int32} (q0 : ¬ x = nI 0) (q1 : ¬ x = nI 1) (q2 : ¬ x = nI 2) (q3 : ¬ x = nI 3) (q4 : ¬ x = nI 4) (q5 : ¬ x = nI 5) (q6 : ¬ x = nI 6) (q7 : ¬ x = nI 7) (q8 : ¬ x = nI 8) (q9 : ¬ x = nI 9) (q10 : ¬ x = nI 10) : (decide (x.toInt < 0) || decide (10 < x.toInt)) = true := by
  refine ax_tsr (fun n h1 h2 => ?_)
  have h : n = 0 ∨ n = 1 ∨ n = 2 ∨ n = 3 ∨ n = 4 ∨ n = 5 ∨ n = 6 ∨ n = 7 ∨ n = 8 ∨ n = 9 ∨ n = 10 := by omega
  rcases h with rfl | rfl | rfl | rfl | rfl | rfl | rfl | rfl | rfl | rfl | rfl <;> assumption
theorem ax_ts6 {x : Int32} (q0 : ¬ x = nI 111) (q1 : ¬ x = nI 112) (q2 : ¬ x = nI 113) (q3 : ¬ x = nI 114) (q4 : ¬ x = nI 115) (q5 : ¬ x = nI 116) : (decide (x.toInt < 111) || decide (116 < x.toInt)) = true := by
  refine ax_tsr (fun n h1 h2 => ?_)
  have h : n = 111 ∨ n = 112 ∨ n = 113 ∨ n = 114 ∨ n = 115 ∨ n = 116 := by omega
  rcases h with rfl | rfl | rfl | rfl | rfl | rfl <;> assumption
theorem ax_lsw3 {x : Int32} {dflt : Int} {t : Nat} {o1 o2 o3 : Int} (hi1 : ax_ins mi pc = some (.lookupswitch dflt #[(111, o1), (115, o2), (116, o3)])) (hj : ax_jmp pc dflt = some t) (_ : True = True) (q1 : ¬ x = nI 111) (q2 : ¬ x = nI 115) (q3 : ¬ x = nI 116) : ax_step X mi (pc, L, .int x :: S) h = some (.inl ((t, L, S), h)) := by
  show (match ax_ins mi pc with | none => none | some i2 => ax_do X mi pc L (.int x :: S) h i2) = _
  rw [hi1]
  have e : Op.lookupswitch.offset [(111, o1), (115, o2), (116, o3)] dflt x.toInt = dflt := by
    have n1 : x.toInt ≠ 111 := fun e => q1 (Int32.toInt_inj.mp (e.trans (by decide)))
    have n2 : x.toInt ≠ 115 := fun e => q2 (Int32.toInt_inj.mp (e.trans (by decide)))
    have n3 : x.toInt ≠ 116 := fun e => q3 (Int32.toInt_inj.mp (e.trans (by decide)))
    simp [Op.lookupswitch.offset, n1, n2, n3, Ne.symm n1, Ne.symm n2, Ne.symm n3]
  have e2 : (([(111, o1), (115, o2), (116, o3)] : List (Int × Int)).zip (([(111, o1), (115, o2), (116, o3)] : List (Int × Int)).drop 1)).all (fun (a, next) => decide (a.1 < next.1)) = true := by
    simp
  show (bif (([(111, o1), (115, o2), (116, o3)] : List (Int × Int)).zip (([(111, o1), (115, o2), (116, o3)] : List (Int × Int)).drop 1)).all (fun (a, next) => decide (a.1 < next.1)) then (match ax_jmp pc (Op.lookupswitch.offset [(111, o1), (115, o2), (116, o3)] dflt x.toInt) with | some t => ax_nx t L S h | none => none) else none) = _
  rw [e2, e, hj]
  rfl
/-- checked numbers -/
theorem ax_Wp.retB {B : Type} {K : Int32 → Option B} {r : B} {x : Int32} (hD : (gB x).bind K = some r) (e : ax_step X mi f h = bif ax_fit .boolean (.int x) then some (.inr (.inl (.inl (some (.int x)), h))) else none) (k : ∀ b, K b = some r → Q (.inl (some (.int b))) h) : ax_Wp X (d + 1) mi f h Q := by
  refine bnd hD (fun y hy hD => ?_)
  unfold gB at hy
  obtain ⟨q, e2⟩ := ax_bifR hy
  cases e2
  exact ax_Wp.retc e q (k _ hD)
theorem ax_Wp.flF {B : Type} {K : UInt32 → Option B} {r : B} {x : UInt32} {p2 : Nat} {S' : List Value} (hD : (gF x).bind K = some r) (e : ax_step X mi f h = bif ax_n32 x then some (.inl ((p2, L, .float x :: S'), h)) else none) (k : ∀ z, K z = some r → ax_Wp X (d + 1) mi (p2, L, .float z :: S') h Q) : ax_Wp X (d + 1) mi f h Q := by
  refine bnd hD (fun y hy hD => ?_)
  unfold gF at hy
  obtain ⟨q, e2⟩ := ax_bifR hy
  cases e2
  exact ax_Wp.chk e q (k _ hD)
theorem ax_Wp.flD {B : Type} {K : UInt64 → Option B} {r : B} {x : UInt64} {p2 : Nat} {S' : List Value} (hD : (gD x).bind K = some r) (e : ax_step X mi f h = bif ax_n64 x then some (.inl ((p2, L, .double x :: S'), h)) else none) (k : ∀ z, K z = some r → ax_Wp X (d + 1) mi (p2, L, .double z :: S') h Q) : ax_Wp X (d + 1) mi f h Q := by
  refine bnd hD (fun y hy hD => ?_)
  unfold gD at hy
  obtain ⟨q, e2⟩ := ax_bifR hy
  cases e2
  exact ax_Wp.chk e q (k _ hD)
theorem ax_six (d : Nat) {b : Bool} (hb : b = true) : (Nat.ble 6 (d + 6) && b) = true := by
  rw [hb, Nat.ble_eq_true_of_le (by omega : 6 ≤ d + 6)]
  rfl
/-- calls -/
theorem ax_Wp.callX {m2 : Nat} {args : List Value} {j : Nat} {h1 : ax_H} (e : ax_step X mi f h = some (.inr (.inr (m2, args, f')))) (hl : Nat.ble (ax_fl args).length (ax_maxL m2) = true) (c : ax_Ev X d m2 args h (.inr j) h1) (hh : (ax_hh mi).isEmpty = true) (q : Q (.inr j) h1) : ax_Wp X (d + 1) mi f h Q := by
  refine ax_Wp.call e hl c (fun v' h1' q => ?_) (fun j' h1' q' => ?_)
  · cases q.1
  · obtain ⟨q1, q2⟩ := q'
    cases q1
    cases q2
    exact .inl ⟨hh, q⟩
theorem ax_Wp.callH {m2 : Nat} {args : List Value} {j pc2 i : Nat} {h1 : ax_H} (e : ax_step X mi f h = some (.inr (.inr (m2, args, f')))) (hl : Nat.ble (ax_fl args).length (ax_maxL m2) = true) (c : ax_Ev X d m2 args h (.inr j) h1) (hh : (ax_hh mi).isEmpty = false) (hc : ax_catchIn mi f.1 j (ax_hh mi) = some (pc2, i)) (hi : (ax_has f'.2.1 i && Nat.beq h1.1.1 h.1.1) = true) (w : ax_Wp X (d + 1) mi (pc2, ax_set (ax_kill f'.2.1 i) i none, []) h1 Q) : ax_Wp X (d + 1) mi f h Q := by
  refine ax_Wp.call e hl c (fun v' h1' q => ?_) (fun j' h1' q' => ?_)
  · cases q.1
  · obtain ⟨q1, q2⟩ := q'
    cases q1
    cases q2
    exact .inr ⟨hh, pc2, i, hc, hi, w⟩
theorem cT.sp {α β : Type} {e : Option (α ⊕ Nat)} {k : α → Option β} {x : Nat → dM → Option β} {r : β} {G : Prop} (hD : cT e m k x = some r) (a : ∀ v, e = some (.inl v) → k v = some r → G) (b : ∀ j, e = some (.inr j) → x j (bump m) = some r → G) : G := by
  cases e with
  | none => cases hD
  | some q => cases q with
    | inl v => exact a v rfl hD
    | inr j => exact b j rfl hD
theorem cG.sp {α β : Type} {e : Option ((α ⊕ Nat) × dM)} {k : α → dM → Option β} {x : Nat → dM → Option β} {r : β} {G : Prop} (hD : cG e k x = some r) (a : ∀ v m', e = some (.inl v, m') → k v m' = some r → G) (b : ∀ j m', e = some (.inr j, m') → x j m' = some r → G) : G := by
  cases e with
  | none => cases hD
  | some q => obtain ⟨q, m'⟩ := q
              cases q with
              | inl v => exact a v m' rfl hD
              | inr j => exact b j m' rfl hD
/-- a loop -/
def lpK {σ β : Type} (X : Nat × (Nat → Int32)) (d mi : Nat) (Q : ax_O → ax_H → Prop) (St : σ → ax_F × ax_H) (b : β) : σ ⊕ β → Prop
  | .inl s => ax_Wp X (d + 1) mi (St s).1 (St s).2 Q
  | .inr b' => b' = b
theorem lpK.o {σ β : Type} {St : σ → ax_F × ax_H} {b b' : β} (h : lpK X d mi Q St b (.inr b')) : b' = b := h
theorem lpK.i {σ β : Type} {St : σ → ax_F × ax_H} {b : β} {s : σ} (h : lpK X d mi Q St b (.inl s)) : ax_Wp X (d + 1) mi (St s).1 (St s).2 Q := h
theorem ax_Wp.lpD {σ β : Type} (St : σ → ax_F × ax_H) {body : σ → Option (σ ⊕ β)} {b : β} (step : ∀ s v, body s = some v → lpK X d mi Q St b v → ax_Wp X (d + 1) mi (St s).1 (St s).2 Q) : ∀ {F : Nat} {s0 : σ}, lp F body s0 = some b → ax_Wp X (d + 1) mi (St s0).1 (St s0).2 Q
  | 0, _, hL => by cases hL
  | F + 1, s0, hL => by
    unfold lp at hL
    split at hL
    · cases hL
    · rename_i t e
      exact step s0 _ e (ax_Wp.lpD St step hL)
    · rename_i b' e
      exact step s0 _ e (inj hL)
end DEN
