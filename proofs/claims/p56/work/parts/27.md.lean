/-! THE REFERENCE'S SMALL METHODS, told by its row f of numbers -/
def sN (f : Nat → Int32) : Nat := (f 0).toNatClampNeg
def pN (f : Nat → Int32) : Nat := (f 117).toNatClampNeg
def tN (f : Nat → Int32) : Nat := (f 174).toNatClampNeg
/-- the load of a courier, among the first so many parcels -/
def ld (f : Nat → Int32) (c : Int32) : Nat → Int32
  | 0 => nI 0
  | n + 1 => ld f c n + (if f (118 + 6 * n + 4) = nI 1 ∧ f (118 + 6 * n + 5) = c then f (118 + 6 * n + 2) else nI 0)
/-- where a parcel is, in one number -/
def spt (f : Nat → Int32) (p : Nat) : Int32 := if f (118 + 6 * p + 4) = nI 0 then f (118 + 6 * p + 0) else if f (118 + 6 * p + 4) = nI 1 then nI 10 + f (118 + 6 * p + 5) else nI 14 + f (118 + 6 * p + 5)
/-- numbers of positions -/
def pa (a : Nat → Nat) : Nat → Nat
  | 0 => 0
  | n + 1 => pa a n * 10 + a n
def pb (x : Nat) (q : Nat → Nat) : Nat → Nat
  | 0 => x
  | n + 1 => pb x q n * 18 + q n
def la (a : Nat → Nat) : Nat → Nat
  | 0 => 0
  | n + 1 => la a n * 16 + a n
def lb (x : Nat) (q : Nat → Nat) : Nat → Nat
  | 0 => x
  | n + 1 => lb x q n * 32 + q n
/-- the places of couriers and parcels, as numbers -/
def aV (f : Nat → Int32) (c : Nat) : Nat := (f (97 + 5 * c + 0)).toNatClampNeg
def qV (f : Nat → Int32) (p : Nat) : Nat := if p < pN f then (spt f p).toNatClampNeg else 0
def f1 (f : Nat → Int32) : Nat := pb (pa (aV f) 4) (qV f) 4
def f2 (f : Nat → Int32) : Nat := pb 0 (fun i => qV f (4 + i)) 4
def fL1 (f : Nat → Int32) : Nat := lb (la (aV f) 4) (qV f) (pN f)
/-- what holds of every state -/
def rvS (f : Nat → Int32) : Prop := f 0 = nI (sN f) ∧ sN f ≤ 24 ∧ (∀ s, s < sN f → sm (f (1 + 4 * s)) 10 ∧ sm (f (1 + 4 * s + 1)) 10 ∧ f (1 + 4 * s) ≠ f (1 + 4 * s + 1)) ∧ ∀ s, sN f ≤ s → s < 24 → f (1 + 4 * s + 2) ≠ nI 1
def rvC (f : Nat → Int32) : Prop := (∀ c, c < 4 → sm (f (97 + 5 * c + 0)) 10 ∧ sm (f (97 + 5 * c + 1)) 2 ∧ (f (97 + 5 * c + 2) = -1 ∨ ∃ s, s < sN f ∧ f (97 + 5 * c + 2) = nI s ∧ f (1 + 4 * s) = f (97 + 5 * c + 0) ∧ f (1 + 4 * s + 3) = nI 1)) ∧ ∀ c, c < 4 → ∀ b, b < 4 → c ≠ b → f (97 + 5 * c + 0) ≠ f (97 + 5 * b + 0)
def rvP (f : Nat → Int32) : Prop := f 117 = nI (pN f) ∧ pN f ≤ 8 ∧ ∀ p, p < pN f → sm (f (118 + 6 * p + 0)) 10 ∧ sm (f (118 + 6 * p + 1)) 10 ∧ sm (f (118 + 6 * p + 2)) 6 ∧ (∃ v, v < 10 ∧ 0 < v ∧ f (118 + 6 * p + 3) = nI v) ∧ sm (f (118 + 6 * p + 4)) 3 ∧ (f (118 + 6 * p + 4) ≠ nI 0 → sm (f (118 + 6 * p + 5)) 4)
/-- the value that a player's couriers delivered -/
def vd (f : Nat → Int32) (pl : Nat) : Nat → Int32
  | 0 => nI 0
  | n + 1 => vd f pl n + (if f (118 + 6 * n + 4) = nI 2 ∧ (f (118 + 6 * n + 5)).toNatClampNeg / 2 = pl then f (118 + 6 * n + 3) else nI 0)
def rvN (f : Nat → Int32) : Prop := f 174 = nI (tN f) ∧ 1 ≤ tN f ∧ (∃ t, t ≤ 60 ∧ f 168 = nI t ∧ tN f ≤ t + 1) ∧ (∃ l, l ≤ 60 ∧ f 167 = nI l) ∧ (f 172 = nI 1 → ∃ p, p ≤ 60 ∧ f 173 = nI p) ∧ ∀ pl, pl < 2 → f (170 + pl) = vd f pl (pN f)
def rv (f : Nat → Int32) : Prop := rvS f ∧ rvC f ∧ rvP f ∧ rvN f
section MD
variable {m : dM} {f : Nat → Int32}
theorem pa_lt {a : Nat → Nat} : ∀ n, (∀ i, i < n → a i < 10) → pa a n < 10 ^ n
  | 0, _ => Nat.one_pos
  | n + 1, h => by
    have h1 := pa_lt n (fun i hi => h i (by omega))
    have h2 := h n (by omega)
    show pa a n * 10 + a n < 10 ^ (n + 1)
    rw [Nat.pow_succ]
    omega
theorem pb_lt {x X : Nat} {q : Nat → Nat} (hx : x < X) : ∀ n, (∀ i, i < n → q i < 18) → pb x q n < X * 18 ^ n
  | 0, _ => by show x < X * 1; omega
  | n + 1, h => by
    have h1 := pb_lt hx n (fun i hi => h i (by omega))
    have h2 := h n (by omega)
    show pb x q n * 18 + q n < X * 18 ^ (n + 1)
    rw [Nat.pow_succ, ← Nat.mul_assoc]
    omega
theorem spt_sm {p : Nat} (h : rvP f) (hp : p < pN f) : sm (spt f p) 18 := by
  obtain ⟨-, -, h3⟩ := h
  obtain ⟨⟨j, h4, e4⟩, -, -, -, -, h5⟩ := h3 p hp
  unfold spt
  by_cases q1 : f (118 + 6 * p + 4) = nI 0
  · rw [if_pos q1, e4]
    exact ⟨j, by omega, rfl⟩
  · obtain ⟨b, h6, e6⟩ := h5 q1
    rw [if_neg q1, e6, nI_add, nI_add]
    split
    · exact ⟨10 + b, by omega, rfl⟩
    · exact ⟨14 + b, by omega, rfl⟩
theorem qV_lt (h : rvP f) (p : Nat) : qV f p < 18 := by
  unfold qV
  split
  · rename_i hp
    exact ((spt_sm h hp).tn (by omega)).2
  · omega
theorem aV_lt (h : rvC f) {c : Nat} (hc : c < 4) : aV f c < 10 := ((h.1 c hc).1.tn (by omega)).2
theorem aV_e (h : rvC f) {c : Nat} (hc : c < 4) : f (97 + 5 * c + 0) = nI (aV f c) := ((h.1 c hc).1.tn (by omega)).1
theorem qV_e (h : rvP f) (p : Nat) : (if p < pN f then spt f p else nI 0) = nI (qV f p) := by
  unfold qV
  split
  · rename_i hp
    exact ((spt_sm h hp).tn (by omega)).1
  · rfl
theorem f1_lt (hC : rvC f) (hP : rvP f) : f1 f < 2 ^ 31 := by
  have h := pb_lt (x := pa (aV f) 4) (q := qV f) (pa_lt 4 (fun i hi => aV_lt hC hi)) 4 (fun i _ => qV_lt hP i)
  unfold f1
  omega
theorem f2_lt (hP : rvP f) : f2 f < 2 ^ 31 := by
  have h := pb_lt (x := 0) (X := 1) (q := fun i => qV f (4 + i)) (by omega) 4 (fun i _ => qV_lt hP (4 + i))
  unfold f2
  omega
end MD
