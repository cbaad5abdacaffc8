/-! THE REFERENCE'S SMALL METHODS, told by its row f of numbers -/
def sN (f : Nat → Int32) : Nat := (f 0).toNatClampNeg
def pN (f : Nat → Int32) : Nat := (f 117).toNatClampNeg
def tN (f : Nat → Int32) : Nat := (f 174).toNatClampNeg
/-- the load of a courier, among the first so many parcels -/
def ld (f : Nat → Int32) (c : Int32) : Nat → Int32
  | 0 => nI 0
  | n + 1 => ld f c n + (if f (118 + 6 * n + 4) = nI 1 ∧ f (118 + 6 * n + 5) = c then f (118 + 6 * n + 2) else nI 0)
/-- where a parcel is, in one number -/
def spt (f : Nat → Int32) (p : Nat) : Int32 := if f (118 + 6 * p + 4) = nI 0 then f (118 + 6 * p + 0) else if f (118 + 6 * p + 4) = nI 1 then nI 10 + f (118 + 6 * p + 5) else nI 14 + f (118 + 6 * p + 5)
/-- numbers of positions -/
def pa (a : Nat → Nat) : Nat → Nat
  | 0 => 0
  | n + 1 => pa a n * 10 + a n
def pb (x : Nat) (q : Nat → Nat) : Nat → Nat
  | 0 => x
  | n + 1 => pb x q n * 18 + q n
def la (a : Nat → Nat) : Nat → Nat
  | 0 => 0
  | n + 1 => la a n * 16 + a n
def lb (x : Nat) (q : Nat → Nat) : Nat → Nat
  | 0 => x
  | n + 1 => lb x q n * 32 + q n
/-- the places of couriers and parcels, as numbers -/
def aV (f : Nat → Int32) (c : Nat) : Nat := (f (97 + 5 * c + 0)).toNatClampNeg
def qV (f : Nat → Int32) (p : Nat) : Nat := if p < pN f then (spt f p).toNatClampNeg else 0
def f1 (f : Nat → Int32) : Nat := pb (pa (aV f) 4) (qV f) 4
def f2 (f : Nat → Int32) : Nat := pb 0 (fun i => qV f (4 + i)) 4
def fL1 (f : Nat → Int32) : Nat := lb (la (aV f) 4) (qV f) (pN f)
/-- what holds of every state -/
def rvS (f : Nat → Int32) : Prop := f 0 = nI (sN f) ∧ sN f ≤ 24 ∧ (∀ s, s < sN f → sm (f (1 + 4 * s)) 10 ∧ sm (f (1 + 4 * s + 1)) 10 ∧ f (1 + 4 * s) ≠ f (1 + 4 * s + 1)) ∧ ∀ s, sN f ≤ s → s < 24 → f (1 + 4 * s + 2) ≠ nI 1
def rvC (f : Nat → Int32) : Prop := (∀ c, c < 4 → sm (f (97 + 5 * c + 0)) 10 ∧ sm (f (97 + 5 * c + 1)) 2 ∧ (f (97 + 5 * c + 2) = -1 ∨ ∃ s, s < sN f ∧ f (97 + 5 * c + 2) = nI s ∧ f (1 + 4 * s) = f (97 + 5 * c + 0) ∧ f (1 + 4 * s + 3) = nI 1)) ∧ ∀ c, c < 4 → ∀ b, b < 4 → c ≠ b → f (97 + 5 * c + 0) ≠ f (97 + 5 * b + 0)
def rvP (f : Nat → Int32) : Prop := f 117 = nI (pN f) ∧ pN f ≤ 8 ∧ ∀ p, p < pN f → sm (f (118 + 6 * p + 0)) 10 ∧ sm (f (118 + 6 * p + 1)) 10 ∧ sm (f (118 + 6 * p + 2)) 6 ∧ (∃ v, v < 10 ∧ 0 < v ∧ f (118 + 6 * p + 3) = nI v) ∧ sm (f (118 + 6 * p + 4)) 3 ∧ (f (118 + 6 * p + 4) ≠ nI 0 → sm (f (118 + 6 * p + 5)) 4)
/-- the value that a player's couriers delivered -/
def vd (f : Nat → Int32) (pl : Nat) : Nat → Int32
  | 0 => nI 0
  | n + 1 => vd f pl n + (if f (118 + 6 * n + 4) = nI 2 ∧ (f (118 + 6 * n + 5)).toNatClampNeg / 2 = pl then f (118 + 6 * n + 3) else nI 0)
def rvN (f : Nat → Int32) : Prop := f 174 = nI (tN f) ∧ 1 ≤ tN f ∧ (∃ t, t ≤ 60 ∧ f 168 = nI t ∧ tN f ≤ t + 1) ∧ (∃ l, l ≤ 60 ∧ f 167 = nI l) ∧ (f 172 = nI 1 → ∃ p, p ≤ 60 ∧ f 173 = nI p) ∧ ∀ pl, pl < 2 → f (170 + pl) = vd f pl (pN f)
def rv (f : Nat → Int32) : Prop := rvS f ∧ rvC f ∧ rvP f ∧ rvN f
section MD
variable {m : dM} {f : Nat → Int32}
theorem d150 {c w : Nat} (hf : rI m 131 = f) (hc : c < 4) (hw : w < 5) : D150 m (nI c) (nI w) = some (f (97 + 5 * c + w)) := by
  unfold D150
  rw [nI_mul, nI_add, nI_add, gI_n (by omega) (by omega), hf]
  rfl
theorem d151 {c w : Nat} {v : Int32} (hc : c < 4) (hw : w < 5) : D151 m (nI c) (nI w) v = some (wI m 131 (97 + 5 * c + w) v) := by
  unfold D151
  rw [nI_mul, nI_add, nI_add, sI_n (by omega) (by omega)]
  rfl
theorem d152 {c w : Nat} (hf : rI m 131 = f) (hc : c < 8) (hw : w < 6) : D152 m (nI c) (nI w) = some (f (118 + 6 * c + w)) := by
  unfold D152
  rw [nI_mul, nI_add, nI_add, gI_n (by omega) (by omega), hf]
  rfl
theorem d153 {c w : Nat} {v : Int32} (hc : c < 8) (hw : w < 6) : D153 m (nI c) (nI w) v = some (wI m 131 (118 + 6 * c + w) v) := by
  unfold D153
  rw [nI_mul, nI_add, nI_add, sI_n (by omega) (by omega)]
  rfl
theorem d154 {s : Nat} (hf : rI m 131 = f) (hs : s < 24) : D154 m (nI s) = some (f (1 + 4 * s)) := by
  unfold D154
  rw [nI_mul, nI_add, gI_n (by omega) (by omega), hf]
  rfl
theorem d155 {s : Nat} (hf : rI m 131 = f) (hs : s < 24) : D155 m (nI s) = some (f (1 + 4 * s + 1)) := by
  unfold D155
  rw [nI_mul, nI_add, nI_add, gI_n (by omega) (by omega), hf]
  rfl
theorem d156 {s : Nat} (hf : rI m 131 = f) (hs : s < 24) : D156 m (nI s) = some (if f (1 + 4 * s + 2) = nI 1 then nI 1 else nI 0) := by
  unfold D156
  rw [nI_mul, nI_add, nI_add, gI_n (by omega) (by omega), hf]
  simp only [Option.bind_some, iff_some, gB_i]
theorem d157 {s : Nat} (hf : rI m 131 = f) (hs : s < 24) : D157 m (nI s) = some (if f (1 + 4 * s + 3) = nI 1 then nI 1 else nI 0) := by
  unfold D157
  rw [nI_mul, nI_add, nI_add, gI_n (by omega) (by omega), hf]
  simp only [Option.bind_some, iff_some, gB_i]
theorem d144 {v lo hi : Int32} : D144 v lo hi = some (if lo ≤ v ∧ v ≤ hi then nI 1 else nI 0) := by
  unfold D144
  by_cases h1 : v < lo
  · have h3 : ¬ (lo ≤ v ∧ v ≤ hi) := fun h => absurd h1 (Int32.not_lt.mpr h.1)
    rw [if_pos h1, if_neg h3]; rfl
  · by_cases h2 : hi < v
    · have h3 : ¬ (lo ≤ v ∧ v ≤ hi) := fun h => absurd h2 (Int32.not_lt.mpr h.2)
      rw [if_neg h1, if_pos h2, if_neg h3]; rfl
    · rw [if_neg h1, if_neg h2, if_pos ⟨Int32.not_lt.mp h1, Int32.not_lt.mp h2⟩]; rfl
theorem in_ok {j a b : Nat} (h1 : a ≤ j) (h2 : j ≤ b) (hb : b < 2 ^ 31) : D144 (nI j) (nI a) (nI b) = some (nI 1) := by
  rw [d144, if_pos ⟨(nI_leI (by omega) (by omega)).mpr h1, (nI_leI (by omega) (by omega)).mpr h2⟩]
theorem in_bad {p : Int32} {n : Nat} (h : bad p (n + 1)) (hn : n ≤ 100000) : D144 p (nI 0) (nI n) = some (nI 0) := by
  rw [d144, if_neg]
  rintro ⟨h1, h2⟩
  rcases h with h | h
  · exact absurd h (Int32.not_lt.mpr h1)
  · have h3 := Int32.le_trans h h2
    rw [nI_leI (by omega) (by omega)] at h3
    omega
theorem in_bad0 {p : Int32} (h : bad p 0) : D144 p (nI 0) (nI 0 - nI 1) = some (nI 0) := by
  rw [d144, if_neg]
  rintro ⟨h1, h2⟩
  have h3 := Int32.le_trans h1 h2
  revert h3
  decide
theorem d145 {j : Nat} (h : j < 10) : D145 (nI j) = some (nI 1) := by
  unfold D145
  rw [in_ok (by omega) (by omega) (by omega)]; rfl
theorem d145b {p : Int32} (h : bad p 10) : D145 p = some (nI 0) := by
  unfold D145
  rw [in_bad h (by omega)]; rfl
theorem d146 {j : Nat} (h : j < 4) : D146 (nI j) = some (nI 1) := by
  unfold D146
  rw [in_ok (by omega) (by omega) (by omega)]; rfl
theorem d146b {p : Int32} (h : bad p 4) : D146 p = some (nI 0) := by
  unfold D146
  rw [in_bad h (by omega)]; rfl
theorem cnt_ok {j n : Nat} (h : j < n) (hn : n ≤ 100000) : D144 (nI j) (nI 0) (nI n - nI 1) = some (nI 1) := by
  rw [nI_sub (by omega), in_ok (by omega) (by omega) (by omega)]
theorem cnt_bad {p : Int32} {n : Nat} (h : bad p n) (hn : n ≤ 100000) : D144 p (nI 0) (nI n - nI 1) = some (nI 0) := by
  cases n with
  | zero => exact in_bad0 h
  | succ k => rw [nI_sub (by omega), show k + 1 - 1 = k from rfl, in_bad h (by omega)]
theorem d147 {j n : Nat} (hf : rI m 131 = f) (hn : f 0 = nI n) (h24 : n ≤ 24) (h : j < n) : D147 m (nI j) = some (nI 1) := by
  unfold D147
  rw [hf, hn, cnt_ok h (by omega)]; rfl
theorem d147b {p : Int32} {n : Nat} (hf : rI m 131 = f) (hn : f 0 = nI n) (h24 : n ≤ 24) (h : bad p n) : D147 m p = some (nI 0) := by
  unfold D147
  rw [hf, hn, cnt_bad h (by omega)]; rfl
theorem d148 {j n : Nat} (hf : rI m 131 = f) (hn : f 117 = nI n) (h24 : n ≤ 8) (h : j < n) : D148 m (nI j) = some (nI 1) := by
  unfold D148
  rw [hf, hn, cnt_ok h (by omega)]; rfl
theorem d148b {p : Int32} {n : Nat} (hf : rI m 131 = f) (hn : f 117 = nI n) (h24 : n ≤ 8) (h : bad p n) : D148 m p = some (nI 0) := by
  unfold D148
  rw [hf, hn, cnt_bad h (by omega)]; rfl
theorem d158 {c : Int32} {n : Nat} (hf : rI m 131 = f) (hn : f 117 = nI n) (h8 : n ≤ 8) : D158 m c = some (ld f c n) := by
  unfold D158
  refine lpb (ld f c n) (fun i => (ld f c i, nI i)) n (by omega) rfl (fun i hi => ?_) ?_ rfl
  · show (if rI m 131 117 ≤ nI i then _ else _) = _
    rw [hf, hn, if_neg (nI_ge hi (by omega)), d152 hf (by omega) (by omega), d152 hf (by omega) (by omega), d152 hf (by omega) (by omega)]
    show Option.bind (if f (118 + 6 * i + 4) = nI 1 then (if f (118 + 6 * i + 5) = c then _ else _) else _) _ = _
    show _ = some (Sum.inl (ld f c i + (if f (118 + 6 * i + 4) = nI 1 ∧ f (118 + 6 * i + 5) = c then f (118 + 6 * i + 2) else nI 0), nI (i + 1)))
    rw [← nI_add i 1]
    by_cases h1 : f (118 + 6 * i + 4) = nI 1
    · by_cases h2 : f (118 + 6 * i + 5) = c
      · rw [if_pos h1, if_pos h2, if_pos ⟨h1, h2⟩]; rfl
      · rw [if_pos h1, if_neg h2, if_neg (fun q => h2 q.2)]; rfl
    · rw [if_neg h1, if_neg (fun q => h1 q.1)]; rfl
  · show (if rI m 131 117 ≤ nI n then _ else _) = _
    rw [hf, hn, if_pos (nI_le (Nat.le_refl n) (by omega))]
theorem d161 {p n : Nat} (hf : rI m 131 = f) (hn : f 117 = nI n) (h8 : n ≤ 8) (hp : p < 8) : D161 m (nI p) = some (if p < n then spt f p else nI 0) := by
  unfold D161
  by_cases h : p < n
  · rw [hf, hn, if_pos (nI_lt h (by omega)), if_pos h, d152 hf hp (by omega), d152 hf hp (by omega), d152 hf hp (by omega)]
    unfold spt
    simp only [Option.bind_some, iff_some]
  · rw [hf, hn, if_neg (nI_nlt (by omega) (by omega)), if_neg h]
theorem pa_lt {a : Nat → Nat} : ∀ n, (∀ i, i < n → a i < 10) → pa a n < 10 ^ n
  | 0, _ => Nat.one_pos
  | n + 1, h => by
    have h1 := pa_lt n (fun i hi => h i (by omega))
    have h2 := h n (by omega)
    show pa a n * 10 + a n < 10 ^ (n + 1)
    rw [Nat.pow_succ]
    omega
theorem pb_lt {x X : Nat} {q : Nat → Nat} (hx : x < X) : ∀ n, (∀ i, i < n → q i < 18) → pb x q n < X * 18 ^ n
  | 0, _ => by show x < X * 1; omega
  | n + 1, h => by
    have h1 := pb_lt hx n (fun i hi => h i (by omega))
    have h2 := h n (by omega)
    show pb x q n * 18 + q n < X * 18 ^ (n + 1)
    rw [Nat.pow_succ, ← Nat.mul_assoc]
    omega
theorem spt_sm {p : Nat} (h : rvP f) (hp : p < pN f) : sm (spt f p) 18 := by
  obtain ⟨-, -, h3⟩ := h
  obtain ⟨⟨j, h4, e4⟩, -, -, -, -, h5⟩ := h3 p hp
  unfold spt
  by_cases q1 : f (118 + 6 * p + 4) = nI 0
  · rw [if_pos q1, e4]
    exact ⟨j, by omega, rfl⟩
  · obtain ⟨b, h6, e6⟩ := h5 q1
    rw [if_neg q1, e6, nI_add, nI_add]
    split
    · exact ⟨10 + b, by omega, rfl⟩
    · exact ⟨14 + b, by omega, rfl⟩
theorem qV_lt (h : rvP f) (p : Nat) : qV f p < 18 := by
  unfold qV
  split
  · rename_i hp
    exact ((spt_sm h hp).tn (by omega)).2
  · omega
theorem aV_lt (h : rvC f) {c : Nat} (hc : c < 4) : aV f c < 10 := ((h.1 c hc).1.tn (by omega)).2
theorem aV_e (h : rvC f) {c : Nat} (hc : c < 4) : f (97 + 5 * c + 0) = nI (aV f c) := ((h.1 c hc).1.tn (by omega)).1
theorem qV_e (h : rvP f) (p : Nat) : (if p < pN f then spt f p else nI 0) = nI (qV f p) := by
  unfold qV
  split
  · rename_i hp
    exact ((spt_sm h hp).tn (by omega)).1
  · rfl
theorem d162 (hf : rI m 131 = f) (hC : rvC f) (hP : rvP f) : D162 m = some (nI (f1 f)) := by
  unfold D162
  refine lpb (nI (pa (aV f) 4)) (fun i => (nI (pa (aV f) i), nI i)) 4 (by omega) rfl (fun i hi => ?_) rfl ?_
  rotate_left
  · refine lpb (nI (f1 f)) (fun i => (nI (pb (pa (aV f) 4) (qV f) i), nI i)) 4 (by omega) rfl (fun i hi => ?_) rfl rfl
    · show (if nI 4 ≤ nI i then _ else _) = _
      rw [if_neg (nI_ge hi (by omega)), d161 hf hP.1 hP.2.1 (by omega), qV_e hP]
      show some (Sum.inl (nI _ * nI 18 + nI _, nI i + nI 1)) = _
      rw [nI_mul, nI_add, nI_add]
      rfl
  · show (if nI 4 ≤ nI i then _ else _) = _
    rw [if_neg (nI_ge hi (by omega)), d150 hf hi (by omega), aV_e hC hi]
    show some (Sum.inl (nI _ * nI 10 + nI _, nI i + nI 1)) = _
    rw [nI_mul, nI_add, nI_add]
    rfl
theorem d163 (hf : rI m 131 = f) (hP : rvP f) : D163 m = some (nI (f2 f)) := by
  unfold D163
  refine lpb (nI (f2 f)) (fun i => (nI (pb 0 (fun i => qV f (4 + i)) i), nI (4 + i))) 4 (by omega) rfl (fun i hi => ?_) rfl rfl
  · show (if nI 8 ≤ nI (4 + i) then _ else _) = _
    rw [if_neg (nI_ge (by omega) (by omega)), d161 hf hP.1 hP.2.1 (by omega), qV_e hP]
    show some (Sum.inl (nI _ * nI 18 + nI _, nI (4 + i) + nI 1)) = _
    rw [nI_mul, nI_add, nI_add]
    rfl
theorem f1_lt (hC : rvC f) (hP : rvP f) : f1 f < 2 ^ 31 := by
  have h := pb_lt (x := pa (aV f) 4) (q := qV f) (pa_lt 4 (fun i hi => aV_lt hC hi)) 4 (fun i _ => qV_lt hP i)
  unfold f1
  omega
theorem f2_lt (hP : rvP f) : f2 f < 2 ^ 31 := by
  have h := pb_lt (x := 0) (X := 1) (q := fun i => qV f (4 + i)) (by omega) 4 (fun i _ => qV_lt hP (4 + i))
  unfold f2
  omega
end MD
