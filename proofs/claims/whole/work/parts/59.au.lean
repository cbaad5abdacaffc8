/-! TEXTS: the class's reading, character by character -/
def dgB (c : Int32) (h : Nat) : Bool := decide (nI 48 ≤ c ∧ c ≤ nI h)
def t15 (p : Nat) (c : Int32) : Nat := match p with
  | 0 => if c = nI 111 then 1 else if c = nI 115 then 7 else if c = nI 116 then 3 else if c = nI 114 then 6 else 8
  | 1 => if dgB c 51 = true then 2 else 8
  | 2 => if c = nI 62 then 3 else 8
  | 3 => if c = nI 49 then 4 else if c = nI 50 then 5 else if dgB c 57 = true then 6 else 8
  | 4 => if dgB c 57 = true then 6 else if c = nI 59 then 0 else 8
  | 5 => if dgB c 51 = true then 6 else if c = nI 59 then 0 else 8
  | 6 => if c = nI 59 then 0 else 8
  | 7 => if dgB c 51 = true then 6 else 8
  | _ => 8
def nS (p : Nat) : Int32 := if p = 8 then -1 else nI p
def sT (cs : Nat → Int32) : Nat → Nat
  | 0 => 0
  | k + 1 => t15 (sT cs k) (cs k)
/-- a complete text -/
def fn (p : Nat) : Prop := p = 4 ∨ p = 5 ∨ p = 6
theorem t15_le (p : Nat) (c : Int32) : t15 p c ≤ 8 := by
  unfold t15
  split <;> (repeat' split) <;> omega
theorem sT_le (cs : Nat → Int32) : ∀ k, sT cs k ≤ 8
  | 0 => by show 0 ≤ 8; omega
  | k + 1 => t15_le _ _
theorem sT_8 {cs : Nat → Int32} {k : Nat} (h : sT cs k = 8) : ∀ j, sT cs (k + j) = 8
  | 0 => h
  | j + 1 => by
    show t15 (sT cs (k + j)) (cs (k + j)) = 8
    rw [sT_8 h j]
    rfl
theorem sT_8' {cs : Nat → Int32} {k j : Nat} (h : sT cs k = 8) (hj : k ≤ j) : sT cs j = 8 := by
  have := sT_8 h (j - k)
  rwa [show k + (j - k) = j by omega] at this
/-- where the first error is -/
def Eix (cs : Nat → Int32) (L e : Nat) : Prop := e ≤ L ∧ sT cs e ≠ 8 ∧ (e < L → sT cs (e + 1) = 8)
theorem Eix.u {cs : Nat → Int32} {L e d : Nat} (h : Eix cs L e) (q : Eix cs L d) : e = d := by
  rcases Nat.lt_trichotomy e d with z | z | z
  · exact absurd (sT_8' (h.2.2 (by have := q.1; omega)) (by omega)) q.2.1
  · exact z
  · exact absurd (sT_8' (q.2.2 (by have := h.1; omega)) (by omega)) h.2.1
section AU
variable {m : dM} {cs : Nat → Int32} {L : Nat}
theorem d19 {c : Int32} {h : Nat} : D19 c (nI h) = some (if dgB c h = true then nI 1 else nI 0) := by
  unfold D19 dgB
  by_cases q1 : c < nI 48
  · rw [if_pos q1, decide_eq_false (fun z => absurd q1 (Int32.not_lt.mpr z.1))]
    rfl
  · by_cases q2 : nI h < c
    · rw [if_neg q1, if_pos q2, decide_eq_false (fun z => absurd q2 (Int32.not_lt.mpr z.2))]
      rfl
    · rw [if_neg q1, if_neg q2, decide_eq_true ⟨Int32.not_lt.mp q1, Int32.not_lt.mp q2⟩]
      rfl
theorem d18 {c : Int32} : D18 c = some (nS (if c = nI 59 then 0 else 8)) := by
  unfold D18
  by_cases q : c = nI 59
  · rw [if_pos q, if_pos q]; rfl
  · rw [if_neg q, if_neg q]; rfl
theorem d17 {c : Int32} : D17 c = some (nS (t15 3 c)) := by
  unfold D17 t15
  by_cases q1 : c = nI 49
  · rw [if_pos q1]
    show _ = some (nS (if c = nI 49 then 4 else _))
    rw [if_pos q1]; rfl
  · rw [if_neg q1]
    show _ = some (nS (if c = nI 49 then 4 else if c = nI 50 then 5 else if dgB c 57 = true then 6 else 8))
    rw [if_neg q1]
    by_cases q2 : c = nI 50
    · rw [if_pos q2, if_pos q2]; rfl
    · rw [if_neg q2, if_neg q2, d19]
      by_cases q3 : dgB c 57 = true
      · rw [if_pos q3, if_pos q3]; rfl
      · rw [if_neg q3, if_neg q3]; rfl
theorem d16 {c : Int32} : D16 c = some (nS (t15 0 c)) := by
  unfold D16
  show _ = some (nS (if c = nI 111 then 1 else if c = nI 115 then 7 else if c = nI 116 then 3 else if c = nI 114 then 6 else 8))
  by_cases q1 : c = nI 111
  · rw [if_pos q1, if_pos q1]; rfl
  · rw [if_neg q1, if_neg q1]
    by_cases a1 : c = nI 115
    · rw [a1]; rfl
    · rw [if_neg a1]
      by_cases a2 : c = nI 116
      · rw [a2]; rfl
      · rw [if_neg a2]
        by_cases a3 : c = nI 114
        · rw [a3]; rfl
        · rw [if_neg a3, if_neg a3, if_neg a1, if_neg a2]
          split
          · rfl
          · split <;> rfl
theorem d15 {p : Nat} (hp : p ≤ 8) {c : Int32} : D15 (nS p) c = some (nS (t15 p c)) := by
  have : p = 0 ∨ p = 1 ∨ p = 2 ∨ p = 3 ∨ p = 4 ∨ p = 5 ∨ p = 6 ∨ p = 7 ∨ p = 8 := by omega
  unfold D15
  rcases this with rfl | rfl | rfl | rfl | rfl | rfl | rfl | rfl | rfl
  · rw [if_pos (show nS 0 = nI 0 from rfl), d16]
    rfl
  · rw [if_neg (show ¬ nS 1 = nI 0 by decide), if_pos (show nS 1 = nI 1 from rfl), d19]
    show Option.bind (if (if dgB c 51 = true then nI 1 else nI 0) = nI 0 then some (-1) else some (nI 2)) _ = some (nS (if dgB c 51 = true then 2 else 8))
    by_cases q : dgB c 51 = true
    · rw [if_pos q, if_pos q]; rfl
    · rw [if_neg q, if_neg q]; rfl
  · rw [if_neg (show ¬ nS 2 = nI 0 by decide), if_neg (show ¬ nS 2 = nI 1 by decide), if_pos (show nS 2 = nI 2 from rfl)]
    show Option.bind (if c = nI 62 then some (nI 3) else some (-1)) _ = some (nS (if c = nI 62 then 3 else 8))
    by_cases q : c = nI 62
    · rw [if_pos q, if_pos q]; rfl
    · rw [if_neg q, if_neg q]; rfl
  · rw [if_neg (show ¬ nS 3 = nI 0 by decide), if_neg (show ¬ nS 3 = nI 1 by decide), if_neg (show ¬ nS 3 = nI 2 by decide), if_pos (show nS 3 = nI 3 from rfl), d17]
    rfl
  · rw [if_neg (show ¬ nS 4 = nI 0 by decide), if_neg (show ¬ nS 4 = nI 1 by decide), if_neg (show ¬ nS 4 = nI 2 by decide), if_neg (show ¬ nS 4 = nI 3 by decide), if_pos (show nS 4 = nI 4 from rfl), d19, d18]
    show Option.bind (if (if dgB c 57 = true then nI 1 else nI 0) = nI 0 then some (nS (if c = nI 59 then 0 else 8)) else some (nI 6)) _ = some (nS (if dgB c 57 = true then 6 else if c = nI 59 then 0 else 8))
    by_cases q : dgB c 57 = true
    · rw [if_pos q, if_pos q]; rfl
    · rw [if_neg q, if_neg q]; rfl
  · rw [if_neg (show ¬ nS 5 = nI 0 by decide), if_neg (show ¬ nS 5 = nI 1 by decide), if_neg (show ¬ nS 5 = nI 2 by decide), if_neg (show ¬ nS 5 = nI 3 by decide), if_neg (show ¬ nS 5 = nI 4 by decide), if_pos (show nS 5 = nI 5 from rfl), d19, d18]
    show Option.bind (if (if dgB c 51 = true then nI 1 else nI 0) = nI 0 then some (nS (if c = nI 59 then 0 else 8)) else some (nI 6)) _ = some (nS (if dgB c 51 = true then 6 else if c = nI 59 then 0 else 8))
    by_cases q : dgB c 51 = true
    · rw [if_pos q, if_pos q]; rfl
    · rw [if_neg q, if_neg q]; rfl
  · rw [if_neg (show ¬ nS 6 = nI 0 by decide), if_neg (show ¬ nS 6 = nI 1 by decide), if_neg (show ¬ nS 6 = nI 2 by decide), if_neg (show ¬ nS 6 = nI 3 by decide), if_neg (show ¬ nS 6 = nI 4 by decide), if_neg (show ¬ nS 6 = nI 5 by decide), if_pos (show nS 6 = nI 6 from rfl), d18]
    rfl
  · rw [if_neg (show ¬ nS 7 = nI 0 by decide), if_neg (show ¬ nS 7 = nI 1 by decide), if_neg (show ¬ nS 7 = nI 2 by decide), if_neg (show ¬ nS 7 = nI 3 by decide), if_neg (show ¬ nS 7 = nI 4 by decide), if_neg (show ¬ nS 7 = nI 5 by decide), if_neg (show ¬ nS 7 = nI 6 by decide), if_pos (show nS 7 = nI 7 from rfl), d19]
    show Option.bind (if (if dgB c 51 = true then nI 1 else nI 0) = nI 0 then some (-1) else some (nI 6)) _ = some (nS (if dgB c 51 = true then 6 else 8))
    by_cases q : dgB c 51 = true
    · rw [if_pos q, if_pos q]; rfl
    · rw [if_neg q, if_neg q]; rfl
  · rw [if_neg (show ¬ nS 8 = nI 0 by decide), if_neg (show ¬ nS 8 = nI 1 by decide), if_neg (show ¬ nS 8 = nI 2 by decide), if_neg (show ¬ nS 8 = nI 3 by decide), if_neg (show ¬ nS 8 = nI 4 by decide), if_neg (show ¬ nS 8 = nI 5 by decide), if_neg (show ¬ nS 8 = nI 6 by decide), if_neg (show ¬ nS 8 = nI 7 by decide)]
    rfl
theorem nS_8 {p : Nat} (hp : p ≤ 8) : (nS p = -1) = (p = 8) := by
  unfold nS
  by_cases q : p = 8
  · rw [if_pos q]; simp [q]
  · rw [if_neg q, nI_m1 (by omega)]; simp [q]
theorem d13 (hB : BC m L cs) : ∃ e, D13 m = some (nI e) ∧ Eix cs L e := by
  obtain ⟨l60, l1, l2⟩ := hB
  unfold D13
  have k := lp_inv (F := 3000) (s0 := (nI 0, nI 0)) (f := fun (s1 : Int32 × Int32) => if (rI m 42 1) ≤ s1.2 then some (Sum.inr (α := Int32 × Int32) (rI m 42 1)) else (gI m 43 60 s1.2).bind fun (x2 : Int32) => (D15 s1.1 x2).bind fun (x3 : Int32) => if x3 = (-1) then some (.inr s1.2) else some (.inl (x3, s1.2 + (nI 1))))
    (fun k t => t.1 = nS (sT cs k) ∧ t.2 = nI k ∧ sT cs k ≠ 8) (fun x => ∃ e, x = nI e ∧ Eix cs L e) L (by omega) ⟨rfl, rfl, (by show (0 : Nat) ≠ 8; decide)⟩ ?_ ?_
  · obtain ⟨x, e1, e, he, h⟩ := k
    exact ⟨e, by rw [e1, he], h⟩
  · rintro k ⟨y, t⟩ hk ⟨hy, ht, h8⟩
    replace hy : y = nS (sT cs k) := hy
    replace ht : t = nI k := ht
    subst hy ht
    show (∃ s', (if rI m 42 1 ≤ nI k then _ else Option.bind (gI m 43 60 (nI k)) _) = _ ∧ _) ∨ (∃ b, (if rI m 42 1 ≤ nI k then _ else Option.bind (gI m 43 60 (nI k)) _) = _ ∧ _)
    rw [l1, if_neg (nI_ge hk (by omega)), gI_n (by omega) (by omega), l2 k hk]
    show (∃ s', Option.bind (D15 (nS (sT cs k)) (cs k)) _ = _ ∧ _) ∨ (∃ b, Option.bind (D15 (nS (sT cs k)) (cs k)) _ = _ ∧ _)
    rw [d15 (sT_le cs k)]
    show (∃ s', (if nS (sT cs (k + 1)) = -1 then _ else _) = _ ∧ _) ∨ (∃ b, (if nS (sT cs (k + 1)) = -1 then _ else _) = _ ∧ _)
    by_cases q : sT cs (k + 1) = 8
    · rw [if_pos ((nS_8 (sT_le cs (k + 1))).mpr q)]
      exact .inr ⟨nI k, rfl, k, rfl, by omega, h8, fun _ => q⟩
    · rw [if_neg (fun z => q ((nS_8 (sT_le cs (k + 1))).mp z))]
      exact .inl ⟨(nS (sT cs (k + 1)), nI k + nI 1), rfl, rfl, nI_add k 1, q⟩
  · rintro ⟨y, t⟩ ⟨hy, ht, h8⟩
    replace ht : t = nI L := ht
    subst ht
    refine ⟨nI L, ?_, L, rfl, Nat.le_refl _, h8, fun z => by omega⟩
    show (if rI m 42 1 ≤ nI L then _ else _) = _
    rw [l1, if_pos (nI_le (Nat.le_refl _) (by omega))]
theorem d14 (hB : BC m L cs) : ∃ v, D14 m = some v ∧ ((v = nI 1 ∧ fn (sT cs L)) ∨ (v = nI 0 ∧ ¬ fn (sT cs L))) := by
  obtain ⟨l60, l1, l2⟩ := hB
  have e : D14 m = Option.bind ((if nS (sT cs L) = (nI 4) then some (nI 1) else if nS (sT cs L) = (nI 5) then some (nI 1) else if nS (sT cs L) = (nI 6) then some (nI 1) else some (nI 0)) : Option (Int32)) fun (v5 : Int32) => (gB v5).bind fun (b6 : Int32) => some b6 := by
    obtain ⟨r, hr⟩ : ∃ r, (Option.bind ((if nS (sT cs L) = (nI 4) then some (nI 1) else if nS (sT cs L) = (nI 5) then some (nI 1) else if nS (sT cs L) = (nI 6) then some (nI 1) else some (nI 0)) : Option (Int32)) fun (v5 : Int32) => (gB v5).bind fun (b6 : Int32) => some b6) = some r := by
      split
      · exact ⟨_, rfl⟩
      · split
        · exact ⟨_, rfl⟩
        · split <;> exact ⟨_, rfl⟩
    rw [hr]
    unfold D14
    refine lpb (nS (sT cs L)) (fun k => (nS (sT cs k), nI k)) L (by omega) rfl (fun k hk => ?_) ?_ hr
    · show (if rI m 42 1 ≤ nI k then _ else Option.bind (gI m 43 60 (nI k)) _) = _
      rw [l1, if_neg (nI_ge hk (by omega)), gI_n (by omega) (by omega), l2 k hk]
      show Option.bind (D15 (nS (sT cs k)) (cs k)) _ = _
      rw [d15 (sT_le cs k), ← nI_add]
      rfl
    · show (if rI m 42 1 ≤ nI L then _ else _) = _
      rw [l1, if_pos (nI_le (Nat.le_refl _) (by omega))]
  rw [e]
  have h := sT_le cs L
  have : sT cs L = 0 ∨ sT cs L = 1 ∨ sT cs L = 2 ∨ sT cs L = 3 ∨ sT cs L = 4 ∨ sT cs L = 5 ∨ sT cs L = 6 ∨ sT cs L = 7 ∨ sT cs L = 8 := by omega
  unfold fn
  rcases this with q | q | q | q | q | q | q | q | q <;> rw [q]
  · exact ⟨nI 0, rfl, .inr ⟨rfl, by omega⟩⟩
  · exact ⟨nI 0, rfl, .inr ⟨rfl, by omega⟩⟩
  · exact ⟨nI 0, rfl, .inr ⟨rfl, by omega⟩⟩
  · exact ⟨nI 0, rfl, .inr ⟨rfl, by omega⟩⟩
  · exact ⟨nI 1, rfl, .inl ⟨rfl, by omega⟩⟩
  · exact ⟨nI 1, rfl, .inl ⟨rfl, by omega⟩⟩
  · exact ⟨nI 1, rfl, .inl ⟨rfl, by omega⟩⟩
  · exact ⟨nI 0, rfl, .inr ⟨rfl, by omega⟩⟩
  · exact ⟨nI 0, rfl, .inr ⟨rfl, by omega⟩⟩
end AU
/-! TEXTS: the reference's reading -/
/-- changed only where it reads -/
def tmq (m m' : dM) : Prop := chg (fun b => b = 130) m m' ∧ ∀ j, j ≠ 10 → j ≠ 11 → rI m' 130 j = rI m 130 j
theorem tmq.rf {m : dM} : tmq m m := ⟨chg.rf, fun _ _ _ => rfl⟩
theorem tmq.tr {m m' m'' : dM} (h : tmq m m') (k : tmq m' m'') : tmq m m'' := ⟨h.1.tr k.1, fun j q1 q2 => (k.2 j q1 q2).trans (h.2 j q1 q2)⟩
/-- at a place, rightly or wrongly -/
def AT (m : dM) (k w : Nat) : Prop := rI m 130 10 = nI k ∧ rI m 130 11 = nI w
theorem tmq.B {m m' : dM} {L : Nat} {cs : Nat → Int32} (h : tmq m m') (b : BM m L cs) : BM m' L cs := by
  refine ⟨(h.2 6 (by omega) (by omega)).trans b.1, fun i hi => ?_⟩
  rw [h.1.1 134 (by omega)]
  exact b.2 i hi
def kR (m : dM) (k w : Nat) : dM := wI (wI m 130 11 (nI w)) 130 10 (nI k)
theorem kR_q {m : dM} {k w : Nat} : tmq m (kR m k w) ∧ AT (kR m k w) k w := by
  refine ⟨⟨chg.wI (chg.wI chg.rf rfl) rfl, fun j q1 q2 => ?_⟩, ?_, ?_⟩
  · unfold kR
    rw [rI_ws, upd_n q1, rI_ws, upd_n q2]
  · unfold kR
    rw [rI_ws, upd_s]
  · unfold kR
    rw [rI_ws, upd_n (by decide), rI_ws, upd_s]
section RD
variable {m : dM} {cs : Nat → Int32} {L k : Nat}
/-- the character that is read -/
def chr (cs : Nat → Int32) (L k : Nat) : Int32 := if k < L then cs k else nI 0
theorem rd_c (hB : BM m L cs) (l60 : L ≤ 60) (hk : k ≤ L) (h : rI m 130 10 = nI k) : (if rI m 130 6 ≤ rI m 130 10 then some (nI 0) else (gI m 134 60 (rI m 130 10)).bind fun (x2 : Int32) => some x2) = some (chr cs L k) := by
  unfold chr
  rw [hB.1, h]
  by_cases q : k < L
  · rw [if_neg (nI_ge q (by omega)), gI_n (by omega) (by omega), hB.2 k q, if_pos q]
    rfl
  · rw [if_pos (nI_le (by omega) (by omega)), if_neg q]
theorem q190 (hB : BM m L cs) (l60 : L ≤ 60) (hk : k ≤ L) (hA : AT m k 0) {lo hi : Int32} : D190 m lo hi = some (chr cs L k, if lo ≤ chr cs L k ∧ chr cs L k ≤ hi then kR m (k + 1) 0 else kR m k 1) := by
  unfold D190
  obtain ⟨h10, h11⟩ := hA
  have e : (if rI m 130 6 ≤ rI m 130 10 then some (nI 0) else if rI m 130 11 = nI 0 then (gI m 134 60 (rI m 130 10)).bind fun (x2 : Int32) => some x2 else some (nI 0)) = some (chr cs L k) := by
    rw [if_pos h11]
    exact rd_c hB l60 hk h10
  rw [e, Option.bind_some, if_pos h11, d144]
  show Option.bind (if (if lo ≤ chr cs L k ∧ chr cs L k ≤ hi then nI 1 else nI 0) = nI 0 then some (nI 1) else some (nI 0)) _ = _
  by_cases q : lo ≤ chr cs L k ∧ chr cs L k ≤ hi
  · rw [if_pos q, if_pos q, if_neg (by decide)]
    rw [Option.bind_some, gB_0, Option.bind_some, fI_e, Option.bind_some, rI_ws, upd_s, if_pos rfl, Option.bind_some, fI_e, Option.bind_some, upd_n (by decide), h10, nI_add]
    rfl
  · rw [if_neg q, if_neg q, if_pos rfl]
    rw [Option.bind_some, gB_1, Option.bind_some, fI_e, Option.bind_some, rI_ws, upd_s, if_neg (by decide), Option.bind_some, fI_e, Option.bind_some, upd_n (by decide), h10, nI_add]
    rfl
theorem q190w (hA : AT m k 1) {lo hi : Int32} : D190 m lo hi = some (nI 0, kR m k 1) := by
  unfold D190
  obtain ⟨h10, h11⟩ := hA
  have e : (if rI m 130 6 ≤ rI m 130 10 then some (nI 0) else if rI m 130 11 = nI 0 then (gI m 134 60 (rI m 130 10)).bind fun (x2 : Int32) => some x2 else some (nI 0)) = some (nI 0) := by
    rw [h11]
    split
    · rfl
    · rw [if_neg (by decide)]
  rw [e, Option.bind_some, h11, if_neg (by decide)]
  rw [Option.bind_some, gB_1, Option.bind_some, fI_e, Option.bind_some, rI_ws, upd_s, if_neg (by decide), Option.bind_some, fI_e, Option.bind_some, upd_n (by decide), h10, nI_add]
  rfl
theorem chr_n {lo : Nat} (h0 : 0 < lo) (hl : lo < 100) {hi : Int32} (h : nI lo ≤ chr cs L k ∧ chr cs L k ≤ hi) : k < L ∧ chr cs L k = cs k := by
  unfold chr at h ⊢
  by_cases q : k < L
  · exact ⟨q, if_pos q⟩
  · rw [if_neg q] at h
    exact absurd h.1 (nI_ge h0 (by omega))
/-- a digit -/
theorem dg_or (c : Int32) {h : Nat} (hh : h < 100) (h48 : 48 ≤ h) : (∃ d, d ≤ h - 48 ∧ c = nI (48 + d)) ∨ ¬ (nI 48 ≤ c ∧ c ≤ nI h) := by
  by_cases q : nI 48 ≤ c ∧ c ≤ nI h
  · rcases rg_or c (a := 48) (b := h) h48 (by omega) with ⟨j, h1, h2, e⟩ | z | ⟨z1, z2⟩
    · exact .inl ⟨j - 48, by omega, by rw [e, show 48 + (j - 48) = j by omega]⟩
    · exact absurd z (Int32.not_lt.mpr q.1)
    · exact absurd q.2 z2
  · exact .inr q
theorem dg_in {d h : Nat} (h1 : 48 + d ≤ h) (hh : h < 100) : nI 48 ≤ nI (48 + d) ∧ nI (48 + d) ≤ nI h := ⟨nI_le (by omega) (by omega), nI_le h1 (by omega)⟩
/-- a number of one or two digits, as far as it is below 24 -/
def Num (cs : Nat → Int32) (L k e v : Nat) : Prop := k < L ∧ ∃ d, d < 10 ∧ cs k = nI (48 + d) ∧ ((e = k + 1 ∧ v = d ∧ (k + 1 < L → ∀ d2, d2 < 10 → cs (k + 1) = nI (48 + d2) → d = 0 ∨ 24 ≤ 10 * d + d2)) ∨ (k + 1 < L ∧ ∃ d2, d2 < 10 ∧ cs (k + 1) = nI (48 + d2) ∧ 0 < d ∧ 10 * d + d2 < 24 ∧ e = k + 2 ∧ v = 10 * d + d2))
theorem q191 (hB : BM m L cs) (l60 : L ≤ 60) (hk : k ≤ L) (hA : AT m k 0) : (∃ e v m', Num cs L k e v ∧ D191 m = some (nI v, m') ∧ tmq m m' ∧ AT m' e 0) ∨ ((k < L → ¬ (nI 48 ≤ cs k ∧ cs k ≤ nI 57)) ∧ ∃ v m', D191 m = some (v, m') ∧ tmq m m' ∧ AT m' k 1) := by
  unfold D191
  rw [q190 hB l60 hk hA]
  by_cases q : nI 48 ≤ chr cs L k ∧ chr cs L k ≤ nI 57
  · obtain ⟨kL, ek⟩ := chr_n (by omega) (by omega) q
    rw [if_pos q]
    rcases dg_or (chr cs L k) (h := 57) (by omega) (by omega) with ⟨d, hd, ed⟩ | z
    · left
      have ekd : cs k = nI (48 + d) := ek.symm.trans ed
      rw [ed]
      obtain ⟨z1, z2⟩ := kR_q (m := m) (k := k + 1) (w := 0)
      have hB1 := z1.B hB
      generalize kR m (k + 1) 0 = K at z1 z2 hB1
      obtain ⟨a1, a2⟩ := z2
      have hsub : nI (48 + d) - nI 48 = nI d := by rw [nI_sub (by omega), show 48 + d - 48 = d by omega]
      show ∃ e v m', _ ∧ Option.bind (if rI K 130 11 = nI 0 then (if nI (48 + d) - nI 48 ≤ nI 0 then some (nI 0) else if rI K 130 6 ≤ rI K 130 10 then some (nI 0) else (gI K 134 60 (rI K 130 10)).bind fun (x3 : Int32) => (D144 x3 (nI 48) (nI 57)).bind fun (x4 : Int32) => if x4 = (nI 0) then some (nI 0) else (gI K 134 60 (rI K 130 10)).bind fun (x5 : Int32) => if (nI 24) ≤ ((((nI 10) * (nI (48 + d) - (nI 48))) + x5) - (nI 48)) then some (nI 0) else some (nI 1)) else some (nI 0)) (fun (v2 : Int32) => Option.bind (if v2 = nI 0 then some (nI (48 + d) - nI 48, K) else (D190 K (nI 48) (nI 57)).bind fun (r7 : Int32 × dM) => some ((((nI 10) * (nI (48 + d) - (nI 48))) + r7.1) - (nI 48), r7.2)) fun (v6 : Int32 × dM) => some (v6.1, v6.2)) = _ ∧ _
      rw [a2, if_pos rfl, hsub, hB1.1, a1]
      by_cases d0 : d = 0
      · rw [if_pos (nI_le (by omega) (by omega))]
        exact ⟨k + 1, d, K, ⟨kL, d, by omega, ekd, .inl ⟨rfl, rfl, fun _ _ _ _ => .inl d0⟩⟩, rfl, z1, a1, a2⟩
      · rw [if_neg (nI_ge (by omega) (by omega))]
        by_cases k1 : k + 1 < L
        · rw [if_neg (nI_ge k1 (by omega)), gI_n (by omega) (by omega), hB1.2 _ k1]
          show ∃ e v m', _ ∧ Option.bind (Option.bind (D144 (cs (k + 1)) (nI 48) (nI 57)) _) _ = _ ∧ _
          rw [d144]
          rcases dg_or (cs (k + 1)) (h := 57) (by omega) (by omega) with ⟨d2, hd2, ed2⟩ | z
          · rw [ed2, if_pos (dg_in (by omega) (by omega))]
            have hval : nI 10 * nI d + nI (48 + d2) - nI 48 = nI (10 * d + d2) := by
              rw [nI_mul, nI_add, nI_sub (by omega), show 10 * d + (48 + d2) - 48 = 10 * d + d2 by omega]
            show ∃ e v m', _ ∧ Option.bind (if nI 24 ≤ nI 10 * nI d + nI (48 + d2) - nI 48 then some (nI 0) else some (nI 1)) _ = _ ∧ _
            rw [hval]
            by_cases q24 : 10 * d + d2 < 24
            · rw [if_neg (nI_ge q24 (by omega))]
              obtain ⟨y1, y2⟩ := kR_q (m := K) (k := k + 1 + 1) (w := 0)
              refine ⟨k + 2, 10 * d + d2, kR K (k + 1 + 1) 0, ⟨kL, d, by omega, ekd, .inr ⟨k1, d2, by omega, ed2, by omega, q24, rfl, rfl⟩⟩, ?_, z1.tr y1, y2⟩
              show Option.bind (Option.bind (D190 K (nI 48) (nI 57)) _) _ = _
              rw [q190 hB1 l60 (by omega) ⟨a1, a2⟩]
              have ec : chr cs L (k + 1) = nI (48 + d2) := by unfold chr; rw [if_pos k1, ed2]
              rw [ec, if_pos (dg_in (by omega) (by omega))]
              show some (nI 10 * nI d + nI (48 + d2) - nI 48, _) = _
              rw [hval]
            · rw [if_pos (nI_le (by omega) (by omega))]
              refine ⟨k + 1, d, K, ⟨kL, d, by omega, ekd, .inl ⟨rfl, rfl, fun _ d3 hd3 e3 => .inr ?_⟩⟩, rfl, z1, a1, a2⟩
              have : 48 + d2 = 48 + d3 := (nI_eq (by omega) (by omega)).mp (ed2.symm.trans e3)
              omega
          · rw [if_neg z]
            refine ⟨k + 1, d, K, ⟨kL, d, by omega, ekd, .inl ⟨rfl, rfl, fun _ d3 hd3 e3 => ?_⟩⟩, rfl, z1, a1, a2⟩
            exact absurd (by rw [e3]; exact dg_in (by omega) (by omega)) z
        · rw [if_pos (nI_le (by omega) (by omega))]
          exact ⟨k + 1, d, K, ⟨kL, d, by omega, ekd, .inl ⟨rfl, rfl, fun z => absurd z k1⟩⟩, rfl, z1, a1, a2⟩
    · exact absurd q z
  · rw [if_neg q]
    right
    obtain ⟨z1, z2⟩ := kR_q (m := m) (k := k) (w := 1)
    generalize kR m k 1 = K at z1 z2
    refine ⟨fun kL z => q (by unfold chr; rw [if_pos kL]; exact z), chr cs L k - nI 48, K, ?_, z1, z2⟩
    rw [Option.bind_some, z2.2, if_neg (by decide)]
    rfl
theorem q191w (hA : AT m k 1) : ∃ v m', D191 m = some (v, m') ∧ tmq m m' ∧ AT m' k 1 := by
  unfold D191
  rw [q190w hA]
  obtain ⟨z1, z2⟩ := kR_q (m := m) (k := k) (w := 1)
  generalize kR m k 1 = K at z1 z2
  refine ⟨nI 0 - nI 48, K, ?_, z1, z2⟩
  rw [Option.bind_some, z2.2, if_neg (by decide)]
  rfl
end RD
