/-! JOINING; the ways as one function -/
theorem leastN {p : Nat → Prop} : ∀ n, p n → ∃ k, k ≤ n ∧ p k ∧ ∀ i, i < k → ¬ p i := by
  intro n
  induction n using Nat.strongRecOn with
  | _ n ih =>
    intro h
    by_cases q : ∃ i, i < n ∧ p i
    · obtain ⟨i, h1, h2⟩ := q
      obtain ⟨k, h3, h4⟩ := ih i h1 h2
      exact ⟨k, by omega, h4⟩
    · exact ⟨n, Nat.le_refl _, h, fun i hi z => q ⟨i, hi, z⟩⟩
theorem WY_ex (f : Nat → Int32) (v : Int32) (a j : Nat) : ∃ x, WY f v a j x := by
  by_cases h : ∃ n, n < 10 ∧ rc f v a n j
  · obtain ⟨n, h1, h2⟩ := h
    obtain ⟨k, h3, h4, h5⟩ := leastN (p := fun n => rc f v a n j) n h2
    exact ⟨nI k, .inl ⟨k, by omega, ⟨h4, h5⟩, rfl⟩⟩
  · exact ⟨-1, .inr ⟨fun n hn r => h ⟨n, hn, r⟩, rfl⟩⟩
/-- the way from one junction to another: how many streets, or -1 -/
noncomputable def wy (f : Nat → Int32) (v : Int32) (a j : Nat) : Int32 := Classical.choose (WY_ex f v a j)
theorem wy_e {f : Nat → Int32} {v : Int32} {a j : Nat} {x : Int32} (h : WY f v a j x) : x = wy f v a j := WY_uniq h (Classical.choose_spec (WY_ex f v a j))
theorem wy_or (f : Nat → Int32) (v : Int32) (a j : Nat) : wy f v a j = -1 ∨ sm (wy f v a j) 10 := by
  rcases Classical.choose_spec (WY_ex f v a j) with ⟨n, h1, -, h2⟩ | ⟨-, h⟩
  · exact .inr ⟨n, h1, h2⟩
  · exact .inl h
theorem rc_tr {f : Nat → Int32} {v : Int32} {a b : Nat} {n : Nat} (h : rc f v a n b) : ∀ {k j : Nat}, rc f v b k j → ∃ z, rc f v a z j
  | 0, j, e => by have e' : j = b := e
                  exact ⟨n, e' ▸ h⟩
  | k + 1, j, r => by
    rcases r with r | ⟨s, i, h1, h2, h3⟩
    · exact rc_tr h r
    · obtain ⟨z, hz⟩ := rc_tr h h2
      exact ⟨z + 1, .inr ⟨s, i, h1, hz, h3⟩⟩
def wj (f : Nat → Int32) (v : Int32) : Nat → Nat → Nat → Prop
  | 0, j, i => rc f v j 1 i
  | t + 1, j, i => wj f v t j i ∨ (wj f v t j t ∧ wj f v t t i)
theorem wj_up {f : Nat → Int32} {v : Int32} {j i : Nat} (h : wj f v 0 j i) : ∀ t, wj f v t j i
  | 0 => h
  | t + 1 => .inl (wj_up h t)
theorem wj_so {f : Nat → Int32} {v : Int32} : ∀ {t j i : Nat}, wj f v t j i → ∃ n, rc f v j n i
  | 0, _, _, h => ⟨1, h⟩
  | t + 1, j, i, h => by
    rcases h with h | ⟨h1, h2⟩
    · exact wj_so h
    · obtain ⟨n, e1⟩ := wj_so h1
      obtain ⟨k, e2⟩ := wj_so h2
      exact rc_tr e1 e2
theorem wj_cl {f : Nat → Int32} {v : Int32} : ∀ (t k j i : Nat), k < t → wj f v t j k → wj f v t k i → wj f v t j i
  | 0, k, _, _, hk, _, _ => by omega
  | t + 1, k, j, i, hk, h1, h2 => by
    by_cases e : k = t
    · subst e
      have a1 : wj f v k j k := h1.elim id (fun z => z.1)
      have a2 : wj f v k k i := h2.elim id (fun z => z.2)
      exact .inr ⟨a1, a2⟩
    · have hk' : k < t := by omega
      rcases h1 with h1 | ⟨h1, h3⟩
      · rcases h2 with h2 | ⟨h2, h4⟩
        · exact .inl (wj_cl t k j i hk' h1 h2)
        · exact .inr ⟨wj_cl t k j t hk' h1 h2, h4⟩
      · rcases h2 with h2 | ⟨h2, h4⟩
        · exact .inr ⟨h1, wj_cl t k t i hk' h3 h2⟩
        · exact .inr ⟨h1, h4⟩
theorem wj_co {f : Nat → Int32} {v : Int32} {j : Nat} : ∀ {n i : Nat}, rc f v j n i → wj f v 10 j i
  | 0, i, e => by have e' : i = j := e
                  exact wj_up (show rc f v j 1 i from .inl e') 10
  | n + 1, i, r => by
    rcases r with r | ⟨s, k, h1, h2, h3⟩
    · exact wj_co r
    · exact wj_cl 10 k j i h3.2.1 (wj_co h2) (wj_up (show rc f v k 1 i from .inr ⟨s, k, h1, rfl, h3⟩) 10)
theorem wj_rc {f : Nat → Int32} {v : Int32} {a i : Nat} (ha : a < 10) (hi : i < 10) : wj f v 10 a i ↔ rc f v a 10 i := by
  constructor
  · intro h
    obtain ⟨n, e⟩ := wj_so h
    exact .inl (rc_nine ha hi e)
  · exact wj_co
section JO
variable {m : dM} {f : Nat → Int32}
theorem d68w (R : RC m 1 f) (V : rv f) {v : Int32} (hv : sm v 2) {a b : Nat} (ha : a < 10) (hb : b < 10) : D68 m (nI a) (nI b) v = some (wy f v a b) := by
  obtain ⟨y, e, h⟩ := d68 R V hv ha hb
  rw [e, wy_e h]
theorem d67 (R : RC m 1 f) (V : rv f) {v : Int32} (hv : sm v 2) {a : Nat} (ha : a < 10) : ∃ y m', D67 m (nI a) v = some (y, m') ∧ chg (fun b => b = 44) m m' ∧ mk y (rc f v a 10) := by
  have hR : ∀ m', chg (fun b => b = 44) m m' → RC m' 1 f := fun m' h => R.ch h (fun b h1 h2 => by omega)
  unfold D67
  have k1 := lp_inv (F := 3000) (s0 := (nI 0, m)) (f := fun (s1 : Int32 × dM) => if (nI 10) ≤ s1.1 then some (Sum.inr (α := Int32 × dM) s1.2) else (D65 s1.2 ((nI 1) <<< (s1.1 &&& nI 31)) v).bind fun (x3 : Int32) => (sI s1.2 44 10 s1.1 (((nI 1) <<< (s1.1 &&& nI 31)) ||| x3)).bind fun (m4 : dM) => some (.inl (s1.1 + (nI 1), m4)))
    (fun k s => s.1 = nI k ∧ chg (fun b => b = 44) m s.2 ∧ ∀ j, j < k → mk (rI s.2 44 j) (wj f v 0 j))
    (fun m' => chg (fun b => b = 44) m m' ∧ ∀ j, j < 10 → mk (rI m' 44 j) (wj f v 0 j)) 10 (by omega) ⟨rfl, chg.rf, fun j hj => by omega⟩ ?_ ?_
  · obtain ⟨m1, e1, c1, r1⟩ := k1
    rw [e1]
    show ∃ y m', Option.bind (lp _ _ _) _ = some (y, m') ∧ _
    have k2 := lp_inv (F := 3000) (s0 := (nI 0, m1)) (f := fun (s5 : Int32 × dM) => if (nI 10) ≤ s5.1 then some (Sum.inr (α := Int32 × dM) s5.2) else Option.bind (lp (β := dM) 3000 (fun (s7 : Int32 × dM) => if (nI 10) ≤ s7.1 then some (.inr s7.2) else (gI s7.2 44 10 s7.1).bind fun (x9 : Int32) => Option.bind ((if ((x9 >>> (s5.1 &&& nI 31)) &&& (nI 1)) = (nI 1) then (gI s7.2 44 10 s7.1).bind fun (x11 : Int32) => (gI s7.2 44 10 s5.1).bind fun (x12 : Int32) => (sI s7.2 44 10 s7.1 (x11 ||| x12)).bind fun (m13 : dM) => some m13 else some s7.2) : Option (dM)) fun (v10 : dM) => some (.inl (s7.1 + (nI 1), v10))) (nI 0, s5.2)) fun (v8 : dM) => some (.inl (s5.1 + (nI 1), v8)))
      (fun t s => s.1 = nI t ∧ chg (fun b => b = 44) m s.2 ∧ ∀ j, j < 10 → mk (rI s.2 44 j) (wj f v t j))
      (fun m' => chg (fun b => b = 44) m m' ∧ ∀ j, j < 10 → mk (rI m' 44 j) (wj f v 10 j)) 10 (by omega) ⟨rfl, c1, r1⟩ ?_ ?_
    · obtain ⟨m2, e2, c2, r2⟩ := k2
      refine ⟨rI m2 44 a, m2, ?_, c2, (r2 a ha).iff fun j hj => wj_rc ha hj⟩
      rw [e2]
      show Option.bind (if nI a < nI 0 then _ else if nI 10 ≤ nI a then _ else _) _ = _
      rw [if_neg (nn0 (by omega)), if_neg (nI_ge ha (by omega)), gI_n ha (by omega)]
      rfl
    · rintro t ⟨x, m2⟩ ht ⟨hx, c2, r2⟩
      replace hx : x = nI t := hx
      replace c2 : chg (fun b => b = 44) m m2 := c2
      replace r2 : ∀ j, j < 10 → mk (rI m2 44 j) (wj f v t j) := r2
      subst hx
      refine .inl ?_
      have e0 : ∀ A B : Option ((Int32 × dM) ⊕ dM), (if nI 10 ≤ nI t then A else B) = B := fun A B => if_neg (nI_ge ht (by omega))
      show ∃ s', (if nI 10 ≤ nI t then _ else _) = _ ∧ _
      rw [e0]
      have k3 := lp_inv (F := 3000) (s0 := (nI 0, m2)) (f := fun (s7 : Int32 × dM) => if (nI 10) ≤ s7.1 then some (Sum.inr (α := Int32 × dM) s7.2) else (gI s7.2 44 10 s7.1).bind fun (x9 : Int32) => Option.bind ((if ((x9 >>> (nI t &&& nI 31)) &&& (nI 1)) = (nI 1) then (gI s7.2 44 10 s7.1).bind fun (x11 : Int32) => (gI s7.2 44 10 (nI t)).bind fun (x12 : Int32) => (sI s7.2 44 10 s7.1 (x11 ||| x12)).bind fun (m13 : dM) => some m13 else some s7.2) : Option (dM)) fun (v10 : dM) => some (.inl (s7.1 + (nI 1), v10)))
        (fun k s => s.1 = nI k ∧ chg (fun b => b = 44) m s.2 ∧ ∀ j, j < 10 → mk (rI s.2 44 j) (wj f v (if j < k then t + 1 else t) j))
        (fun m' => chg (fun b => b = 44) m m' ∧ ∀ j, j < 10 → mk (rI m' 44 j) (wj f v (t + 1) j)) 10 (by omega) ⟨rfl, c2, fun j hj => by rw [if_neg (by omega)]; exact r2 j hj⟩ ?_ ?_
      · obtain ⟨m3, e3, c3, r3⟩ := k3
        refine ⟨(nI t + nI 1, m3), ?_, nI_add t 1, c3, r3⟩
        show Option.bind (lp _ _ _) _ = _
        rw [e3]
        rfl
      · rintro k ⟨x, m3⟩ hk ⟨hx, c3, r3⟩
        replace hx : x = nI k := hx
        replace c3 : chg (fun b => b = 44) m m3 := c3
        replace r3 : ∀ j, j < 10 → mk (rI m3 44 j) (wj f v (if j < k then t + 1 else t) j) := r3
        subst hx
        refine .inl ?_
        have hk0 : mk (rI m3 44 k) (wj f v t k) := by
          have := r3 k hk
          rwa [if_neg (by omega)] at this
        have ht0 : mk (rI m3 44 t) (wj f v t t) := by
          refine (r3 t ht).iff fun i hi => ?_
          split
          · exact ⟨fun z => z.elim id (fun q => q.2), fun z => .inl z⟩
          · exact Iff.rfl
        have b1 : ((rI m3 44 k >>> (nI t &&& nI 31)) &&& nI 1 = nI 1) = wj f v t k t := by rw [bit1 (by omega), hk0 t (by omega)]; simp [ht]
        have e3 : ∀ A B : Option ((Int32 × dM) ⊕ dM), (if nI 10 ≤ nI k then A else B) = B := fun A B => if_neg (nI_ge hk (by omega))
        show ∃ s', (if nI 10 ≤ nI k then _ else (gI m3 44 10 (nI k)).bind fun (x9 : Int32) => Option.bind ((if ((x9 >>> (nI t &&& nI 31)) &&& (nI 1)) = (nI 1) then (gI m3 44 10 (nI k)).bind fun (x11 : Int32) => (gI m3 44 10 (nI t)).bind fun (x12 : Int32) => (sI m3 44 10 (nI k) (x11 ||| x12)).bind fun (m13 : dM) => some m13 else some m3) : Option (dM)) fun (v10 : dM) => some (Sum.inl (nI k + (nI 1), v10))) = _ ∧ _
        rw [e3, gI_n hk (by omega), gI_n ht (by omega)]
        show ∃ s', Option.bind (if (rI m3 44 k >>> (nI t &&& nI 31)) &&& nI 1 = nI 1 then Option.bind (sI m3 44 10 (nI k) (rI m3 44 k ||| rI m3 44 t)) _ else _) _ = _ ∧ _
        by_cases q : wj f v t k t
        · rw [if_pos (b1.mpr q), sI_n hk (by omega)]
          refine ⟨(nI k + nI 1, wI m3 44 k (rI m3 44 k ||| rI m3 44 t)), rfl, nI_add k 1, chg.wI c3 rfl, fun j hj => ?_⟩
          show mk (rI (wI m3 44 k _) 44 j) _
          rw [rI_ws]
          by_cases e : j = k
          · subst e
            rw [upd_s, if_pos (by omega)]
            exact (mk.or hk0 ht0).iff fun i hi => ⟨fun z => z.elim .inl (fun z => .inr ⟨q, z⟩), fun z => z.elim .inl (fun z => .inr z.2)⟩
          · rw [upd_n e]
            have := r3 j hj
            by_cases e2 : j < k
            · rw [if_pos e2] at this
              rwa [if_pos (by omega)]
            · rw [if_neg e2] at this
              rwa [if_neg (by omega)]
        · rw [if_neg (fun z => q (b1.mp z))]
          refine ⟨(nI k + nI 1, m3), rfl, nI_add k 1, c3, fun j hj => ?_⟩
          show mk (rI m3 44 j) _
          by_cases e : j = k
          · subst e
            rw [if_pos (by omega)]
            exact hk0.iff fun i hi => ⟨.inl, fun z => z.elim id (fun z => absurd z.1 q)⟩
          · have := r3 j hj
            by_cases e2 : j < k
            · rw [if_pos e2] at this
              rwa [if_pos (by omega)]
            · rw [if_neg e2] at this
              rwa [if_neg (by omega)]
      · rintro ⟨x, m3⟩ ⟨hx, c3, r3⟩
        replace hx : x = nI 10 := hx
        subst hx
        refine ⟨m3, rfl, c3, fun j hj => ?_⟩
        have := r3 j hj
        rwa [if_pos hj] at this
    · rintro ⟨x, m2⟩ ⟨hx, c2, r2⟩
      replace hx : x = nI 10 := hx
      subst hx
      exact ⟨m2, rfl, c2, r2⟩
  · rintro k ⟨x, m1⟩ hk ⟨hx, c1, r1⟩
    replace hx : x = nI k := hx
    replace r1 : ∀ j, j < k → mk (rI m1 44 j) (wj f v 0 j) := r1
    replace c1 : chg (fun b => b = 44) m m1 := c1
    subst hx
    obtain ⟨y, ey, hy⟩ := d65 (hR m1 c1) V hv (mk.one hk)
    refine .inl ⟨(nI k + nI 1, wI m1 44 k ((nI 1 <<< (nI k &&& nI 31)) ||| y)), ?_, nI_add k 1, chg.wI c1 rfl, fun j hj => ?_⟩
    · show (if nI 10 ≤ nI k then _ else Option.bind (D65 m1 (nI 1 <<< (nI k &&& nI 31)) v) _) = _
      rw [if_neg (nI_ge hk (by omega)), ey]
      show Option.bind (sI m1 44 10 (nI k) _) _ = _
      rw [sI_n hk (by omega)]
      rfl
    · show mk (rI (wI m1 44 k _) 44 j) _
      rw [rI_ws]
      by_cases q : j = k
      · subst q
        rw [upd_s]
        refine (mk.or (mk.one hk) hy).iff fun i hi => ⟨?_, ?_⟩
        · rintro (q | ⟨s, i2, q1, q2, q3⟩)
          · exact .inl q
          · exact .inr ⟨s, i2, q1, q2, q3⟩
        · rintro (q | ⟨s, i2, q1, q2, q3⟩)
          · exact .inl q
          · exact .inr ⟨s, i2, q1, q2, q3⟩
      · rw [upd_n q]
        exact r1 j (by omega)
  · rintro ⟨x, m1⟩ ⟨hx, c1, r1⟩
    replace hx : x = nI 10 := hx
    subst hx
    exact ⟨m1, rfl, c1, r1⟩
end JO
