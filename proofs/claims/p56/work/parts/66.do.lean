/-! THE LAW'S EVENTS -/
section DOS
variable {m : dM} {s : gS}
theorem an_no {P : Nat → Bool} : ∀ n, (∀ i, i < n → P i = false) → anyN P n = false
  | 0, _ => rfl
  | n + 1, h => by
    rw [an4, an_no n (fun i hi => h i (by omega)), h n (by omega)]
    rfl
theorem bI0' {b : Bool} (h : b = false) : bI b = nI 0 := by rw [h]; rfl
theorem e_as (hC : IC m s) (hE : EE s.1) {a k : Nat} (ha : a < 10) (hk : k < 9) {Q : Prop} {dq : Decidable Q} : DO m (if nI (sN s.1) = nI 24 then some (nI 0, m) else (D304 m (nI a) (nI ((a + 1 + k) % 10))).bind fun (x6 : Int32) => if x6 = (nI 0) then Option.bind ((@ite _ Q dq (some (nI 1)) (some (nI 0))) : Option (Int32)) fun (v7 : Int32) => cG (D70 m (nI a) (nI ((a + 1 + k) % 10)) v7) (fun (x8 : Int32) (m11 : dM) => some (x8, m11)) (fun (j9 : Nat) (m10 : dM) => none) else some (nI 0, m)) := by
  have R := hC.R
  have V := hC.V
  have h24 := V.s24
  by_cases q : sN s.1 = 24
  · rw [if_pos (by rw [q])]
    exact DO.mk hC hE rfl (by omega)
  · rw [if_neg (fun z => q ((nI_eq (by omega) (by omega)).mp z)), l304 R V, Option.bind_some]
    cases w : anyN (mtB s.1 (nI a) (nI ((a + 1 + k) % 10))) (sN s.1) with
    | true =>
      rw [if_neg (show ¬ bI true = nI 0 by decide)]
      exact DO.mk hC hE rfl (by omega)
    | false =>
      rw [if_pos (show bI false = nI 0 from rfl), iff_some, Option.bind_some]
      have hv : (@ite _ Q dq (nI 1) (nI 0)) = nI 0 ∨ (@ite _ Q dq (nI 1) (nI 0)) = nI 1 := by
        by_cases z : Q
        · rw [if_pos z]; exact .inr rfl
        · rw [if_neg z]; exact .inl rfl
      generalize (@ite _ Q dq (nI 1) (nI 0)) = v at hv
      obtain ⟨m2, e2, I2, hm2⟩ := c70 hC ha (show (a + 1 + k) % 10 < 10 by omega) (by omega) (by omega) w hv
      rw [e2, cGe]
      exact DO.mk I2 (EE_as hE V (by omega)) hm2 (by omega)
theorem e_ad (hC : IC m s) (hE : EE s.1) {a k w v : Nat} (ha : a < 10) (hk : k < 9) (hw : w < 5) (hv : v < 9) : DO m (if nI (pN s.1) = nI 8 then some (nI 0, m) else cG (D75 m (nI a) (nI ((a + 1 + k) % 10)) (nI (1 + w)) (nI (1 + v))) (fun (x8 : Int32) (m11 : dM) => some (x8, m11)) (fun (j9 : Nat) (m10 : dM) => none)) := by
  have V := hC.V
  have h8 := V.p8
  by_cases q : pN s.1 = 8
  · rw [if_pos (by rw [q])]
    exact DO.mk hC hE rfl (by omega)
  · rw [if_neg (fun z => q ((nI_eq (by omega) (by omega)).mp z))]
    obtain ⟨m2, e2, I2, hm2⟩ := c75 hC ha (show (a + 1 + k) % 10 < 10 by omega) (by omega) (show 1 ≤ 1 + w by omega) (by omega) (show 1 ≤ 1 + v by omega) (by omega) (by omega)
    rw [e2, cGe]
    exact DO.mk I2 (EE_ad hE V (by omega) (by omega) (by omega)) hm2 (by omega)
theorem e_tg (hC : IC m s) (hE : EE s.1) {t : Nat} (ht : t < sN s.1) : DO m (cG (D71 m (nI t)) (fun (x36 : Int32) (m39 : dM) => if x36 = (nI 0) then some (nI 0, m39) else some (nI 1, m39)) (fun (j37 : Nat) (m38 : dM) => none)) := by
  have V := hC.V
  have h24 := V.s24
  obtain ⟨m2, e2, I2, hm2⟩ := c71 hC ht
  rw [e2, cGe]
  split
  · exact DO.mk I2 (EE_tg hE V (by omega)) hm2 (by omega)
  · exact DO.mk I2 (EE_tg hE V (by omega)) hm2 (by omega)
theorem e_pl (hC : IC m s) (hE : EE s.1) {c j : Nat} (hc : c < 4) (hj : j < 10) : DO m ((D305 m (nI c) (nI j)).bind fun (x40 : Int32) => Option.bind ((if x40 = (nI 0) then some (nI 0, m) else cG (D72 m (nI c) (nI j)) (fun (x42 : Int32) (m45 : dM) => some (x42, m45)) (fun (j43 : Nat) (m44 : dM) => none)) : Option (Int32 × dM)) fun (v41 : Int32 × dM) => some (v41.1, v41.2)) := by
  have R := hC.R
  have V := hC.V
  rw [l305 R hc, Option.bind_some]
  refine DO.eta ?_
  cases w : anyN (ocP s.1 c (nI j)) 4 with
  | true =>
    rw [if_pos (show bI (!true) = nI 0 from rfl)]
    exact DO.mk hC hE rfl (by omega)
  | false =>
    rw [if_neg (show ¬ bI (!false) = nI 0 by decide)]
    obtain ⟨m2, e2, I2, hm2⟩ := c72 hC hc hj w
    rw [e2, cGe, aV_e V.2.1 hc]
    exact DO.mk I2 (EE_pl hE V hc) hm2 (by have := aV_lt V.2.1 hc; omega)
theorem e_va (hC : IC m s) (hE : EE s.1) {c : Nat} (hc : c < 4) : DO m (cT (D95 m (nI c)) m (fun (x46 : Int32) => Option.bind ((if x46 = (nI 0) then cG (D73 m (nI c)) (fun (x50 : Int32) (m53 : dM) => if x50 = (nI 0) then some ((-1), m53) else some (nI 1, m53)) (fun (j51 : Nat) (m52 : dM) => none) else some (nI 0, m)) : Option (Int32 × dM)) fun (v49 : Int32 × dM) => some (v49.1, v49.2)) (fun (j47 : Nat) (m48 : dM) => none)) := by
  have R := hC.R
  have V := hC.V
  rw [a95 R V hc, cTe]
  refine DO.eta ?_
  by_cases q : s.1 (97 + 5 * c + 1) = nI 0
  · rw [if_pos q]
    have hv : vn s.1 c = nI 1 := by
      unfold vn
      rw [q]
      decide
    have hl : ld s.1 (nI c) (pN s.1) ≤ (if vn s.1 c = nI 1 then nI 2 * s.1 166 else s.1 166) := by
      obtain ⟨⟨e1, e2, k, hk, ek⟩, -⟩ := hE
      have := e1 c hc
      unfold mx at this
      rw [q, if_neg (by decide), ek] at this
      rw [if_pos hv, ek, nI_mul]
      exact Int32.le_trans this (nI_le (by omega) (by omega))
    obtain ⟨m2, e2, I2, hm2⟩ := c73 hC hc hl
    rw [e2, cGe, hv, if_neg (show ¬ nI 1 = nI 0 by decide)]
    exact DO.mk I2 (EE_va hE V hc q) hm2 (by omega)
  · rw [if_neg q]
    exact DO.mk hC hE rfl (by omega)
theorem e_lm (hC : IC m s) (hE : EE s.1) {l : Nat} (hl : l < 51) : DO m (cG (D76 m (nI (10 + l))) (fun (x55 : Int32) (m58 : dM) => some (x55, m58)) (fun (j56 : Nat) (m57 : dM) => none)) := by
  have V := hC.V
  obtain ⟨m2, e2, I2, hm2⟩ := c76 hC (show 1 ≤ 10 + l by omega) (by omega)
  obtain ⟨k, hk, ek⟩ := V.2.2.2.2.2.2.1
  rw [e2, cGe, ek]
  exact DO.mk I2 (EE_lm hE V) hm2 (by omega)
theorem mvn_n {f : Nat → Int32} : ∀ k, ∃ n, n ≤ k ∧ mvn f k = nI n
  | 0 => ⟨0, Nat.le_refl _, rfl⟩
  | k + 1 => by
    obtain ⟨n, hn, e⟩ := mvn_n (f := f) k
    show ∃ n, n ≤ k + 1 ∧ (if fin f k = nI 0 then mvn f k + nI 1 else mvn f k) = nI n
    rw [e]
    split
    · exact ⟨n + 1, by omega, nI_add n 1⟩
    · exact ⟨n, by omega, rfl⟩
theorem e_tn (hC : IC m s) (hE : EE s.1) : DO m ((D112 m).bind fun (x59 : Int32) => Option.bind ((if x59 = (nI 0) then cG (D79 m) (fun (x61 : Int32) (m64 : dM) => some (x61, m64)) (fun (j62 : Nat) (m63 : dM) => none) else some (nI 0, m)) : Option (Int32 × dM)) fun (v60 : Int32 × dM) => some (v60.1, v60.2)) := by
  have R := hC.R
  have V := hC.V
  have hov := ov_le (f := s.1)
  rw [a112 R V, Option.bind_some]
  refine DO.eta ?_
  by_cases q : ov s.1 = 0
  · rw [q, if_pos rfl]
    obtain ⟨m2, e2, I2, hm2, -⟩ := c79 hC q
    obtain ⟨n, hn, en⟩ := mvn_n (f := s.1) 4
    rw [e2, cGe, en]
    exact DO.mk I2 (EE_TF hE V q) hm2 (by omega)
  · rw [if_neg (fun z => q ((nI_eq (by omega) (by omega)).mp z))]
    exact DO.mk hC hE rfl (by omega)
theorem e_tb (hC : IC m s) (hE : EE s.1) {c : Nat} (hc : c < 4) : DO m (cG (D78 m (nI c)) (fun (x71 : Int32) (m74 : dM) => cT (D97 m74 (nI c)) m74 (fun (x75 : Int32) => Option.bind ((if x71 = x75 then cT (D97 m74 (nI c)) m74 (fun (x79 : Int32) => if x79 = (nI 0) then some (nI 0) else some (-1)) (fun (j80 : Nat) (m81 : dM) => none) else some (nI 0)) : Option (Int32)) fun (v78 : Int32) => some (v78, m74)) (fun (j76 : Nat) (m77 : dM) => none)) (fun (j72 : Nat) (m73 : dM) => none)) := by
  have V := hC.V
  obtain ⟨m2, e2, I2, hm2⟩ := c78 hC hc
  have e3 : D97 m2 (nI c) = some (.inl (nI 0)) := by
    rw [a97 I2.R hc]
    show some (Sum.inl (if upd s.1 (97 + 5 * c + 2) (-1) (97 + 5 * c + 2) = -1 then nI 0 else nI 1)) = _
    rw [upd_s, if_pos rfl]
  have e4 : ∀ {p : Prop} {dp : Decidable p}, (@ite _ p dp (cT (some (.inl (nI 0))) m2 (fun (x79 : Int32) => if x79 = (nI 0) then some (nI 0) else some (-1)) (fun (j80 : Nat) (m81 : dM) => none)) (some (nI 0)) : Option Int32) = some (nI 0) := by
    intro p dp
    by_cases h : p
    · rw [if_pos h]; rfl
    · rw [if_neg h]
  rw [e2, cGe, e3, cTe, e4, Option.bind_some]
  exact DO.mk I2 (EE_or hE V hc) hm2 (by omega)
theorem l302 (hC : IC m s) (hE : EE s.1) (p : Int32) : DO m (D302 m p) := by
  have R := hC.R
  have V := hC.V
  have h24 := V.s24
  obtain ⟨c, hc, e1⟩ := l301 (p >>> ((nI 4) &&& nI 31)) (n := 4) (by omega) (by omega)
  obtain ⟨a, ha, e2⟩ := l301 (p >>> ((nI 6) &&& nI 31)) (n := 10) (by omega) (by omega)
  obtain ⟨k, hk, e3⟩ := l301 (p >>> ((nI 4) &&& nI 31)) (n := 9) (by omega) (by omega)
  obtain ⟨w, hw, e4⟩ := l301 (p >>> ((nI 5) &&& nI 31)) (n := 5) (by omega) (by omega)
  obtain ⟨v, hv, e5⟩ := l301 (p >>> ((nI 7) &&& nI 31)) (n := 9) (by omega) (by omega)
  obtain ⟨l, hl, e6⟩ := l301 (p >>> ((nI 4) &&& nI 31)) (n := 51) (by omega) (by omega)
  have eb : nI (a + 1 + k) - nI (a + 1 + k) / (nI 10) * (nI 10) = nI ((a + 1 + k) % 10) := rem_n (by omega) (by omega) (by omega)
  unfold D302
  simp only [e1, e2, e3, e4, e5, e6, eb, a90 R, a101 R, V.s0, V.p0, Option.bind_some, nI_add]
  by_cases q0 : p &&& nI 15 = nI 0
  · rw [if_pos q0]
    exact DO.eta (e_as hC hE ha hk)
  rw [if_neg q0]
  by_cases q1 : p &&& nI 15 = nI 1
  · rw [if_pos q1]
    exact DO.eta (e_as hC hE ha hk)
  rw [if_neg q1]
  by_cases q2 : p &&& nI 15 = nI 2
  · rw [if_pos q2]
    exact DO.eta (e_as hC hE ha hk)
  rw [if_neg q2]
  by_cases q3 : p &&& nI 15 = nI 3
  · rw [if_pos q3]
    exact DO.eta (e_ad hC hE ha hk hw hv)
  rw [if_neg q3]
  by_cases q4 : p &&& nI 15 = nI 4
  · rw [if_pos q4]
    refine DO.eta ?_
    by_cases q : sN s.1 = 0
    · rw [if_pos (by rw [q])]
      exact DO.mk hC hE rfl (by omega)
    · obtain ⟨t, ht, et⟩ := l301 (p >>> ((nI 4) &&& nI 31)) (n := sN s.1) (by omega) (by omega)
      rw [if_neg (fun z => q ((nI_eq (by omega) (by omega)).mp z)), et, Option.bind_some]
      exact e_tg hC hE ht
  rw [if_neg q4]
  by_cases q5 : p &&& nI 15 = nI 5
  · rw [if_pos q5]
    exact e_pl hC hE hc ha
  rw [if_neg q5]
  by_cases q6 : p &&& nI 15 = nI 6
  · rw [if_pos q6]
    exact e_va hC hE hc
  rw [if_neg q6]
  by_cases q7 : p &&& nI 15 = nI 7
  · rw [if_pos q7]
    exact e_lm hC hE hl
  rw [if_neg q7]
  by_cases q8 : p &&& nI 15 = nI 8
  · rw [if_pos q8]
    exact e_tn hC hE
  rw [if_neg q8]
  by_cases q9 : p &&& nI 15 = nI 9
  · rw [if_pos q9]
    exact e_tn hC hE
  rw [if_neg q9]
  by_cases q10 : p &&& nI 15 = nI 10
  · rw [if_pos q10]
    exact e_tb hC hE hc
  rw [if_neg q10]
  refine DO.eta ?_
  by_cases q : sN s.1 = 0
  · rw [if_pos (by rw [q])]
    exact DO.mk hC hE rfl (by omega)
  · rw [if_neg (fun z => q ((nI_eq (by omega) (by omega)).mp z))]
    exact DO.eta (l303 hC hE (by omega) p)
end DOS
