/-! FORETELLING in the reference -/
section FM
variable {m : dM} {f g : Nat → Int32}
theorem d170 (ho : ∀ b, b < 4 → rI m 136 b = g b) {b c : Nat} (hb : b < 4) (hc : c < 4) : D170 m (nI b) (nI c) = some (if b ≠ c ∧ g b = nI 0 then nI 1 else nI 0) := by
  unfold D170
  rw [gI_n hb (by omega), ho b hb]
  by_cases q1 : b = c
  · rw [if_pos (by rw [q1]), if_neg (fun z => z.1 q1)]
    rfl
  · rw [if_neg (fun z => q1 ((nI_eq (by omega) (by omega)).mp z))]
    show Option.bind (if g b = nI 0 then _ else _) _ = _
    by_cases q2 : g b = nI 0
    · rw [if_pos q2, if_pos ⟨q1, q2⟩]
      rfl
    · rw [if_neg q2, if_neg (fun z => q2 z.2)]
      rfl
theorem orI {a c : Bool} {v : Option Int32} (h : a = false → v = some (bI c)) : (if bI a = nI 0 then v else some (nI 1)) = some (bI (a || c)) := by
  cases a with
  | true => rfl
  | false => rw [if_pos (show bI false = nI 0 from rfl), h rfl]; rfl
theorem d171 (hf : rI m 131 = f) (V : rv f) (hg : ∀ b, b < 4 → g b = nI 0 → g0 f b = nI 0) (ho : ∀ b, b < 4 → rI m 136 b = g b) {c : Nat} (hc : c < 4) (h0 : g c = nI 0) : D171 m (nI c) = some (nI (fl f g c)) := by
  have h24 := V.s24
  have h8 := V.p8
  obtain ⟨s, hs1, hs2, hs3, hs4⟩ := g0_or V hc (hg c hc h0)
  have es1 : D154 m (nI s) = some (aT f c) := by rw [d154 hf (by omega), hs3]
  have es2 : D155 m (nI s) = some (eT f c) := by rw [d155 hf (by omega), hs4]
  unfold D171
  rw [d150 hf hc (by omega), hs2]
  refine lpb (bI (anyN (pE f g c) 4), bI (anyN (pH f g c) 4), bI (anyN (pA f g c) 4), bI (anyN (pS f g c) 4)) (fun i => (bI (anyN (pE f g c) i), bI (anyN (pH f g c) i), bI (anyN (pA f g c) i), bI (anyN (pS f g c) i), nI i)) 4 (by omega) rfl (fun i hi => ?_) rfl ?_
  · have e0 : ∀ A B : Option ((Int32 × Int32 × Int32 × Int32 × Int32) ⊕ (Int32 × Int32 × Int32 × Int32)), (if nI 4 ≤ nI i then A else B) = B := fun A B => if_neg (nI_ge hi (by omega))
    show (if nI 4 ≤ nI i then _ else Option.bind (D170 m (nI i) (nI c)) _) = _
    rw [e0, d170 ho hi hc, d158 hf V.p0 h8, d158 hf V.p0 h8, es1, es2, d150 hf hi (by omega), d150 hf hi (by omega)]
    show Option.bind (if bI (anyN (pE f g c) i) = (nI 0) then if (if i ≠ c ∧ g i = nI 0 then nI 1 else nI 0) = (nI 0) then some (nI 0) else (D155 m (f (97 + 5 * i + 2))).bind fun (x7 : Int32) => if x7 = aT f c then (D154 m (f (97 + 5 * i + 2))).bind fun (x10 : Int32) => if x10 = eT f c then some (nI 1) else some (nI 0) else some (nI 0) else some (nI 1)) _ = _
    simp only [an4]
    by_cases q1 : i ≠ c ∧ g i = nI 0
    · obtain ⟨t, ht1, ht2, ht3, ht4⟩ := g0_or V hi (hg i hi q1.2)
      have et1 : D154 m (nI t) = some (aT f i) := by rw [d154 hf (by omega), ht3]
      have et2 : D155 m (nI t) = some (eT f i) := by rw [d155 hf (by omega), ht4]
      rw [if_pos q1, ht2, et1, et2]
      have z4 : pS f g c i = false := by unfold pS; simp [q1.2]
      have z1 : pE f g c i = decide (eT f i = aT f c ∧ aT f i = eT f c) := by unfold pE; simp [q1.1, q1.2]
      have z2 : pH f g c i = (decide (eT f i = eT f c) && decide (ld f (nI c) (pN f) < ld f (nI i) (pN f))) := by unfold pH; simp [q1.1, q1.2]
      have z3 : pA f g c i = (decide (eT f i = eT f c) && decide (ld f (nI i) (pN f) = ld f (nI c) (pN f))) := by unfold pA; simp [q1.1, q1.2]
      rw [orI (c := pE f g c i) (fun _ => by
        rw [z1, if_neg n10.mp]
        show (if eT f i = aT f c then (if aT f i = eT f c then some (nI 1) else some (nI 0)) else some (nI 0)) = _
        by_cases w : eT f i = aT f c
        · by_cases w2 : aT f i = eT f c
          · rw [if_pos w, if_pos w2, decide_eq_true ⟨w, w2⟩]; rfl
          · rw [if_pos w, if_neg w2, decide_eq_false (fun z => w2 z.2)]; rfl
        · rw [if_neg w, decide_eq_false (fun z => w z.1)]; rfl)]
      rw [Option.bind_some]
      show Option.bind (if nI 1 = nI 0 then some (nI 0) else Option.bind (D155 m (nI t)) (fun (x14 : Int32) => if x14 = eT f c then some (nI 1) else some (nI 0))) _ = _
      rw [if_neg n10.mp, et2]
      show Option.bind (if eT f i = eT f c then some (nI 1) else some (nI 0)) _ = _
      have ev : (if eT f i = eT f c then some (nI 1) else some (nI 0)) = some (bI (decide (eT f i = eT f c))) := by
        by_cases w : eT f i = eT f c
        · rw [if_pos w, decide_eq_true w]; rfl
        · rw [if_neg w, decide_eq_false w]; rfl
      rw [ev]
      rw [Option.bind_some]
      show Option.bind (if bI (anyN (pH f g c) i) = nI 0 then (if bI (decide (eT f i = eT f c)) = nI 0 then some (nI 0) else (if ld f (nI i) (pN f) ≤ ld f (nI c) (pN f) then some (nI 0) else some (nI 1))) else some (nI 1)) _ = _
      rw [orI (c := pH f g c i) (fun _ => by
        rw [z2]
        cases decide (eT f i = eT f c) with
        | false => rfl
        | true =>
          show (if ld f (nI i) (pN f) ≤ ld f (nI c) (pN f) then some (nI 0) else some (nI 1)) = _
          by_cases w : ld f (nI i) (pN f) ≤ ld f (nI c) (pN f)
          · rw [if_pos w, decide_eq_false (Int32.not_lt.mpr w)]; rfl
          · rw [if_neg w, decide_eq_true (Int32.not_le.mp w)]; rfl)]
      rw [Option.bind_some]
      show Option.bind (if bI (anyN (pA f g c) i) = nI 0 then (if bI (decide (eT f i = eT f c)) = nI 0 then some (nI 0) else (if ld f (nI i) (pN f) = ld f (nI c) (pN f) then some (nI 1) else some (nI 0))) else some (nI 1)) _ = _
      rw [orI (c := pA f g c i) (fun _ => by
        rw [z3]
        cases decide (eT f i = eT f c) with
        | false => rfl
        | true =>
          show (if ld f (nI i) (pN f) = ld f (nI c) (pN f) then some (nI 1) else some (nI 0)) = _
          by_cases w : ld f (nI i) (pN f) = ld f (nI c) (pN f)
          · rw [if_pos w, decide_eq_true w]; rfl
          · rw [if_neg w, decide_eq_false w]; rfl)]
      rw [Option.bind_some]
      show Option.bind (if bI (anyN (pS f g c) i) = nI 0 then (if nI i = nI c then some (nI 0) else some (nI 0)) else some (nI 1)) _ = _
      rw [orI (c := pS f g c i) (fun _ => by rw [z4]; split <;> rfl), ← nI_add i 1]
      rfl
    · rw [if_neg q1]
      have z1 : pE f g c i = false := by unfold pE; rw [decide_eq_false_iff_not]; exact fun z => q1 ⟨z.1, z.2.1⟩
      have z2 : pH f g c i = false := by unfold pH; rw [decide_eq_false_iff_not]; exact fun z => q1 ⟨z.1, z.2.1⟩
      have z3 : pA f g c i = false := by unfold pA; rw [decide_eq_false_iff_not]; exact fun z => q1 ⟨z.1, z.2.1⟩
      rw [orI (c := pE f g c i) (fun _ => by rw [z1]; rfl)]
      rw [Option.bind_some]
      show Option.bind (if bI (anyN (pH f g c) i) = nI 0 then some (nI 0) else some (nI 1)) _ = _
      rw [orI (c := pH f g c i) (fun _ => by rw [z2]; rfl)]
      rw [Option.bind_some]
      show Option.bind (if bI (anyN (pA f g c) i) = nI 0 then some (nI 0) else some (nI 1)) _ = _
      rw [orI (c := pA f g c i) (fun _ => by rw [z3]; rfl)]
      rw [Option.bind_some]
      show Option.bind (if bI (anyN (pS f g c) i) = nI 0 then (if nI i = nI c then some (nI 0) else (if f (97 + 5 * i + 0) = eT f c then some (nI 1) else some (nI 0))) else some (nI 1)) _ = _
      rw [orI (c := pS f g c i) (fun _ => by
        unfold pS
        by_cases w : i = c
        · rw [if_pos (by rw [w]), decide_eq_false (fun z => z.1 w)]; rfl
        · have w2 : g i ≠ nI 0 := fun z => q1 ⟨w, z⟩
          rw [if_neg (fun z => w ((nI_eq (by omega) (by omega)).mp z))]
          show (if aT f i = eT f c then some (nI 1) else some (nI 0)) = _
          by_cases w3 : aT f i = eT f c
          · rw [if_pos w3, decide_eq_true ⟨w, w2, w3⟩]; rfl
          · rw [if_neg w3, decide_eq_false (fun z => w3 z.2.2)]; rfl), ← nI_add i 1]
      rfl
  · unfold fl
    simp only [bI0]
    cases anyN (pE f g c) 4 <;> cases anyN (pH f g c) 4 <;> cases anyN (pA f g c) 4 <;> cases anyN (pS f g c) 4 <;> rfl
theorem d172 (hf : rI m 131 = f) (V : rv f) : ∃ m', D172 m = some m' ∧ chg (fun b => b = 135 ∨ b = 136) m m' ∧ ∀ b, b < 4 → rI m' 135 b = fin f b := by
  have hF : ∀ m', chg (fun b => b = 135 ∨ b = 136) m m' → rI m' 131 = f := fun m' h => (h.1 131 (by decide)).trans hf
  unfold D172
  have k1 := lp_inv (F := 3000) (s0 := (nI 0, m)) (f := fun (s1 : Int32 × dM) => if (nI 4) ≤ s1.1 then some (Sum.inr (α := Int32 × dM) s1.2) else (D150 s1.2 s1.1 (nI 2)).bind fun (x3 : Int32) => Option.bind ((if x3 = (-1) then some (nI 1) else some (nI 0)) : Option (Int32)) fun (v4 : Int32) => (sI s1.2 135 4 s1.1 v4).bind fun (m5 : dM) => some (.inl (s1.1 + (nI 1), m5)))
    (fun k s => s.1 = nI k ∧ chg (fun b => b = 135 ∨ b = 136) m s.2 ∧ ∀ j, j < k → rI s.2 135 j = g0 f j)
    (fun m' => chg (fun b => b = 135 ∨ b = 136) m m' ∧ ∀ j, j < 4 → rI m' 135 j = g0 f j) 4 (by omega) ⟨rfl, chg.rf, fun j hj => by omega⟩ ?_ ?_
  · obtain ⟨m1, e1, c1, r1⟩ := k1
    rw [e1]
    show ∃ m', Option.bind (lp _ _ _) _ = some m' ∧ _
    have k2 := lp_inv (F := 3000) (s0 := (nI 1, m1)) (f := fun (s6 : Int32 × dM) => if s6.1 = (nI 0) then some (Sum.inr (α := Int32 × dM) s6.2) else Option.bind (lp (β := dM) 3000 (fun (s8 : Int32 × dM) => if (nI 4) ≤ s8.1 then some (.inr s8.2) else (gI s8.2 135 4 s8.1).bind fun (x10 : Int32) => (sI s8.2 136 4 s8.1 x10).bind fun (m11 : dM) => some (.inl (s8.1 + (nI 1), m11))) (nI 0, s6.2)) fun (v9 : dM) => Option.bind (lp (β := Int32 × dM) 3000 (fun (s12 : Int32 × Int32 × dM) => if (nI 4) ≤ s12.2.1 then some (.inr (s12.1, s12.2.2)) else (gI s12.2.2 136 4 s12.2.1).bind fun (x14 : Int32) => Option.bind ((if x14 = (nI 0) then (D171 s12.2.2 s12.2.1).bind fun (x16 : Int32) => some x16 else (gI s12.2.2 136 4 s12.2.1).bind fun (x17 : Int32) => some x17) : Option (Int32)) fun (v15 : Int32) => (sI s12.2.2 135 4 s12.2.1 v15).bind fun (m18 : dM) => Option.bind ((if s12.1 = (nI 0) then (gI m18 135 4 s12.2.1).bind fun (x20 : Int32) => (gI m18 136 4 s12.2.1).bind fun (x21 : Int32) => if x20 = x21 then some (nI 0) else some (nI 1) else some (nI 1)) : Option (Int32)) fun (v19 : Int32) => some (.inl (v19, s12.2.1 + (nI 1), m18))) (nI 0, nI 0, v9)) fun (v13 : Int32 × dM) => some (.inl (v13.1, v13.2)))
      (fun k s => chg (fun b => b = 135 ∨ b = 136) m s.2 ∧ ((s.1 = nI 1 ∧ (∀ j, j < 4 → rI s.2 135 j = it f k j) ∧ zr (it f k) + k ≤ 4) ∨ (s.1 = nI 0 ∧ ∀ j, j < 4 → rI s.2 135 j = fin f j)))
      (fun m' => chg (fun b => b = 135 ∨ b = 136) m m' ∧ ∀ j, j < 4 → rI m' 135 j = fin f j) 6 (by omega) ⟨c1, .inl ⟨rfl, r1, zr_le _⟩⟩ ?_ ?_
    · obtain ⟨m2, e2, c2, r2⟩ := k2
      refine ⟨m2, ?_, c2, r2⟩
      rw [e2]
      rfl
    · rintro k ⟨x, m2⟩ hk ⟨c2, h2⟩
      replace c2 : chg (fun b => b = 135 ∨ b = 136) m m2 := c2
      rcases h2 with ⟨hx, r2, hz⟩ | ⟨hx, r2⟩
      · replace hx : x = nI 1 := hx
        replace r2 : ∀ j, j < 4 → rI m2 135 j = it f k j := r2
        subst hx
        refine .inl ?_
        have k3 := lp_inv (F := 3000) (s0 := (nI 0, m2)) (f := fun (s8 : Int32 × dM) => if (nI 4) ≤ s8.1 then some (Sum.inr (α := Int32 × dM) s8.2) else (gI s8.2 135 4 s8.1).bind fun (x10 : Int32) => (sI s8.2 136 4 s8.1 x10).bind fun (m11 : dM) => some (.inl (s8.1 + (nI 1), m11)))
          (fun n s => s.1 = nI n ∧ chg (fun b => b = 136) m2 s.2 ∧ ∀ j, j < n → rI s.2 136 j = it f k j)
          (fun m' => chg (fun b => b = 136) m2 m' ∧ ∀ j, j < 4 → rI m' 136 j = it f k j) 4 (by omega) ⟨rfl, chg.rf, fun j hj => by omega⟩ ?_ ?_
        · obtain ⟨m3, e3, c3, r3⟩ := k3
          have c3' : chg (fun b => b = 135 ∨ b = 136) m m3 := c2.tr (c3.mono fun b e => .inr e)
          have k4 := lp_inv (F := 3000) (s0 := (nI 0, nI 0, m3)) (f := fun (s12 : Int32 × Int32 × dM) => if (nI 4) ≤ s12.2.1 then some (Sum.inr (α := Int32 × Int32 × dM) (s12.1, s12.2.2)) else (gI s12.2.2 136 4 s12.2.1).bind fun (x14 : Int32) => Option.bind ((if x14 = (nI 0) then (D171 s12.2.2 s12.2.1).bind fun (x16 : Int32) => some x16 else (gI s12.2.2 136 4 s12.2.1).bind fun (x17 : Int32) => some x17) : Option (Int32)) fun (v15 : Int32) => (sI s12.2.2 135 4 s12.2.1 v15).bind fun (m18 : dM) => Option.bind ((if s12.1 = (nI 0) then (gI m18 135 4 s12.2.1).bind fun (x20 : Int32) => (gI m18 136 4 s12.2.1).bind fun (x21 : Int32) => if x20 = x21 then some (nI 0) else some (nI 1) else some (nI 1)) : Option (Int32)) fun (v19 : Int32) => some (.inl (v19, s12.2.1 + (nI 1), m18)))
            (fun n s => s.1 = bI (anyN (chs f (it f k)) n) ∧ s.2.1 = nI n ∧ chg (fun b => b = 135) m3 s.2.2 ∧ ∀ j, j < n → rI s.2.2 135 j = it f (k + 1) j)
            (fun r => r.1 = bI (anyN (chs f (it f k)) 4) ∧ chg (fun b => b = 135) m3 r.2 ∧ ∀ j, j < 4 → rI r.2 135 j = it f (k + 1) j) 4 (by omega) ⟨rfl, rfl, chg.rf, fun j hj => by omega⟩ ?_ ?_
          · obtain ⟨r, e4, h4, c4, r4⟩ := k4
            refine ⟨(r.1, r.2), ?_, c3'.tr (c4.mono fun b e => .inl e), ?_⟩
            · show (if nI 1 = nI 0 then _ else Option.bind (lp _ _ _) _) = _
              rw [if_neg n10.mp, e3]
              show Option.bind (lp _ _ _) _ = _
              rw [e4]
              rfl
            · show (r.1 = nI 1 ∧ _) ∨ (r.1 = nI 0 ∧ _)
              rw [h4]
              cases q : anyN (chs f (it f k)) 4 with
              | true =>
                refine .inl ⟨rfl, r4, ?_⟩
                have hn : ¬ ∀ c, c < 4 → rd f (it f k) c = it f k c := fun z => by
                  have e : anyN (chs f (it f k)) 4 = false := by
                    have hz : ∀ n, n ≤ 4 → anyN (chs f (it f k)) n = false := by
                      intro n
                      induction n with
                      | zero => intro _; rfl
                      | succ n ih =>
                        intro hn
                        rw [an4, ih (by omega), Bool.false_or]
                        unfold chs
                        rw [decide_eq_false_iff_not]
                        exact fun y => y (z n (by omega))
                    exact hz 4 (by omega)
                  rw [e] at q
                  cases q
                have := rd_n hn
                show zr (rd f (it f k)) + (k + 1) ≤ 4
                omega
              | false =>
                refine .inr ⟨rfl, fun j hj => ?_⟩
                show rI r.2 135 j = _
                rw [r4 j hj, ← it_fin (show k ≤ 4 by omega) (chs_st q)]
                show rd f (it f k) j = _
                rw [chs_st q]
          · rintro n ⟨x, t, m4⟩ hn ⟨hx, ht, c4, r4⟩
            replace hx : x = bI (anyN (chs f (it f k)) n) := hx
            replace ht : t = nI n := ht
            replace c4 : chg (fun b => b = 135) m3 m4 := c4
            replace r4 : ∀ j, j < n → rI m4 135 j = it f (k + 1) j := r4
            subst hx ht
            have ho4 : ∀ b, b < 4 → rI m4 136 b = it f k b := fun b hb => by
              rw [c4.1 136 (by decide)]
              exact r3 b hb
            have hf4 : rI m4 131 = f := (c4.1 131 (by decide)).trans (hF m3 c3')
            refine .inl ⟨(bI (anyN (chs f (it f k)) (n + 1)), nI n + nI 1, wI m4 135 n (it f (k + 1) n)), ?_, rfl, nI_add n 1, chg.wI c4 rfl, fun j hj => ?_⟩
            · have e0 : ∀ A B : Option ((Int32 × Int32 × dM) ⊕ (Int32 × dM)), (if nI 4 ≤ nI n then A else B) = B := fun A B => if_neg (nI_ge hn (by omega))
              show (if nI 4 ≤ nI n then _ else (gI m4 136 4 (nI n)).bind fun (x14 : Int32) => Option.bind ((if x14 = (nI 0) then (D171 m4 (nI n)).bind fun (x16 : Int32) => some x16 else (gI m4 136 4 (nI n)).bind fun (x17 : Int32) => some x17) : Option (Int32)) fun (v15 : Int32) => (sI m4 135 4 (nI n) v15).bind fun (m18 : dM) => Option.bind ((if bI (anyN (chs f (it f k)) n) = (nI 0) then (gI m18 135 4 (nI n)).bind fun (x20 : Int32) => (gI m18 136 4 (nI n)).bind fun (x21 : Int32) => if x20 = x21 then some (nI 0) else some (nI 1) else some (nI 1)) : Option (Int32)) fun (v19 : Int32) => some (Sum.inl (v19, nI n + (nI 1), m18))) = _
              rw [e0, gI_n hn (by omega), ho4 n hn]
              have y : (if it f k n = nI 0 then (D171 m4 (nI n)).bind fun (x16 : Int32) => some x16 else some (it f k n)) = some (it f (k + 1) n) := by
                show _ = some (rd f (it f k) n)
                unfold rd
                by_cases w : it f k n = nI 0
                · rw [if_pos w, if_pos ⟨hn, w⟩, d171 hf4 V (fun b _ h => it_0 k h) ho4 hn w]
                  rfl
                · rw [if_neg w, if_neg (fun z => w z.2)]
              show Option.bind (if it f k n = nI 0 then (D171 m4 (nI n)).bind fun (x16 : Int32) => some x16 else some (it f k n)) _ = _
              rw [y]
              show Option.bind (sI m4 135 4 (nI n) (it f (k + 1) n)) _ = _
              rw [sI_n hn (by omega)]
              show Option.bind (if bI (anyN (chs f (it f k)) n) = nI 0 then (gI (wI m4 135 n (it f (k + 1) n)) 135 4 (nI n)).bind fun (x20 : Int32) => (gI (wI m4 135 n (it f (k + 1) n)) 136 4 (nI n)).bind fun (x21 : Int32) => if x20 = x21 then some (nI 0) else some (nI 1) else some (nI 1)) _ = _
              rw [orI (c := chs f (it f k) n) (fun _ => by
                rw [gI_n hn (by omega), gI_n hn (by omega), rI_ws, upd_s, rI_wn (by decide), ho4 n hn]
                show (if rd f (it f k) n = it f k n then some (nI 0) else some (nI 1)) = some (bI (decide (rd f (it f k) n ≠ it f k n)))
                by_cases w : rd f (it f k) n = it f k n
                · rw [if_pos w, decide_eq_false (fun z => z w)]; rfl
                · rw [if_neg w, decide_eq_true w]; rfl)]
              rfl
            · show rI (wI m4 135 n _) 135 j = _
              rw [rI_ws]
              by_cases e : j = n
              · rw [e, upd_s]
              · rw [upd_n e]
                exact r4 j (by omega)
          · rintro ⟨x, t, m4⟩ ⟨hx, ht, c4, r4⟩
            replace hx : x = bI (anyN (chs f (it f k)) 4) := hx
            replace ht : t = nI 4 := ht
            subst hx ht
            exact ⟨(bI (anyN (chs f (it f k)) 4), m4), rfl, rfl, c4, r4⟩
        · rintro n ⟨x, m3⟩ hn ⟨hx, c3, r3⟩
          replace hx : x = nI n := hx
          replace c3 : chg (fun b => b = 136) m2 m3 := c3
          replace r3 : ∀ j, j < n → rI m3 136 j = it f k j := r3
          subst hx
          refine .inl ⟨(nI n + nI 1, wI m3 136 n (it f k n)), ?_, nI_add n 1, chg.wI c3 rfl, fun j hj => ?_⟩
          · have e0 : ∀ A B : Option ((Int32 × dM) ⊕ dM), (if nI 4 ≤ nI n then A else B) = B := fun A B => if_neg (nI_ge hn (by omega))
            show (if nI 4 ≤ nI n then _ else Option.bind (gI m3 135 4 (nI n)) _) = _
            rw [e0, gI_n hn (by omega), c3.1 135 (by decide), r2 n hn]
            show Option.bind (sI m3 136 4 (nI n) (it f k n)) _ = _
            rw [sI_n hn (by omega)]
            rfl
          · show rI (wI m3 136 n _) 136 j = _
            rw [rI_ws]
            by_cases e : j = n
            · rw [e, upd_s]
            · rw [upd_n e]
              exact r3 j (by omega)
        · rintro ⟨x, m3⟩ ⟨hx, c3, r3⟩
          replace hx : x = nI 4 := hx
          subst hx
          exact ⟨m3, rfl, c3, r3⟩
      · replace hx : x = nI 0 := hx
        subst hx
        exact .inr ⟨m2, rfl, c2, r2⟩
    · rintro ⟨x, m2⟩ ⟨c2, h2⟩
      rcases h2 with ⟨hx, r2, hz⟩ | ⟨hx, r2⟩
      · omega
      · replace hx : x = nI 0 := hx
        subst hx
        exact ⟨m2, rfl, c2, r2⟩
  · rintro k ⟨x, m1⟩ hk ⟨hx, c1, r1⟩
    replace hx : x = nI k := hx
    replace c1 : chg (fun b => b = 135 ∨ b = 136) m m1 := c1
    replace r1 : ∀ j, j < k → rI m1 135 j = g0 f j := r1
    subst hx
    refine .inl ⟨(nI k + nI 1, wI m1 135 k (g0 f k)), ?_, nI_add k 1, chg.wI c1 (.inl rfl), fun j hj => ?_⟩
    · have e0 : ∀ A B : Option ((Int32 × dM) ⊕ dM), (if nI 4 ≤ nI k then A else B) = B := fun A B => if_neg (nI_ge hk (by omega))
      show (if nI 4 ≤ nI k then _ else Option.bind (D150 m1 (nI k) (nI 2)) _) = _
      rw [e0, d150 (hF m1 c1) hk (by omega)]
      have y : (if f (97 + 5 * k + 2) = -1 then some (nI 1) else some (nI 0)) = some (g0 f k) := by
        unfold g0
        split <;> rfl
      show Option.bind (if f (97 + 5 * k + 2) = -1 then some (nI 1) else some (nI 0)) _ = _
      rw [y]
      show Option.bind (sI m1 135 4 (nI k) (g0 f k)) _ = _
      rw [sI_n hk (by omega)]
      rfl
    · show rI (wI m1 135 k _) 135 j = _
      rw [rI_ws]
      by_cases e : j = k
      · rw [e, upd_s]
      · rw [upd_n e]
        exact r1 j (by omega)
  · rintro ⟨x, m1⟩ ⟨hx, c1, r1⟩
    replace hx : x = nI 4 := hx
    subst hx
    exact ⟨m1, rfl, c1, r1⟩
end FM
