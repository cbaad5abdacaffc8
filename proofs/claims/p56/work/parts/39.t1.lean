/-! A TURN, first: how the couriers move -/
def fd (f : Nat → Int32) : Nat → Int32
  | 0 => f 169
  | k + 1 => if fin f k = nI 0 ∨ fin f k = nI 1 then fd f k else fd f k + nI 1
/-- how many move -/
def mvn (f : Nat → Int32) : Nat → Int32
  | 0 => nI 0
  | k + 1 => if fin f k = nI 0 then mvn f k + nI 1 else mvn f k
theorem it_sm {f : Nat → Int32} : ∀ n c, sm (it f n c) 6
  | 0, c => by
    show sm (g0 f c) 6
    unfold g0
    split
    · exact sm_nI (by omega)
    · exact sm_nI (by omega)
  | n + 1, c => by
    show sm (rd f (it f n) c) 6
    unfold rd
    split
    · exact sm_nI (by have := fl_le f (it f n) c; omega)
    · exact it_sm n c
theorem fin_sm (f : Nat → Int32) (c : Nat) : sm (fin f c) 6 := it_sm 4 c
theorem fin_g {f : Nat → Int32} {c : Nat} (h : fin f c = nI 0) : g0 f c = nI 0 := it_0 4 h
theorem fin_le {f : Nat → Int32} {c : Nat} : (fin f c ≤ nI 1) = (fin f c = nI 0 ∨ fin f c = nI 1) := by
  obtain ⟨j, h, e⟩ := fin_sm f c
  rw [e, nI_leI (by omega) (by omega), nI_eq (by omega) (by omega), nI_eq (by omega) (by omega)]
  exact propext ⟨fun _ => by omega, fun _ => by omega⟩
/-- the reference's row behind so many couriers of the first loop -/
theorem ite_k {c k : Nat} (h : c ≠ k) : (c < k + 1) = (c < k) := propext ⟨fun _ => by omega, fun _ => by omega⟩
section T1
variable {m : dM} {f : Nat → Int32}
theorem upd_e {f : Nat → Int32} {k j : Nat} {x : Int32} : upd f k x j = if j = k then x else f j := rfl
/-- the class's rows behind so many couriers of the first loop -/
def L1 (f : Nat → Int32) (m : dM) (k : Nat) : Prop := rI m 1 8 = fd f k ∧ ∀ c, c < 4 → rI m 6 c = (if c < k ∧ fin f c = nI 0 then eT f c else f (97 + 5 * c + 0)) ∧ rI m 7 c = (if c < k then -1 else f (97 + 5 * c + 2)) ∧ rI m 8 c = (if c < k ∧ fin f c = nI 0 then f (97 + 5 * c + 3) + nI 1 else f (97 + 5 * c + 3)) ∧ rI m 9 c = (if c < k then fin f c else f (97 + 5 * c + 4))
def S1 (b : Nat) : Prop := b = 1 ∨ (6 ≤ b ∧ b ≤ 9)
theorem t1c (R : RC m 1 f) {m1 : dM} (c0 : chg (fun b => 37 ≤ b ∧ b ≤ 41) m m1) (hfa : ∀ b, b < 4 → rI m1 40 b = fin f b ∧ rI m1 38 b = eC f b) : ∃ r, lp (β := Int32 × dM) 3000 (fun (s2 : Int32 × Int32 × dM) => if (nI 4) ≤ s2.2.1 then some (.inr (s2.1, s2.2.2)) else (gI s2.2.2 40 4 s2.2.1).bind fun (x4 : Int32) => (sI s2.2.2 9 4 s2.2.1 x4).bind fun (m5 : dM) => (sI m5 7 4 s2.2.1 (-1)).bind fun (m6 : dM) => Option.bind ((if x4 = (nI 0) then (gI m6 38 4 s2.2.1).bind fun (x8 : Int32) => (sI m6 6 4 s2.2.1 x8).bind fun (m9 : dM) => (gI m9 8 4 s2.2.1).bind fun (x10 : Int32) => (sI m9 8 4 s2.2.1 (x10 + (nI 1))).bind fun (m11 : dM) => some (s2.1 + (nI 1), m11) else if x4 = (nI 1) then some (s2.1, m6) else (fI m6 1 8 ((rI m6 1 8) + (nI 1))).bind fun (m12 : dM) => some (s2.1, m12)) : Option (Int32 × dM)) fun (v7 : Int32 × dM) => some (.inl (v7.1, s2.2.1 + (nI 1), v7.2))) (nI 0, nI 0, m1) = some r ∧ (r.1 = mvn f 4 ∧ chg S1 m1 r.2 ∧ (∀ j, j ≠ 8 → rI r.2 1 j = rI m1 1 j) ∧ L1 f r.2 4) := by
  refine lp_inv (fun k (s : Int32 × Int32 × dM) => s.1 = mvn f k ∧ s.2.1 = nI k ∧ chg S1 m1 s.2.2 ∧ (∀ j, j ≠ 8 → rI s.2.2 1 j = rI m1 1 j) ∧ L1 f s.2.2 k) (fun (r : Int32 × dM) => r.1 = mvn f 4 ∧ chg S1 m1 r.2 ∧ (∀ j, j ≠ 8 → rI r.2 1 j = rI m1 1 j) ∧ L1 f r.2 4) 4 (by omega) ⟨rfl, rfl, chg.rf, fun _ _ => rfl, ?_⟩ ?_ ?_
  · have R1 : RC m1 1 f := R.ch c0 (fun b h1 h2 => by omega)
    refine ⟨R1.fl, fun c hc => ?_⟩
    show rI m1 6 c = _ ∧ rI m1 7 c = _ ∧ rI m1 8 c = _ ∧ rI m1 9 c = _
    rw [R1.at hc, R1.od hc, R1.mv hc, R1.oc hc]
    simp
  · rintro k ⟨x, t, m2⟩ hk ⟨hx, ht, c2, hj, h2, h3⟩
    replace hx : x = mvn f k := hx
    replace ht : t = nI k := ht
    replace c2 : chg S1 m1 m2 := c2
    replace hj : ∀ j, j ≠ 8 → rI m2 1 j = rI m1 1 j := hj
    replace h2 : rI m2 1 8 = fd f k := h2
    replace h3 : ∀ c, c < 4 → rI m2 6 c = (if c < k ∧ fin f c = nI 0 then eT f c else f (97 + 5 * c + 0)) ∧ rI m2 7 c = (if c < k then -1 else f (97 + 5 * c + 2)) ∧ rI m2 8 c = (if c < k ∧ fin f c = nI 0 then f (97 + 5 * c + 3) + nI 1 else f (97 + 5 * c + 3)) ∧ rI m2 9 c = (if c < k then fin f c else f (97 + 5 * c + 4)) := h3
    subst hx ht
    refine .inl ?_
    have e0 : ∀ A B : Option ((Int32 × Int32 × dM) ⊕ (Int32 × dM)), (if nI 4 ≤ nI k then A else B) = B := fun A B => if_neg (nI_ge hk (by omega))
    have n40 : ¬ S1 40 := by unfold S1; omega
    have n38 : ¬ S1 38 := by unfold S1; omega
    have s9 : S1 9 := by unfold S1; omega
    have s7 : S1 7 := by unfold S1; omega
    have s6 : S1 6 := by unfold S1; omega
    have s8 : S1 8 := by unfold S1; omega
    have s1 : S1 1 := by unfold S1; omega
    have ef : rI m2 40 k = fin f k := by rw [c2.1 40 n40, (hfa k hk).1]
    show ∃ s', (if nI 4 ≤ nI k then _ else Option.bind (gI m2 40 4 (nI k)) _) = _ ∧ _
    rw [e0, gI_n hk (by omega), ef]
    show ∃ s', Option.bind (sI m2 9 4 (nI k) (fin f k)) _ = _ ∧ _
    rw [sI_n hk (by omega)]
    show ∃ s', Option.bind (sI (wI m2 9 k (fin f k)) 7 4 (nI k) (-1)) _ = _ ∧ _
    rw [sI_n hk (by omega)]
    show ∃ s', Option.bind (if fin f k = nI 0 then Option.bind (gI (wI (wI m2 9 k (fin f k)) 7 k (-1)) 38 4 (nI k)) _ else if fin f k = nI 1 then _ else Option.bind (fI (wI (wI m2 9 k (fin f k)) 7 k (-1)) 1 8 _) _) _ = _ ∧ _
    by_cases q : fin f k = nI 0
    · have ee : rI (wI (wI m2 9 k (fin f k)) 7 k (-1)) 38 k = eT f k := by
        rw [rI_wn (by decide), rI_wn (by decide), c2.1 38 n38, (hfa k hk).2]
        unfold eC
        rw [if_pos (fin_g q)]
      rw [if_pos q, gI_n hk (by omega), ee]
      show ∃ s', Option.bind (Option.bind (sI (wI (wI m2 9 k (fin f k)) 7 k (-1)) 6 4 (nI k) (eT f k)) _) _ = _ ∧ _
      rw [sI_n hk (by omega)]
      show ∃ s', Option.bind (Option.bind (gI (wI (wI (wI m2 9 k (fin f k)) 7 k (-1)) 6 k (eT f k)) 8 4 (nI k)) _) _ = _ ∧ _
      rw [gI_n hk (by omega), rI_wn (by decide), rI_wn (by decide), rI_wn (by decide), (h3 k hk).2.2.1, if_neg (by omega)]
      show ∃ s', Option.bind (Option.bind (sI (wI (wI (wI m2 9 k (fin f k)) 7 k (-1)) 6 k (eT f k)) 8 4 (nI k) (f (97 + 5 * k + 3) + nI 1)) _) _ = _ ∧ _
      rw [sI_n hk (by omega)]
      refine ⟨(mvn f k + nI 1, nI k + nI 1, wI (wI (wI (wI m2 9 k (fin f k)) 7 k (-1)) 6 k (eT f k)) 8 k (f (97 + 5 * k + 3) + nI 1)), rfl, ?_, nI_add k 1, chg.wI (chg.wI (chg.wI (chg.wI c2 s9) s7) s6) s8, fun j h => ?_, ?_, fun c hc => ?_⟩
      · show mvn f k + nI 1 = (if fin f k = nI 0 then mvn f k + nI 1 else mvn f k)
        rw [if_pos q]
      · show rI (wI (wI (wI (wI m2 9 k (fin f k)) 7 k (-1)) 6 k (eT f k)) 8 k (f (97 + 5 * k + 3) + nI 1)) 1 j = _
        rw [rI_wn (by decide), rI_wn (by decide), rI_wn (by decide), rI_wn (by decide), hj j h]
      · show rI (wI (wI (wI (wI m2 9 k (fin f k)) 7 k (-1)) 6 k (eT f k)) 8 k (f (97 + 5 * k + 3) + nI 1)) 1 8 = if fin f k = nI 0 ∨ fin f k = nI 1 then fd f k else fd f k + nI 1
        rw [rI_wn (by decide), rI_wn (by decide), rI_wn (by decide), rI_wn (by decide), h2, if_pos (.inl q)]
      · show rI (wI (wI (wI (wI m2 9 k (fin f k)) 7 k (-1)) 6 k (eT f k)) 8 k (f (97 + 5 * k + 3) + nI 1)) 6 c = _ ∧ rI (wI (wI (wI (wI m2 9 k (fin f k)) 7 k (-1)) 6 k (eT f k)) 8 k (f (97 + 5 * k + 3) + nI 1)) 7 c = _ ∧ rI (wI (wI (wI (wI m2 9 k (fin f k)) 7 k (-1)) 6 k (eT f k)) 8 k (f (97 + 5 * k + 3) + nI 1)) 8 c = _ ∧ rI (wI (wI (wI (wI m2 9 k (fin f k)) 7 k (-1)) 6 k (eT f k)) 8 k (f (97 + 5 * k + 3) + nI 1)) 9 c = _
        obtain ⟨z0, z1, z2, z3⟩ := h3 c hc
        rw [rI_wn (show (6 : Nat) ≠ 8 by decide), rI_ws, rI_wn (show (6 : Nat) ≠ 7 by decide), rI_wn (show (6 : Nat) ≠ 9 by decide), rI_wn (show (7 : Nat) ≠ 8 by decide), rI_wn (show (7 : Nat) ≠ 6 by decide), rI_ws, rI_wn (show (7 : Nat) ≠ 9 by decide), rI_ws, rI_wn (show (8 : Nat) ≠ 6 by decide), rI_wn (show (8 : Nat) ≠ 7 by decide), rI_wn (show (8 : Nat) ≠ 9 by decide), rI_wn (show (9 : Nat) ≠ 8 by decide), rI_wn (show (9 : Nat) ≠ 6 by decide), rI_wn (show (9 : Nat) ≠ 7 by decide), rI_ws]
        by_cases e : c = k
        · subst e
          rw [upd_s, upd_s, upd_s, upd_s, if_pos ⟨by omega, q⟩, if_pos (by omega), if_pos ⟨by omega, q⟩, if_pos (by omega)]
          exact ⟨rfl, rfl, rfl, rfl⟩
        · simp only [ite_k e, upd_n e]
          exact ⟨z0, z1, z2, z3⟩
    · rw [if_neg q]
      have y : ∃ m3, (if fin f k = nI 1 then some (mvn f k, wI (wI m2 9 k (fin f k)) 7 k (-1)) else Option.bind (fI (wI (wI m2 9 k (fin f k)) 7 k (-1)) 1 8 (rI (wI (wI m2 9 k (fin f k)) 7 k (-1)) 1 8 + nI 1)) fun (m12 : dM) => some (mvn f k, m12)) = some (mvn f k, m3) ∧ chg S1 m1 m3 ∧ (∀ j, j ≠ 8 → rI m3 1 j = rI m1 1 j) ∧ rI m3 1 8 = fd f (k + 1) ∧ ∀ b, b ≠ 1 → rI m3 b = rI (wI (wI m2 9 k (fin f k)) 7 k (-1)) b := by
        have hfd : fd f (k + 1) = if fin f k = nI 0 ∨ fin f k = nI 1 then fd f k else fd f k + nI 1 := rfl
        by_cases w : fin f k = nI 1
        · refine ⟨_, if_pos w, chg.wI (chg.wI c2 s9) s7, fun j h => ?_, ?_, fun _ _ => rfl⟩
          · rw [rI_wn (by decide), rI_wn (by decide), hj j h]
          · rw [rI_wn (by decide), rI_wn (by decide), h2, hfd, if_pos (.inr w)]
        · refine ⟨wI (wI (wI m2 9 k (fin f k)) 7 k (-1)) 1 8 (rI (wI (wI m2 9 k (fin f k)) 7 k (-1)) 1 8 + nI 1), by rw [if_neg w]; rfl, chg.wI (chg.wI (chg.wI c2 s9) s7) s1, fun j h => ?_, ?_, fun b hb => rI_wn hb⟩
          · rw [rI_ws, upd_n h, rI_wn (by decide), rI_wn (by decide), hj j h]
          · rw [rI_ws, upd_s, rI_wn (by decide), rI_wn (by decide), h2, hfd, if_neg (fun z => z.elim q w)]
      obtain ⟨m3, e3, c3, j3, f3, b3⟩ := y
      show ∃ s', Option.bind (if fin f k = nI 1 then some (mvn f k, wI (wI m2 9 k (fin f k)) 7 k (-1)) else Option.bind (fI (wI (wI m2 9 k (fin f k)) 7 k (-1)) 1 8 (rI (wI (wI m2 9 k (fin f k)) 7 k (-1)) 1 8 + nI 1)) fun (m12 : dM) => some (mvn f k, m12)) _ = _ ∧ _
      rw [e3]
      refine ⟨(mvn f k, nI k + nI 1, m3), rfl, ?_, nI_add k 1, c3, j3, f3, fun c hc => ?_⟩
      · show mvn f k = (if fin f k = nI 0 then mvn f k + nI 1 else mvn f k)
        rw [if_neg q]
      · show rI m3 6 c = _ ∧ rI m3 7 c = _ ∧ rI m3 8 c = _ ∧ rI m3 9 c = _
        obtain ⟨z0, z1, z2, z3⟩ := h3 c hc
        rw [b3 6 (by decide), b3 7 (by decide), b3 8 (by decide), b3 9 (by decide), rI_wn (show (6 : Nat) ≠ 7 by decide), rI_wn (show (6 : Nat) ≠ 9 by decide), rI_ws, rI_wn (show (7 : Nat) ≠ 9 by decide), rI_wn (show (8 : Nat) ≠ 7 by decide), rI_wn (show (8 : Nat) ≠ 9 by decide), rI_wn (show (9 : Nat) ≠ 7 by decide), rI_ws]
        by_cases e : c = k
        · subst e
          rw [upd_s, upd_s, if_neg (fun z => q z.2), if_pos (by omega), if_neg (fun z => q z.2), if_pos (by omega), z0, z2, if_neg (fun z => q z.2), if_neg (fun z => q z.2)]
          exact ⟨rfl, rfl, rfl, rfl⟩
        · simp only [ite_k e, upd_n e]
          exact ⟨z0, z1, z2, z3⟩
  · rintro ⟨x, t, m2⟩ ⟨hx, ht, c2, hj, h2⟩
    replace hx : x = mvn f 4 := hx
    replace ht : t = nI 4 := ht
    subst ht
    refine ⟨(x, m2), ?_, hx, c2, hj, h2⟩
    show (if nI 4 ≤ nI 4 then _ else _) = _
    rw [if_pos (nI_le (Nat.le_refl 4) (by omega))]
end T1
