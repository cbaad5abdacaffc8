/-! THE ABSTRACT MACHINE IS THE MACHINE'S: every run -/
section AXH
variable {p : Program} {l : Launch} {e : Env} {R : Room} {s : State} {m : MethodId} {args : Array Value} {below : List Frame} {meth : Method} {c : Code} {H : Heap} {locs : List Loc} {cells slots : Nat} {Q : State → Prop}
variable {z : ax_S} {mi mc ms : Nat} {A : Nat → Prop} {X : Nat × (Nat → Int32)} {b : Nat} {D : va_G} {tA : Nat → ClassId} {ad : Nat → Nat} {ls : Array Slot} {L : ax_L} {S rest vs : List Value} {h h' : ax_H} {pc pc2 j k : Nat} {o : ax_O}
theorem ax_bled (a b : Nat) : Nat.ble a b = decide (a ≤ b) := by
  cases h : Nat.ble a b with
  | true => exact (decide_eq_true (Nat.le_of_ble_eq_true h)).symm
  | false => exact (decide_eq_false (fun q => by rw [Nat.ble_eq_true_of_le q] at h; cases h)).symm
theorem ax_castable {k : Nat} (h : k < 3) : ax_In (.castable (ax_exc k) (ax_exc k)) := by
  have h3 : (List.range 3).all (fun k => ax_mem (.castable (ax_exc k) (ax_exc k))) = true := by decide +kernel
  exact ax_mem_in (ax_allr h3 h)
theorem ax_s_call {op ix : Nat} (C : ax_Cx p l s m meth c mi A X b D tA) (r : ax_Rp tA ad b D A s (ax_maxL mi) h L H locs ls) (hs : ax_call mi pc L S h op ix = some z) (hfr : 1 ≤ R.frames) (hlo : 36 ≤ R.locals)
    (hd0 : op = 0 → decode (ax_code mi) pc = .ok (.invokevirtual ix, 3)) (hd1 : op = 1 → decode (ax_code mi) pc = .ok (.invokestatic ix, 3)) (hd2 : op = 2 → decode (ax_code mi) pc = .ok (.invokespecial ix, 3))
    (k : ∀ (pc' : Nat) (L' : ax_L) (S' : List Value) (h' : ax_H), z = .inl ((pc', L', S'), h') → ax_K p l e R s m args below meth c Q mi A b D tA ad h cells slots pc' L' S' h')
    (kc : ∀ (kd m2 pl : Nat) (vs rest : List Value), z = .inr (.inr (m2, vs, (pc + 3, L, rest))) → m2 < 118 → ax_kind kd (ax_own mi) ix m2 pl = true → kd ≠ 6 → kd ≠ 7 → S = vs.reverse ++ rest → vs.length = ax_na m2 → ax_rc h kd m2 vs = true → (rest.map fun v => v.category).sum ≤ 8 →
      (kd = 0 → decode (ax_code mi) pc = .ok (.invokevirtual ix, 3)) → (kd = 1 ∨ kd = 3 ∨ kd = 8 → decode (ax_code mi) pc = .ok (.invokestatic ix, 3)) → (kd = 2 ∨ kd = 4 → decode (ax_code mi) pc = .ok (.invokespecial ix, 3)) → W p l e R s m args below meth c H locs cells slots Q (F0 m pc ls (S.map (ax_cv ad b)))) :
    W p l e R s m args below meth c H locs cells slots Q (F0 m pc ls (S.map (ax_cv ad b))) := by
  obtain ⟨hx, hb, hml, hown, hr, hlocks, hnm, htab, htr, E, hK, hA, hU, hN, hX⟩ := id C
  obtain ⟨hP, hD, hS, hl⟩ := id r
  unfold ax_call at hs
  split at hs
  · cases hs
  rename_i kd m2 pl e0
  obtain ⟨hm, hk⟩ := ax_inv_ok e0
  have hsz : ls.size = c.maxLocals := by rw [hml]; exact hl.2.1
  cases h6 : Nat.beq kd 6 with
  | true =>
    rw [h6] at hs
    simp only [cond_true] at hs
    cases Nat.eq_of_beq_eq_true h6
    obtain ⟨q1, hs⟩ := ax_bifR hs
    cases Nat.eq_of_beq_eq_true q1
    split at hs
    · rename_i a S0 hs9
      obtain ⟨q2, hs2⟩ := ax_bifR (x := ax_nx (pc + 3) L S0 h) hs
      cases hs2
      have hk' : ax_wd pl (.methodLink (ax_R (ax_own mi)) ix objectInit) = true := hk
      have hsum := Nat.le_of_ble_eq_true q2
      have hroom : 2 * (F0 m pc ls ((.ref a :: S0 : List Value).map (ax_cv ad b))).monitorRoom + ((S0.map (ax_cv ad b)).map fun v => v.category).sum ≤ 8 := lv_room (by rw [ax_sumc]; exact hsum)
      refine W.objInit hx hb hown (E.use (ax_wd_in hk')) (E.use ax_oi1) (E.use ax_oi2) (g := F0 m pc ls ((.ref a :: S0 : List Value).map (ax_cv ad b))) rfl hsz (a := ad a) (rest := S0.map (ax_cv ad b)) rfl (hd2 rfl) hfr (by omega) ?_
      exact (k _ _ _ _ rfl).go r
    · cases hs
  | false =>
  rw [h6] at hs
  simp only [cond_false] at hs
  cases h7 : Nat.beq kd 7 with
  | true =>
    rw [h7] at hs
    simp only [cond_true] at hs
    cases Nat.eq_of_beq_eq_true h7
    obtain ⟨q1, hs⟩ := ax_bifR hs
    cases Nat.eq_of_beq_eq_true q1
    have hk' : ax_wd pl (.methodLink (ax_R (ax_own mi)) ix arraycopyName) = true := hk
    have hlo' : ∀ S0 : List Value, (S0.map fun v => v.category).sum ≤ 8 → ((S0.map (ax_cv ad b)).map fun v => v.category).sum + (nativeFrameWords "java/lang/System" "arraycopy" 5 + 11) ≤ R.locals := by
      intro S0 h0
      rw [ax_sumc]
      have : nativeFrameWords "java/lang/System" "arraycopy" 5 + 11 ≤ 28 := by decide +kernel
      omega
    unfold ax_cpy at hs
    split at hs
    · rename_i n0 dp b0 sp a0 S0 hs9
      split at hs
      · rename_i n1 f n2 g e1 e2
        obtain ⟨q1, hs2⟩ := ax_bifR (x := ax_nx _ _ _ _) hs
        cases hs2
        simp only [Bool.and_eq_true, decide_eq_true_eq] at q1
        obtain ⟨⟨⟨⟨⟨c1, c2⟩, c3⟩, c4⟩, c5⟩, c6⟩ := q1
        exact va_copyi (D := D) (tys := ax_tys tA) (ty := .int) hx hb hsz.symm hown (E.use (ax_wd_in hk')) (E.use ax_cp1) (E.use ax_cp2) (E.use ax_cp3) hK hP hD hS a0 b0 0 0 (ax_wl_at e1) (ax_wl_at e2) rfl rfl rfl (Int32.not_lt.mpr c1) (Int32.not_lt.mpr c2) (Int32.not_lt.mpr c3) (Nat.le_of_ble_eq_true c4) (Nat.le_of_ble_eq_true c5) (fun _ _ => rfl) hfr (hlo' S0 (Nat.le_of_ble_eq_true c6)) (hd1 rfl) (fun H1 locs1 hP1 hD1 hS1 => ax_K.ht e2 (k _ _ _ _ rfl) r hP1 hD1 hS1)
      · rename_i n1 f n2 g e1 e2
        obtain ⟨q1, hs2⟩ := ax_bifR (x := ax_nx _ _ _ _) hs
        cases hs2
        simp only [Bool.and_eq_true, decide_eq_true_eq] at q1
        obtain ⟨⟨⟨⟨⟨c1, c2⟩, c3⟩, c4⟩, c5⟩, c6⟩ := q1
        exact va_copyl (D := D) (tys := ax_tys tA) (ty := .long) hx hb hsz.symm hown (E.use (ax_wd_in hk')) (E.use ax_cp1) (E.use ax_cp2) (E.use ax_cp3) hK hP hD hS a0 b0 1 1 (ax_wl_at e1) (ax_wl_at e2) rfl rfl rfl (Int32.not_lt.mpr c1) (Int32.not_lt.mpr c2) (Int32.not_lt.mpr c3) (Nat.le_of_ble_eq_true c4) (Nat.le_of_ble_eq_true c5) (fun _ _ => rfl) hfr (hlo' S0 (Nat.le_of_ble_eq_true c6)) (hd1 rfl) (fun H1 locs1 hP1 hD1 hS1 => ax_K.ht e2 (k _ _ _ _ rfl) r hP1 hD1 hS1)
      · cases hs
    · cases hs
  | false =>
  rw [h7] at hs
  simp only [cond_false] at hs
  obtain ⟨q1, hs⟩ := ax_bifR hs
  split at hs
  · cases hs
  rename_i vs rest e1
  obtain ⟨q2, hs⟩ := ax_bifR hs
  cases hs
  simp only [Bool.and_eq_true] at q2
  obtain ⟨pre, t1, t2, t3⟩ := ax_take_ok e1
  rw [List.append_nil] at t3
  have n6 : kd ≠ 6 := by rintro rfl; cases h6
  have n7 : kd ≠ 7 := by rintro rfl; cases h7
  simp only [Bool.or_eq_true, Bool.and_eq_true] at q1
  have hop : (op = 0 ∧ (kd = 0 ∨ kd = 5)) ∨ (op = 1 ∧ (kd = 1 ∨ kd = 3 ∨ kd = 8)) ∨ (op = 2 ∧ (kd = 2 ∨ kd = 4)) := by
    rcases q1 with (⟨a1, a2⟩ | ⟨a1, a2⟩) | ⟨a1, a2⟩
    · exact Or.inl ⟨Nat.eq_of_beq_eq_true a1, a2.imp Nat.eq_of_beq_eq_true Nat.eq_of_beq_eq_true⟩
    · refine Or.inr (Or.inl ⟨Nat.eq_of_beq_eq_true a1, ?_⟩)
      rcases a2 with (a2 | a2) | a2
      · exact Or.inl (Nat.eq_of_beq_eq_true a2)
      · exact Or.inr (Or.inl (Nat.eq_of_beq_eq_true a2))
      · exact Or.inr (Or.inr (Nat.eq_of_beq_eq_true a2))
    · exact Or.inr (Or.inr ⟨Nat.eq_of_beq_eq_true a1, a2.imp Nat.eq_of_beq_eq_true Nat.eq_of_beq_eq_true⟩)
  exact kc kd m2 pl vs rest rfl hm hk n6 n7 (by rw [t3, List.reverse_reverse]; exact t1) (by rw [t3, List.length_reverse]; exact t2) q2.1 (Nat.le_of_ble_eq_true q2.2)
    (fun w => hd0 (by omega)) (fun w => hd1 (by omega)) (fun w => hd2 (by omega))
theorem ax_lv_clr {ls' : Array Slot} {nL : Nat} {w : Value} (hl : ax_lv ad b ls nL L) (hh : ax_has L j = true) (h' : lv_has ls' nL ((j, w) :: (ax_as ad b L).filter (fun q => !(q.1 == j) && !(q.1 + 1 == j && q.2.category == 2)))) : ax_lv ad b ls' nL (ax_set (ax_kill L j) j none) := by
  refine ⟨by rw [ax_set_len, ax_kill_len]; exact hl.1, h'.1, h'.2.1, fun i v hv => ?_⟩
  rw [ax_ld_set] at hv
  by_cases q : i = j
  · rw [if_pos q] at hv
    split at hv <;> cases hv
  · rw [if_neg q] at hv
    obtain ⟨h1, h2⟩ := ax_kill_ld hv
    refine h'.2.2 (i, ax_cv ad b v) (List.mem_cons_of_mem _ (List.mem_filter.mpr ⟨ax_as_mem h1, ?_⟩))
    show (!(i == j) && !(i + 1 == j && (ax_cv ad b v).category == 2)) = true
    rw [ax_cat]
    by_cases q2 : i + 1 = j
    · have hw : ax_wide (some v) = false := by
        cases hz : ax_wide (some v) with
        | false => rfl
        | true => exact absurd ⟨q2, hz⟩ h2
      simp [q, hw]
    · simp [q, q2]
theorem ax_s_ireturn {P : Prop} (hi : ax_ins mi pc = some .ireturn) (hs : ax_do X mi pc L S h .ireturn = some z) (kret : ∀ v : Option Value, z = .inr (.inl (.inl v, h)) → S = v.toList → ax_rk mi .ireturn v → decode (ax_code mi) pc = .ok (.ireturn, 1) → P) : P := by
  simp only [ax_do] at hs
  split at hs
  · rename_i v
    unfold ax_ret1 at hs
    split at hs
    · cases hs
    · rename_i ty e0
      obtain ⟨q1, q2⟩ := ax_bifR hs
      cases q2
      exact kret _ rfl rfl ⟨ty, e0, q1⟩ (ax_decn hi 1 (fun _ => rfl))
  · cases hs
theorem ax_s_lreturn {P : Prop} (hi : ax_ins mi pc = some .lreturn) (hs : ax_do X mi pc L S h .lreturn = some z) (kret : ∀ v : Option Value, z = .inr (.inl (.inl v, h)) → S = v.toList → ax_rk mi .lreturn v → decode (ax_code mi) pc = .ok (.lreturn, 1) → P) : P := by
  simp only [ax_do] at hs
  split at hs
  · rename_i v
    unfold ax_ret1 at hs
    split at hs
    · cases hs
    · rename_i ty e0
      obtain ⟨q1, q2⟩ := ax_bifR hs
      cases q2
      exact kret _ rfl rfl ⟨ty, e0, q1⟩ (ax_decn hi 1 (fun _ => rfl))
  · cases hs
theorem ax_s_freturn {P : Prop} (hi : ax_ins mi pc = some .freturn) (hs : ax_do X mi pc L S h .freturn = some z) (kret : ∀ v : Option Value, z = .inr (.inl (.inl v, h)) → S = v.toList → ax_rk mi .freturn v → decode (ax_code mi) pc = .ok (.freturn, 1) → P) : P := by
  simp only [ax_do] at hs
  split at hs
  · rename_i v
    unfold ax_ret1 at hs
    split at hs
    · cases hs
    · rename_i ty e0
      obtain ⟨q1, q2⟩ := ax_bifR hs
      cases q2
      exact kret _ rfl rfl ⟨ty, e0, q1⟩ (ax_decn hi 1 (fun _ => rfl))
  · cases hs
theorem ax_s_dreturn {P : Prop} (hi : ax_ins mi pc = some .dreturn) (hs : ax_do X mi pc L S h .dreturn = some z) (kret : ∀ v : Option Value, z = .inr (.inl (.inl v, h)) → S = v.toList → ax_rk mi .dreturn v → decode (ax_code mi) pc = .ok (.dreturn, 1) → P) : P := by
  simp only [ax_do] at hs
  split at hs
  · rename_i v
    unfold ax_ret1 at hs
    split at hs
    · cases hs
    · rename_i ty e0
      obtain ⟨q1, q2⟩ := ax_bifR hs
      cases q2
      exact kret _ rfl rfl ⟨ty, e0, q1⟩ (ax_decn hi 1 (fun _ => rfl))
  · cases hs
theorem ax_s_return_ {P : Prop} (hi : ax_ins mi pc = some .return_) (hs : ax_do X mi pc L S h .return_ = some z) (kret : ∀ v : Option Value, z = .inr (.inl (.inl v, h)) → S = v.toList → ax_rk mi .return_ v → decode (ax_code mi) pc = .ok (.return_, 1) → P) : P := by
  simp only [ax_do] at hs
  split at hs
  · rename_i e0
    cases hs
    exact kret none rfl rfl e0 (ax_decn hi 1 (fun _ => rfl))
  · cases hs
end AXH
