/-! SOUNDNESS -/
set_option maxHeartbeats 4000000 in
theorem ax_sound (X : Nat × (Nat → Int32)) (l : Launch) (htr0 : l.stackTraces = false) : ∀ n, ax_Sound X l n := by
  intro n
  induction n with
  | zero =>
    intro d mi pc L S h o h' hr
    cases hr
  | succ n IH =>
    intro d mi pc L S h o h' hrun p e R s m args below meth c H locs cells slots Q A b D tA ad ls ad0 h0 c0 s0 C r hd hld hc1 hs1 ec es hag hend
    have hmono := ax_mono X _ _ _ _ _ _ _ hrun
    cases d with
    | zero => cases hrun
    | succ d' =>
    unfold ax_run at hrun
    have hrun' := hrun
    clear hrun
    cases hst : ax_step X mi (pc, L, S) h with
    | none => rw [hst] at hrun'; cases hrun'
    | some z =>
    rw [hst] at hrun'
    have hst' : (match ax_ins mi pc with | none => none | some i => ax_do X mi pc L S h i) = some z := hst
    cases hi : ax_ins mi pc with
    | none => rw [hi] at hst'; cases hst'
    | some i =>
    rw [hi] at hst'
    have hs : ax_do X mi pc L S h i = some z := hst'
    have key : ∀ (pc' : Nat) (L' : ax_L) (S' : List Value) (h2 : ax_H), z = .inl ((pc', L', S'), h2) → ax_K p l e R s m args below meth c Q mi A b D tA ad h cells slots pc' L' S' h2 := by
      intro pc' L' S' h2 hz
      subst hz
      have hr2 : ax_run X n (d' + 1) mi (pc', L', S') h2 = some (o, h') := hrun'
      intro ad' H' locs' ls' cells' slots' r' hag' e1 e2
      exact IH (d' + 1) mi pc' L' S' h2 o h' hr2 p e R s m args below meth c H' locs' cells' slots' Q A b D tA ad' ls' ad0 h0 c0 s0 C r' hd hld hc1 hs1 (by omega) (by omega) (hag.trans hag') hend
    have hrc : ∀ (f' : ax_F) (h2 : ax_H), z = .inl (f', h2) → cells + h2.1.2.1 ≤ R.cells + h.1.2.1 ∧ slots + h2.1.2.2 ≤ R.slots + h.1.2.2 := by
      intro f' h2 hz
      subst hz
      have hr2 : ax_run X n (d' + 1) mi f' h2 = some (o, h') := hrun'
      have := ax_mono X _ _ _ _ _ _ _ hr2
      omega
    have kret : ∀ (v : Option Value), z = .inr (.inl (.inl v, h)) → S = v.toList → ax_rk mi i v → (decode (ax_code mi) pc = .ok (i, 1)) → W p l e R s m args below meth c H locs cells slots Q (F0 m pc ls (S.map (ax_cv ad b))) := by
      intro v hz hS hk hdd
      subst hz
      have hr2 : some ((.inl v : ax_O), h) = some (o, h') := hrun'
      cases hr2
      have e1 : S.map (ax_cv ad b) = (v.map (ax_cv ad b)).toList := by rw [hS]; cases v <;> rfl
      rw [e1]
      exact hend.1 v rfl ad H locs ls cells slots pc i r.1 r.2.1 r.2.2.1 hag ec es hdd hk
    have kthr : ∀ {ix kx pl : Nat} (q : Nat × Nat × Bool), i = .new ix → ax_ncl (ax_own mi) ix = some (.inr kx, pl) → ax_thr mi pc = some (kx, q) → z = .inr (.inl (.inr kx, ((h.1.1, h.1.2.1 + 1, h.1.2.2 + 6), h.2))) → W p l e R s m args below meth c H locs cells slots Q (F0 m pc ls []) := by
      intro ix kx pl q hix e0 e1 hz
      subst hz
      subst hix
      have hr2 : (bif Nat.ble 6 (d' + 1) && (ax_hh mi).isEmpty then some ((.inr kx : ax_O), (((h.1.1, h.1.2.1 + 1, h.1.2.2 + 6), h.2) : ax_H)) else none) = some (o, h') := hrun'
      obtain ⟨q1, q2⟩ := ax_bifR hr2
      simp only [Bool.and_eq_true] at q1
      have hd6 := Nat.le_of_ble_eq_true q1.1
      cases q2
      obtain ⟨Qc, XC, mc, ms, hne, rfl, emc, ems, hXC⟩ := hend.2 kx rfl
      have emc' : mc + c0 = h.1.2.1 + 1 := emc
      have ems' : ms + s0 = h.1.2.2 + 6 := ems
      have hc1' : h.1.2.1 + 1 ≤ R.cells + c0 := hc1
      have hs1' : h.1.2.2 + 6 ≤ R.slots + s0 := hs1
      exact ax_throw C r hi e0 e1 (by omega) (by omega) q1.2 (by omega) (by omega) (by omega) (by omega) (fun t hP hF => hXC t ad hag hP r.2.1 hF)
    have kcall : ∀ (kd ix m2 pl : Nat) (vs rest : List Value), z = .inr (.inr (m2, vs, (pc + 3, L, rest))) → m2 < 118 → ax_kind kd (ax_own mi) ix m2 pl = true → kd ≠ 6 → kd ≠ 7 → S = vs.reverse ++ rest → vs.length = ax_na m2 → ax_rc h kd m2 vs = true → (rest.map fun v => v.category).sum ≤ 8 →
      (kd = 0 → decode (ax_code mi) pc = .ok (.invokevirtual ix, 3)) → (kd = 1 ∨ kd = 3 ∨ kd = 8 → decode (ax_code mi) pc = .ok (.invokestatic ix, 3)) → (kd = 2 ∨ kd = 4 → decode (ax_code mi) pc = .ok (.invokespecial ix, 3)) → W p l e R s m args below meth c H locs cells slots Q (F0 m pc ls (S.map (ax_cv ad b))) := by
      intro kd ix m2 pl vs rest hz hm2 hk h6 h7 hS hlen hrcv hsum hd0 hd1 hd2
      subst hz
      have hr2 : (bif Nat.ble (ax_fl vs).length (ax_maxL m2) then
          (match ax_run X n d' m2 (0, ax_ent m2 vs, []) h with
           | none => none
           | some (.inl v, h2) => bif Nat.beq h2.1.1 h.1.1 || ax_clF h.1.1 L rest then ax_run X n (d' + 1) mi (pc + 3, L, v.toList ++ rest) h2 else none
           | some (.inr k, h2) => bif (ax_hh mi).isEmpty then some ((.inr k : ax_O), h2) else
              (match ax_catchIn mi pc k (ax_hh mi) with
               | none => none
               | some (pc2, j) => bif ax_has L j && Nat.beq h2.1.1 h.1.1 then ax_run X n (d' + 1) mi (pc2, ax_set (ax_kill L j) j none, []) h2 else none))
          else none) = some (o, h') := hrun'
      obtain ⟨q1, q2⟩ := ax_bifR hr2
      have hfl := Nat.le_of_ble_eq_true q1
      cases hcal : ax_run X n d' m2 (0, ax_ent m2 vs, []) h with
      | none => rw [hcal] at q2; cases q2
      | some res =>
      obtain ⟨o2, h2⟩ := res
      rw [hcal] at q2
      have hmc := ax_mono X _ _ _ _ _ _ _ hcal
      have hinl : (ax_hh m2).isEmpty = false → ∃ v, o2 = .inl v := by
        intro hf
        cases o2 with
        | inl v => exact ⟨v, rfl⟩
        | inr k =>
          have := ax_inl X _ _ _ _ _ _ _ hcal
          rw [hf] at this
          cases this
      have hle : h2.1.2.1 ≤ h'.1.2.1 ∧ h2.1.2.2 ≤ h'.1.2.2 := by
        cases o2 with
        | inl v =>
          obtain ⟨-, q3⟩ := ax_bifR (x := ax_run X n (d' + 1) mi (pc + 3, L, v.toList ++ rest) h2) q2
          exact ax_mono X _ _ _ _ _ _ _ q3
        | inr k =>
          have q3 : (bif (ax_hh mi).isEmpty then some ((.inr k : ax_O), h2) else
              (match ax_catchIn mi pc k (ax_hh mi) with
               | none => none
               | some (pc2, j) => bif ax_has L j && Nat.beq h2.1.1 h.1.1 then ax_run X n (d' + 1) mi (pc2, ax_set (ax_kill L j) j none, []) h2 else none)) = some (o, h') := q2
          cases hq : (ax_hh mi).isEmpty with
          | true => rw [hq] at q3; cases q3; exact ⟨Nat.le_refl _, Nat.le_refl _⟩
          | false =>
            rw [hq] at q3
            simp only [cond_false] at q3
            split at q3
            · cases q3
            · obtain ⟨-, q4⟩ := ax_bifR q3
              exact ax_mono X _ _ _ _ _ _ _ q4
      have M := ax_met_of (X := X) (b := b) (D := D) (tA := tA) (ad := ad) (sz := H.size) IH htr0 hcal hfl hm2 hmc.1 hmc.2
      have hvx := ax_runK (e := e) (R := R) (below := below) (locs := locs) (cells := cells) (slots := slots) (args := args) C r hm2 hk h6 h7 M hinl hS hlen hrcv hsum hd0 hd1 hd2 hd hld ⟨by omega, by omega⟩
      refine ax_callX C r hvx (fun v ad' H1 locs1 ho hP1 hD1 hS1 hag1 => ?_) (fun k ad' H1 locs1 q ce ho hP1 hD1 hS1 hag1 hq hcv hcl => ?_)
      · subst ho
        have q3 : (bif Nat.beq h2.1.1 h.1.1 || ax_clF h.1.1 L rest then ax_run X n (d' + 1) mi (pc + 3, L, v.toList ++ rest) h2 else none) = some (o, h') := q2
        obtain ⟨q4, q5⟩ := ax_bifR q3
        have hmove : rest.map (ax_cv ad b) = rest.map (ax_cv ad' b) ∧ ax_lv ad' b ls (ax_maxL mi) L := by
          cases hb1 : Nat.beq h2.1.1 h.1.1 with
          | true =>
            have e1 := Nat.eq_of_beq_eq_true hb1
            have e2 : ad' = ad := by
              funext i
              rcases Nat.lt_or_ge i h.1.1 with z | z
              · exact hag1.2 i (Or.inl z)
              · exact hag1.2 i (Or.inr (by omega))
            rw [e2]
            exact ⟨rfl, r.2.2.2⟩
          | false =>
            rw [hb1, Bool.false_or] at q4
            simp only [ax_clF, Bool.and_eq_true] at q4
            exact ⟨(ax_map_cl (fun i hi => hag1.2 i (Or.inl hi)) q4.2).symm, r.2.2.2.ad_cl (fun i hi => hag1.2 i (Or.inl hi)) q4.1⟩
        have e3 : (v.map (ax_cv ad' b)).toList ++ rest.map (ax_cv ad b) = (v.toList ++ rest).map (ax_cv ad' b) := by
          rw [hmove.1, List.map_append]
          cases v <;> rfl
        rw [e3]
        exact IH (d' + 1) mi (pc + 3) L (v.toList ++ rest) h2 o h' q5 p e R s m args below meth c H1 locs1 _ _ Q A b D tA ad' ls ad0 h0 c0 s0 C ⟨hP1, hD1, hS1, hmove.2⟩ hd hld hc1 hs1 (by omega) (by omega) (hag.trans hag1) hend
      · subst ho
        have q3 : (bif (ax_hh mi).isEmpty then some ((.inr k : ax_O), h2) else
              (match ax_catchIn mi pc k (ax_hh mi) with
               | none => none
               | some (pc2, j) => bif ax_has L j && Nat.beq h2.1.1 h.1.1 then ax_run X n (d' + 1) mi (pc2, ax_set (ax_kill L j) j none, []) h2 else none)) = some (o, h') := q2
        cases hq0 : (ax_hh mi).isEmpty with
        | true =>
          rw [hq0] at q3
          cases q3
          obtain ⟨Qc, XC, mc, ms, hne, rfl, emc, ems, hXC⟩ := hend.2 k rfl
          have htab := C.2.2.2.2.2.2.2.1 hne
          rw [List.isEmpty_iff.mp hq0] at htab
          refine vx_out (E := ax_exc k) (ce := ce) (fun x hx => by rw [htab] at hx; cases hx) C.2.2.2.2.2.1 hq hcv hcl (fun t ht _ => hXC t ad' (hag.trans hag1) (by rw [ht]; exact hP1) hD1 (hS1.F ht)) hS1.2.2 (by omega) (by omega)
        | false =>
          exact absurd (show (ax_hh mi).isEmpty = true from rfl) (by rw [hq0]; decide)
    cases i with
    | aload a0 => exact ax_s_aload C r hi hs key
    | iload a0 => exact ax_s_iload C r hi hs key
    | lload a0 => exact ax_s_lload C r hi hs key
    | dload a0 => exact ax_s_dload C r hi hs key
    | aload_n a0 => exact ax_s_aload_n C r hi hs key
    | iload_n a0 => exact ax_s_iload_n C r hi hs key
    | lload_n a0 => exact ax_s_lload_n C r hi hs key
    | fload_n a0 => exact ax_s_fload_n C r hi hs key
    | dload_n a0 => exact ax_s_dload_n C r hi hs key
    | istore a0 => exact ax_s_istore C r hi hs key
    | astore a0 => exact ax_s_astore C r hi hs key
    | lstore a0 => exact ax_s_lstore C r hi hs key
    | dstore a0 => exact ax_s_dstore C r hi hs key
    | istore_n a0 => exact ax_s_istore_n C r hi hs key
    | astore_n a0 => exact ax_s_astore_n C r hi hs key
    | fstore_n a0 => exact ax_s_fstore_n C r hi hs key
    | lstore_n a0 => exact ax_s_lstore_n C r hi hs key
    | dstore_n a0 => exact ax_s_dstore_n C r hi hs key
    | iinc a0 a1 => exact ax_s_iinc C r hi hs key
    | iconst a0 => exact ax_s_iconst C r hi hs key
    | bipush a0 => exact ax_s_bipush C r hi hs key
    | sipush a0 => exact ax_s_sipush C r hi hs key
    | lconst a0 => exact ax_s_lconst C r hi hs key
    | fconst a0 => exact ax_s_fconst C r hi hs key
    | dconst a0 => exact ax_s_dconst C r hi hs key
    | ldc a0 => exact ax_s_ldc C r hi hs key
    | ldc_w a0 => exact ax_s_ldc_w C r hi hs key
    | ldc2_w a0 => exact ax_s_ldc2_w C r hi hs key
    | iadd => exact ax_s_iadd C r hi hs key
    | isub => exact ax_s_isub C r hi hs key
    | imul => exact ax_s_imul C r hi hs key
    | iand => exact ax_s_iand C r hi hs key
    | ior => exact ax_s_ior C r hi hs key
    | ixor => exact ax_s_ixor C r hi hs key
    | ishl => exact ax_s_ishl C r hi hs key
    | ishr => exact ax_s_ishr C r hi hs key
    | ladd => exact ax_s_ladd C r hi hs key
    | lmul => exact ax_s_lmul C r hi hs key
    | lor => exact ax_s_lor C r hi hs key
    | lcmp => exact ax_s_lcmp C r hi hs key
    | lshl => exact ax_s_lshl C r hi hs key
    | i2l => exact ax_s_i2l C r hi hs key
    | idiv => exact ax_s_idiv C r hi hs key
    | irem => exact ax_s_irem C r hi hs key
    | i2f => exact ax_s_i2f C r hi hs key
    | i2d => exact ax_s_i2d C r hi hs key
    | l2d => exact ax_s_l2d C r hi hs key
    | f2i => exact ax_s_f2i C r hi hs key
    | d2l => exact ax_s_d2l C r hi hs key
    | f2d => exact ax_s_f2d C r hi hs key
    | fmul => exact ax_s_fmul C r hi hs key
    | fsub => exact ax_s_fsub C r hi hs key
    | fdiv => exact ax_s_fdiv C r hi hs key
    | dmul => exact ax_s_dmul C r hi hs key
    | dsub => exact ax_s_dsub C r hi hs key
    | ddiv => exact ax_s_ddiv C r hi hs key
    | fcmp a0 => exact ax_s_fcmp C r hi hs key
    | dcmp a0 => exact ax_s_dcmp C r hi hs key
    | dup => exact ax_s_dup C r hi hs key
    | pop => exact ax_s_pop C r hi hs key
    | dup2 => exact ax_s_dup2 C r hi hs key
    | goto a0 => exact ax_s_goto C r hi hs key
    | if_icmp a0 a1 => exact ax_s_if_icmp C r hi hs key
    | ifCond a0 a1 => exact ax_s_ifCond C r hi hs key
    | tableswitch a0 a1 a2 a3 => exact ax_s_tableswitch C r hi hs key
    | lookupswitch a0 a1 => exact ax_s_lookupswitch C r hi hs key
    | getfield a0 => exact ax_s_getfield C r hi hs key
    | putfield a0 => exact ax_s_putfield C r hi hs key
    | iaload => exact ax_s_iaload C r hi hs key
    | laload => exact ax_s_laload C r hi hs key
    | aaload => exact ax_s_aaload C r hi hs key
    | iastore => exact ax_s_iastore C r hi hs key
    | lastore => exact ax_s_lastore C r hi hs key
    | aastore => exact ax_s_aastore C r hi hs key
    | arraylength => exact ax_s_arraylength C r hi hs key
    | new ix => exact ax_s_new C r hi hs hrc (fun kx q {_} e0 e1 _ hz => kthr q rfl e0 e1 hz) key
    | newarray a0 => exact ax_s_newarray C r hi hs hrc key
    | anewarray a0 => exact ax_s_anewarray C r hi hs hrc key
    | invokevirtual ix => exact ax_s_call (op := 0) C r hs (by omega) (by omega) (fun _ => ax_decn hi 3 (fun _ => rfl)) (fun q => by cases q) (fun q => by cases q) key (fun kd m2 pl vs rest hz => kcall kd ix m2 pl vs rest hz)
    | invokestatic ix => exact ax_s_call (op := 1) C r hs (by omega) (by omega) (fun q => by cases q) (fun _ => ax_decn hi 3 (fun _ => rfl)) (fun q => by cases q) key (fun kd m2 pl vs rest hz => kcall kd ix m2 pl vs rest hz)
    | invokespecial ix => exact ax_s_call (op := 2) C r hs (by omega) (by omega) (fun q => by cases q) (fun q => by cases q) (fun _ => ax_decn hi 3 (fun _ => rfl)) key (fun kd m2 pl vs rest hz => kcall kd ix m2 pl vs rest hz)
    | ireturn => exact ax_s_ireturn hi hs kret
    | lreturn => exact ax_s_lreturn hi hs kret
    | freturn => exact ax_s_freturn hi hs kret
    | dreturn => exact ax_s_dreturn hi hs kret
    | return_ => exact ax_s_return_ hi hs kret
    | _ => exact nomatch (show (none : Option ax_S) = some z from hs)
