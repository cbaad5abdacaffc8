/-! THE CLAIM FROM A RUN OF THE LAW ON THE ABSTRACT MACHINE -/
def ax_h0 : ax_H := ((0, 0, 0), fun _ => .inl (0, (12, .inl fun _ => 0)))
def ax_Good : Prop := ∀ (L : Nat) (xs : Nat → Int32), L ≤ 260 → ∃ (n : Nat) (h' : ax_H), ax_run (L, xs) n 12 118 (0, ax_ent 118 [.retAddr 0], []) ax_h0 = some (.inl (some (.int 1)), h') ∧ h'.1.2.1 ≤ 600104 ∧ h'.1.2.2 ≤ 7301313
set_option maxRecDepth 100000 in
theorem ax_nar1 : ax_strs.all (fun q => decide (Cond.exactly (.string q.1 q.2.1) "java/lang/String" ∈ flatC (Jvm.Cond.and given_1 narrow_1))) = true := by decide +kernel
set_option maxRecDepth 100000 in
theorem ax_nar2 : ax_ncs.all (fun q => decide (Cond.not (.castable q.1 q.2) ∈ flatC (Jvm.Cond.and given_1 narrow_1))) = true := by decide +kernel
set_option maxRecDepth 100000 in
theorem ax_nar3 : (decide (Cond.isRef (.static Bundle.tN "UNASSIGNED_STACK" Bundle.steD) ∈ flatC (Jvm.Cond.and given_1 narrow_1)) && decide (Cond.isRef (.static Bundle.tN "SUPPRESSED_SENTINEL" Bundle.listD) ∈ flatC (Jvm.Cond.and given_1 narrow_1)) && decide (Cond.laysStatic Bundle.tN "UNASSIGNED_STACK" Bundle.steD ∈ lw_tbl) && decide (Cond.laysStatic Bundle.tN "SUPPRESSED_SENTINEL" Bundle.listD ∈ lw_tbl) && decide (Cond.initialized Bundle.tN ∈ lw_tbl) && decide (Cond.arrayOver (.object "CourierClash$State") ∈ lw_tbl)) = true := by decide +kernel
set_option maxRecDepth 100000 in
theorem ax_nar4 : ax_strs.all (fun q => decide (Cond.stringRef q.1 q.2.1 q.2.2 ∈ lw_tbl)) = true := by decide +kernel
theorem ax_cl_lt {c : Nat} {q : vw_C} (h : ax_cl[c]? = some q) : c < 9 ∧ q = ax_cr c := by
  have h1 : c < 9 := (List.getElem?_eq_some_iff.mp h).1
  exact ⟨h1, Option.some.inj (h.symm.trans (ax_cr_ok h1))⟩
theorem ax_rk_int {mi : Nat} {i : Instr} {x : Int32} (hk : ax_rk mi i (some (.int x))) : i = .ireturn := by
  cases i <;> first | rfl | exact (show False from hk).elim
set_option maxHeartbeats 4000000 in
theorem whole_of (G : ax_Good) {p : Program} {e : Env} {s : State} {m : MethodId} {below : List Frame} {meth : Method} {c : Code} (l : Launch) (hflags : l.flags = flags0) {b L : Nat} {xs : Nat → Int32} (hL : L ≤ 260) (C0 : lw_At p s m meth c b L xs) : W p l e room_1 s m #[Value.ref b] below meth c s.heap [] 0 0 (lw_Z below #[Value.ref b] s) (entryFrame m ([Value.ref b] : List Value).toArray 5) := by
  obtain ⟨hx, hb, hr, hml, hown, hts, hX, hbl, hlocks, hgv⟩ := id C0
  have htr : l.stackTraces = false := by
    rw [Launch.stackTraces, hflags]
    decide +kernel
  obtain ⟨n, h', hrun, hc, hs⟩ := G L xs hL
  have hnar := flat_of_before _ hgv
  have n3 := ax_nar3
  simp only [Bool.and_eq_true, decide_eq_true_eq] at n3
  obtain ⟨⟨⟨⟨⟨z1, z2⟩, z3⟩, z4⟩, z5⟩, z6⟩ := n3
  have hK1 : ∀ ci, ∃ q : ClassId × (Nat → Nat), ci < 9 → u_Kn s (ax_cr ci).1 (ax_cr ci).2.1 (ax_cr ci).2.2 q.1 q.2 := by
    intro ci
    by_cases h : ci < 9
    · obtain ⟨cC, iS, hk⟩ := u_known (C := (ax_cr ci).1) (T := (ax_cr ci).2.1) (N := (ax_cr ci).2.2) hts (fun w hw => ((ax_cls_ok h).2.2 w hw).1) (hts _ (ax_cls_ok h).1.1)
      exact ⟨(cC, iS), fun _ => hk⟩
    · exact ⟨(0, fun _ => 0), fun q => absurd q h⟩
  obtain ⟨cI, kI, pI, i1, i2, i3⟩ := Cond.arrayClass_spec (hts _ ax_ac1.1)
  obtain ⟨cJ, kJ, pJ, j1, j2, j3⟩ := Cond.arrayClass_spec (hts _ ax_ac2.1)
  have hAO : va_AO "CourierClash$State" s := va_AO.of (hts _ z6)
  obtain ⟨pS, cS, kS, s1, -, s3, s4, s5⟩ := Cond.arrayOver_spec hAO
  let D : va_G := (fun ci => (Classical.choose (hK1 ci)).1, fun ci => (Classical.choose (hK1 ci)).2)
  let tA : Nat → ClassId := fun t => if t = 0 then cI else if t = 1 then cJ else cS
  have hK : va_K D ax_cl (ax_tys tA) s := by
    refine ⟨fun ci q hq => ?_, fun k q hk => ?_⟩
    · obtain ⟨h1, rfl⟩ := ax_cl_lt hq
      exact Classical.choose_spec (hK1 ci) h1
    · match k, hk with
      | 0, hk => cases hk; exact ⟨fun n z => ⟨(fun k h => by cases h), kI, i2, pI, i3⟩, i1⟩
      | 1, hk => cases hk; exact ⟨fun n z => ⟨(fun k h => by cases h), kJ, j2, pJ, j3⟩, j1⟩
      | 2, hk => cases hk; exact ⟨fun n z => ⟨(fun k h => by cases h), kS, s3, pS, s4⟩, kS, pS, s3, s4, s1, s5⟩
      | k + 3, hk => simp [ax_tys] at hk
  have hE : ax_Env s := by
    refine ⟨fun w hw => ax_word hw.2 (State.WarmedH.refl s) (hts w hw.1), fun q hq => ?_, fun q hq => ?_, hAO⟩
    · have h1 := hnar _ (of_decide_eq_true (List.all_eq_true.mp ax_nar1 q hq))
      have h2 := hts _ (of_decide_eq_true (List.all_eq_true.mp ax_nar4 q hq))
      obtain ⟨a, cX, cell, k, g1, -⟩ := Cond.exactly_spec h1
      exact ⟨a, h2, g1⟩
    · exact va_Nc.of (hnar _ (of_decide_eq_true (List.all_eq_true.mp ax_nar2 q hq)))
  have hA : ∀ q : Nat, s.heap.size ≤ q → (fun q : Nat => s.heap.size ≤ q) q := fun _ h => h
  have hnA : ∀ a : Nat, a < s.heap.size → ¬ (fun q : Nat => s.heap.size ≤ q) a := fun a h q => absurd h (Nat.not_lt.mpr q)
  have C : ax_Cx p l s m meth c 118 (fun q : Nat => s.heap.size ≤ q) (L, xs) b D tA :=
    ⟨hx, hb, hml, hown, hr, hlocks, (fun h => by cases h), (fun h => absurd rfl h), htr, hE, hK, hA, vx_Zqof (hts _ z3) (hts _ z5) (hnar _ z1) hnA, vx_Zqof (hts _ z4) (hts _ z5) (hnar _ z2) hnA, ⟨hX, hbl, hnA b hbl⟩⟩
  have hP : va_P D ax_cl (ax_wl tA (fun i => i) b ax_h0) s.heap := fun k q h => by
    have h' : ([] : va_W)[k]? = some q := h
    simp at h'
  have hD : va_D (fun q : Nat => s.heap.size ≤ q) (ax_wl tA (fun i => i) b ax_h0) := ⟨fun i j p q h => by
    have h' : ([] : va_W)[i]? = some p := h
    simp at h', fun k q h => by
    have h' : ([] : va_W)[k]? = some q := h
    simp at h'⟩
  rw [lg_entry_eq]
  refine ax_sound (L, xs) l htr n 12 118 0 (ax_ent 118 [.retAddr 0]) [] ax_h0 (.inl (some (.int 1))) h' hrun p e room_1 s m #[Value.ref b] below meth c s.heap [] 0 0 (lw_Z below #[Value.ref b] s) (fun q : Nat => s.heap.size ≤ q) b D tA (fun i => i) _ (fun i => i) ax_h0 0 0 C ⟨hP, hD, va_S.rf, ax_entry (m2 := 118) (vs := [.retAddr 0]) (ad := fun i => i) (b := b) (by decide)⟩ (Nat.le_refl _) (show 36 * 12 ≤ 436 by omega) hc hs rfl rfl ax_ag.rf ?_
  refine ⟨fun v hv ad' H' locs' ls' cells' slots' pc' i hP' hD' hS' hag e1 e2 hdd hk => ?_, fun k hk => by cases hk⟩
  cases hv
  have hi : i = .ireturn := ax_rk_int hk
  subst hi
  refine va_forget (fun q hq => hS'.2.2 q hq) ?_
  refine W.widen (k := 600104) (n := 7301313) (by omega) (by omega) ?_
  exact W.base (lw_ret (Drawn.sameBut.refl s.drawn lw_cs) hx hb hr hlocks hdd)
