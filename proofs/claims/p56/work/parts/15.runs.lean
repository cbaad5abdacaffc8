/-! counts only grow; calls by their kinds -/
def ax_G (h : ax_H) : Option ax_S → Prop
  | some (.inl (_, h')) => h.1.2.1 ≤ h'.1.2.1 ∧ h.1.2.2 ≤ h'.1.2.2
  | some (.inr (.inl (_, h'))) => h.1.2.1 ≤ h'.1.2.1 ∧ h.1.2.2 ≤ h'.1.2.2
  | _ => True
section AXG
variable {h : ax_H} {pc : Nat} {L : ax_L} {S : List Value} {X : Nat × (Nat → Int32)} {mi : Nat}
theorem ax_G_nx : ax_G h (ax_nx pc L S h) := ⟨Nat.le_refl _, Nat.le_refl _⟩
theorem ax_G_up {a : Nat} {c : ax_C} : ax_G h (ax_nx pc L S (ax_up h a c)) := ⟨Nat.le_refl _, Nat.le_refl _⟩
theorem ax_G_push {c : ax_C} {k : Nat} : ax_G h (ax_nx pc L S (ax_push h c k)) := ⟨Nat.le_succ _, Nat.le_add_right _ _⟩
theorem ax_G_none : ax_G h none := trivial
theorem ax_G_bif {b : Bool} {x y : Option ax_S} (hx : ax_G h x) (hy : ax_G h y) : ax_G h (bif b then x else y) := by cases b with | true => exact hx | false => exact hy
theorem ax_G_s1 {i : Nat} {v : Value} : ax_G h (ax_s1 pc L i v S h) := ax_G_bif ax_G_nx ax_G_none
theorem ax_G_s2 {i : Nat} {v : Value} : ax_G h (ax_s2 pc L i v S h) := ax_G_bif ax_G_nx ax_G_none
theorem ax_G_end {o : ax_O} : ax_G h (some (.inr (.inl (o, h)))) := ⟨Nat.le_refl _, Nat.le_refl _⟩
theorem ax_G_call {q : Nat × List Value × ax_F} : ax_G h (some (.inr (.inr q))) := trivial
theorem ax_G_thr {o : ax_O} : ax_G h (some (.inr (.inl (o, ((h.1.1, h.1.2.1 + 1, h.1.2.2 + 6), h.2))))) := ⟨Nat.le_succ _, Nat.le_add_right _ _⟩
theorem ax_G_if {cnd : ClassFile.Cond} {x y : Int32} {off : Int} : ax_G h (ax_if cnd x y pc off L S h) := by
  unfold ax_if
  split
  · exact ax_G_none
  · split <;> exact ax_G_bif ax_G_nx ax_G_nx
theorem ax_G_ret {v : Value} : ax_G h (ax_ret1 mi v h) := by
  unfold ax_ret1
  split
  · exact ax_G_none
  · exact ax_G_bif ax_G_end ax_G_none
theorem ax_G_cpy : ax_G h (ax_cpy L pc h S) := by
  unfold ax_cpy
  repeat' first | exact ax_G_none | exact ax_G_bif ax_G_up ax_G_none | split
theorem ax_G_inv {op ix : Nat} : ax_G h (ax_call mi pc L S h op ix) := by
  unfold ax_call
  repeat' first | exact ax_G_none | exact ax_G_nx | exact ax_G_cpy | exact ax_G_call | refine ax_G_bif ?_ ?_ | split
set_option maxHeartbeats 4000000 in
theorem ax_G_do (i : Instr) : ax_G h (ax_do X mi pc L S h i) := by
  cases i <;> first
    | exact ax_G_none
    | exact ax_G_inv
    | (simp only [ax_do]; repeat' first | exact ax_G_none | exact ax_G_nx | exact ax_G_s1 | exact ax_G_s2 | exact ax_G_if | exact ax_G_ret | exact ax_G_up | exact ax_G_push | exact ax_G_end | exact ax_G_thr | refine ax_G_bif ?_ ?_ | split)
theorem ax_G_step {f : ax_F} : ax_G h (ax_step X mi f h) := by
  unfold ax_step
  split
  · exact ax_G_none
  · exact ax_G_do _
end AXG
theorem ax_mono (X : Nat × (Nat → Int32)) : ∀ (n d mi : Nat) (f : ax_F) (h : ax_H) (o : ax_O) (h' : ax_H), ax_run X n d mi f h = some (o, h') → h.1.2.1 ≤ h'.1.2.1 ∧ h.1.2.2 ≤ h'.1.2.2
  | 0, _, _, _, _, _, _, hr => by cases hr
  | _ + 1, 0, _, _, _, _, _, hr => by cases hr
  | n + 1, d + 1, mi, f, h, o, h', hr => by
    have g := ax_G_step (X := X) (mi := mi) (f := f) (h := h)
    unfold ax_run at hr
    split at hr
    · cases hr
    · rename_i f1 h1 e
      rw [e] at g
      have ih := ax_mono X n _ mi f1 h1 o h' hr
      exact ⟨Nat.le_trans g.1 ih.1, Nat.le_trans g.2 ih.2⟩
    · rename_i v h1 e
      rw [e] at g
      cases hr
      exact g
    · rename_i k h1 e
      rw [e] at g
      obtain ⟨-, q⟩ := ax_bifR hr
      cases q
      exact g
    · rename_i m2 vs f1 e
      · obtain ⟨-, hr⟩ := ax_bifR hr
        split at hr
        · cases hr
        · rename_i v h1 e1
          obtain ⟨-, hr⟩ := ax_bifR hr
          have a1 := ax_mono X n _ _ _ _ _ _ e1
          have a2 := ax_mono X n _ _ _ _ _ _ hr
          exact ⟨Nat.le_trans a1.1 a2.1, Nat.le_trans a1.2 a2.2⟩
        · rename_i k h1 e1
          have a1 := ax_mono X n _ _ _ _ _ _ e1
          cases hq : (ax_hh mi).isEmpty with
          | true =>
            rw [hq] at hr
            cases hr
            exact a1
          | false =>
            rw [hq] at hr
            simp only [cond_false] at hr
            split at hr
            · cases hr
            · obtain ⟨-, hr⟩ := ax_bifR hr
              have a2 := ax_mono X n _ _ _ _ _ _ hr
              exact ⟨Nat.le_trans a1.1 a2.1, Nat.le_trans a1.2 a2.2⟩
theorem ax_inl (X : Nat × (Nat → Int32)) : ∀ (n d mi : Nat) (f : ax_F) (h : ax_H) (k : Nat) (h' : ax_H), ax_run X n d mi f h = some (.inr k, h') → (ax_hh mi).isEmpty = true
  | 0, _, _, _, _, _, _, hr => by cases hr
  | _ + 1, 0, _, _, _, _, _, hr => by cases hr
  | n + 1, d + 1, mi, f, h, k, h', hr => by
    unfold ax_run at hr
    split at hr
    · cases hr
    · exact ax_inl X n _ mi _ _ k h' hr
    · cases hr
    · obtain ⟨q, -⟩ := ax_bifR hr
      simp only [Bool.and_eq_true] at q
      exact q.2
    · · obtain ⟨-, hr⟩ := ax_bifR hr
        split at hr
        · cases hr
        · obtain ⟨-, hr⟩ := ax_bifR hr
          exact ax_inl X n _ mi _ _ k h' hr
        · cases hq : (ax_hh mi).isEmpty with
          | true => rfl
          | false =>
            rw [hq] at hr
            simp only [cond_false] at hr
            split at hr
            · cases hr
            · obtain ⟨-, hr⟩ := ax_bifR hr
              rw [← hq]
              exact ax_inl X n _ mi _ _ k h' hr
def ax_T : Option ax_S → Prop
  | some (.inr (.inl (.inr k, _))) => k < 3
  | _ => True
section AXT2
variable {h : ax_H} {pc : Nat} {L : ax_L} {S : List Value} {X : Nat × (Nat → Int32)} {mi : Nat}
theorem ax_T_nx {h : ax_H} : ax_T (ax_nx pc L S h) := trivial
theorem ax_T_bif {b : Bool} {x y : Option ax_S} (hx : ax_T x) (hy : ax_T y) : ax_T (bif b then x else y) := by cases b with | true => exact hx | false => exact hy
theorem ax_T_if {cnd : ClassFile.Cond} {x y : Int32} {off : Int} : ax_T (ax_if cnd x y pc off L S h) := by
  unfold ax_if
  split
  · exact trivial
  · split <;> exact ax_T_bif ax_T_nx ax_T_nx
theorem ax_T_ret {v : Value} : ax_T (ax_ret1 mi v h) := by
  unfold ax_ret1
  split
  · exact trivial
  · exact ax_T_bif trivial trivial
theorem ax_T_cpy : ax_T (ax_cpy L pc h S) := by
  unfold ax_cpy
  repeat' first | exact ax_T_nx | exact (trivial : ax_T none) | refine ax_T_bif ?_ ?_ | split
theorem ax_T_call {q : Nat × List Value × ax_F} : ax_T (some (.inr (.inr q))) := trivial
theorem ax_T_none : ax_T none := trivial
theorem ax_T_end {v : Option Value} : ax_T (some (.inr (.inl (.inl v, h)))) := trivial
theorem ax_T_inv {op ix : Nat} : ax_T (ax_call mi pc L S h op ix) := by
  unfold ax_call
  repeat' first | exact ax_T_none | exact ax_T_nx | exact ax_T_cpy | exact ax_T_call | refine ax_T_bif ?_ ?_ | split
theorem ax_T_s1 {i : Nat} {v : Value} : ax_T (ax_s1 pc L i v S h) := ax_T_bif ax_T_nx ax_T_none
theorem ax_T_s2 {i : Nat} {v : Value} : ax_T (ax_s2 pc L i v S h) := ax_T_bif ax_T_nx ax_T_none
theorem ax_T_thr {o ix k pl : Nat} {h1 : ax_H} (e : ax_ncl o ix = some (.inr k, pl)) : ax_T (some (.inr (.inl (.inr k, h1)))) := (ax_ncl_ex e).1
set_option maxHeartbeats 4000000 in
theorem ax_T_do (i : Instr) : ax_T (ax_do X mi pc L S h i) := by
  cases i <;> first
    | exact ax_T_none
    | exact ax_T_inv
    | (simp only [ax_do]; repeat' first | exact ax_T_none | exact ax_T_nx | exact ax_T_s1 | exact ax_T_s2 | exact ax_T_if | exact ax_T_ret | exact ax_T_end | exact ax_T_thr (by assumption) | refine ax_T_bif ?_ ?_ | split)
theorem ax_T_step {f : ax_F} : ax_T (ax_step X mi f h) := by
  unfold ax_step
  split
  · exact ax_T_none
  · exact ax_T_do _
end AXT2
theorem ax_exlt (X : Nat × (Nat → Int32)) : ∀ (n d mi : Nat) (f : ax_F) (h : ax_H) (k : Nat) (h' : ax_H), ax_run X n d mi f h = some (.inr k, h') → k < 3
  | 0, _, _, _, _, _, _, hr => by cases hr
  | _ + 1, 0, _, _, _, _, _, hr => by cases hr
  | n + 1, d + 1, mi, f, h, k, h', hr => by
    have g := ax_T_step (X := X) (mi := mi) (f := f) (h := h)
    unfold ax_run at hr
    split at hr
    · cases hr
    · exact ax_exlt X n _ mi _ _ k h' hr
    · cases hr
    · rename_i k1 h1 e
      obtain ⟨-, q⟩ := ax_bifR hr
      cases q
      rw [e] at g
      exact g
    · obtain ⟨-, hr⟩ := ax_bifR hr
      split at hr
      · cases hr
      · obtain ⟨-, hr⟩ := ax_bifR hr
        exact ax_exlt X n _ mi _ _ k h' hr
      · rename_i k1 h1 e1
        have a1 := ax_exlt X n _ _ _ _ _ _ e1
        cases hq : (ax_hh mi).isEmpty with
        | true =>
          rw [hq] at hr
          cases hr
          exact a1
        | false =>
          rw [hq] at hr
          simp only [cond_false] at hr
          split at hr
          · cases hr
          · obtain ⟨-, hr⟩ := ax_bifR hr
            exact ax_exlt X n _ mi _ _ k h' hr
theorem ax_kinds {kd o ix m2 pl : Nat} (h : ax_kind kd o ix m2 pl = true) : kd = 0 ∨ kd = 1 ∨ kd = 2 ∨ kd = 3 ∨ kd = 4 ∨ kd = 6 ∨ kd = 7 ∨ kd = 8 := by
  have nb : ∀ a : Nat, kd ≠ a → Nat.beq kd a = false := fun a q => by
    cases hz : Nat.beq kd a with
    | false => rfl
    | true => exact absurd (Nat.eq_of_beq_eq_true hz) q
  by_cases q0 : kd = 0
  · omega
  by_cases q1 : kd = 1
  · omega
  by_cases q2 : kd = 2
  · omega
  by_cases q3 : kd = 3
  · omega
  by_cases q4 : kd = 4
  · omega
  by_cases q6 : kd = 6
  · omega
  by_cases q7 : kd = 7
  · omega
  by_cases q8 : kd = 8
  · omega
  · simp [ax_kind, nb _ q0, nb _ q1, nb _ q2, nb _ q3, nb _ q4, nb _ q6, nb _ q7, nb _ q8] at h
section AXR
variable {p : Program} {l : Launch} {e : Env} {R : Room} {s : State} {m : MethodId} {args : Array Value} {below : List Frame} {meth : Method} {c : Code} {H : Heap} {locs : List Loc} {cells slots : Nat} {Q : State → Prop}
variable {z : ax_S} {mi mc ms : Nat} {A : Nat → Prop} {X : Nat × (Nat → Int32)} {b : Nat} {D : va_G} {tA : Nat → ClassId} {ad : Nat → Nat} {ls : Array Slot} {L : ax_L} {S rest vs : List Value} {h h' : ax_H} {pc : Nat} {o : ax_O}
theorem ax_toMet {y : MethodName} {ws : List Cond} {rm : Room} {Pc : Array Value → State → Prop} {h0 : ax_H} {A : Nat → Prop} {v : Option Value} (M : vx_Met l y ws rm Pc (ax_Qc tA ad b D A h0 h' (.inl v)) (ax_XC tA ad b D A h0 h' (.inl v)) mc ms A) : Met l y ws rm Pc (ax_Qc tA ad b D A h0 h' (.inl v)) mc ms A := by
  intro p e x1 x2 x3 s m args below x4 x5 x6 x7
  obtain ⟨n, oc, y1, y2, y3, y4⟩ := M p e x1 x2 x3 s m args below x4 x5 x6 x7
  refine ⟨n, oc, y1, y2, y3, ?_⟩
  rcases y4 with y4 | ⟨q, -, E, ce, L, ⟨k, ad', ho, -⟩, -⟩
  · exact y4
  · cases ho
theorem ax_runK {kd ix m2 pl d1 : Nat} (C : ax_Cx p l s m meth c mi A X b D tA) (r : ax_Rp tA ad b D A s (ax_maxL mi) h L H locs ls) (hm : m2 < 118) (hk : ax_kind kd (ax_own mi) ix m2 pl = true) (hk6 : kd ≠ 6) (hk7 : kd ≠ 7)
    (M : vx_Met l (ax_y m2) [ax_cw m2] { frames := d1, cells := mc, slots := ms, locals := 36 * d1 } (ax_Pc X tA ad b D h H.size vs) (ax_Qc tA ad b D (va_A (ax_wl tA ad b h) H.size) h h' o) (ax_XC tA ad b D (va_A (ax_wl tA ad b h) H.size) h h' o) mc ms (va_A (ax_wl tA ad b h) H.size))
    (hinl : (ax_hh m2).isEmpty = false → ∃ v, o = .inl v) (hS : S = vs.reverse ++ rest) (hlen : vs.length = ax_na m2) (hrc : ax_rc h kd m2 vs = true) (hsum : (rest.map fun v => v.category).sum ≤ 8)
    (hd0 : kd = 0 → decode (ax_code mi) pc = .ok (.invokevirtual ix, 3)) (hd1 : kd = 1 ∨ kd = 3 ∨ kd = 8 → decode (ax_code mi) pc = .ok (.invokestatic ix, 3)) (hd2 : kd = 2 ∨ kd = 4 → decode (ax_code mi) pc = .ok (.invokespecial ix, 3))
    (hfr : d1 + 1 ≤ R.frames) (hlo : 36 * (d1 + 1) ≤ R.locals) (hf : cells + mc ≤ R.cells ∧ slots + ms ≤ R.slots) :
    vx_Run p l e R s m args below meth c H locs cells slots mc ms (F0 m pc ls (S.map (ax_cv ad b))) (rest.map (ax_cv ad b)) (ax_Qc tA ad b D (va_A (ax_wl tA ad b h) H.size) h h' o (vs.map (ax_cv ad b)).toArray) (ax_XC tA ad b D (va_A (ax_wl tA ad b h) H.size) h h' o) (va_A (ax_wl tA ad b h) H.size) := by
  have hpre := ax_pre C r vs
  obtain ⟨hx, hb, hml, hown, hr, hlocks, hnm, htab, htr, E, hK, hA, hU, hN, hX⟩ := C
  obtain ⟨hP, hD, hS0, hl⟩ := r
  obtain ⟨g1, g2, g3, g4, g5, g6, g7⟩ := ax_mth hm
  have hcwI := ax_cw_In hm
  have hpar : ∀ sig, parseMethodDescriptor (ax_y m2).desc = some sig → ax_np m2 = sig.parameters.length := by
    intro sig hs
    rw [hs] at g4
    exact (Option.some.inj g4).symm
  have hws : ∀ w ∈ [ax_cw m2], ∀ (a' : Array Value) (U : State), s.WarmedH U.vm → w.before a' U = true := by
    intro w hw a' U hW
    cases List.mem_singleton.mp hw
    exact ax_word hcwI.2 hW (E.use hcwI (A := #[]))
  have hlo2 : 8 + (ax_maxL m2 + 11) + 36 * d1 ≤ R.locals := by omega
  have hcf : CallFix p m c (ax_code mi) (ax_maxL mi) s args ([] : List Cond) (ax_R (ax_own mi)) := ⟨hx, hb, hml, hown, fun w hw => by cases hw⟩
  have hroom : 2 * (F0 m pc ls (S.map (ax_cv ad b))).monitorRoom + ((rest.map (ax_cv ad b)).map fun v => v.category).sum ≤ 8 := lv_room (by rw [ax_sumc]; exact hsum)
  have hsz : (F0 m pc ls (S.map (ax_cv ad b))).locals.size = ax_maxL mi := hl.2.1
  have hst1 : (F0 m pc ls (S.map (ax_cv ad b))).stack = (vs.map (ax_cv ad b)).reverse ++ rest.map (ax_cv ad b) := by
    show S.map (ax_cv ad b) = _
    rw [hS, List.map_append, List.map_reverse]
  have tail : ∀ {kd : Nat}, (kd = 0 ∨ kd = 2 ∨ kd = 4) → ax_rc h kd m2 vs = true → ∃ (a : Nat) (vs' : List Value), vs = .ref a :: vs' := by
    intro kd hkd hrc
    unfold ax_rc at hrc
    split at hrc
    · exact ⟨_, _, rfl⟩
    · rcases hkd with rfl | rfl | rfl <;> cases hrc
  rcases ax_kinds hk with rfl | rfl | rfl | rfl | rfl | rfl | rfl | rfl
  · -- virtual
    obtain ⟨a, vs', rfl⟩ := tail (Or.inl rfl) hrc
    have hk' : (ax_wd pl (.methodLink (ax_R (ax_own mi)) ix (ax_y m2)) && ax_wd (ax_pl m2).2.2.1 (.instanceMethod (ax_y m2)) && ax_wd (ax_pl m2).2.2.2 (.selects (ax_y m2).cls (ax_y m2) (ax_y m2)) && (ax_hh m2).isEmpty && Nat.beq (ax_na m2) (ax_np m2 + 1)) = true := hk
    simp only [Bool.and_eq_true] at hk'
    obtain ⟨⟨⟨⟨a1, a2⟩, a3⟩, a4⟩, a5⟩ := hk'
    have hcw : ax_cw m2 = .code (ax_y m2) (ax_code m2) (ax_maxL m2) (ax_ret m2) := by rw [ax_cw, a4]; rfl
    have hrc' : (match ax_at h a with | some (.inr (ci, _)) => Nat.beq ci (ax_own m2) | _ => false) = true := hrc
    split at hrc'
    · rename_i ci fs e1
      have hci : ci = ax_own m2 := Nat.eq_of_beq_eq_true hrc'
      subst hci
      have hw := ax_wl_at (tA := tA) (ad := ad) (b := b) e1
      obtain ⟨q', hq', -⟩ := hP a _ hw
      have hci9 : ax_own m2 < 9 := by
        rcases Nat.lt_or_ge (ax_own m2) 9 with z | z
        · exact z
        · have h9 : ax_cl[ax_own m2]? = none := List.getElem?_eq_none z
          have hq2 : ax_cl[ax_own m2]? = some q' := hq'
          rw [h9] at hq2
          cases hq2
      have hcls : (ax_cr (ax_own m2)).1 = (ax_y m2).cls := by
        rcases g7 with z | z
        · omega
        · exact z
      have hrecv := va_recv hK hP (ax_cr_ok hci9) hw
      rw [hcls] at hrecv
      have hlen' : vs'.length + 1 = ax_np m2 + 1 := by rw [← Nat.eq_of_beq_eq_true a5, ← hlen]; rfl
      exact vx_runV hcf M (C := (ax_y m2).cls) (n := ax_np m2) (b := ad a) (As := vs'.map (ax_cv ad b)) (rest := rest.map (ax_cv ad b)) (ret := ax_ret m2) ⟨⟨rfl, rfl, hfr, hlo2, hws, by rw [hcw]; exact List.mem_cons_self, by rw [← hcw]; exact E.use hcwI, E.use g1, g3, hpar, E.use (ax_wd_in a1)⟩, E.use (ax_wd_in a2), E.use (ax_wd_in a3)⟩
        ⟨hpre.1, hrecv, hpre.2⟩ rfl (by rw [List.length_map]; omega) hsz (by rw [hst1]; show (Value.ref (ad a) :: vs'.map (ax_cv ad b)).reverse ++ _ = _; rw [List.reverse_cons, List.append_assoc]; rfl) hroom (hd0 rfl) hf
    · cases hrc'
  · -- static
    have hk' : (ax_wd pl (.methodLink (ax_R (ax_own mi)) ix (ax_y m2)) && ax_wd (ax_pl m2).2.2.1 (.static (ax_y m2)) && (ax_hh m2).isEmpty && Nat.beq (ax_na m2) (ax_np m2)) = true := hk
    simp only [Bool.and_eq_true] at hk'
    obtain ⟨⟨⟨a1, a2⟩, a4⟩, a5⟩ := hk'
    have hcw : ax_cw m2 = .code (ax_y m2) (ax_code m2) (ax_maxL m2) (ax_ret m2) := by rw [ax_cw, a4]; rfl
    exact vx_runS hcf M (n := ax_np m2) (As := vs.map (ax_cv ad b)) (rest := rest.map (ax_cv ad b)) (ret := ax_ret m2) ⟨⟨rfl, rfl, hfr, hlo2, hws, by rw [hcw]; exact List.mem_cons_self, by rw [← hcw]; exact E.use hcwI, E.use g1, g3, hpar, E.use (ax_wd_in a1)⟩, E.use (ax_wd_in a2)⟩
      hpre rfl (by rw [List.length_map, hlen]; exact Nat.eq_of_beq_eq_true a5) hsz hst1 hroom (hd1 (Or.inl rfl)) hf
  · -- a constructor
    obtain ⟨a, vs', rfl⟩ := tail (Or.inr (Or.inl rfl)) hrc
    have hk' : (ax_wd pl (.methodLink (ax_R (ax_own mi)) ix (ax_y m2)) && ax_wd (ax_pl m2).2.2.1 (.instanceMethod (ax_y m2)) && (ax_hh m2).isEmpty && decide ((ax_y m2).name = "<init>") && decide (ax_ret m2 = none) && Nat.beq (ax_na m2) (ax_np m2 + 1)) = true := hk
    simp only [Bool.and_eq_true, decide_eq_true_eq] at hk'
    obtain ⟨⟨⟨⟨⟨a1, a2⟩, a4⟩, a6⟩, a7⟩, a5⟩ := hk'
    have hcw : ax_cw m2 = .code (ax_y m2) (ax_code m2) (ax_maxL m2) none := by rw [ax_cw, a4, ← a7]; rfl
    have hlen' : vs'.length + 1 = ax_np m2 + 1 := by rw [← Nat.eq_of_beq_eq_true a5, ← hlen]; rfl
    exact vx_runI hcf M (n := ax_np m2) (b := ad a) (As := vs'.map (ax_cv ad b)) (rest := rest.map (ax_cv ad b)) ⟨⟨rfl, rfl, hfr, hlo2, hws, by rw [hcw]; exact List.mem_cons_self, by rw [← hcw]; exact E.use hcwI, E.use g1, g3, hpar, E.use (ax_wd_in a1)⟩, a6, E.use (ax_wd_in a2)⟩
      hpre rfl (by rw [List.length_map]; omega) hsz (by rw [hst1]; show (Value.ref (ad a) :: vs'.map (ax_cv ad b)).reverse ++ _ = _; rw [List.reverse_cons, List.append_assoc]; rfl) hroom (hd2 (Or.inl rfl)) hf
  · -- a nest mate's static
    have hk' : (ax_wd pl (.methodLinkNest (ax_R (ax_own mi)) ix (ax_y m2) "CourierClash") && ax_wd (ax_pl m2).2.2.1 (.static (ax_y m2)) && (ax_hh m2).isEmpty && Nat.beq (ax_na m2) (ax_np m2)) = true := hk
    simp only [Bool.and_eq_true] at hk'
    obtain ⟨⟨⟨a1, a2⟩, a4⟩, a5⟩ := hk'
    have hcw : ax_cw m2 = .code (ax_y m2) (ax_code m2) (ax_maxL m2) (ax_ret m2) := by rw [ax_cw, a4]; rfl
    exact vx_runSN hcf M (host := "CourierClash") (n := ax_np m2) (As := vs.map (ax_cv ad b)) (rest := rest.map (ax_cv ad b)) (ret := ax_ret m2) ⟨⟨⟨rfl, rfl, hfr, hlo2, hws, by rw [hcw]; exact List.mem_cons_self⟩, by rw [← hcw]; exact E.use hcwI, E.use g1, g3, hpar, E.use (ax_wd_in a1)⟩, E.use (ax_wd_in a2), trivial⟩
      hpre rfl (by rw [List.length_map, hlen]; exact Nat.eq_of_beq_eq_true a5) hsz hst1 hroom (hd1 (Or.inr (Or.inl rfl))) hf
  · -- a nest mate's constructor
    obtain ⟨a, vs', rfl⟩ := tail (Or.inr (Or.inr rfl)) hrc
    have hk' : (ax_wd pl (.methodLinkNest (ax_R (ax_own mi)) ix (ax_y m2) "CourierClash") && ax_wd (ax_pl m2).2.2.1 (.instanceMethod (ax_y m2)) && (ax_hh m2).isEmpty && decide ((ax_y m2).name = "<init>") && decide (ax_ret m2 = none) && Nat.beq (ax_na m2) (ax_np m2 + 1)) = true := hk
    simp only [Bool.and_eq_true, decide_eq_true_eq] at hk'
    obtain ⟨⟨⟨⟨⟨a1, a2⟩, a4⟩, a6⟩, a7⟩, a5⟩ := hk'
    have hcw : ax_cw m2 = .code (ax_y m2) (ax_code m2) (ax_maxL m2) none := by rw [ax_cw, a4, ← a7]; rfl
    have hlen' : vs'.length + 1 = ax_np m2 + 1 := by rw [← Nat.eq_of_beq_eq_true a5, ← hlen]; rfl
    exact vx_runIN hcf M (host := "CourierClash") (n := ax_np m2) (b := ad a) (As := vs'.map (ax_cv ad b)) (rest := rest.map (ax_cv ad b)) ⟨⟨⟨rfl, rfl, hfr, hlo2, hws, by rw [hcw]; exact List.mem_cons_self⟩, by rw [← hcw]; exact E.use hcwI, E.use g1, g3, hpar, E.use (ax_wd_in a1)⟩, a6, E.use (ax_wd_in a2)⟩
      hpre rfl (by rw [List.length_map]; omega) hsz (by rw [hst1]; show (Value.ref (ad a) :: vs'.map (ax_cv ad b)).reverse ++ _ = _; rw [List.reverse_cons, List.append_assoc]; rfl) hroom (hd2 (Or.inr rfl)) hf
  · exact absurd rfl hk6
  · exact absurd rfl hk7
  · -- a static method with handlers
    have hk' : (ax_wd pl (.methodLink (ax_R (ax_own mi)) ix (ax_y m2)) && ax_wd (ax_pl m2).2.2.1 (.static (ax_y m2)) && !(ax_hh m2).isEmpty && Nat.beq (ax_na m2) (ax_np m2)) = true := hk
    simp only [Bool.and_eq_true, Bool.not_eq_true'] at hk'
    obtain ⟨⟨⟨a1, a2⟩, a4⟩, a5⟩ := hk'
    have hcw : ax_cw m2 = .codeWith (ax_y m2) (ax_code m2) (ax_maxL m2) (ax_ret m2) (ax_hh m2) := by rw [ax_cw, a4]; rfl
    obtain ⟨v, rfl⟩ := hinl a4
    have hrun := vx_runSW (e := e) (below := below) (meth := meth) (locs := locs) (H := H) hcf (ax_toMet M) (n := ax_np m2) (As := vs.map (ax_cv ad b)) (rest := rest.map (ax_cv ad b)) (ret := ax_ret m2) (hh := ax_hh m2) ⟨⟨rfl, rfl, hfr, hlo2, hws, by rw [hcw]; exact List.mem_cons_self⟩, by rw [← hcw]; exact E.use hcwI, E.use g1, g3, hpar, E.use (ax_wd_in a1), E.use (ax_wd_in a2)⟩
      hpre rfl (by rw [List.length_map, hlen]; exact Nat.eq_of_beq_eq_true a5) hsz hst1 hroom (hd1 (Or.inr (Or.inr rfl))) hf
    intro T hT X0
    exact Or.inl (hrun T hT X0)
end AXR
