/-! calls: what a method's run on the abstract machine says of the machine, as a contract -/
def ax_cw (m : Nat) : Cond := bif (ax_hh m).isEmpty then .code (ax_y m) (ax_code m) (ax_maxL m) (ax_ret m) else .codeWith (ax_y m) (ax_code m) (ax_maxL m) (ax_ret m) (ax_hh m)
def ax_Pc (X : Nat × (Nat → Int32)) (tA : Nat → ClassId) (ad : Nat → Nat) (b : Nat) (D : va_G) (h : ax_H) (sz : Nat) (vs : List Value) : Array Value → State → Prop := va_Pc (vs.map (ax_cv ad b)) (fun U => U.heap.size = sz ∧ va_P D ax_cl (ax_wl tA ad b h) U.heap ∧ va_K D ax_cl (ax_tys tA) U ∧ va_D (fun _ => True) (ax_wl tA ad b h) ∧ ax_Env U ∧
  vx_Zq Bundle.tN "UNASSIGNED_STACK" Bundle.steD (va_A (ax_wl tA ad b h) sz) U U.heap ∧ vx_Zq Bundle.tN "SUPPRESSED_SENTINEL" Bundle.listD (va_A (ax_wl tA ad b h) sz) U U.heap ∧ va_X b X.1 X.2 U U.heap ∧ b < U.heap.size ∧ ¬ va_A (ax_wl tA ad b h) sz b)
/-- how the machine's heap is behind it -/
def ax_Bh (tA : Nat → ClassId) (ad : Nat → Nat) (b : Nat) (D : va_G) (A : Nat → Prop) (h h' : ax_H) (st t : State) (ad' : Nat → Nat) : Prop := ax_ag ad ad' h h' ∧ va_P D ax_cl (ax_wl tA ad' b h') t.heap ∧ va_D A (ax_wl tA ad' b h') ∧ va_F A st t
def ax_Qc (tA : Nat → ClassId) (ad : Nat → Nat) (b : Nat) (D : va_G) (A : Nat → Prop) (h h' : ax_H) (o : ax_O) : Array Value → State → Outcome → State → Prop := fun _ st oc t => ∃ (v : Option Value) (ad' : Nat → Nat), o = .inl v ∧ oc = .returned (v.map (ax_cv ad' b)) ∧ ax_Bh tA ad b D A h h' st t ad'
def ax_XC (tA : Nat → ClassId) (ad : Nat → Nat) (b : Nat) (D : va_G) (A : Nat → Prop) (h h' : ax_H) (o : ax_O) : String → State → State → Prop := fun E st t => ∃ (k : Nat) (ad' : Nat → Nat), o = .inr k ∧ E = ax_exc k ∧ ax_Bh tA ad b D A h h' st t ad'
theorem ax_Pc_blind {X : Nat × (Nat → Int32)} {tA : Nat → ClassId} {ad : Nat → Nat} {b : Nat} {D : va_G} {h : ax_H} {sz : Nat} {vs : List Value} : FrameBlind (ax_Pc X tA ad b D h sz vs) := by
  intro a U g mk ⟨q1, q2, q3, q4, q5, q6, q7, q8, q9, q10, q11⟩
  exact ⟨q1, q2, q3, va_K.moved (u := U) (U := U.calling g mk a) (Vm.Alike.refl U.vm) q4, q5, ax_Env.move (s := U) (U := U.calling g mk a) (State.WarmedH.refl U) q6,
    vx_Zq.moved (u := U) (U := U.calling g mk a) (Vm.Alike.refl U.vm) q7, vx_Zq.moved (u := U) (U := U.calling g mk a) (Vm.Alike.refl U.vm) q8, va_X.moved (u := U) (U := U.calling g mk a) (Vm.Alike.refl U.vm) q9, q10, q11⟩
theorem ax_cvc {ad : Nat → Nat} {b : Nat} (v : Value) : (ax_cv ad b v).category = v.category := by cases v <;> rfl
theorem ax_sumc {ad : Nat → Nat} {b : Nat} (S : List Value) : ((S.map (ax_cv ad b)).map fun v => v.category).sum = (S.map fun v => v.category).sum := by
  rw [List.map_map]
  congr 1
  apply List.map_congr_left
  intro v _
  exact ax_cvc v
theorem ax_take_ok : ∀ {n : Nat} {S acc args rest : List Value}, ax_take n S acc = some (args, rest) → ∃ pre : List Value, S = pre ++ rest ∧ pre.length = n ∧ args = pre.reverse ++ acc
  | 0, S, acc, args, rest, h => by cases h; exact ⟨[], rfl, rfl, rfl⟩
  | n + 1, [], acc, args, rest, h => by cases h
  | n + 1, v :: S, acc, args, rest, h => by
    obtain ⟨pre, h1, h2, h3⟩ := ax_take_ok (n := n) (S := S) (acc := v :: acc) h
    exact ⟨v :: pre, by rw [h1]; rfl, by simp [h2], by rw [h3]; simp⟩
theorem ax_mth {m : Nat} (h : m < 118) : ax_In (.initialized (ax_y m).cls) ∧ plainName (ax_y m).cls = true ∧ ((ax_y m).cls ≠ "java/lang/invoke/MethodHandle" ∧ (ax_y m).cls ≠ "java/lang/invoke/VarHandle") ∧ (parseMethodDescriptor (ax_y m).desc).map (fun d => d.parameters.length) = some (ax_np m) ∧ (ax_y m).cls = ax_R (ax_own m) ∧ ax_maxL m ≤ 17 ∧ (ax_own m = 9 ∨ (ax_cr (ax_own m)).1 = (ax_y m).cls) := by
  have h2 := ax_allr ax_mchk0 h
  simp only [ax_mchk, Bool.and_eq_true, Bool.or_eq_true, decide_eq_true_eq] at h2
  obtain ⟨⟨⟨⟨⟨⟨⟨⟨a1, a2⟩, a3⟩, a4⟩, a5⟩, a6⟩, a7⟩, a8⟩, a9⟩ := h2
  refine ⟨ax_wd_in a1, a2, ⟨a3, a4⟩, a5, a6, Nat.le_of_ble_eq_true a7, ?_⟩
  rcases a9 with z | z
  · exact Or.inl (Nat.eq_of_beq_eq_true z)
  · exact Or.inr z
section AXC
variable {p : Program} {l : Launch} {e : Env} {R : Room} {s : State} {m : MethodId} {args : Array Value} {below : List Frame} {meth : Method} {c : Code} {H : Heap} {locs : List Loc} {cells slots : Nat} {Q : State → Prop}
variable {mi mc ms : Nat} {A : Nat → Prop} {X : Nat × (Nat → Int32)} {b : Nat} {D : va_G} {tA : Nat → ClassId} {ad : Nat → Nat} {ls : Array Slot} {L : ax_L} {S rest : List Value} {h h' : ax_H} {pc : Nat} {o : ax_O} {a : Array Value}
theorem ax_pre (C : ax_Cx p l s m meth c mi A X b D tA) (r : ax_Rp tA ad b D A s (ax_maxL mi) h L H locs ls) (vs : List Value) : PreS s H (ax_Pc X tA ad b D h H.size vs) (vs.map (ax_cv ad b)) := by
  obtain ⟨hx, hb, hml, hown, hr, hlocks, hnm, htab, htr, E, hK, hA, hUz, hN, hX⟩ := C
  obtain ⟨hP, hD, hS, hl⟩ := r
  have hsub : ∀ q, va_A (ax_wl tA ad b h) H.size q → A q := by
    intro q hq
    rcases hq with ⟨k, e, hk⟩ | hq
    · exact hD.2 k (q, e) hk
    · exact hA q (Nat.le_trans hS.1 hq)
  refine ⟨ax_Pc_blind, fun U hU hW => ⟨rfl, by rw [hU], by rw [hU]; exact hP, va_K.moved hW.alike hK, hD.weaken (fun _ _ _ _ => trivial), E.move hW, ?_, ?_, ?_, ?_, fun z => hX.2.2 (hsub b z)⟩⟩
  · rw [hU]; exact ((hUz.kept hS.2.1).narrow hsub).moved hW.alike
  · rw [hU]; exact ((hN.kept hS.2.1).narrow hsub).moved hW.alike
  · rw [hU]; exact (hX.1.kept (hS.2.1 b hX.2.1 hX.2.2)).moved hW.alike
  · rw [hU]; exact Nat.lt_of_lt_of_le hX.2.1 hS.1
end AXC
section AXM
variable {p : Program} {l : Launch} {e : Env} {R : Room} {s : State} {m : MethodId} {args : Array Value} {below : List Frame} {meth : Method} {c : Code} {H : Heap} {locs : List Loc} {cells slots : Nat} {Q : State → Prop}
variable {mi mc ms : Nat} {A : Nat → Prop} {X : Nat × (Nat → Int32)} {b : Nat} {D : va_G} {tA : Nat → ClassId} {ad : Nat → Nat} {ls : Array Slot} {L : ax_L} {S rest st0 : List Value} {h h' : ax_H} {pc : Nat} {o : ax_O} {a : Array Value}
theorem ax_callX (C : ax_Cx p l s m meth c mi A X b D tA) (r : ax_Rp tA ad b D A s (ax_maxL mi) h L H locs ls)
    (hr : vx_Run p l e R s m args below meth c H locs cells slots mc ms (F0 m pc ls st0) (rest.map (ax_cv ad b)) (ax_Qc tA ad b D (va_A (ax_wl tA ad b h) H.size) h h' o a) (ax_XC tA ad b D (va_A (ax_wl tA ad b h) H.size) h h' o) (va_A (ax_wl tA ad b h) H.size))
    (kr : ∀ (v : Option Value) (ad' : Nat → Nat) (H1 : Heap) (locs1 : List Loc), o = .inl v → va_P D ax_cl (ax_wl tA ad' b h') H1 → va_D A (ax_wl tA ad' b h') → va_S A s.heap H1 locs1 → ax_ag ad ad' h h' → W p l e R s m args below meth c H1 locs1 (cells + mc) (slots + ms) Q (F0 m (pc + 3) ls ((v.map (ax_cv ad' b)).toList ++ rest.map (ax_cv ad b))))
    (kx : ∀ (k : Nat) (ad' : Nat → Nat) (H1 : Heap) (locs1 : List Loc) (q : Addr) (ce : Cell), o = .inr k → va_P D ax_cl (ax_wl tA ad' b h') H1 → va_D A (ax_wl tA ad' b h') → va_S A s.heap H1 locs1 → ax_ag ad ad' h h' → H1[q]? = some ce → ce.vm = .none → s.vm.findClass (ax_exc k) = some ce.cls → vx_W p l e R s m args below meth c H1 locs1 (cells + mc) (slots + ms) Q (F0 m pc ls (rest.map (ax_cv ad b))) q) :
    W p l e R s m args below meth c H locs cells slots Q (F0 m pc ls st0) := by
  obtain ⟨hx, hb, hml, hown, hr0, hlocks, hnm, htab, htr, E, hK, hA, hU, hN, hX⟩ := C
  obtain ⟨hP, hD, hS, hl⟩ := r
  have hsub : ∀ q, va_A (ax_wl tA ad b h) H.size q → A q := by
    intro q hq
    rcases hq with ⟨k, e, hk⟩ | hq
    · exact hD.2 k (q, e) hk
    · exact hA q (Nat.le_trans hS.1 hq)
  intro T hT X0
  rcases hr T hT X0 with ⟨v, st₀, t, T', L1, h0, X', hL, e1, e2, ⟨v1, ad', ho, hv, hag, hP1, hD1, hF⟩, st⟩ | ⟨q, st₀, t, T', L1, E1, ce, h0, X', hL, e1, e2, ⟨k, ad', ho, hE, hag, hP1, hD1, hF⟩, hce, hcv, hcl, st⟩
  · cases hv
    obtain ⟨k1, k2, k3⟩ := vx_keep h0 e1 hS (fun q _ z => hsub q z) hsub hL hF
    obtain ⟨t2, a1, b1⟩ := kr v1 ad' T'.heap (locs ++ L1) ho (by rw [e1]; exact hP1) (hD1.weaken (fun _ q _ z => hsub q.1 z)) k3 hag T' rfl X'
    exact ⟨t2, st t2 a1, b1⟩
  · subst hE
    obtain ⟨k1, k2, k3⟩ := vx_keep h0 e1 hS (fun q _ z => hsub q z) hsub hL hF
    obtain ⟨t2, a1, b1⟩ := kx k ad' T'.heap (locs ++ L1) q ce ho (by rw [e1]; exact hP1) (hD1.weaken (fun _ q _ z => hsub q.1 z)) k3 hag (by rw [e1]; exact hce) hcv hcl T' rfl X'
    exact ⟨t2, Steps.trans st a1, b1⟩
/-- which instruction returns what -/
def ax_rk (mi : Nat) : Instr → Option Value → Prop
  | .ireturn, some (.int x) => ∃ ty, ax_ret mi = some ty ∧ ax_fit ty (.int x) = true
  | .lreturn, some (.long x) => ∃ ty, ax_ret mi = some ty ∧ ax_fit ty (.long x) = true
  | .freturn, some (.float x) => ∃ ty, ax_ret mi = some ty ∧ ax_fit ty (.float x) = true
  | .dreturn, some (.double x) => ∃ ty, ax_ret mi = some ty ∧ ax_fit ty (.double x) = true
  | .return_, none => ax_ret mi = none
  | _, _ => False
/-- what is to be shown at the end of a run -/
def ax_End (p : Program) (l : Launch) (e : Env) (R : Room) (s : State) (m : MethodId) (args : Array Value) (below : List Frame) (meth : Method) (c : Code) (Q : State → Prop) (mi : Nat) (A : Nat → Prop) (b : Nat) (D : va_G) (tA : Nat → ClassId) (ad0 : Nat → Nat) (h0 : ax_H) (c0 s0 : Nat) (o : ax_O) (h' : ax_H) : Prop :=
  (∀ (v : Option Value), o = .inl v → ∀ (ad' : Nat → Nat) (H' : Heap) (locs' : List Loc) (ls' : Array Slot) (cells' slots' pc' : Nat) (i : Instr), va_P D ax_cl (ax_wl tA ad' b h') H' → va_D A (ax_wl tA ad' b h') → va_S A s.heap H' locs' → ax_ag ad0 ad' h0 h' → cells' + c0 = h'.1.2.1 → slots' + s0 = h'.1.2.2 → decode (ax_code mi) pc' = .ok (i, 1) → ax_rk mi i v →
    W p l e R s m args below meth c H' locs' cells' slots' Q (F0 m pc' ls' ((v.map (ax_cv ad' b)).toList))) ∧
  (∀ (k : Nat), o = .inr k → ∃ (Qc : Array Value → State → Outcome → State → Prop) (XC : String → State → State → Prop) (mc ms : Nat), mi ≠ ax_law ∧ Q = vx_MQ below Qc XC args s mc ms A ∧ mc + c0 = h'.1.2.1 ∧ ms + s0 = h'.1.2.2 ∧
    (∀ (t : State) (ad' : Nat → Nat), ax_ag ad0 ad' h0 h' → va_P D ax_cl (ax_wl tA ad' b h') t.heap → va_D A (ax_wl tA ad' b h') → va_F A s t → XC (ax_exc k) s t))
def ax_Sound (X : Nat × (Nat → Int32)) (l : Launch) (n : Nat) : Prop :=
  ∀ (d mi pc : Nat) (L : ax_L) (S : List Value) (h : ax_H) (o : ax_O) (h' : ax_H), ax_run X n d mi (pc, L, S) h = some (o, h') →
    ∀ (p : Program) (e : Env) (R : Room) (s : State) (m : MethodId) (args : Array Value) (below : List Frame) (meth : Method) (c : Code) (H : Heap) (locs : List Loc) (cells slots : Nat) (Q : State → Prop) (A : Nat → Prop) (b : Nat) (D : va_G) (tA : Nat → ClassId) (ad : Nat → Nat) (ls : Array Slot) (ad0 : Nat → Nat) (h0 : ax_H) (c0 s0 : Nat),
      ax_Cx p l s m meth c mi A X b D tA → ax_Rp tA ad b D A s (ax_maxL mi) h L H locs ls → d ≤ R.frames → 36 * d ≤ R.locals → h'.1.2.1 ≤ R.cells + c0 → h'.1.2.2 ≤ R.slots + s0 → cells + c0 = h.1.2.1 → slots + s0 = h.1.2.2 → ax_ag ad0 ad h0 h →
      ax_End p l e R s m args below meth c Q mi A b D tA ad0 h0 c0 s0 o h' → W p l e R s m args below meth c H locs cells slots Q (F0 m pc ls (S.map (ax_cv ad b)))
/-- the locals at a method's entry -/
theorem ax_fl_len : ∀ (vs : List Value), (lg_sl (vs.map (ax_cv ad b))).length = (ax_fl vs).length
  | [] => rfl
  | v :: vs => by
    have ih := ax_fl_len vs
    have e : lg_sl ((v :: vs).map (ax_cv ad b)) = (if (ax_cv ad b v).category = 2 then [Slot.val (ax_cv ad b v), .second] else [.val (ax_cv ad b v)]) ++ lg_sl (vs.map (ax_cv ad b)) := by simp [lg_sl]
    rw [e, List.length_append, ih]
    cases v <;> simp [ax_fl, ax_wide, ax_cv, Value.category] <;> omega
theorem ax_fl_ld : ∀ (vs : List Value) (k i : Nat) (v : Value), ax_ld (ax_fl vs) i = some v → (k + i, ax_cv ad b v) ∈ lv_args k (vs.map (ax_cv ad b))
  | [], _, _, _, h => by cases h
  | w :: vs, k, i, v, h => by
    show _ ∈ (k, ax_cv ad b w) :: lv_args (if (ax_cv ad b w).category = 2 then k + 2 else k + 1) (vs.map (ax_cv ad b))
    cases hw : ax_wide (some w) with
    | false =>
      have e1 : ax_fl (w :: vs) = some w :: ax_fl vs := by show (bif ax_wide (some w) then _ else _) = _; rw [hw]; rfl
      have e2 : ¬ (ax_cv ad b w).category = 2 := by have := ax_cat1 (ad := ad) (b := b) hw; omega
      rw [e1] at h
      rw [if_neg e2]
      cases i with
      | zero => cases h; exact List.mem_cons_self
      | succ i =>
        have := ax_fl_ld vs (k + 1) i v h
        rw [show k + (i + 1) = k + 1 + i by omega]
        exact List.mem_cons_of_mem _ this
    | true =>
      have e1 : ax_fl (w :: vs) = some w :: none :: ax_fl vs := by show (bif ax_wide (some w) then _ else _) = _; rw [hw]; rfl
      have e2 : (ax_cv ad b w).category = 2 := by
        have := ax_cat (ad := ad) (b := b) w
        rw [hw] at this
        exact eq_of_beq this
      rw [e1] at h
      rw [if_pos e2]
      match i, h with
      | 0, h => cases h; exact List.mem_cons_self
      | 1, h => cases h
      | i + 2, h =>
        have := ax_fl_ld vs (k + 2) i v h
        rw [show k + (i + 2) = k + 2 + i by omega]
        exact List.mem_cons_of_mem _ this
theorem ax_ld_app : ∀ (L : ax_L) (n i : Nat) (v : Value), ax_ld (L ++ List.replicate n none) i = some v → ax_ld L i = some v
  | [], 0, i, v, h => by cases h
  | [], n + 1, 0, v, h => by cases h
  | [], n + 1, i + 1, v, h => by rw [List.replicate_succ] at h; exact ax_ld_app [] n i v h
  | x :: L, n, 0, v, h => h
  | x :: L, n, i + 1, v, h => ax_ld_app L n i v h
theorem ax_entry {m2 : Nat} {vs : List Value} (hlen : (ax_fl vs).length ≤ ax_maxL m2) : ax_lv ad b ((lg_sl (vs.map (ax_cv ad b)) ++ List.replicate (ax_maxL m2 - (lg_sl (vs.map (ax_cv ad b))).length) Slot.unset).toArray) (ax_maxL m2) (ax_ent m2 vs) := by
  have h1 := lv_entry (vs.map (ax_cv ad b)) (n := ax_maxL m2) (by rw [ax_fl_len]; exact hlen)
  refine ⟨by show (ax_fl vs ++ List.replicate _ none).length = _; rw [List.length_append, List.length_replicate]; omega, h1.1, h1.2.1, fun i v hv => ?_⟩
  have h2 := ax_fl_ld (ad := ad) (b := b) vs 0 i v (ax_ld_app _ _ _ _ hv)
  rw [Nat.zero_add] at h2
  exact h1.2.2 _ h2
/-- a method's end -/
theorem ax_end_met {ad0 : Nat → Nat} {h0 : ax_H} {A : Nat → Prop} (hne : mi ≠ ax_law) (C : ax_Cx p l s m meth c mi A X b D tA) (hc : h0.1.2.1 ≤ h'.1.2.1) (hs : h0.1.2.2 ≤ h'.1.2.2) :
    ax_End p l e R s m args below meth c (vx_MQ below (ax_Qc tA ad0 b D A h0 h' o) (ax_XC tA ad0 b D A h0 h' o) args s (h'.1.2.1 - h0.1.2.1) (h'.1.2.2 - h0.1.2.2) A) mi A b D tA ad0 h0 h0.1.2.1 h0.1.2.2 o h' := by
  obtain ⟨hx, hb, hml, hown, hr, hlocks, hnm, htab, htr, E, hK, hA, hU, hN, hX⟩ := C
  refine ⟨fun v ho ad' H' locs' ls' cells' slots' pc' i hP hD hS hag e1 e2 hd hk => ?_, fun k ho => ⟨_, _, _, _, hne, rfl, by omega, by omega, fun t ad' hag hP hD hF => ⟨k, ad', ho, rfl, hag, hP, hD, hF⟩⟩⟩
  have e1' : cells' = h'.1.2.1 - h0.1.2.1 := by omega
  have e2' : slots' = h'.1.2.2 - h0.1.2.2 := by omega
  subst e1'; subst e2'
  refine vx_ret ?_
  have hq : ∀ t : State, t.heap = H' → s.WarmedH t.vm → ax_Qc tA ad0 b D A h0 h' o args s (.returned (v.map (ax_cv ad' b))) t := fun t ht _ => ⟨v, ad', ho, rfl, hag, by rw [ht]; exact hP, hD, hS.F ht⟩
  unfold ax_rk at hk
  split at hk
  · obtain ⟨ty, h1, h2⟩ := hk
    exact W.zret hx hb (hr.trans h1) (ax_fit_ok (ad := ad') (b := b) h2).1 hq hS.2.2 hd hlocks
  · obtain ⟨ty, h1, h2⟩ := hk
    have : ty = .long := by cases ty <;> first | rfl | cases h2
    subst this
    exact W.lret hx hb (hr.trans h1) hq hS.2.2 hd hlocks
  · obtain ⟨ty, h1, h2⟩ := hk
    have : ty = .float := by cases ty <;> first | rfl | cases h2
    subst this
    exact W.fret hx hb (hr.trans h1) hq hS.2.2 hd hlocks
  · obtain ⟨ty, h1, h2⟩ := hk
    have : ty = .double := by cases ty <;> first | rfl | cases h2
    subst this
    exact W.dret hx hb (hr.trans h1) hq hS.2.2 hd hlocks
  · exact W.vret hx hb (hr.trans hk) hq hS.2.2 hd hlocks
  · exact hk.elim
/-- a run of a method is a contract of the machine's -/
theorem ax_met_of {n d m2 sz : Nat} {vs : List Value} (IH : ax_Sound X l n) (htr : l.stackTraces = false) (hr : ax_run X n d m2 (0, ax_ent m2 vs, []) h = some (o, h')) (hlen : (ax_fl vs).length ≤ ax_maxL m2) (hm : m2 < 118) (hc : h.1.2.1 ≤ h'.1.2.1) (hs : h.1.2.2 ≤ h'.1.2.2) :
    vx_Met l (ax_y m2) [ax_cw m2] { frames := d, cells := h'.1.2.1 - h.1.2.1, slots := h'.1.2.2 - h.1.2.2, locals := 36 * d } (ax_Pc X tA ad b D h sz vs) (ax_Qc tA ad b D (va_A (ax_wl tA ad b h) sz) h h' o) (ax_XC tA ad b D (va_A (ax_wl tA ad b h) sz) h h' o) (h'.1.2.1 - h.1.2.1) (h'.1.2.2 - h.1.2.2) (va_A (ax_wl tA ad b h) sz) := by
  obtain ⟨g1, g2, g3, g4, g5, g6, g7⟩ := ax_mth hm
  have body : ∀ (p : Program) (e : Env) (s : State) (m : MethodId) (args : Array Value) (below : List Frame) (meth : Method) (c : Code) (s₁ : State), BodyLoose p l (ax_y m2) (headSpec [ax_cw m2] { frames := d, cells := h'.1.2.1 - h.1.2.1, slots := h'.1.2.2 - h.1.2.2, locals := 36 * d }) (ax_code m2) (ax_maxL m2) (ax_ret m2) e s m args below meth c s₁ → c.maxLocals = ax_maxL m2 → c.exceptionTable.toList = tableOf (ax_hh m2) → ax_Pc X tA ad b D h sz vs args s →
      W p l e (headSpec [ax_cw m2] { frames := d, cells := h'.1.2.1 - h.1.2.1, slots := h'.1.2.2 - h.1.2.2, locals := 36 * d }).room s m args below meth c s.heap [] 0 0 (vx_MQ below (ax_Qc tA ad b D (va_A (ax_wl tA ad b h) sz) h h' o) (ax_XC tA ad b D (va_A (ax_wl tA ad b h) sz) h h' o) args s (h'.1.2.1 - h.1.2.1) (h'.1.2.2 - h.1.2.2) (va_A (ax_wl tA ad b h) sz)) (entryFrame m args (ax_maxL m2)) := by
    intro p e s m args below meth c s₁ B hml htab hv
    obtain ⟨rfl, hsz, hP, hK, hD0, E, hU, hN, hX1, hX2, hX3⟩ := hv
    have C : ax_Cx p l s m meth c m2 (va_A (ax_wl tA ad b h) sz) X b D tA :=
      ⟨B.exec, B.bytes, hml, by rw [← g5]; exact findClass_of_methodNamed B.named, B.returns, B.notSynchronized, (fun hz => by rw [(name_of_methodNamed B.named B.method).1]; exact ax_init_ok hm hz), (fun _ => htab), htr, E, hK, fun q hq => Or.inr (by rw [← hsz]; exact hq), hU, hN, hX1, hX2, hX3⟩
    rw [lg_entry_eq]
    exact IH d m2 0 (ax_ent m2 vs) [] h o h' hr p e _ s m _ below meth c s.heap [] 0 0 _ (va_A (ax_wl tA ad b h) sz) b D tA ad _ ad h h.1.2.1 h.1.2.2 C ⟨hP, hD0.self, va_S.rf, ax_entry hlen⟩ (Nat.le_refl _) (Nat.le_refl _) (by show _ ≤ _ - _ + _; omega) (by show _ ≤ _ - _ + _; omega) (Nat.zero_add _) (Nat.zero_add _) ax_ag.rf (ax_end_met (fun hz => by rw [hz] at hm; exact absurd hm (by decide)) C hc hs)
  cases hh : (ax_hh m2).isEmpty with
  | true =>
    have e0 : ax_hh m2 = [] := List.isEmpty_iff.mp hh
    refine vx_ofW (cc := ax_code m2) (maxL := ax_maxL m2) (ret := ax_ret m2) (ws' := []) g2 (by rw [ax_cw, hh]; rfl) ?_
    intro p e s m args below meth c s₁ B hml hemp hv
    refine body p e s m args below meth c s₁ B hml ?_ hv
    rw [e0]
    have h1 : c.exceptionTable.toList = [] := List.eq_nil_iff_forall_not_mem.mpr hemp
    rw [h1]
    rfl
  | false =>
    refine vx_ofWH (cc := ax_code m2) (maxL := ax_maxL m2) (ret := ax_ret m2) (hh := ax_hh m2) (ws' := []) g2 (by rw [ax_cw, hh]; rfl) ?_
    intro p e s m args below meth c s₁ B hml hv
    refine body p e s m args below meth c s₁ B hml (vx_table (x := ax_y m2) B (y := ax_y m2) (bytes := ax_code m2) (maxL' := ax_maxL m2) (ret' := ax_ret m2) ?_) hv
    have h2 := atoms_spec (ws := [ax_cw m2]) B.pre (ax_cw m2) List.mem_cons_self
    rw [ax_cw, hh] at h2
    exact h2
end AXM
