/-! A STEP: what a plain step of the abstract machine does, the machine does -/
def ax_Cx (p : Program) (l : Launch) (s : State) (m : MethodId) (meth : Method) (c : Code) (mi : Nat) (A : Nat → Prop) (X : Nat × (Nat → Int32)) (b : Nat) (D : va_G) (tA : Nat → ClassId) : Prop :=
  p.tables.exec = Jvm.exec ∧ c.code = ax_code mi ∧ c.maxLocals = ax_maxL mi ∧ s.vm.findClass (ax_R (ax_own mi)) = some m.cls ∧ meth.sig.returnType = ax_ret mi ∧ meth.locks = false ∧ (ax_isInit mi = true → meth.name = "<init>") ∧
  (mi ≠ ax_law → c.exceptionTable.toList = tableOf (ax_hh mi)) ∧ l.stackTraces = false ∧ ax_Env s ∧ va_K D ax_cl (ax_tys tA) s ∧ (∀ q, s.heap.size ≤ q → A q) ∧
  vx_Zq Bundle.tN "UNASSIGNED_STACK" Bundle.steD A s s.heap ∧ vx_Zq Bundle.tN "SUPPRESSED_SENTINEL" Bundle.listD A s s.heap ∧
  (va_X b X.1 X.2 s s.heap ∧ b < s.heap.size ∧ ¬ A b)
def ax_Rp (tA : Nat → ClassId) (ad : Nat → Nat) (b : Nat) (D : va_G) (A : Nat → Prop) (s : State) (nL : Nat) (h : ax_H) (L : ax_L) (H : Heap) (locs : List Loc) (ls : Array Slot) : Prop :=
  va_P D ax_cl (ax_wl tA ad b h) H ∧ va_D A (ax_wl tA ad b h) ∧ va_S A s.heap H locs ∧ ax_lv ad b ls nL L
/-- the map of addresses changes at new numbers alone -/
def ax_ag (ad ad' : Nat → Nat) (h h' : ax_H) : Prop := h.1.1 ≤ h'.1.1 ∧ ∀ i : Nat, (i < h.1.1 ∨ h'.1.1 ≤ i) → ad' i = ad i
theorem ax_ag.rf {ad : Nat → Nat} {h : ax_H} : ax_ag ad ad h h := ⟨Nat.le_refl _, fun _ _ => rfl⟩
theorem ax_ag.trans {a1 a2 a3 : Nat → Nat} {h1 h2 h3 : ax_H} (x : ax_ag a1 a2 h1 h2) (y : ax_ag a2 a3 h2 h3) : ax_ag a1 a3 h1 h3 := by
  refine ⟨Nat.le_trans x.1 y.1, fun i hi => ?_⟩
  have x1 := x.1
  have y1 := y.1
  rcases hi with q | q
  · rw [y.2 i (Or.inl (by omega)), x.2 i (Or.inl q)]
  · rw [y.2 i (Or.inr q), x.2 i (Or.inr (by omega))]
section AXS
variable {p : Program} {l : Launch} {e : Env} {R : Room} {s : State} {m : MethodId} {args : Array Value} {below : List Frame} {meth : Method} {c : Code} {H : Heap} {locs : List Loc} {cells slots : Nat} {Q : State → Prop}
variable {z : ax_S} {mi : Nat} {A : Nat → Prop} {X : Nat × (Nat → Int32)} {b : Nat} {D : va_G} {tA : Nat → ClassId} {ad : Nat → Nat} {ls : Array Slot} {L L' : ax_L} {S S' : List Value} {h h' : ax_H} {pc pc' : Nat}
/-- what is to be shown behind a step -/
def ax_K (p : Program) (l : Launch) (e : Env) (R : Room) (s : State) (m : MethodId) (args : Array Value) (below : List Frame) (meth : Method) (c : Code) (Q : State → Prop) (mi : Nat) (A : Nat → Prop) (b : Nat) (D : va_G) (tA : Nat → ClassId) (ad : Nat → Nat) (h : ax_H) (cells slots : Nat) (pc' : Nat) (L' : ax_L) (S' : List Value) (h' : ax_H) : Prop :=
  ∀ (ad' : Nat → Nat) (H' : Heap) (locs' : List Loc) (ls' : Array Slot) (cells' slots' : Nat), ax_Rp tA ad' b D A s (ax_maxL mi) h' L' H' locs' ls' → ax_ag ad ad' h h' → cells' + h.1.2.1 = cells + h'.1.2.1 → slots' + h.1.2.2 = slots + h'.1.2.2 →
    W p l e R s m args below meth c H' locs' cells' slots' Q (F0 m pc' ls' (S'.map (ax_cv ad' b)))
theorem ax_K.go (k : ax_K p l e R s m args below meth c Q mi A b D tA ad h cells slots pc' L' S' h) (r : ax_Rp tA ad b D A s (ax_maxL mi) h L' H locs ls) : W p l e R s m args below meth c H locs cells slots Q (F0 m pc' ls (S'.map (ax_cv ad b))) :=
  k ad H locs ls cells slots r ax_ag.rf rfl rfl
theorem ax_K.ht {a : Nat} {c0 c1 : ax_C} (e0 : ax_at h a = some c0) (k : ax_K p l e R s m args below meth c Q mi A b D tA ad h cells slots pc' L S' (ax_up h a c1)) (r : ax_Rp tA ad b D A s (ax_maxL mi) h L H locs ls) {H1 : Heap} {locs1 : List Loc}
    (hP : va_P D ax_cl ((ax_wl tA ad b h).set a (ad a, ax_cc tA ad b c1)) H1) (hD : va_D A ((ax_wl tA ad b h).set a (ad a, ax_cc tA ad b c1))) (hS : va_S A s.heap H1 locs1) : W p l e R s m args below meth c H1 locs1 cells slots Q (F0 m pc' ls (S'.map (ax_cv ad b))) := by
  rw [ax_wl_up e0] at hP hD
  exact k ad H1 locs1 ls cells slots ⟨hP, hD, hS, r.2.2.2⟩ ⟨Nat.le_refl _, fun _ _ => rfl⟩ rfl rfl
theorem ax_jmp_ok {pc t : Nat} {off : Int} (h : ax_jmp pc off = some t) : (pc : Int) + off = (t : Int) := by
  cases off with
  | ofNat k => cases h; simp
  | negSucc k =>
    obtain ⟨h1, h2⟩ := ax_bifR h
    have h3 := Nat.le_of_ble_eq_true h1
    cases h2
    omega
theorem ax_inb_ok {i : Int32} {n : Nat} (h : ax_inb i n = true) : vp_in i n := by
  simp only [ax_inb, Bool.and_eq_true, decide_eq_true_eq] at h
  have h2 := ax_blt h.2
  intro q
  rcases q with q | q
  · exact absurd h.1 (Int32.not_le.mpr q)
  · omega
theorem ax_fit_ok {ty : FieldType} {v : Value} (h : ax_fit ty v = true) : narrow ty (ax_cv ad b v) = ax_cv ad b v ∧ fits ty (ax_cv ad b v) = true := by
  unfold ax_fit at h
  split at h
  · exact ⟨rfl, rfl⟩
  · exact ⟨rfl, rfl⟩
  · exact ⟨rfl, rfl⟩
  · exact ⟨rfl, rfl⟩
  · rename_i x
    simp only [Bool.or_eq_true, decide_eq_true_eq] at h
    rcases h with rfl | rfl
    · exact ⟨rfl, rfl⟩
    · exact ⟨rfl, rfl⟩
  · exact ⟨rfl, rfl⟩
  · exact ⟨rfl, rfl⟩
  · cases h
theorem ax_len1 {i : Instr} {n : Nat} (h : ax_okl i n = true) (k : Nat) (hk : ax_okl i n = (n == k)) : n = k := by rw [hk] at h; exact eq_of_beq h
theorem ax_bool {b : Bool} {α : Type} {x y : α} {P : α → Prop} (ht : b = true → P x) (hf : b = false → P y) : P (bif b then x else y) := by cases b with | true => exact ht rfl | false => exact hf rfl
theorem ax_nthg : ∀ {fs : List Value} {k : Nat} {v : Value}, ax_nth fs k = some v → fs[k]? = some v
  | [], _, _, h => by cases h
  | _ :: _, 0, _, h => h
  | _ :: fs, k + 1, v, h => by rw [List.getElem?_cons_succ]; exact ax_nthg (fs := fs) (k := k) h
theorem ax_ca_len (a : vp_A) : (ax_ca ad a).1 = a.1 := by unfold ax_ca; split <;> rfl
theorem ax_cr_R {ci : Nat} (h : ci < 9) : (ax_cr ci).1 = ax_R ci := by rcases ax_ci h with rfl | rfl | rfl | rfl | rfl | rfl | rfl | rfl | rfl <;> rfl
theorem ax_own_R {ci mi : Nat} (h : ci < 9) (q : ci = ax_own mi) : (ax_cr ci).1 = ax_R (ax_own mi) := by rw [← q]; exact ax_cr_R h
theorem ax_init_ok {mi : Nat} (q : mi < 118) (h : ax_isInit mi = true) : (ax_y mi).name = "<init>" := by
  have h2 := ax_allr ax_mchk0 q
  simp only [ax_mchk, Bool.and_eq_true, Bool.or_eq_true, decide_eq_true_eq, h] at h2
  rcases h2.1.2 with z | z
  · cases z
  · exact z
theorem ax_nok_32 {r : UInt32} (h : ax_n32 r = true) : vf_n32 r := of_decide_eq_true (p := r &&& 0x7fffffff ≤ 0x7f800000) h
theorem ax_nok_64 {r : UInt64} (h : ax_n64 r = true) : vf_n64 r := of_decide_eq_true (p := r &&& 0x7fffffffffffffff ≤ 0x7ff0000000000000) h
theorem ax_ac1 : ax_In (.arrayClass .int) := by have h := ax_misc; simp only [Bool.and_eq_true] at h; exact ax_mem_in h.1.1.1.1.1.1
theorem ax_ac2 : ax_In (.arrayClass .long) := by have h := ax_misc; simp only [Bool.and_eq_true] at h; exact ax_mem_in h.1.1.1.1.1.2
theorem ax_oi1 : ax_In (.instanceMethod objectInit) := by have h := ax_misc; simp only [Bool.and_eq_true] at h; exact ax_mem_in h.1.1.1.1.2
theorem ax_oi2 : ax_In (.code objectInit ⟨#[0xb1]⟩ 1 none) := by have h := ax_misc; simp only [Bool.and_eq_true] at h; exact ax_mem_in h.1.1.1.2
theorem ax_cp1 : ax_In (.native arraycopyName) := by have h := ax_misc; simp only [Bool.and_eq_true] at h; exact ax_mem_in h.1.1.2
theorem ax_cp2 : ax_In (.static arraycopyName) := by have h := ax_misc; simp only [Bool.and_eq_true] at h; exact ax_mem_in h.1.2
theorem ax_cp3 : ax_In (.initialized "java/lang/System") := by have h := ax_misc; simp only [Bool.and_eq_true] at h; exact ax_mem_in h.2
theorem ax_le_toNat {n : Int32} (h : decide (0 ≤ n) = true) : ¬ n < 0 := Int32.not_lt.mpr (of_decide_eq_true h)

theorem ax_s_aload {j : Nat} (C : ax_Cx p l s m meth c mi A X b D tA) (r : ax_Rp tA ad b D A s (ax_maxL mi) h L H locs ls) (hi : ax_ins mi pc = some (.aload j)) (hs : ax_do X mi pc L S h (.aload j) = some z) (k : ∀ (pc' : Nat) (L' : ax_L) (S' : List Value) (h' : ax_H), z = .inl ((pc', L', S'), h') → ax_K p l e R s m args below meth c Q mi A b D tA ad h cells slots pc' L' S' h') : W p l e R s m args below meth c H locs cells slots Q (F0 m pc ls (S.map (ax_cv ad b))) := by
  obtain ⟨hx, hb, hml, hown, hr, hlocks, hnm, htab, htr, E, hK, hA, hU, hN, hX⟩ := C
  obtain ⟨hP, hD, hS, hl⟩ := id r
  obtain ⟨n, hd, hn⟩ := ax_dec hi
  cases ax_len1 hn 2 rfl
  simp only [ax_do] at hs
  split at hs
  · rename_i x e0
    cases hs
    exact lv_aload hx hb hd (hl.2.2.2 _ _ e0) ((k _ _ _ _ rfl).go r)
  · rename_i x e0
    cases hs
    exact lv_aload hx hb hd (hl.2.2.2 _ _ e0) ((k _ _ _ _ rfl).go r)
  · cases hs

theorem ax_s_iload {j : Nat} (C : ax_Cx p l s m meth c mi A X b D tA) (r : ax_Rp tA ad b D A s (ax_maxL mi) h L H locs ls) (hi : ax_ins mi pc = some (.iload j)) (hs : ax_do X mi pc L S h (.iload j) = some z) (k : ∀ (pc' : Nat) (L' : ax_L) (S' : List Value) (h' : ax_H), z = .inl ((pc', L', S'), h') → ax_K p l e R s m args below meth c Q mi A b D tA ad h cells slots pc' L' S' h') : W p l e R s m args below meth c H locs cells slots Q (F0 m pc ls (S.map (ax_cv ad b))) := by
  obtain ⟨hx, hb, hml, hown, hr, hlocks, hnm, htab, htr, E, hK, hA, hU, hN, hX⟩ := C
  obtain ⟨hP, hD, hS, hl⟩ := id r
  obtain ⟨n, hd, hn⟩ := ax_dec hi
  cases ax_len1 hn 2 rfl
  simp only [ax_do] at hs
  split at hs
  · rename_i x e0
    cases hs
    exact lv_iload hx hb hd (hl.2.2.2 _ _ e0) ((k _ _ _ _ rfl).go r)
  · cases hs

theorem ax_s_lload {j : Nat} (C : ax_Cx p l s m meth c mi A X b D tA) (r : ax_Rp tA ad b D A s (ax_maxL mi) h L H locs ls) (hi : ax_ins mi pc = some (.lload j)) (hs : ax_do X mi pc L S h (.lload j) = some z) (k : ∀ (pc' : Nat) (L' : ax_L) (S' : List Value) (h' : ax_H), z = .inl ((pc', L', S'), h') → ax_K p l e R s m args below meth c Q mi A b D tA ad h cells slots pc' L' S' h') : W p l e R s m args below meth c H locs cells slots Q (F0 m pc ls (S.map (ax_cv ad b))) := by
  obtain ⟨hx, hb, hml, hown, hr, hlocks, hnm, htab, htr, E, hK, hA, hU, hN, hX⟩ := C
  obtain ⟨hP, hD, hS, hl⟩ := id r
  obtain ⟨n, hd, hn⟩ := ax_dec hi
  cases ax_len1 hn 2 rfl
  simp only [ax_do] at hs
  split at hs
  · rename_i x e0
    cases hs
    exact lv_lload hx hb hd (hl.2.2.2 _ _ e0) ((k _ _ _ _ rfl).go r)
  · cases hs

theorem ax_s_dload {j : Nat} (C : ax_Cx p l s m meth c mi A X b D tA) (r : ax_Rp tA ad b D A s (ax_maxL mi) h L H locs ls) (hi : ax_ins mi pc = some (.dload j)) (hs : ax_do X mi pc L S h (.dload j) = some z) (k : ∀ (pc' : Nat) (L' : ax_L) (S' : List Value) (h' : ax_H), z = .inl ((pc', L', S'), h') → ax_K p l e R s m args below meth c Q mi A b D tA ad h cells slots pc' L' S' h') : W p l e R s m args below meth c H locs cells slots Q (F0 m pc ls (S.map (ax_cv ad b))) := by
  obtain ⟨hx, hb, hml, hown, hr, hlocks, hnm, htab, htr, E, hK, hA, hU, hN, hX⟩ := C
  obtain ⟨hP, hD, hS, hl⟩ := id r
  obtain ⟨n, hd, hn⟩ := ax_dec hi
  cases ax_len1 hn 2 rfl
  simp only [ax_do] at hs
  split at hs
  · rename_i x e0
    cases hs
    exact lv_dload hx hb hd (hl.2.2.2 _ _ e0) ((k _ _ _ _ rfl).go r)
  · cases hs

theorem ax_s_aload_n {j : Fin 4} (C : ax_Cx p l s m meth c mi A X b D tA) (r : ax_Rp tA ad b D A s (ax_maxL mi) h L H locs ls) (hi : ax_ins mi pc = some (.aload_n j)) (hs : ax_do X mi pc L S h (.aload_n j) = some z) (k : ∀ (pc' : Nat) (L' : ax_L) (S' : List Value) (h' : ax_H), z = .inl ((pc', L', S'), h') → ax_K p l e R s m args below meth c Q mi A b D tA ad h cells slots pc' L' S' h') : W p l e R s m args below meth c H locs cells slots Q (F0 m pc ls (S.map (ax_cv ad b))) := by
  obtain ⟨hx, hb, hml, hown, hr, hlocks, hnm, htab, htr, E, hK, hA, hU, hN, hX⟩ := C
  obtain ⟨hP, hD, hS, hl⟩ := id r
  obtain ⟨n, hd, hn⟩ := ax_dec hi
  cases ax_len1 hn 1 rfl
  simp only [ax_do] at hs
  split at hs
  · rename_i x e0
    cases hs
    exact lv_aload_n hx hb hd rfl (hl.2.2.2 _ _ e0) ((k _ _ _ _ rfl).go r)
  · rename_i x e0
    cases hs
    exact lv_aload_n hx hb hd rfl (hl.2.2.2 _ _ e0) ((k _ _ _ _ rfl).go r)
  · cases hs

theorem ax_s_iload_n {j : Fin 4} (C : ax_Cx p l s m meth c mi A X b D tA) (r : ax_Rp tA ad b D A s (ax_maxL mi) h L H locs ls) (hi : ax_ins mi pc = some (.iload_n j)) (hs : ax_do X mi pc L S h (.iload_n j) = some z) (k : ∀ (pc' : Nat) (L' : ax_L) (S' : List Value) (h' : ax_H), z = .inl ((pc', L', S'), h') → ax_K p l e R s m args below meth c Q mi A b D tA ad h cells slots pc' L' S' h') : W p l e R s m args below meth c H locs cells slots Q (F0 m pc ls (S.map (ax_cv ad b))) := by
  obtain ⟨hx, hb, hml, hown, hr, hlocks, hnm, htab, htr, E, hK, hA, hU, hN, hX⟩ := C
  obtain ⟨hP, hD, hS, hl⟩ := id r
  obtain ⟨n, hd, hn⟩ := ax_dec hi
  cases ax_len1 hn 1 rfl
  simp only [ax_do] at hs
  split at hs
  · rename_i x e0
    cases hs
    exact lv_iload_n hx hb hd rfl (hl.2.2.2 _ _ e0) ((k _ _ _ _ rfl).go r)
  · cases hs

theorem ax_s_lload_n {j : Fin 4} (C : ax_Cx p l s m meth c mi A X b D tA) (r : ax_Rp tA ad b D A s (ax_maxL mi) h L H locs ls) (hi : ax_ins mi pc = some (.lload_n j)) (hs : ax_do X mi pc L S h (.lload_n j) = some z) (k : ∀ (pc' : Nat) (L' : ax_L) (S' : List Value) (h' : ax_H), z = .inl ((pc', L', S'), h') → ax_K p l e R s m args below meth c Q mi A b D tA ad h cells slots pc' L' S' h') : W p l e R s m args below meth c H locs cells slots Q (F0 m pc ls (S.map (ax_cv ad b))) := by
  obtain ⟨hx, hb, hml, hown, hr, hlocks, hnm, htab, htr, E, hK, hA, hU, hN, hX⟩ := C
  obtain ⟨hP, hD, hS, hl⟩ := id r
  obtain ⟨n, hd, hn⟩ := ax_dec hi
  cases ax_len1 hn 1 rfl
  simp only [ax_do] at hs
  split at hs
  · rename_i x e0
    cases hs
    exact lv_lload_n hx hb hd rfl (hl.2.2.2 _ _ e0) ((k _ _ _ _ rfl).go r)
  · cases hs

theorem ax_s_fload_n {j : Fin 4} (C : ax_Cx p l s m meth c mi A X b D tA) (r : ax_Rp tA ad b D A s (ax_maxL mi) h L H locs ls) (hi : ax_ins mi pc = some (.fload_n j)) (hs : ax_do X mi pc L S h (.fload_n j) = some z) (k : ∀ (pc' : Nat) (L' : ax_L) (S' : List Value) (h' : ax_H), z = .inl ((pc', L', S'), h') → ax_K p l e R s m args below meth c Q mi A b D tA ad h cells slots pc' L' S' h') : W p l e R s m args below meth c H locs cells slots Q (F0 m pc ls (S.map (ax_cv ad b))) := by
  obtain ⟨hx, hb, hml, hown, hr, hlocks, hnm, htab, htr, E, hK, hA, hU, hN, hX⟩ := C
  obtain ⟨hP, hD, hS, hl⟩ := id r
  obtain ⟨n, hd, hn⟩ := ax_dec hi
  cases ax_len1 hn 1 rfl
  simp only [ax_do] at hs
  split at hs
  · rename_i x e0
    cases hs
    exact lv_fload_n hx hb hd rfl (hl.2.2.2 _ _ e0) ((k _ _ _ _ rfl).go r)
  · cases hs

theorem ax_s_dload_n {j : Fin 4} (C : ax_Cx p l s m meth c mi A X b D tA) (r : ax_Rp tA ad b D A s (ax_maxL mi) h L H locs ls) (hi : ax_ins mi pc = some (.dload_n j)) (hs : ax_do X mi pc L S h (.dload_n j) = some z) (k : ∀ (pc' : Nat) (L' : ax_L) (S' : List Value) (h' : ax_H), z = .inl ((pc', L', S'), h') → ax_K p l e R s m args below meth c Q mi A b D tA ad h cells slots pc' L' S' h') : W p l e R s m args below meth c H locs cells slots Q (F0 m pc ls (S.map (ax_cv ad b))) := by
  obtain ⟨hx, hb, hml, hown, hr, hlocks, hnm, htab, htr, E, hK, hA, hU, hN, hX⟩ := C
  obtain ⟨hP, hD, hS, hl⟩ := id r
  obtain ⟨n, hd, hn⟩ := ax_dec hi
  cases ax_len1 hn 1 rfl
  simp only [ax_do] at hs
  split at hs
  · rename_i x e0
    cases hs
    exact lv_dload_n hx hb hd rfl (hl.2.2.2 _ _ e0) ((k _ _ _ _ rfl).go r)
  · cases hs

theorem ax_s_istore {j : Nat} (C : ax_Cx p l s m meth c mi A X b D tA) (r : ax_Rp tA ad b D A s (ax_maxL mi) h L H locs ls) (hi : ax_ins mi pc = some (.istore j)) (hs : ax_do X mi pc L S h (.istore j) = some z) (k : ∀ (pc' : Nat) (L' : ax_L) (S' : List Value) (h' : ax_H), z = .inl ((pc', L', S'), h') → ax_K p l e R s m args below meth c Q mi A b D tA ad h cells slots pc' L' S' h') : W p l e R s m args below meth c H locs cells slots Q (F0 m pc ls (S.map (ax_cv ad b))) := by
  obtain ⟨hx, hb, hml, hown, hr, hlocks, hnm, htab, htr, E, hK, hA, hU, hN, hX⟩ := C
  obtain ⟨hP, hD, hS, hl⟩ := id r
  obtain ⟨n, hd, hn⟩ := ax_dec hi
  cases ax_len1 hn 2 rfl
  simp only [ax_do] at hs
  split at hs
  · rename_i x S0
    unfold ax_s1 at hs
    obtain ⟨h1, h2⟩ := ax_bifR hs
    cases h2
    have hlt := ax_has_lt h1
    rw [hl.1] at hlt
    exact lv_istore hx hb hd hl.has hlt rfl (fun ls' q => (k _ _ _ _ rfl).go ⟨hP, hD, hS, ax_lv_st1 hl h1 q⟩)
  · cases hs

theorem ax_s_astore {j : Nat} (C : ax_Cx p l s m meth c mi A X b D tA) (r : ax_Rp tA ad b D A s (ax_maxL mi) h L H locs ls) (hi : ax_ins mi pc = some (.astore j)) (hs : ax_do X mi pc L S h (.astore j) = some z) (k : ∀ (pc' : Nat) (L' : ax_L) (S' : List Value) (h' : ax_H), z = .inl ((pc', L', S'), h') → ax_K p l e R s m args below meth c Q mi A b D tA ad h cells slots pc' L' S' h') : W p l e R s m args below meth c H locs cells slots Q (F0 m pc ls (S.map (ax_cv ad b))) := by
  obtain ⟨hx, hb, hml, hown, hr, hlocks, hnm, htab, htr, E, hK, hA, hU, hN, hX⟩ := C
  obtain ⟨hP, hD, hS, hl⟩ := id r
  obtain ⟨n, hd, hn⟩ := ax_dec hi
  cases ax_len1 hn 2 rfl
  simp only [ax_do] at hs
  split at hs
  · rename_i x S0
    unfold ax_s1 at hs
    obtain ⟨h1, h2⟩ := ax_bifR hs
    cases h2
    have hlt := ax_has_lt h1
    rw [hl.1] at hlt
    exact lv_astore hx hb hd hl.has hlt rfl (fun ls' q => (k _ _ _ _ rfl).go ⟨hP, hD, hS, ax_lv_st1 hl h1 q⟩)
  · cases hs

theorem ax_s_lstore {j : Nat} (C : ax_Cx p l s m meth c mi A X b D tA) (r : ax_Rp tA ad b D A s (ax_maxL mi) h L H locs ls) (hi : ax_ins mi pc = some (.lstore j)) (hs : ax_do X mi pc L S h (.lstore j) = some z) (k : ∀ (pc' : Nat) (L' : ax_L) (S' : List Value) (h' : ax_H), z = .inl ((pc', L', S'), h') → ax_K p l e R s m args below meth c Q mi A b D tA ad h cells slots pc' L' S' h') : W p l e R s m args below meth c H locs cells slots Q (F0 m pc ls (S.map (ax_cv ad b))) := by
  obtain ⟨hx, hb, hml, hown, hr, hlocks, hnm, htab, htr, E, hK, hA, hU, hN, hX⟩ := C
  obtain ⟨hP, hD, hS, hl⟩ := id r
  obtain ⟨n, hd, hn⟩ := ax_dec hi
  cases ax_len1 hn 2 rfl
  simp only [ax_do] at hs
  split at hs
  · rename_i x S0
    unfold ax_s2 at hs
    obtain ⟨h1, h2⟩ := ax_bifR hs
    cases h2
    have hlt := ax_has_lt h1
    rw [hl.1] at hlt
    exact lv_lstore hx hb hd hl.has hlt rfl (fun ls' q => (k _ _ _ _ rfl).go ⟨hP, hD, hS, ax_lv_st2 hl h1 q⟩)
  · cases hs

theorem ax_s_dstore {j : Nat} (C : ax_Cx p l s m meth c mi A X b D tA) (r : ax_Rp tA ad b D A s (ax_maxL mi) h L H locs ls) (hi : ax_ins mi pc = some (.dstore j)) (hs : ax_do X mi pc L S h (.dstore j) = some z) (k : ∀ (pc' : Nat) (L' : ax_L) (S' : List Value) (h' : ax_H), z = .inl ((pc', L', S'), h') → ax_K p l e R s m args below meth c Q mi A b D tA ad h cells slots pc' L' S' h') : W p l e R s m args below meth c H locs cells slots Q (F0 m pc ls (S.map (ax_cv ad b))) := by
  obtain ⟨hx, hb, hml, hown, hr, hlocks, hnm, htab, htr, E, hK, hA, hU, hN, hX⟩ := C
  obtain ⟨hP, hD, hS, hl⟩ := id r
  obtain ⟨n, hd, hn⟩ := ax_dec hi
  cases ax_len1 hn 2 rfl
  simp only [ax_do] at hs
  split at hs
  · rename_i x S0
    unfold ax_s2 at hs
    obtain ⟨h1, h2⟩ := ax_bifR hs
    cases h2
    have hlt := ax_has_lt h1
    rw [hl.1] at hlt
    exact lv_dstore hx hb hd hl.has hlt rfl (fun ls' q => (k _ _ _ _ rfl).go ⟨hP, hD, hS, ax_lv_st2 hl h1 q⟩)
  · cases hs

theorem ax_s_istore_n {j : Fin 4} (C : ax_Cx p l s m meth c mi A X b D tA) (r : ax_Rp tA ad b D A s (ax_maxL mi) h L H locs ls) (hi : ax_ins mi pc = some (.istore_n j)) (hs : ax_do X mi pc L S h (.istore_n j) = some z) (k : ∀ (pc' : Nat) (L' : ax_L) (S' : List Value) (h' : ax_H), z = .inl ((pc', L', S'), h') → ax_K p l e R s m args below meth c Q mi A b D tA ad h cells slots pc' L' S' h') : W p l e R s m args below meth c H locs cells slots Q (F0 m pc ls (S.map (ax_cv ad b))) := by
  obtain ⟨hx, hb, hml, hown, hr, hlocks, hnm, htab, htr, E, hK, hA, hU, hN, hX⟩ := C
  obtain ⟨hP, hD, hS, hl⟩ := id r
  obtain ⟨n, hd, hn⟩ := ax_dec hi
  cases ax_len1 hn 1 rfl
  simp only [ax_do] at hs
  split at hs
  · rename_i x S0
    unfold ax_s1 at hs
    obtain ⟨h1, h2⟩ := ax_bifR hs
    cases h2
    have hlt := ax_has_lt h1
    rw [hl.1] at hlt
    exact lv_istore_n hx hb hd rfl hl.has hlt rfl (fun ls' q => (k _ _ _ _ rfl).go ⟨hP, hD, hS, ax_lv_st1 hl h1 q⟩)
  · cases hs

theorem ax_s_astore_n {j : Fin 4} (C : ax_Cx p l s m meth c mi A X b D tA) (r : ax_Rp tA ad b D A s (ax_maxL mi) h L H locs ls) (hi : ax_ins mi pc = some (.astore_n j)) (hs : ax_do X mi pc L S h (.astore_n j) = some z) (k : ∀ (pc' : Nat) (L' : ax_L) (S' : List Value) (h' : ax_H), z = .inl ((pc', L', S'), h') → ax_K p l e R s m args below meth c Q mi A b D tA ad h cells slots pc' L' S' h') : W p l e R s m args below meth c H locs cells slots Q (F0 m pc ls (S.map (ax_cv ad b))) := by
  obtain ⟨hx, hb, hml, hown, hr, hlocks, hnm, htab, htr, E, hK, hA, hU, hN, hX⟩ := C
  obtain ⟨hP, hD, hS, hl⟩ := id r
  obtain ⟨n, hd, hn⟩ := ax_dec hi
  cases ax_len1 hn 1 rfl
  simp only [ax_do] at hs
  split at hs
  · rename_i x S0
    unfold ax_s1 at hs
    obtain ⟨h1, h2⟩ := ax_bifR hs
    cases h2
    have hlt := ax_has_lt h1
    rw [hl.1] at hlt
    exact lv_astore_n hx hb hd rfl hl.has hlt rfl (fun ls' q => (k _ _ _ _ rfl).go ⟨hP, hD, hS, ax_lv_st1 hl h1 q⟩)
  · cases hs

theorem ax_s_fstore_n {j : Fin 4} (C : ax_Cx p l s m meth c mi A X b D tA) (r : ax_Rp tA ad b D A s (ax_maxL mi) h L H locs ls) (hi : ax_ins mi pc = some (.fstore_n j)) (hs : ax_do X mi pc L S h (.fstore_n j) = some z) (k : ∀ (pc' : Nat) (L' : ax_L) (S' : List Value) (h' : ax_H), z = .inl ((pc', L', S'), h') → ax_K p l e R s m args below meth c Q mi A b D tA ad h cells slots pc' L' S' h') : W p l e R s m args below meth c H locs cells slots Q (F0 m pc ls (S.map (ax_cv ad b))) := by
  obtain ⟨hx, hb, hml, hown, hr, hlocks, hnm, htab, htr, E, hK, hA, hU, hN, hX⟩ := C
  obtain ⟨hP, hD, hS, hl⟩ := id r
  obtain ⟨n, hd, hn⟩ := ax_dec hi
  cases ax_len1 hn 1 rfl
  simp only [ax_do] at hs
  split at hs
  · rename_i x S0
    unfold ax_s1 at hs
    obtain ⟨h1, h2⟩ := ax_bifR hs
    cases h2
    have hlt := ax_has_lt h1
    rw [hl.1] at hlt
    exact lv_fstore_n hx hb hd rfl hl.has hlt rfl (fun ls' q => (k _ _ _ _ rfl).go ⟨hP, hD, hS, ax_lv_st1 hl h1 q⟩)
  · cases hs

theorem ax_s_lstore_n {j : Fin 4} (C : ax_Cx p l s m meth c mi A X b D tA) (r : ax_Rp tA ad b D A s (ax_maxL mi) h L H locs ls) (hi : ax_ins mi pc = some (.lstore_n j)) (hs : ax_do X mi pc L S h (.lstore_n j) = some z) (k : ∀ (pc' : Nat) (L' : ax_L) (S' : List Value) (h' : ax_H), z = .inl ((pc', L', S'), h') → ax_K p l e R s m args below meth c Q mi A b D tA ad h cells slots pc' L' S' h') : W p l e R s m args below meth c H locs cells slots Q (F0 m pc ls (S.map (ax_cv ad b))) := by
  obtain ⟨hx, hb, hml, hown, hr, hlocks, hnm, htab, htr, E, hK, hA, hU, hN, hX⟩ := C
  obtain ⟨hP, hD, hS, hl⟩ := id r
  obtain ⟨n, hd, hn⟩ := ax_dec hi
  cases ax_len1 hn 1 rfl
  simp only [ax_do] at hs
  split at hs
  · rename_i x S0
    unfold ax_s2 at hs
    obtain ⟨h1, h2⟩ := ax_bifR hs
    cases h2
    have hlt := ax_has_lt h1
    rw [hl.1] at hlt
    exact lv_lstore_n hx hb hd rfl hl.has hlt rfl (fun ls' q => (k _ _ _ _ rfl).go ⟨hP, hD, hS, ax_lv_st2 hl h1 q⟩)
  · cases hs

theorem ax_s_dstore_n {j : Fin 4} (C : ax_Cx p l s m meth c mi A X b D tA) (r : ax_Rp tA ad b D A s (ax_maxL mi) h L H locs ls) (hi : ax_ins mi pc = some (.dstore_n j)) (hs : ax_do X mi pc L S h (.dstore_n j) = some z) (k : ∀ (pc' : Nat) (L' : ax_L) (S' : List Value) (h' : ax_H), z = .inl ((pc', L', S'), h') → ax_K p l e R s m args below meth c Q mi A b D tA ad h cells slots pc' L' S' h') : W p l e R s m args below meth c H locs cells slots Q (F0 m pc ls (S.map (ax_cv ad b))) := by
  obtain ⟨hx, hb, hml, hown, hr, hlocks, hnm, htab, htr, E, hK, hA, hU, hN, hX⟩ := C
  obtain ⟨hP, hD, hS, hl⟩ := id r
  obtain ⟨n, hd, hn⟩ := ax_dec hi
  cases ax_len1 hn 1 rfl
  simp only [ax_do] at hs
  split at hs
  · rename_i x S0
    unfold ax_s2 at hs
    obtain ⟨h1, h2⟩ := ax_bifR hs
    cases h2
    have hlt := ax_has_lt h1
    rw [hl.1] at hlt
    exact lv_dstore_n hx hb hd rfl hl.has hlt rfl (fun ls' q => (k _ _ _ _ rfl).go ⟨hP, hD, hS, ax_lv_st2 hl h1 q⟩)
  · cases hs

theorem ax_s_iinc {j : Nat} {n0 : Int} (C : ax_Cx p l s m meth c mi A X b D tA) (r : ax_Rp tA ad b D A s (ax_maxL mi) h L H locs ls) (hi : ax_ins mi pc = some (.iinc j n0)) (hs : ax_do X mi pc L S h (.iinc j n0) = some z) (k : ∀ (pc' : Nat) (L' : ax_L) (S' : List Value) (h' : ax_H), z = .inl ((pc', L', S'), h') → ax_K p l e R s m args below meth c Q mi A b D tA ad h cells slots pc' L' S' h') : W p l e R s m args below meth c H locs cells slots Q (F0 m pc ls (S.map (ax_cv ad b))) := by
  obtain ⟨hx, hb, hml, hown, hr, hlocks, hnm, htab, htr, E, hK, hA, hU, hN, hX⟩ := C
  obtain ⟨hP, hD, hS, hl⟩ := id r
  obtain ⟨n, hd, hn⟩ := ax_dec hi
  cases ax_len1 hn 3 rfl
  simp only [ax_do] at hs
  split at hs
  · rename_i x e0
    unfold ax_s1 at hs
    obtain ⟨h1, h2⟩ := ax_bifR hs
    cases h2
    have hlt := ax_has_lt h1
    rw [hl.1] at hlt
    obtain ⟨w, hw⟩ := List.getElem?_of_mem (ax_as_mem (ad := ad) (b := b) e0)
    exact lv_iinc hx hb hd hl.has (k := w) hw rfl hlt rfl (fun ls' q => (k _ _ _ _ rfl).go ⟨hP, hD, hS, ax_lv_st1 hl h1 q⟩)
  · cases hs

theorem ax_s_iconst {n0 : Int} (C : ax_Cx p l s m meth c mi A X b D tA) (r : ax_Rp tA ad b D A s (ax_maxL mi) h L H locs ls) (hi : ax_ins mi pc = some (.iconst n0)) (hs : ax_do X mi pc L S h (.iconst n0) = some z) (k : ∀ (pc' : Nat) (L' : ax_L) (S' : List Value) (h' : ax_H), z = .inl ((pc', L', S'), h') → ax_K p l e R s m args below meth c Q mi A b D tA ad h cells slots pc' L' S' h') : W p l e R s m args below meth c H locs cells slots Q (F0 m pc ls (S.map (ax_cv ad b))) := by
  obtain ⟨hx, hb, hml, hown, hr, hlocks, hnm, htab, htr, E, hK, hA, hU, hN, hX⟩ := C
  obtain ⟨hP, hD, hS, hl⟩ := id r
  obtain ⟨n, hd, hn⟩ := ax_dec hi
  cases ax_len1 hn 1 rfl
  simp only [ax_do] at hs
  cases hs
  exact lv_iconst hx hb hd rfl ((k _ _ _ _ rfl).go r)

theorem ax_s_bipush {n0 : Int} (C : ax_Cx p l s m meth c mi A X b D tA) (r : ax_Rp tA ad b D A s (ax_maxL mi) h L H locs ls) (hi : ax_ins mi pc = some (.bipush n0)) (hs : ax_do X mi pc L S h (.bipush n0) = some z) (k : ∀ (pc' : Nat) (L' : ax_L) (S' : List Value) (h' : ax_H), z = .inl ((pc', L', S'), h') → ax_K p l e R s m args below meth c Q mi A b D tA ad h cells slots pc' L' S' h') : W p l e R s m args below meth c H locs cells slots Q (F0 m pc ls (S.map (ax_cv ad b))) := by
  obtain ⟨hx, hb, hml, hown, hr, hlocks, hnm, htab, htr, E, hK, hA, hU, hN, hX⟩ := C
  obtain ⟨hP, hD, hS, hl⟩ := id r
  obtain ⟨n, hd, hn⟩ := ax_dec hi
  cases ax_len1 hn 2 rfl
  simp only [ax_do] at hs
  cases hs
  exact lv_bipush hx hb hd rfl ((k _ _ _ _ rfl).go r)

theorem ax_s_sipush {n0 : Int} (C : ax_Cx p l s m meth c mi A X b D tA) (r : ax_Rp tA ad b D A s (ax_maxL mi) h L H locs ls) (hi : ax_ins mi pc = some (.sipush n0)) (hs : ax_do X mi pc L S h (.sipush n0) = some z) (k : ∀ (pc' : Nat) (L' : ax_L) (S' : List Value) (h' : ax_H), z = .inl ((pc', L', S'), h') → ax_K p l e R s m args below meth c Q mi A b D tA ad h cells slots pc' L' S' h') : W p l e R s m args below meth c H locs cells slots Q (F0 m pc ls (S.map (ax_cv ad b))) := by
  obtain ⟨hx, hb, hml, hown, hr, hlocks, hnm, htab, htr, E, hK, hA, hU, hN, hX⟩ := C
  obtain ⟨hP, hD, hS, hl⟩ := id r
  obtain ⟨n, hd, hn⟩ := ax_dec hi
  cases ax_len1 hn 3 rfl
  simp only [ax_do] at hs
  cases hs
  exact lv_sipush hx hb hd rfl ((k _ _ _ _ rfl).go r)

theorem ax_s_lconst {n0 : Fin 2} (C : ax_Cx p l s m meth c mi A X b D tA) (r : ax_Rp tA ad b D A s (ax_maxL mi) h L H locs ls) (hi : ax_ins mi pc = some (.lconst n0)) (hs : ax_do X mi pc L S h (.lconst n0) = some z) (k : ∀ (pc' : Nat) (L' : ax_L) (S' : List Value) (h' : ax_H), z = .inl ((pc', L', S'), h') → ax_K p l e R s m args below meth c Q mi A b D tA ad h cells slots pc' L' S' h') : W p l e R s m args below meth c H locs cells slots Q (F0 m pc ls (S.map (ax_cv ad b))) := by
  obtain ⟨hx, hb, hml, hown, hr, hlocks, hnm, htab, htr, E, hK, hA, hU, hN, hX⟩ := C
  obtain ⟨hP, hD, hS, hl⟩ := id r
  obtain ⟨n, hd, hn⟩ := ax_dec hi
  cases ax_len1 hn 1 rfl
  simp only [ax_do] at hs
  cases hs
  exact lv_lconst hx hb hd rfl ((k _ _ _ _ rfl).go r)

theorem ax_s_fconst {n0 : Fin 3} (C : ax_Cx p l s m meth c mi A X b D tA) (r : ax_Rp tA ad b D A s (ax_maxL mi) h L H locs ls) (hi : ax_ins mi pc = some (.fconst n0)) (hs : ax_do X mi pc L S h (.fconst n0) = some z) (k : ∀ (pc' : Nat) (L' : ax_L) (S' : List Value) (h' : ax_H), z = .inl ((pc', L', S'), h') → ax_K p l e R s m args below meth c Q mi A b D tA ad h cells slots pc' L' S' h') : W p l e R s m args below meth c H locs cells slots Q (F0 m pc ls (S.map (ax_cv ad b))) := by
  obtain ⟨hx, hb, hml, hown, hr, hlocks, hnm, htab, htr, E, hK, hA, hU, hN, hX⟩ := C
  obtain ⟨hP, hD, hS, hl⟩ := id r
  obtain ⟨n, hd, hn⟩ := ax_dec hi
  cases ax_len1 hn 1 rfl
  match n0, hd, hs with
  | 0, hd, hs => cases hs; exact lv_fconst0 hx hb hd ((k _ _ _ _ rfl).go r)
  | 1, hd, hs => cases hs; exact lv_fconst1 hx hb hd ((k _ _ _ _ rfl).go r)
  | 2, hd, hs => cases hs; exact lv_fconst2 hx hb hd ((k _ _ _ _ rfl).go r)

theorem ax_s_dconst {n0 : Fin 2} (C : ax_Cx p l s m meth c mi A X b D tA) (r : ax_Rp tA ad b D A s (ax_maxL mi) h L H locs ls) (hi : ax_ins mi pc = some (.dconst n0)) (hs : ax_do X mi pc L S h (.dconst n0) = some z) (k : ∀ (pc' : Nat) (L' : ax_L) (S' : List Value) (h' : ax_H), z = .inl ((pc', L', S'), h') → ax_K p l e R s m args below meth c Q mi A b D tA ad h cells slots pc' L' S' h') : W p l e R s m args below meth c H locs cells slots Q (F0 m pc ls (S.map (ax_cv ad b))) := by
  obtain ⟨hx, hb, hml, hown, hr, hlocks, hnm, htab, htr, E, hK, hA, hU, hN, hX⟩ := C
  obtain ⟨hP, hD, hS, hl⟩ := id r
  obtain ⟨n, hd, hn⟩ := ax_dec hi
  cases ax_len1 hn 1 rfl
  match n0, hd, hs with
  | 0, hd, hs => cases hs; exact lv_dconst0 hx hb hd ((k _ _ _ _ rfl).go r)
  | 1, hd, hs => cases hs; exact lv_dconst1 hx hb hd ((k _ _ _ _ rfl).go r)

theorem ax_ldcwF (hexec : p.tables.exec = Jvm.exec) {cc : ByteArray} (hb : c.code = cc) {own : String} {index : Nat} {v : UInt32} (hown : s.vm.findClass own = some m.cls) (hconst : (Jvm.Cond.constantFloat own index v).before args s = true) {rest : List Value} (hdg : decode cc pc = .ok (.ldc_w index, 3)) (k : W p l e R s m args below meth c H locs cells slots Q (F0 m (pc + 3) ls (.float v :: rest))) : W p l e R s m args below meth c H locs cells slots Q (F0 m pc ls rest) := by
  intro T hT X
  obtain ⟨t, a, b⟩ := k T hT X
  refine ⟨t, ?_, b⟩
  obtain ⟨k, cf, hk, hcf, hcp⟩ := Cond.constantFloat_spec hown hconst
  obtain ⟨k', hk', he⟩ := X.warmed.alike.2.2 _ _ hk
  subst hb
  jvm_step X.here [hexec, hdg, ldc_w.wp_float (s := T) (f := F0 m pc ls rest) X.here.top hk' (by rw [he]; exact hcf) hcp]
  exact a

theorem ax_s_ldc {ix : Nat} (C : ax_Cx p l s m meth c mi A X b D tA) (r : ax_Rp tA ad b D A s (ax_maxL mi) h L H locs ls) (hi : ax_ins mi pc = some (.ldc ix)) (hs : ax_do X mi pc L S h (.ldc ix) = some z) (k : ∀ (pc' : Nat) (L' : ax_L) (S' : List Value) (h' : ax_H), z = .inl ((pc', L', S'), h') → ax_K p l e R s m args below meth c Q mi A b D tA ad h cells slots pc' L' S' h') : W p l e R s m args below meth c H locs cells slots Q (F0 m pc ls (S.map (ax_cv ad b))) := by
  obtain ⟨hx, hb, hml, hown, hr, hlocks, hnm, htab, htr, E, hK, hA, hU, hN, hX⟩ := C
  obtain ⟨hP, hD, hS, hl⟩ := id r
  obtain ⟨n, hd, hn⟩ := ax_dec hi
  cases ax_len1 hn 2 rfl
  simp only [ax_do] at hs
  split at hs
  · rename_i v q e0
    cases hs
    exact lv_ldc hx hb hown (E.use (ax_num_i e0)) hd ((k _ _ _ _ rfl).go r)
  · rename_i v q e0
    cases hs
    exact lv_ldcf hx hb hown (E.use (ax_num_f e0)) hd ((k _ _ _ _ rfl).go r)
  · cases hs

theorem ax_s_ldc_w {ix : Nat} (C : ax_Cx p l s m meth c mi A X b D tA) (r : ax_Rp tA ad b D A s (ax_maxL mi) h L H locs ls) (hi : ax_ins mi pc = some (.ldc_w ix)) (hs : ax_do X mi pc L S h (.ldc_w ix) = some z) (k : ∀ (pc' : Nat) (L' : ax_L) (S' : List Value) (h' : ax_H), z = .inl ((pc', L', S'), h') → ax_K p l e R s m args below meth c Q mi A b D tA ad h cells slots pc' L' S' h') : W p l e R s m args below meth c H locs cells slots Q (F0 m pc ls (S.map (ax_cv ad b))) := by
  obtain ⟨hx, hb, hml, hown, hr, hlocks, hnm, htab, htr, E, hK, hA, hU, hN, hX⟩ := C
  obtain ⟨hP, hD, hS, hl⟩ := id r
  obtain ⟨n, hd, hn⟩ := ax_dec hi
  cases ax_len1 hn 3 rfl
  simp only [ax_do] at hs
  split at hs
  · rename_i v q e0
    cases hs
    exact lv_ldcw hx hb hown (E.use (ax_num_i e0)) hd ((k _ _ _ _ rfl).go r)
  · rename_i v q e0
    cases hs
    exact ax_ldcwF hx hb hown (E.use (ax_num_f e0)) hd ((k _ _ _ _ rfl).go r)
  · cases hs

theorem ax_s_ldc2_w {ix : Nat} (C : ax_Cx p l s m meth c mi A X b D tA) (r : ax_Rp tA ad b D A s (ax_maxL mi) h L H locs ls) (hi : ax_ins mi pc = some (.ldc2_w ix)) (hs : ax_do X mi pc L S h (.ldc2_w ix) = some z) (k : ∀ (pc' : Nat) (L' : ax_L) (S' : List Value) (h' : ax_H), z = .inl ((pc', L', S'), h') → ax_K p l e R s m args below meth c Q mi A b D tA ad h cells slots pc' L' S' h') : W p l e R s m args below meth c H locs cells slots Q (F0 m pc ls (S.map (ax_cv ad b))) := by
  obtain ⟨hx, hb, hml, hown, hr, hlocks, hnm, htab, htr, E, hK, hA, hU, hN, hX⟩ := C
  obtain ⟨hP, hD, hS, hl⟩ := id r
  obtain ⟨n, hd, hn⟩ := ax_dec hi
  cases ax_len1 hn 3 rfl
  simp only [ax_do] at hs
  split at hs
  · rename_i v q e0
    cases hs
    exact lv_ldc2 hx hb hown (E.use (ax_num_l e0)) hd ((k _ _ _ _ rfl).go r)
  · rename_i v q e0
    cases hs
    exact lv_ldc2d hx hb hown (E.use (ax_num_d e0)) hd ((k _ _ _ _ rfl).go r)
  · cases hs

theorem ax_s_iadd (C : ax_Cx p l s m meth c mi A X b D tA) (r : ax_Rp tA ad b D A s (ax_maxL mi) h L H locs ls) (hi : ax_ins mi pc = some (.iadd)) (hs : ax_do X mi pc L S h (.iadd) = some z) (k : ∀ (pc' : Nat) (L' : ax_L) (S' : List Value) (h' : ax_H), z = .inl ((pc', L', S'), h') → ax_K p l e R s m args below meth c Q mi A b D tA ad h cells slots pc' L' S' h') : W p l e R s m args below meth c H locs cells slots Q (F0 m pc ls (S.map (ax_cv ad b))) := by
  obtain ⟨hx, hb, hml, hown, hr, hlocks, hnm, htab, htr, E, hK, hA, hU, hN, hX⟩ := C
  obtain ⟨hP, hD, hS, hl⟩ := id r
  obtain ⟨n, hd, hn⟩ := ax_dec hi
  cases ax_len1 hn 1 rfl
  simp only [ax_do] at hs
  split at hs
  · cases hs
    exact lv_iadd hx hb hd ((k _ _ _ _ rfl).go r)
  · cases hs

theorem ax_s_isub (C : ax_Cx p l s m meth c mi A X b D tA) (r : ax_Rp tA ad b D A s (ax_maxL mi) h L H locs ls) (hi : ax_ins mi pc = some (.isub)) (hs : ax_do X mi pc L S h (.isub) = some z) (k : ∀ (pc' : Nat) (L' : ax_L) (S' : List Value) (h' : ax_H), z = .inl ((pc', L', S'), h') → ax_K p l e R s m args below meth c Q mi A b D tA ad h cells slots pc' L' S' h') : W p l e R s m args below meth c H locs cells slots Q (F0 m pc ls (S.map (ax_cv ad b))) := by
  obtain ⟨hx, hb, hml, hown, hr, hlocks, hnm, htab, htr, E, hK, hA, hU, hN, hX⟩ := C
  obtain ⟨hP, hD, hS, hl⟩ := id r
  obtain ⟨n, hd, hn⟩ := ax_dec hi
  cases ax_len1 hn 1 rfl
  simp only [ax_do] at hs
  split at hs
  · cases hs
    exact lv_isub hx hb hd ((k _ _ _ _ rfl).go r)
  · cases hs

theorem ax_s_imul (C : ax_Cx p l s m meth c mi A X b D tA) (r : ax_Rp tA ad b D A s (ax_maxL mi) h L H locs ls) (hi : ax_ins mi pc = some (.imul)) (hs : ax_do X mi pc L S h (.imul) = some z) (k : ∀ (pc' : Nat) (L' : ax_L) (S' : List Value) (h' : ax_H), z = .inl ((pc', L', S'), h') → ax_K p l e R s m args below meth c Q mi A b D tA ad h cells slots pc' L' S' h') : W p l e R s m args below meth c H locs cells slots Q (F0 m pc ls (S.map (ax_cv ad b))) := by
  obtain ⟨hx, hb, hml, hown, hr, hlocks, hnm, htab, htr, E, hK, hA, hU, hN, hX⟩ := C
  obtain ⟨hP, hD, hS, hl⟩ := id r
  obtain ⟨n, hd, hn⟩ := ax_dec hi
  cases ax_len1 hn 1 rfl
  simp only [ax_do] at hs
  split at hs
  · cases hs
    exact lv_imul hx hb hd ((k _ _ _ _ rfl).go r)
  · cases hs

theorem ax_s_iand (C : ax_Cx p l s m meth c mi A X b D tA) (r : ax_Rp tA ad b D A s (ax_maxL mi) h L H locs ls) (hi : ax_ins mi pc = some (.iand)) (hs : ax_do X mi pc L S h (.iand) = some z) (k : ∀ (pc' : Nat) (L' : ax_L) (S' : List Value) (h' : ax_H), z = .inl ((pc', L', S'), h') → ax_K p l e R s m args below meth c Q mi A b D tA ad h cells slots pc' L' S' h') : W p l e R s m args below meth c H locs cells slots Q (F0 m pc ls (S.map (ax_cv ad b))) := by
  obtain ⟨hx, hb, hml, hown, hr, hlocks, hnm, htab, htr, E, hK, hA, hU, hN, hX⟩ := C
  obtain ⟨hP, hD, hS, hl⟩ := id r
  obtain ⟨n, hd, hn⟩ := ax_dec hi
  cases ax_len1 hn 1 rfl
  simp only [ax_do] at hs
  split at hs
  · cases hs
    exact lv_iand hx hb hd ((k _ _ _ _ rfl).go r)
  · cases hs

theorem ax_s_ior (C : ax_Cx p l s m meth c mi A X b D tA) (r : ax_Rp tA ad b D A s (ax_maxL mi) h L H locs ls) (hi : ax_ins mi pc = some (.ior)) (hs : ax_do X mi pc L S h (.ior) = some z) (k : ∀ (pc' : Nat) (L' : ax_L) (S' : List Value) (h' : ax_H), z = .inl ((pc', L', S'), h') → ax_K p l e R s m args below meth c Q mi A b D tA ad h cells slots pc' L' S' h') : W p l e R s m args below meth c H locs cells slots Q (F0 m pc ls (S.map (ax_cv ad b))) := by
  obtain ⟨hx, hb, hml, hown, hr, hlocks, hnm, htab, htr, E, hK, hA, hU, hN, hX⟩ := C
  obtain ⟨hP, hD, hS, hl⟩ := id r
  obtain ⟨n, hd, hn⟩ := ax_dec hi
  cases ax_len1 hn 1 rfl
  simp only [ax_do] at hs
  split at hs
  · cases hs
    exact lv_ior hx hb hd ((k _ _ _ _ rfl).go r)
  · cases hs

theorem ax_s_ixor (C : ax_Cx p l s m meth c mi A X b D tA) (r : ax_Rp tA ad b D A s (ax_maxL mi) h L H locs ls) (hi : ax_ins mi pc = some (.ixor)) (hs : ax_do X mi pc L S h (.ixor) = some z) (k : ∀ (pc' : Nat) (L' : ax_L) (S' : List Value) (h' : ax_H), z = .inl ((pc', L', S'), h') → ax_K p l e R s m args below meth c Q mi A b D tA ad h cells slots pc' L' S' h') : W p l e R s m args below meth c H locs cells slots Q (F0 m pc ls (S.map (ax_cv ad b))) := by
  obtain ⟨hx, hb, hml, hown, hr, hlocks, hnm, htab, htr, E, hK, hA, hU, hN, hX⟩ := C
  obtain ⟨hP, hD, hS, hl⟩ := id r
  obtain ⟨n, hd, hn⟩ := ax_dec hi
  cases ax_len1 hn 1 rfl
  simp only [ax_do] at hs
  split at hs
  · cases hs
    exact lv_ixor hx hb hd ((k _ _ _ _ rfl).go r)
  · cases hs

theorem ax_s_ishl (C : ax_Cx p l s m meth c mi A X b D tA) (r : ax_Rp tA ad b D A s (ax_maxL mi) h L H locs ls) (hi : ax_ins mi pc = some (.ishl)) (hs : ax_do X mi pc L S h (.ishl) = some z) (k : ∀ (pc' : Nat) (L' : ax_L) (S' : List Value) (h' : ax_H), z = .inl ((pc', L', S'), h') → ax_K p l e R s m args below meth c Q mi A b D tA ad h cells slots pc' L' S' h') : W p l e R s m args below meth c H locs cells slots Q (F0 m pc ls (S.map (ax_cv ad b))) := by
  obtain ⟨hx, hb, hml, hown, hr, hlocks, hnm, htab, htr, E, hK, hA, hU, hN, hX⟩ := C
  obtain ⟨hP, hD, hS, hl⟩ := id r
  obtain ⟨n, hd, hn⟩ := ax_dec hi
  cases ax_len1 hn 1 rfl
  simp only [ax_do] at hs
  split at hs
  · cases hs
    exact lv_ishl hx hb hd ((k _ _ _ _ rfl).go r)
  · cases hs

theorem ax_s_ishr (C : ax_Cx p l s m meth c mi A X b D tA) (r : ax_Rp tA ad b D A s (ax_maxL mi) h L H locs ls) (hi : ax_ins mi pc = some (.ishr)) (hs : ax_do X mi pc L S h (.ishr) = some z) (k : ∀ (pc' : Nat) (L' : ax_L) (S' : List Value) (h' : ax_H), z = .inl ((pc', L', S'), h') → ax_K p l e R s m args below meth c Q mi A b D tA ad h cells slots pc' L' S' h') : W p l e R s m args below meth c H locs cells slots Q (F0 m pc ls (S.map (ax_cv ad b))) := by
  obtain ⟨hx, hb, hml, hown, hr, hlocks, hnm, htab, htr, E, hK, hA, hU, hN, hX⟩ := C
  obtain ⟨hP, hD, hS, hl⟩ := id r
  obtain ⟨n, hd, hn⟩ := ax_dec hi
  cases ax_len1 hn 1 rfl
  simp only [ax_do] at hs
  split at hs
  · cases hs
    exact lv_ishr hx hb hd ((k _ _ _ _ rfl).go r)
  · cases hs

theorem ax_s_ladd (C : ax_Cx p l s m meth c mi A X b D tA) (r : ax_Rp tA ad b D A s (ax_maxL mi) h L H locs ls) (hi : ax_ins mi pc = some (.ladd)) (hs : ax_do X mi pc L S h (.ladd) = some z) (k : ∀ (pc' : Nat) (L' : ax_L) (S' : List Value) (h' : ax_H), z = .inl ((pc', L', S'), h') → ax_K p l e R s m args below meth c Q mi A b D tA ad h cells slots pc' L' S' h') : W p l e R s m args below meth c H locs cells slots Q (F0 m pc ls (S.map (ax_cv ad b))) := by
  obtain ⟨hx, hb, hml, hown, hr, hlocks, hnm, htab, htr, E, hK, hA, hU, hN, hX⟩ := C
  obtain ⟨hP, hD, hS, hl⟩ := id r
  obtain ⟨n, hd, hn⟩ := ax_dec hi
  cases ax_len1 hn 1 rfl
  simp only [ax_do] at hs
  split at hs
  · cases hs
    exact lv_ladd hx hb hd ((k _ _ _ _ rfl).go r)
  · cases hs

theorem ax_s_lmul (C : ax_Cx p l s m meth c mi A X b D tA) (r : ax_Rp tA ad b D A s (ax_maxL mi) h L H locs ls) (hi : ax_ins mi pc = some (.lmul)) (hs : ax_do X mi pc L S h (.lmul) = some z) (k : ∀ (pc' : Nat) (L' : ax_L) (S' : List Value) (h' : ax_H), z = .inl ((pc', L', S'), h') → ax_K p l e R s m args below meth c Q mi A b D tA ad h cells slots pc' L' S' h') : W p l e R s m args below meth c H locs cells slots Q (F0 m pc ls (S.map (ax_cv ad b))) := by
  obtain ⟨hx, hb, hml, hown, hr, hlocks, hnm, htab, htr, E, hK, hA, hU, hN, hX⟩ := C
  obtain ⟨hP, hD, hS, hl⟩ := id r
  obtain ⟨n, hd, hn⟩ := ax_dec hi
  cases ax_len1 hn 1 rfl
  simp only [ax_do] at hs
  split at hs
  · cases hs
    exact lv_lmul hx hb hd ((k _ _ _ _ rfl).go r)
  · cases hs

theorem ax_s_lor (C : ax_Cx p l s m meth c mi A X b D tA) (r : ax_Rp tA ad b D A s (ax_maxL mi) h L H locs ls) (hi : ax_ins mi pc = some (.lor)) (hs : ax_do X mi pc L S h (.lor) = some z) (k : ∀ (pc' : Nat) (L' : ax_L) (S' : List Value) (h' : ax_H), z = .inl ((pc', L', S'), h') → ax_K p l e R s m args below meth c Q mi A b D tA ad h cells slots pc' L' S' h') : W p l e R s m args below meth c H locs cells slots Q (F0 m pc ls (S.map (ax_cv ad b))) := by
  obtain ⟨hx, hb, hml, hown, hr, hlocks, hnm, htab, htr, E, hK, hA, hU, hN, hX⟩ := C
  obtain ⟨hP, hD, hS, hl⟩ := id r
  obtain ⟨n, hd, hn⟩ := ax_dec hi
  cases ax_len1 hn 1 rfl
  simp only [ax_do] at hs
  split at hs
  · cases hs
    exact lv_lor hx hb hd ((k _ _ _ _ rfl).go r)
  · cases hs

theorem ax_s_lcmp (C : ax_Cx p l s m meth c mi A X b D tA) (r : ax_Rp tA ad b D A s (ax_maxL mi) h L H locs ls) (hi : ax_ins mi pc = some (.lcmp)) (hs : ax_do X mi pc L S h (.lcmp) = some z) (k : ∀ (pc' : Nat) (L' : ax_L) (S' : List Value) (h' : ax_H), z = .inl ((pc', L', S'), h') → ax_K p l e R s m args below meth c Q mi A b D tA ad h cells slots pc' L' S' h') : W p l e R s m args below meth c H locs cells slots Q (F0 m pc ls (S.map (ax_cv ad b))) := by
  obtain ⟨hx, hb, hml, hown, hr, hlocks, hnm, htab, htr, E, hK, hA, hU, hN, hX⟩ := C
  obtain ⟨hP, hD, hS, hl⟩ := id r
  obtain ⟨n, hd, hn⟩ := ax_dec hi
  cases ax_len1 hn 1 rfl
  simp only [ax_do] at hs
  split at hs
  · cases hs
    exact W.lcmp hx hb hd ((k _ _ _ _ rfl).go r)
  · cases hs

theorem ax_s_lshl (C : ax_Cx p l s m meth c mi A X b D tA) (r : ax_Rp tA ad b D A s (ax_maxL mi) h L H locs ls) (hi : ax_ins mi pc = some (.lshl)) (hs : ax_do X mi pc L S h (.lshl) = some z) (k : ∀ (pc' : Nat) (L' : ax_L) (S' : List Value) (h' : ax_H), z = .inl ((pc', L', S'), h') → ax_K p l e R s m args below meth c Q mi A b D tA ad h cells slots pc' L' S' h') : W p l e R s m args below meth c H locs cells slots Q (F0 m pc ls (S.map (ax_cv ad b))) := by
  obtain ⟨hx, hb, hml, hown, hr, hlocks, hnm, htab, htr, E, hK, hA, hU, hN, hX⟩ := C
  obtain ⟨hP, hD, hS, hl⟩ := id r
  obtain ⟨n, hd, hn⟩ := ax_dec hi
  cases ax_len1 hn 1 rfl
  simp only [ax_do] at hs
  split at hs
  · cases hs
    exact lv_lshl hx hb hd rfl ((k _ _ _ _ rfl).go r)
  · cases hs

theorem ax_s_i2l (C : ax_Cx p l s m meth c mi A X b D tA) (r : ax_Rp tA ad b D A s (ax_maxL mi) h L H locs ls) (hi : ax_ins mi pc = some (.i2l)) (hs : ax_do X mi pc L S h (.i2l) = some z) (k : ∀ (pc' : Nat) (L' : ax_L) (S' : List Value) (h' : ax_H), z = .inl ((pc', L', S'), h') → ax_K p l e R s m args below meth c Q mi A b D tA ad h cells slots pc' L' S' h') : W p l e R s m args below meth c H locs cells slots Q (F0 m pc ls (S.map (ax_cv ad b))) := by
  obtain ⟨hx, hb, hml, hown, hr, hlocks, hnm, htab, htr, E, hK, hA, hU, hN, hX⟩ := C
  obtain ⟨hP, hD, hS, hl⟩ := id r
  obtain ⟨n, hd, hn⟩ := ax_dec hi
  cases ax_len1 hn 1 rfl
  simp only [ax_do] at hs
  split at hs
  · cases hs
    exact lv_i2l hx hb hd rfl ((k _ _ _ _ rfl).go r)
  · cases hs

theorem ax_s_idiv (C : ax_Cx p l s m meth c mi A X b D tA) (r : ax_Rp tA ad b D A s (ax_maxL mi) h L H locs ls) (hi : ax_ins mi pc = some (.idiv)) (hs : ax_do X mi pc L S h (.idiv) = some z) (k : ∀ (pc' : Nat) (L' : ax_L) (S' : List Value) (h' : ax_H), z = .inl ((pc', L', S'), h') → ax_K p l e R s m args below meth c Q mi A b D tA ad h cells slots pc' L' S' h') : W p l e R s m args below meth c H locs cells slots Q (F0 m pc ls (S.map (ax_cv ad b))) := by
  obtain ⟨hx, hb, hml, hown, hr, hlocks, hnm, htab, htr, E, hK, hA, hU, hN, hX⟩ := C
  obtain ⟨hP, hD, hS, hl⟩ := id r
  obtain ⟨n, hd, hn⟩ := ax_dec hi
  cases ax_len1 hn 1 rfl
  simp only [ax_do] at hs
  split at hs
  · rename_i y x S0
    cases hy : decide (y = 0) with
    | true => rw [hy] at hs; cases hs
    | false =>
      rw [hy] at hs
      cases hs
      exact lv_idiv hx hb hd (of_decide_eq_false hy) ((k _ _ _ _ rfl).go r)
  · cases hs

theorem ax_s_irem (C : ax_Cx p l s m meth c mi A X b D tA) (r : ax_Rp tA ad b D A s (ax_maxL mi) h L H locs ls) (hi : ax_ins mi pc = some (.irem)) (hs : ax_do X mi pc L S h (.irem) = some z) (k : ∀ (pc' : Nat) (L' : ax_L) (S' : List Value) (h' : ax_H), z = .inl ((pc', L', S'), h') → ax_K p l e R s m args below meth c Q mi A b D tA ad h cells slots pc' L' S' h') : W p l e R s m args below meth c H locs cells slots Q (F0 m pc ls (S.map (ax_cv ad b))) := by
  obtain ⟨hx, hb, hml, hown, hr, hlocks, hnm, htab, htr, E, hK, hA, hU, hN, hX⟩ := C
  obtain ⟨hP, hD, hS, hl⟩ := id r
  obtain ⟨n, hd, hn⟩ := ax_dec hi
  cases ax_len1 hn 1 rfl
  simp only [ax_do] at hs
  split at hs
  · rename_i y x S0
    cases hy : decide (y = 0) with
    | true => rw [hy] at hs; cases hs
    | false =>
      rw [hy] at hs
      cases hs
      exact lv_irem hx hb hd (of_decide_eq_false hy) ((k _ _ _ _ rfl).go r)
  · cases hs

theorem ax_s_i2f (C : ax_Cx p l s m meth c mi A X b D tA) (r : ax_Rp tA ad b D A s (ax_maxL mi) h L H locs ls) (hi : ax_ins mi pc = some (.i2f)) (hs : ax_do X mi pc L S h (.i2f) = some z) (k : ∀ (pc' : Nat) (L' : ax_L) (S' : List Value) (h' : ax_H), z = .inl ((pc', L', S'), h') → ax_K p l e R s m args below meth c Q mi A b D tA ad h cells slots pc' L' S' h') : W p l e R s m args below meth c H locs cells slots Q (F0 m pc ls (S.map (ax_cv ad b))) := by
  obtain ⟨hx, hb, hml, hown, hr, hlocks, hnm, htab, htr, E, hK, hA, hU, hN, hX⟩ := C
  obtain ⟨hP, hD, hS, hl⟩ := id r
  obtain ⟨n, hd, hn⟩ := ax_dec hi
  cases ax_len1 hn 1 rfl
  simp only [ax_do] at hs
  split at hs
  · cases hs
    exact lv_i2f hx hb hd ((k _ _ _ _ rfl).go r)
  · cases hs

theorem ax_s_i2d (C : ax_Cx p l s m meth c mi A X b D tA) (r : ax_Rp tA ad b D A s (ax_maxL mi) h L H locs ls) (hi : ax_ins mi pc = some (.i2d)) (hs : ax_do X mi pc L S h (.i2d) = some z) (k : ∀ (pc' : Nat) (L' : ax_L) (S' : List Value) (h' : ax_H), z = .inl ((pc', L', S'), h') → ax_K p l e R s m args below meth c Q mi A b D tA ad h cells slots pc' L' S' h') : W p l e R s m args below meth c H locs cells slots Q (F0 m pc ls (S.map (ax_cv ad b))) := by
  obtain ⟨hx, hb, hml, hown, hr, hlocks, hnm, htab, htr, E, hK, hA, hU, hN, hX⟩ := C
  obtain ⟨hP, hD, hS, hl⟩ := id r
  obtain ⟨n, hd, hn⟩ := ax_dec hi
  cases ax_len1 hn 1 rfl
  simp only [ax_do] at hs
  split at hs
  · cases hs
    exact lv_i2d hx hb hd ((k _ _ _ _ rfl).go r)
  · cases hs

theorem ax_s_l2d (C : ax_Cx p l s m meth c mi A X b D tA) (r : ax_Rp tA ad b D A s (ax_maxL mi) h L H locs ls) (hi : ax_ins mi pc = some (.l2d)) (hs : ax_do X mi pc L S h (.l2d) = some z) (k : ∀ (pc' : Nat) (L' : ax_L) (S' : List Value) (h' : ax_H), z = .inl ((pc', L', S'), h') → ax_K p l e R s m args below meth c Q mi A b D tA ad h cells slots pc' L' S' h') : W p l e R s m args below meth c H locs cells slots Q (F0 m pc ls (S.map (ax_cv ad b))) := by
  obtain ⟨hx, hb, hml, hown, hr, hlocks, hnm, htab, htr, E, hK, hA, hU, hN, hX⟩ := C
  obtain ⟨hP, hD, hS, hl⟩ := id r
  obtain ⟨n, hd, hn⟩ := ax_dec hi
  cases ax_len1 hn 1 rfl
  simp only [ax_do] at hs
  split at hs
  · cases hs
    exact lv_l2d hx hb hd ((k _ _ _ _ rfl).go r)
  · cases hs

theorem ax_s_f2i (C : ax_Cx p l s m meth c mi A X b D tA) (r : ax_Rp tA ad b D A s (ax_maxL mi) h L H locs ls) (hi : ax_ins mi pc = some (.f2i)) (hs : ax_do X mi pc L S h (.f2i) = some z) (k : ∀ (pc' : Nat) (L' : ax_L) (S' : List Value) (h' : ax_H), z = .inl ((pc', L', S'), h') → ax_K p l e R s m args below meth c Q mi A b D tA ad h cells slots pc' L' S' h') : W p l e R s m args below meth c H locs cells slots Q (F0 m pc ls (S.map (ax_cv ad b))) := by
  obtain ⟨hx, hb, hml, hown, hr, hlocks, hnm, htab, htr, E, hK, hA, hU, hN, hX⟩ := C
  obtain ⟨hP, hD, hS, hl⟩ := id r
  obtain ⟨n, hd, hn⟩ := ax_dec hi
  cases ax_len1 hn 1 rfl
  simp only [ax_do] at hs
  split at hs
  · cases hs
    exact lv_f2i hx hb hd ((k _ _ _ _ rfl).go r)
  · cases hs

theorem ax_s_d2l (C : ax_Cx p l s m meth c mi A X b D tA) (r : ax_Rp tA ad b D A s (ax_maxL mi) h L H locs ls) (hi : ax_ins mi pc = some (.d2l)) (hs : ax_do X mi pc L S h (.d2l) = some z) (k : ∀ (pc' : Nat) (L' : ax_L) (S' : List Value) (h' : ax_H), z = .inl ((pc', L', S'), h') → ax_K p l e R s m args below meth c Q mi A b D tA ad h cells slots pc' L' S' h') : W p l e R s m args below meth c H locs cells slots Q (F0 m pc ls (S.map (ax_cv ad b))) := by
  obtain ⟨hx, hb, hml, hown, hr, hlocks, hnm, htab, htr, E, hK, hA, hU, hN, hX⟩ := C
  obtain ⟨hP, hD, hS, hl⟩ := id r
  obtain ⟨n, hd, hn⟩ := ax_dec hi
  cases ax_len1 hn 1 rfl
  simp only [ax_do] at hs
  split at hs
  · cases hs
    exact lv_d2l hx hb hd ((k _ _ _ _ rfl).go r)
  · cases hs

theorem ax_s_f2d (C : ax_Cx p l s m meth c mi A X b D tA) (r : ax_Rp tA ad b D A s (ax_maxL mi) h L H locs ls) (hi : ax_ins mi pc = some (.f2d)) (hs : ax_do X mi pc L S h (.f2d) = some z) (k : ∀ (pc' : Nat) (L' : ax_L) (S' : List Value) (h' : ax_H), z = .inl ((pc', L', S'), h') → ax_K p l e R s m args below meth c Q mi A b D tA ad h cells slots pc' L' S' h') : W p l e R s m args below meth c H locs cells slots Q (F0 m pc ls (S.map (ax_cv ad b))) := by
  obtain ⟨hx, hb, hml, hown, hr, hlocks, hnm, htab, htr, E, hK, hA, hU, hN, hX⟩ := C
  obtain ⟨hP, hD, hS, hl⟩ := id r
  obtain ⟨n, hd, hn⟩ := ax_dec hi
  cases ax_len1 hn 1 rfl
  simp only [ax_do] at hs
  split at hs
  · obtain ⟨h1, h2⟩ := ax_bifR hs
    cases h2
    exact lv_f2d hx hb hd (ax_nok_64 h1) ((k _ _ _ _ rfl).go r)
  · cases hs

theorem ax_s_fmul (C : ax_Cx p l s m meth c mi A X b D tA) (r : ax_Rp tA ad b D A s (ax_maxL mi) h L H locs ls) (hi : ax_ins mi pc = some (.fmul)) (hs : ax_do X mi pc L S h (.fmul) = some z) (k : ∀ (pc' : Nat) (L' : ax_L) (S' : List Value) (h' : ax_H), z = .inl ((pc', L', S'), h') → ax_K p l e R s m args below meth c Q mi A b D tA ad h cells slots pc' L' S' h') : W p l e R s m args below meth c H locs cells slots Q (F0 m pc ls (S.map (ax_cv ad b))) := by
  obtain ⟨hx, hb, hml, hown, hr, hlocks, hnm, htab, htr, E, hK, hA, hU, hN, hX⟩ := C
  obtain ⟨hP, hD, hS, hl⟩ := id r
  obtain ⟨n, hd, hn⟩ := ax_dec hi
  cases ax_len1 hn 1 rfl
  simp only [ax_do] at hs
  split at hs
  · obtain ⟨h1, h2⟩ := ax_bifR hs
    cases h2
    exact lv_fmul hx hb hd (ax_nok_32 h1) ((k _ _ _ _ rfl).go r)
  · cases hs

theorem ax_s_fsub (C : ax_Cx p l s m meth c mi A X b D tA) (r : ax_Rp tA ad b D A s (ax_maxL mi) h L H locs ls) (hi : ax_ins mi pc = some (.fsub)) (hs : ax_do X mi pc L S h (.fsub) = some z) (k : ∀ (pc' : Nat) (L' : ax_L) (S' : List Value) (h' : ax_H), z = .inl ((pc', L', S'), h') → ax_K p l e R s m args below meth c Q mi A b D tA ad h cells slots pc' L' S' h') : W p l e R s m args below meth c H locs cells slots Q (F0 m pc ls (S.map (ax_cv ad b))) := by
  obtain ⟨hx, hb, hml, hown, hr, hlocks, hnm, htab, htr, E, hK, hA, hU, hN, hX⟩ := C
  obtain ⟨hP, hD, hS, hl⟩ := id r
  obtain ⟨n, hd, hn⟩ := ax_dec hi
  cases ax_len1 hn 1 rfl
  simp only [ax_do] at hs
  split at hs
  · obtain ⟨h1, h2⟩ := ax_bifR hs
    cases h2
    exact lv_fsub hx hb hd (ax_nok_32 h1) ((k _ _ _ _ rfl).go r)
  · cases hs

theorem ax_s_fdiv (C : ax_Cx p l s m meth c mi A X b D tA) (r : ax_Rp tA ad b D A s (ax_maxL mi) h L H locs ls) (hi : ax_ins mi pc = some (.fdiv)) (hs : ax_do X mi pc L S h (.fdiv) = some z) (k : ∀ (pc' : Nat) (L' : ax_L) (S' : List Value) (h' : ax_H), z = .inl ((pc', L', S'), h') → ax_K p l e R s m args below meth c Q mi A b D tA ad h cells slots pc' L' S' h') : W p l e R s m args below meth c H locs cells slots Q (F0 m pc ls (S.map (ax_cv ad b))) := by
  obtain ⟨hx, hb, hml, hown, hr, hlocks, hnm, htab, htr, E, hK, hA, hU, hN, hX⟩ := C
  obtain ⟨hP, hD, hS, hl⟩ := id r
  obtain ⟨n, hd, hn⟩ := ax_dec hi
  cases ax_len1 hn 1 rfl
  simp only [ax_do] at hs
  split at hs
  · obtain ⟨h1, h2⟩ := ax_bifR hs
    cases h2
    exact lv_fdiv hx hb hd (ax_nok_32 h1) ((k _ _ _ _ rfl).go r)
  · cases hs

theorem ax_s_dmul (C : ax_Cx p l s m meth c mi A X b D tA) (r : ax_Rp tA ad b D A s (ax_maxL mi) h L H locs ls) (hi : ax_ins mi pc = some (.dmul)) (hs : ax_do X mi pc L S h (.dmul) = some z) (k : ∀ (pc' : Nat) (L' : ax_L) (S' : List Value) (h' : ax_H), z = .inl ((pc', L', S'), h') → ax_K p l e R s m args below meth c Q mi A b D tA ad h cells slots pc' L' S' h') : W p l e R s m args below meth c H locs cells slots Q (F0 m pc ls (S.map (ax_cv ad b))) := by
  obtain ⟨hx, hb, hml, hown, hr, hlocks, hnm, htab, htr, E, hK, hA, hU, hN, hX⟩ := C
  obtain ⟨hP, hD, hS, hl⟩ := id r
  obtain ⟨n, hd, hn⟩ := ax_dec hi
  cases ax_len1 hn 1 rfl
  simp only [ax_do] at hs
  split at hs
  · obtain ⟨h1, h2⟩ := ax_bifR hs
    cases h2
    exact lv_dmul hx hb hd (ax_nok_64 h1) ((k _ _ _ _ rfl).go r)
  · cases hs

theorem ax_s_dsub (C : ax_Cx p l s m meth c mi A X b D tA) (r : ax_Rp tA ad b D A s (ax_maxL mi) h L H locs ls) (hi : ax_ins mi pc = some (.dsub)) (hs : ax_do X mi pc L S h (.dsub) = some z) (k : ∀ (pc' : Nat) (L' : ax_L) (S' : List Value) (h' : ax_H), z = .inl ((pc', L', S'), h') → ax_K p l e R s m args below meth c Q mi A b D tA ad h cells slots pc' L' S' h') : W p l e R s m args below meth c H locs cells slots Q (F0 m pc ls (S.map (ax_cv ad b))) := by
  obtain ⟨hx, hb, hml, hown, hr, hlocks, hnm, htab, htr, E, hK, hA, hU, hN, hX⟩ := C
  obtain ⟨hP, hD, hS, hl⟩ := id r
  obtain ⟨n, hd, hn⟩ := ax_dec hi
  cases ax_len1 hn 1 rfl
  simp only [ax_do] at hs
  split at hs
  · obtain ⟨h1, h2⟩ := ax_bifR hs
    cases h2
    exact lv_dsub hx hb hd (ax_nok_64 h1) ((k _ _ _ _ rfl).go r)
  · cases hs

theorem ax_s_ddiv (C : ax_Cx p l s m meth c mi A X b D tA) (r : ax_Rp tA ad b D A s (ax_maxL mi) h L H locs ls) (hi : ax_ins mi pc = some (.ddiv)) (hs : ax_do X mi pc L S h (.ddiv) = some z) (k : ∀ (pc' : Nat) (L' : ax_L) (S' : List Value) (h' : ax_H), z = .inl ((pc', L', S'), h') → ax_K p l e R s m args below meth c Q mi A b D tA ad h cells slots pc' L' S' h') : W p l e R s m args below meth c H locs cells slots Q (F0 m pc ls (S.map (ax_cv ad b))) := by
  obtain ⟨hx, hb, hml, hown, hr, hlocks, hnm, htab, htr, E, hK, hA, hU, hN, hX⟩ := C
  obtain ⟨hP, hD, hS, hl⟩ := id r
  obtain ⟨n, hd, hn⟩ := ax_dec hi
  cases ax_len1 hn 1 rfl
  simp only [ax_do] at hs
  split at hs
  · obtain ⟨h1, h2⟩ := ax_bifR hs
    cases h2
    exact lv_ddiv hx hb hd (ax_nok_64 h1) ((k _ _ _ _ rfl).go r)
  · cases hs

theorem ax_s_fcmp {op : CmpOp} (C : ax_Cx p l s m meth c mi A X b D tA) (r : ax_Rp tA ad b D A s (ax_maxL mi) h L H locs ls) (hi : ax_ins mi pc = some (.fcmp op)) (hs : ax_do X mi pc L S h (.fcmp op) = some z) (k : ∀ (pc' : Nat) (L' : ax_L) (S' : List Value) (h' : ax_H), z = .inl ((pc', L', S'), h') → ax_K p l e R s m args below meth c Q mi A b D tA ad h cells slots pc' L' S' h') : W p l e R s m args below meth c H locs cells slots Q (F0 m pc ls (S.map (ax_cv ad b))) := by
  obtain ⟨hx, hb, hml, hown, hr, hlocks, hnm, htab, htr, E, hK, hA, hU, hN, hX⟩ := C
  obtain ⟨hP, hD, hS, hl⟩ := id r
  obtain ⟨n, hd, hn⟩ := ax_dec hi
  cases ax_len1 hn 1 rfl
  simp only [ax_do] at hs
  split at hs
  · cases hs
    exact lv_fcmp hx hb hd ((k _ _ _ _ rfl).go r)
  · cases hs

theorem ax_s_dcmp {op : CmpOp} (C : ax_Cx p l s m meth c mi A X b D tA) (r : ax_Rp tA ad b D A s (ax_maxL mi) h L H locs ls) (hi : ax_ins mi pc = some (.dcmp op)) (hs : ax_do X mi pc L S h (.dcmp op) = some z) (k : ∀ (pc' : Nat) (L' : ax_L) (S' : List Value) (h' : ax_H), z = .inl ((pc', L', S'), h') → ax_K p l e R s m args below meth c Q mi A b D tA ad h cells slots pc' L' S' h') : W p l e R s m args below meth c H locs cells slots Q (F0 m pc ls (S.map (ax_cv ad b))) := by
  obtain ⟨hx, hb, hml, hown, hr, hlocks, hnm, htab, htr, E, hK, hA, hU, hN, hX⟩ := C
  obtain ⟨hP, hD, hS, hl⟩ := id r
  obtain ⟨n, hd, hn⟩ := ax_dec hi
  cases ax_len1 hn 1 rfl
  simp only [ax_do] at hs
  split at hs
  · cases hs
    exact lv_dcmp hx hb hd ((k _ _ _ _ rfl).go r)
  · cases hs

theorem ax_s_dup (C : ax_Cx p l s m meth c mi A X b D tA) (r : ax_Rp tA ad b D A s (ax_maxL mi) h L H locs ls) (hi : ax_ins mi pc = some (.dup)) (hs : ax_do X mi pc L S h (.dup) = some z) (k : ∀ (pc' : Nat) (L' : ax_L) (S' : List Value) (h' : ax_H), z = .inl ((pc', L', S'), h') → ax_K p l e R s m args below meth c Q mi A b D tA ad h cells slots pc' L' S' h') : W p l e R s m args below meth c H locs cells slots Q (F0 m pc ls (S.map (ax_cv ad b))) := by
  obtain ⟨hx, hb, hml, hown, hr, hlocks, hnm, htab, htr, E, hK, hA, hU, hN, hX⟩ := C
  obtain ⟨hP, hD, hS, hl⟩ := id r
  obtain ⟨n, hd, hn⟩ := ax_dec hi
  cases ax_len1 hn 1 rfl
  simp only [ax_do] at hs
  split at hs
  · rename_i v S0
    cases hw : ax_wide (some v) with
    | true => rw [hw] at hs; cases hs
    | false =>
      rw [hw] at hs
      cases hs
      exact lv_dup hx hb hd (ax_cat1 hw) ((k _ _ _ _ rfl).go r)
  · cases hs

theorem ax_s_pop (C : ax_Cx p l s m meth c mi A X b D tA) (r : ax_Rp tA ad b D A s (ax_maxL mi) h L H locs ls) (hi : ax_ins mi pc = some (.pop)) (hs : ax_do X mi pc L S h (.pop) = some z) (k : ∀ (pc' : Nat) (L' : ax_L) (S' : List Value) (h' : ax_H), z = .inl ((pc', L', S'), h') → ax_K p l e R s m args below meth c Q mi A b D tA ad h cells slots pc' L' S' h') : W p l e R s m args below meth c H locs cells slots Q (F0 m pc ls (S.map (ax_cv ad b))) := by
  obtain ⟨hx, hb, hml, hown, hr, hlocks, hnm, htab, htr, E, hK, hA, hU, hN, hX⟩ := C
  obtain ⟨hP, hD, hS, hl⟩ := id r
  obtain ⟨n, hd, hn⟩ := ax_dec hi
  cases ax_len1 hn 1 rfl
  simp only [ax_do] at hs
  split at hs
  · rename_i v S0
    cases hw : ax_wide (some v) with
    | true => rw [hw] at hs; cases hs
    | false =>
      rw [hw] at hs
      cases hs
      exact lv_pop hx hb hd (ax_cat1 hw) ((k _ _ _ _ rfl).go r)
  · cases hs

theorem ax_s_dup2 (C : ax_Cx p l s m meth c mi A X b D tA) (r : ax_Rp tA ad b D A s (ax_maxL mi) h L H locs ls) (hi : ax_ins mi pc = some (.dup2)) (hs : ax_do X mi pc L S h (.dup2) = some z) (k : ∀ (pc' : Nat) (L' : ax_L) (S' : List Value) (h' : ax_H), z = .inl ((pc', L', S'), h') → ax_K p l e R s m args below meth c Q mi A b D tA ad h cells slots pc' L' S' h') : W p l e R s m args below meth c H locs cells slots Q (F0 m pc ls (S.map (ax_cv ad b))) := by
  obtain ⟨hx, hb, hml, hown, hr, hlocks, hnm, htab, htr, E, hK, hA, hU, hN, hX⟩ := C
  obtain ⟨hP, hD, hS, hl⟩ := id r
  obtain ⟨n, hd, hn⟩ := ax_dec hi
  cases ax_len1 hn 1 rfl
  simp only [ax_do] at hs
  split at hs
  · rename_i v w S0
    cases hw : (ax_wide (some v) || ax_wide (some w)) with
    | true => rw [hw] at hs; cases hs
    | false =>
      rw [hw] at hs
      cases hs
      have h2 := Bool.or_eq_false_iff.mp hw
      exact lv_dup2_11 hx hb hd (ax_cat1 h2.1) (ax_cat1 h2.2) ((k _ _ _ _ rfl).go r)
  · cases hs

theorem ax_s_goto {off : Int} (C : ax_Cx p l s m meth c mi A X b D tA) (r : ax_Rp tA ad b D A s (ax_maxL mi) h L H locs ls) (hi : ax_ins mi pc = some (.goto off)) (hs : ax_do X mi pc L S h (.goto off) = some z) (k : ∀ (pc' : Nat) (L' : ax_L) (S' : List Value) (h' : ax_H), z = .inl ((pc', L', S'), h') → ax_K p l e R s m args below meth c Q mi A b D tA ad h cells slots pc' L' S' h') : W p l e R s m args below meth c H locs cells slots Q (F0 m pc ls (S.map (ax_cv ad b))) := by
  obtain ⟨hx, hb, hml, hown, hr, hlocks, hnm, htab, htr, E, hK, hA, hU, hN, hX⟩ := C
  obtain ⟨hP, hD, hS, hl⟩ := id r
  obtain ⟨n, hd, hn⟩ := ax_dec hi
  cases ax_len1 hn 3 rfl
  simp only [ax_do] at hs
  split at hs
  · rename_i t e0
    cases hs
    exact lv_goto hx hb hd (ax_jmp_ok e0) ((k _ _ _ _ rfl).go r)
  · cases hs

theorem ax_s_if_icmp {cnd : ClassFile.Cond} {off : Int} (C : ax_Cx p l s m meth c mi A X b D tA) (r : ax_Rp tA ad b D A s (ax_maxL mi) h L H locs ls) (hi : ax_ins mi pc = some (.if_icmp cnd off)) (hs : ax_do X mi pc L S h (.if_icmp cnd off) = some z) (k : ∀ (pc' : Nat) (L' : ax_L) (S' : List Value) (h' : ax_H), z = .inl ((pc', L', S'), h') → ax_K p l e R s m args below meth c Q mi A b D tA ad h cells slots pc' L' S' h') : W p l e R s m args below meth c H locs cells slots Q (F0 m pc ls (S.map (ax_cv ad b))) := by
  obtain ⟨hx, hb, hml, hown, hr, hlocks, hnm, htab, htr, E, hK, hA, hU, hN, hX⟩ := C
  obtain ⟨hP, hD, hS, hl⟩ := id r
  obtain ⟨n, hd, hn⟩ := ax_dec hi
  cases ax_len1 hn 3 rfl
  simp only [ax_do] at hs
  split at hs
  · cases e0 : ax_jmp pc off with
    | none => simp only [ax_if, e0] at hs; cases hs
    | some t =>
    cases cnd with
    | eq =>
      simp only [ax_if, e0] at hs
      refine lv_icmp_eq hx hb hd (ax_jmp_ok e0) (fun q => ?_) (fun q => ?_)
      · rw [decide_eq_true q] at hs; cases hs; exact (k _ _ _ _ rfl).go r
      · rw [decide_eq_false q] at hs; cases hs; exact (k _ _ _ _ rfl).go r
    | ne =>
      simp only [ax_if, e0] at hs
      refine lv_icmp_ne hx hb hd (ax_jmp_ok e0) (fun q => ?_) (fun q => ?_)
      · rw [decide_eq_false q] at hs; cases hs; exact (k _ _ _ _ rfl).go r
      · rw [decide_eq_true q] at hs; cases hs; exact (k _ _ _ _ rfl).go r
    | lt =>
      simp only [ax_if, e0] at hs
      refine lv_icmp_lt hx hb hd (ax_jmp_ok e0) (fun q => ?_) (fun q => ?_)
      · rw [decide_eq_true q] at hs; cases hs; exact (k _ _ _ _ rfl).go r
      · rw [decide_eq_false q] at hs; cases hs; exact (k _ _ _ _ rfl).go r
    | ge =>
      simp only [ax_if, e0] at hs
      refine lv_icmp_ge hx hb hd (ax_jmp_ok e0) (fun q => ?_) (fun q => ?_)
      · rw [decide_eq_true q] at hs; cases hs; exact (k _ _ _ _ rfl).go r
      · rw [decide_eq_false q] at hs; cases hs; exact (k _ _ _ _ rfl).go r
    | gt =>
      simp only [ax_if, e0] at hs
      refine lv_icmp_gt hx hb hd (ax_jmp_ok e0) (fun q => ?_) (fun q => ?_)
      · rw [decide_eq_true q] at hs; cases hs; exact (k _ _ _ _ rfl).go r
      · rw [decide_eq_false q] at hs; cases hs; exact (k _ _ _ _ rfl).go r
    | le =>
      simp only [ax_if, e0] at hs
      refine lv_icmp_le hx hb hd (ax_jmp_ok e0) (fun q => ?_) (fun q => ?_)
      · rw [decide_eq_true q] at hs; cases hs; exact (k _ _ _ _ rfl).go r
      · rw [decide_eq_false q] at hs; cases hs; exact (k _ _ _ _ rfl).go r
  · cases hs

theorem ax_s_ifCond {cnd : ClassFile.Cond} {off : Int} (C : ax_Cx p l s m meth c mi A X b D tA) (r : ax_Rp tA ad b D A s (ax_maxL mi) h L H locs ls) (hi : ax_ins mi pc = some (.ifCond cnd off)) (hs : ax_do X mi pc L S h (.ifCond cnd off) = some z) (k : ∀ (pc' : Nat) (L' : ax_L) (S' : List Value) (h' : ax_H), z = .inl ((pc', L', S'), h') → ax_K p l e R s m args below meth c Q mi A b D tA ad h cells slots pc' L' S' h') : W p l e R s m args below meth c H locs cells slots Q (F0 m pc ls (S.map (ax_cv ad b))) := by
  obtain ⟨hx, hb, hml, hown, hr, hlocks, hnm, htab, htr, E, hK, hA, hU, hN, hX⟩ := C
  obtain ⟨hP, hD, hS, hl⟩ := id r
  obtain ⟨n, hd, hn⟩ := ax_dec hi
  cases ax_len1 hn 3 rfl
  simp only [ax_do] at hs
  split at hs
  · cases e0 : ax_jmp pc off with
    | none => simp only [ax_if, e0] at hs; cases hs
    | some t =>
    cases cnd with
    | eq =>
      simp only [ax_if, e0] at hs
      refine lv_if_eq hx hb hd (ax_jmp_ok e0) (fun q => ?_) (fun q => ?_)
      · rw [decide_eq_true q] at hs; cases hs; exact (k _ _ _ _ rfl).go r
      · rw [decide_eq_false q] at hs; cases hs; exact (k _ _ _ _ rfl).go r
    | ne =>
      simp only [ax_if, e0] at hs
      refine lv_if_ne hx hb hd (ax_jmp_ok e0) (fun q => ?_) (fun q => ?_)
      · rw [decide_eq_false q] at hs; cases hs; exact (k _ _ _ _ rfl).go r
      · rw [decide_eq_true q] at hs; cases hs; exact (k _ _ _ _ rfl).go r
    | lt =>
      simp only [ax_if, e0] at hs
      refine lv_if_lt hx hb hd (ax_jmp_ok e0) (fun q => ?_) (fun q => ?_)
      · rw [decide_eq_true q] at hs; cases hs; exact (k _ _ _ _ rfl).go r
      · rw [decide_eq_false q] at hs; cases hs; exact (k _ _ _ _ rfl).go r
    | ge =>
      simp only [ax_if, e0] at hs
      refine lv_if_ge hx hb hd (ax_jmp_ok e0) (fun q => ?_) (fun q => ?_)
      · rw [decide_eq_true q] at hs; cases hs; exact (k _ _ _ _ rfl).go r
      · rw [decide_eq_false q] at hs; cases hs; exact (k _ _ _ _ rfl).go r
    | gt =>
      simp only [ax_if, e0] at hs
      refine lv_if_gt hx hb hd (ax_jmp_ok e0) (fun q => ?_) (fun q => ?_)
      · rw [decide_eq_true q] at hs; cases hs; exact (k _ _ _ _ rfl).go r
      · rw [decide_eq_false q] at hs; cases hs; exact (k _ _ _ _ rfl).go r
    | le =>
      simp only [ax_if, e0] at hs
      refine lv_if_le hx hb hd (ax_jmp_ok e0) (fun q => ?_) (fun q => ?_)
      · rw [decide_eq_true q] at hs; cases hs; exact (k _ _ _ _ rfl).go r
      · rw [decide_eq_false q] at hs; cases hs; exact (k _ _ _ _ rfl).go r
  · cases hs

theorem ax_s_tableswitch {dflt lo hi2 : Int} {offs : Array Int} (C : ax_Cx p l s m meth c mi A X b D tA) (r : ax_Rp tA ad b D A s (ax_maxL mi) h L H locs ls) (hi : ax_ins mi pc = some (.tableswitch dflt lo hi2 offs)) (hs : ax_do X mi pc L S h (.tableswitch dflt lo hi2 offs) = some z) (k : ∀ (pc' : Nat) (L' : ax_L) (S' : List Value) (h' : ax_H), z = .inl ((pc', L', S'), h') → ax_K p l e R s m args below meth c Q mi A b D tA ad h cells slots pc' L' S' h') : W p l e R s m args below meth c H locs cells slots Q (F0 m pc ls (S.map (ax_cv ad b))) := by
  obtain ⟨hx, hb, hml, hown, hr, hlocks, hnm, htab, htr, E, hK, hA, hU, hN, hX⟩ := C
  obtain ⟨hP, hD, hS, hl⟩ := id r
  obtain ⟨n, hd, hn⟩ := ax_dec hi
  simp only [ax_do] at hs
  split at hs
  · rename_i x S0
    cases hw : (decide (x.toInt < lo) || decide (hi2 < x.toInt)) with
    | true =>
      rw [hw] at hs
      simp only [cond_true] at hs
      split at hs
      · rename_i t e0
        cases hs
        simp only [Bool.or_eq_true, decide_eq_true_eq] at hw
        exact lv_tableOut hx hb hd hw (ax_jmp_ok e0) ((k _ _ _ _ rfl).go r)
      · cases hs
    | false =>
      rw [hw] at hs
      simp only [cond_false] at hs
      have h2 := Bool.or_eq_false_iff.mp hw
      split at hs
      · rename_i off e1
        split at hs
        · rename_i t e0
          cases hs
          exact lv_tableIn hx hb hd (of_decide_eq_false h2.1) (of_decide_eq_false h2.2) e1 (ax_jmp_ok e0) ((k _ _ _ _ rfl).go r)
        · cases hs
      · cases hs
  · cases hs

theorem ax_s_lookupswitch {dflt : Int} {ps : Array (Int × Int)} (C : ax_Cx p l s m meth c mi A X b D tA) (r : ax_Rp tA ad b D A s (ax_maxL mi) h L H locs ls) (hi : ax_ins mi pc = some (.lookupswitch dflt ps)) (hs : ax_do X mi pc L S h (.lookupswitch dflt ps) = some z) (k : ∀ (pc' : Nat) (L' : ax_L) (S' : List Value) (h' : ax_H), z = .inl ((pc', L', S'), h') → ax_K p l e R s m args below meth c Q mi A b D tA ad h cells slots pc' L' S' h') : W p l e R s m args below meth c H locs cells slots Q (F0 m pc ls (S.map (ax_cv ad b))) := by
  obtain ⟨hx, hb, hml, hown, hr, hlocks, hnm, htab, htr, E, hK, hA, hU, hN, hX⟩ := C
  obtain ⟨hP, hD, hS, hl⟩ := id r
  obtain ⟨n, hd, hn⟩ := ax_dec hi
  simp only [ax_do] at hs
  split at hs
  · rename_i x S0
    obtain ⟨h1, h2⟩ := ax_bifR hs
    split at h2
    · rename_i t e0
      cases h2
      exact lv_lookup hx hb hd h1 rfl (ax_jmp_ok e0) ((k _ _ _ _ rfl).go r)
    · cases h2
  · cases hs

theorem ax_s_getfield {ix : Nat} (C : ax_Cx p l s m meth c mi A X b D tA) (r : ax_Rp tA ad b D A s (ax_maxL mi) h L H locs ls) (hi : ax_ins mi pc = some (.getfield ix)) (hs : ax_do X mi pc L S h (.getfield ix) = some z) (k : ∀ (pc' : Nat) (L' : ax_L) (S' : List Value) (h' : ax_H), z = .inl ((pc', L', S'), h') → ax_K p l e R s m args below meth c Q mi A b D tA ad h cells slots pc' L' S' h') : W p l e R s m args below meth c H locs cells slots Q (F0 m pc ls (S.map (ax_cv ad b))) := by
  obtain ⟨hx, hb, hml, hown, hr, hlocks, hnm, htab, htr, E, hK, hA, hU, hN, hX⟩ := C
  obtain ⟨hP, hD, hS, hl⟩ := id r
  obtain ⟨n, hd, hn⟩ := ax_dec hi
  cases ax_len1 hn 3 rfl
  simp only [ax_do] at hs
  split at hs
  · rename_i a S0
    split at hs
    · rename_i ci kk pl e0
      obtain ⟨g1, g2, g3, g4⟩ := ax_fld_ok e0
      split at hs
      · rename_i ci' fs e1
        obtain ⟨q1, q2⟩ := ax_bifR hs
        cases Nat.eq_of_beq_eq_true q1
        split at q2
        · rename_i v e2
          cases q2
          exact va_get (D := D) (tys := ax_tys tA) (C := (ax_cr ci).1) (T := (ax_cr ci).2.1) (N := (ax_cr ci).2.2) (Ts := u_ws (ax_cr ci).1 (ax_cr ci).2.1 (ax_cr ci).2.2) (own := ax_R (ax_own mi)) (ref := ((ax_cr ci).2.1 kk).1) hx hb (fun w hw => E.use ((ax_cls_ok g1).2.2 w hw)) (fun _ hw => hw) hown hK hP a (ax_wl_at e1) (ax_cr_ok g1) kk g2 (E.use g3) (fun _ hq => hq) (v := ax_cv ad b v) (by rw [List.getElem?_map, ax_nthg e2]; rfl) hd ((k _ _ _ _ rfl).go r)
        · cases q2
      · cases hs
    · cases hs
  · cases hs

theorem ax_s_putfield {ix : Nat} (C : ax_Cx p l s m meth c mi A X b D tA) (r : ax_Rp tA ad b D A s (ax_maxL mi) h L H locs ls) (hi : ax_ins mi pc = some (.putfield ix)) (hs : ax_do X mi pc L S h (.putfield ix) = some z) (k : ∀ (pc' : Nat) (L' : ax_L) (S' : List Value) (h' : ax_H), z = .inl ((pc', L', S'), h') → ax_K p l e R s m args below meth c Q mi A b D tA ad h cells slots pc' L' S' h') : W p l e R s m args below meth c H locs cells slots Q (F0 m pc ls (S.map (ax_cv ad b))) := by
  obtain ⟨hx, hb, hml, hown, hr, hlocks, hnm, htab, htr, E, hK, hA, hU, hN, hX⟩ := C
  obtain ⟨hP, hD, hS, hl⟩ := id r
  obtain ⟨n, hd, hn⟩ := ax_dec hi
  cases ax_len1 hn 3 rfl
  simp only [ax_do] at hs
  split at hs
  · rename_i v a S0
    split at hs
    · rename_i ci kk pl e0
      obtain ⟨g1, g2, g3, g4⟩ := ax_fld_ok e0
      split at hs
      · rename_i ci' fs e1
        obtain ⟨q1, q2⟩ := ax_bifR hs
        cases q2
        simp only [Bool.and_eq_true] at q1
        obtain ⟨⟨⟨c1, c2⟩, c3⟩, c4⟩ := q1
        cases Nat.eq_of_beq_eq_true c1
        obtain ⟨f1, f2⟩ := ax_fit_ok (ad := ad) (b := b) c4
        have hlen : kk < (fs.map (ax_cv ad b)).length := by rw [List.length_map]; exact ax_blt c2
        have hset : (Sum.inr (ci, (fs.map (ax_cv ad b)).set kk (ax_cv ad b v)) : va_E) = ax_cc tA ad b (.inr (ci, fs.set kk v)) := by
          show _ = Sum.inr (ci, (fs.set kk v).map (ax_cv ad b))
          rw [List.map_set]
        cases hfin : ax_fin ci kk with
        | false =>
          refine va_put (D := D) (tys := ax_tys tA) (C := (ax_cr ci).1) (T := (ax_cr ci).2.1) (N := (ax_cr ci).2.2) (Ts := u_ws (ax_cr ci).1 (ax_cr ci).2.1 (ax_cr ci).2.2) (own := ax_R (ax_own mi)) (ref := ((ax_cr ci).2.1 kk).1) hx hb (fun w hw => E.use ((ax_cls_ok g1).2.2 w hw)) (fun _ hw => hw) (ax_ty ci) (ax_ty_ok g1) (ax_nm_ok g1) hown hK hP hD hS a (ax_wl_at e1) (ax_cr_ok g1) kk g2 (E.use g3) (fun _ hq => hq) hfin (ax_ty_ok g1 kk g2) f1 f2 hlen hd (fun H1 locs1 hP1 hD1 hS1 => ?_)
          rw [hset] at hP1 hD1
          exact ax_K.ht e1 (k _ _ _ _ rfl) r hP1 hD1 hS1
        | true =>
          rw [hfin] at c3
          simp only [Bool.not_true, Bool.false_or, Bool.and_eq_true] at c3
          have hin2 : meth.name = "<init>" := hnm c3.1
          have hdecl : ((ax_cr ci).2.1 kk).1 = ax_R (ax_own mi) := by rw [g4]; exact ax_own_R g1 (Nat.eq_of_beq_eq_true c3.2)
          refine va_putF (D := D) (tys := ax_tys tA) (C := (ax_cr ci).1) (T := (ax_cr ci).2.1) (N := (ax_cr ci).2.2) (Ts := u_ws (ax_cr ci).1 (ax_cr ci).2.1 (ax_cr ci).2.2) (own := ax_R (ax_own mi)) (ref := ((ax_cr ci).2.1 kk).1) hx hb (fun w hw => E.use ((ax_cls_ok g1).2.2 w hw)) (fun _ hw => hw) (ax_ty ci) (ax_ty_ok g1) (ax_nm_ok g1) hown hK hP hD hS a (ax_wl_at e1) (ax_cr_ok g1) kk g2 (E.use g3) (fun _ hq => hq) hfin hin2 hdecl (ax_ty_ok g1 kk g2) f1 f2 hlen hd (fun H1 locs1 hP1 hD1 hS1 => ?_)
          rw [hset] at hP1 hD1
          exact ax_K.ht e1 (k _ _ _ _ rfl) r hP1 hD1 hS1
      · cases hs
    · cases hs
  · cases hs

theorem ax_s_iaload (C : ax_Cx p l s m meth c mi A X b D tA) (r : ax_Rp tA ad b D A s (ax_maxL mi) h L H locs ls) (hi : ax_ins mi pc = some (.iaload)) (hs : ax_do X mi pc L S h (.iaload) = some z) (k : ∀ (pc' : Nat) (L' : ax_L) (S' : List Value) (h' : ax_H), z = .inl ((pc', L', S'), h') → ax_K p l e R s m args below meth c Q mi A b D tA ad h cells slots pc' L' S' h') : W p l e R s m args below meth c H locs cells slots Q (F0 m pc ls (S.map (ax_cv ad b))) := by
  obtain ⟨hx, hb, hml, hown, hr, hlocks, hnm, htab, htr, E, hK, hA, hU, hN, hX⟩ := C
  obtain ⟨hP, hD, hS, hl⟩ := id r
  obtain ⟨n, hd, hn⟩ := ax_dec hi
  cases ax_len1 hn 1 rfl
  simp only [ax_do] at hs
  split at hs
  · rename_i i a S0
    split at hs
    · rename_i n0 f e1
      obtain ⟨q1, q2⟩ := ax_bifR hs
      cases q2
      exact va_iald (D := D) (tys := ax_tys tA) hx hb hK hP a 0 (ax_wl_at e1) rfl (ax_inb_ok q1) hd ((k _ _ _ _ rfl).go r)
    · cases hs
  · rename_i i a S0
    obtain ⟨q1, q2⟩ := ax_bifR hs
    cases q2
    obtain ⟨x1, x2, x3⟩ := hX
    exact va_sld hx hb x1 x2 x3 hS (ax_inb_ok q1) hd ((k _ _ _ _ rfl).go r)
  · cases hs

theorem ax_s_laload (C : ax_Cx p l s m meth c mi A X b D tA) (r : ax_Rp tA ad b D A s (ax_maxL mi) h L H locs ls) (hi : ax_ins mi pc = some (.laload)) (hs : ax_do X mi pc L S h (.laload) = some z) (k : ∀ (pc' : Nat) (L' : ax_L) (S' : List Value) (h' : ax_H), z = .inl ((pc', L', S'), h') → ax_K p l e R s m args below meth c Q mi A b D tA ad h cells slots pc' L' S' h') : W p l e R s m args below meth c H locs cells slots Q (F0 m pc ls (S.map (ax_cv ad b))) := by
  obtain ⟨hx, hb, hml, hown, hr, hlocks, hnm, htab, htr, E, hK, hA, hU, hN, hX⟩ := C
  obtain ⟨hP, hD, hS, hl⟩ := id r
  obtain ⟨n, hd, hn⟩ := ax_dec hi
  cases ax_len1 hn 1 rfl
  simp only [ax_do] at hs
  split at hs
  · rename_i i a S0
    split at hs
    · rename_i n0 f e1
      obtain ⟨q1, q2⟩ := ax_bifR hs
      cases q2
      exact va_lald (D := D) (tys := ax_tys tA) hx hb hK hP a 1 (ax_wl_at e1) rfl (ax_inb_ok q1) hd ((k _ _ _ _ rfl).go r)
    · cases hs
  · cases hs

theorem ax_s_aaload (C : ax_Cx p l s m meth c mi A X b D tA) (r : ax_Rp tA ad b D A s (ax_maxL mi) h L H locs ls) (hi : ax_ins mi pc = some (.aaload)) (hs : ax_do X mi pc L S h (.aaload) = some z) (k : ∀ (pc' : Nat) (L' : ax_L) (S' : List Value) (h' : ax_H), z = .inl ((pc', L', S'), h') → ax_K p l e R s m args below meth c Q mi A b D tA ad h cells slots pc' L' S' h') : W p l e R s m args below meth c H locs cells slots Q (F0 m pc ls (S.map (ax_cv ad b))) := by
  obtain ⟨hx, hb, hml, hown, hr, hlocks, hnm, htab, htr, E, hK, hA, hU, hN, hX⟩ := C
  obtain ⟨hP, hD, hS, hl⟩ := id r
  obtain ⟨n, hd, hn⟩ := ax_dec hi
  cases ax_len1 hn 1 rfl
  simp only [ax_do] at hs
  split at hs
  · rename_i i a S0
    split at hs
    · rename_i n0 f e1
      obtain ⟨q1, q2⟩ := ax_bifR hs
      split at q2
      · rename_i v e2
        cases q2
        have hin := ax_inb_ok q1
        have hlt : Nat.blt i.toNatClampNeg n0 = true := by simp only [ax_inb, Bool.and_eq_true] at q1; exact q1.2
        refine va_aldq (D := D) (tys := ax_tys tA) hx hb hK hP a 2 (ax_wl_at e1) rfl hin hd ?_
        show W p l e R s m args below meth c H locs cells slots Q (F0 m (pc + 1) ls (va_rf (bif Nat.blt i.toNatClampNeg n0 then (f i.toNatClampNeg).map ad else none) :: S0.map (ax_cv ad b)))
        rw [hlt, e2]
        exact (k _ _ _ _ rfl).go r
      · cases q2
    · cases hs
  · cases hs

theorem ax_s_iastore (C : ax_Cx p l s m meth c mi A X b D tA) (r : ax_Rp tA ad b D A s (ax_maxL mi) h L H locs ls) (hi : ax_ins mi pc = some (.iastore)) (hs : ax_do X mi pc L S h (.iastore) = some z) (k : ∀ (pc' : Nat) (L' : ax_L) (S' : List Value) (h' : ax_H), z = .inl ((pc', L', S'), h') → ax_K p l e R s m args below meth c Q mi A b D tA ad h cells slots pc' L' S' h') : W p l e R s m args below meth c H locs cells slots Q (F0 m pc ls (S.map (ax_cv ad b))) := by
  obtain ⟨hx, hb, hml, hown, hr, hlocks, hnm, htab, htr, E, hK, hA, hU, hN, hX⟩ := C
  obtain ⟨hP, hD, hS, hl⟩ := id r
  obtain ⟨n, hd, hn⟩ := ax_dec hi
  cases ax_len1 hn 1 rfl
  simp only [ax_do] at hs
  split at hs
  · rename_i x i a S0
    split at hs
    · rename_i n0 f e1
      obtain ⟨q1, q2⟩ := ax_bifR hs
      cases q2
      exact va_iast (D := D) (tys := ax_tys tA) hx hb hK hP hD hS a 0 (ax_wl_at e1) rfl (ax_inb_ok q1) hd (fun H1 locs1 hP1 hD1 hS1 => ax_K.ht e1 (k _ _ _ _ rfl) r hP1 hD1 hS1)
    · cases hs
  · cases hs

theorem ax_s_lastore (C : ax_Cx p l s m meth c mi A X b D tA) (r : ax_Rp tA ad b D A s (ax_maxL mi) h L H locs ls) (hi : ax_ins mi pc = some (.lastore)) (hs : ax_do X mi pc L S h (.lastore) = some z) (k : ∀ (pc' : Nat) (L' : ax_L) (S' : List Value) (h' : ax_H), z = .inl ((pc', L', S'), h') → ax_K p l e R s m args below meth c Q mi A b D tA ad h cells slots pc' L' S' h') : W p l e R s m args below meth c H locs cells slots Q (F0 m pc ls (S.map (ax_cv ad b))) := by
  obtain ⟨hx, hb, hml, hown, hr, hlocks, hnm, htab, htr, E, hK, hA, hU, hN, hX⟩ := C
  obtain ⟨hP, hD, hS, hl⟩ := id r
  obtain ⟨n, hd, hn⟩ := ax_dec hi
  cases ax_len1 hn 1 rfl
  simp only [ax_do] at hs
  split at hs
  · rename_i x i a S0
    split at hs
    · rename_i n0 f e1
      obtain ⟨q1, q2⟩ := ax_bifR hs
      cases q2
      exact va_last (D := D) (tys := ax_tys tA) hx hb hK hP hD hS a 1 (ax_wl_at e1) rfl (ax_inb_ok q1) hd (fun H1 locs1 hP1 hD1 hS1 => ax_K.ht e1 (k _ _ _ _ rfl) r hP1 hD1 hS1)
    · cases hs
  · cases hs

theorem ax_s_aastore (C : ax_Cx p l s m meth c mi A X b D tA) (r : ax_Rp tA ad b D A s (ax_maxL mi) h L H locs ls) (hi : ax_ins mi pc = some (.aastore)) (hs : ax_do X mi pc L S h (.aastore) = some z) (k : ∀ (pc' : Nat) (L' : ax_L) (S' : List Value) (h' : ax_H), z = .inl ((pc', L', S'), h') → ax_K p l e R s m args below meth c Q mi A b D tA ad h cells slots pc' L' S' h') : W p l e R s m args below meth c H locs cells slots Q (F0 m pc ls (S.map (ax_cv ad b))) := by
  obtain ⟨hx, hb, hml, hown, hr, hlocks, hnm, htab, htr, E, hK, hA, hU, hN, hX⟩ := C
  obtain ⟨hP, hD, hS, hl⟩ := id r
  obtain ⟨n, hd, hn⟩ := ax_dec hi
  cases ax_len1 hn 1 rfl
  simp only [ax_do] at hs
  split at hs
  · rename_i x i a S0
    split at hs
    · rename_i n0 f vs e1 e2
      obtain ⟨q1, q2⟩ := ax_bifR hs
      cases q2
      have hlt : Nat.blt i.toNatClampNeg n0 = true := by simp only [ax_inb, Bool.and_eq_true] at q1; exact q1.2
      refine va_astq (D := D) (tys := ax_tys tA) (r := ax_cr 5) hx hb hK hP hD hS a 2 x 5 (ax_wl_at e1) rfl (ax_wl_at e2) (ax_cr_ok (ci := 5) (by decide)) (ax_inb_ok q1) hd (fun H1 locs1 hP1 hD1 hS1 => ?_)
      have hset : (Sum.inl (tA 2, (n0, Sum.inr (Sum.inr (Sum.inr (Sum.inr (va_up (fun k => bif Nat.blt k n0 then (f k).map ad else none) i.toNatClampNeg (some (ad x)))))))) : va_E) = ax_cc tA ad b (.inl (2, (n0, .inr (.inr (.inr (.inr (va_up f i.toNatClampNeg (some x)))))))) := by
        show _ = Sum.inl (tA 2, (n0, Sum.inr (Sum.inr (Sum.inr (Sum.inr (fun k => bif Nat.blt k n0 then (va_up f i.toNatClampNeg (some x) k).map ad else none))))))
        congr 7
        funext j
        by_cases q : j = i.toNatClampNeg
        · subst q; simp [va_up, hlt]
        · simp [va_up, q]
      rw [hset] at hP1 hD1
      exact ax_K.ht e1 (k _ _ _ _ rfl) r hP1 hD1 hS1
    · cases hs
  · cases hs

theorem ax_s_arraylength (C : ax_Cx p l s m meth c mi A X b D tA) (r : ax_Rp tA ad b D A s (ax_maxL mi) h L H locs ls) (hi : ax_ins mi pc = some (.arraylength)) (hs : ax_do X mi pc L S h (.arraylength) = some z) (k : ∀ (pc' : Nat) (L' : ax_L) (S' : List Value) (h' : ax_H), z = .inl ((pc', L', S'), h') → ax_K p l e R s m args below meth c Q mi A b D tA ad h cells slots pc' L' S' h') : W p l e R s m args below meth c H locs cells slots Q (F0 m pc ls (S.map (ax_cv ad b))) := by
  obtain ⟨hx, hb, hml, hown, hr, hlocks, hnm, htab, htr, E, hK, hA, hU, hN, hX⟩ := C
  obtain ⟨hP, hD, hS, hl⟩ := id r
  obtain ⟨n, hd, hn⟩ := ax_dec hi
  cases ax_len1 hn 1 rfl
  simp only [ax_do] at hs
  split at hs
  · rename_i a S0
    split at hs
    · rename_i t n0 x0 e1
      obtain ⟨q1, q2⟩ := ax_bifR hs
      cases q2
      obtain ⟨ty, ht⟩ : ∃ ty : FieldType, (ax_tys tA)[t]? = some (tA t, ty) := by
        rcases (show t = 0 ∨ t = 1 ∨ t = 2 by have := ax_blt q1; omega) with rfl | rfl | rfl
        · exact ⟨_, rfl⟩
        · exact ⟨_, rfl⟩
        · exact ⟨_, rfl⟩
      exact va_alen (D := D) (tys := ax_tys tA) hx hb hK hP a t (ax_wl_at e1) ht (by rw [ax_ca_len]) hd ((k _ _ _ _ rfl).go r)
    · cases hs
  · rename_i a S0
    cases hs
    obtain ⟨x1, x2, x3⟩ := hX
    exact va_slen hx hb x1 x2 x3 hS hd ((k _ _ _ _ rfl).go r)
  · cases hs

theorem ax_df_map {ci : Nat} (h : ci < 9) : (ax_df ci).map (ax_cv ad b) = ax_df ci := by rcases ax_ci h with rfl | rfl | rfl | rfl | rfl | rfl | rfl | rfl | rfl <;> rfl
set_option maxRecDepth 100000 in
theorem ax_df_ok {ci : Nat} (h : ci < 9) : ∀ j, j < (ax_cr ci).2.2 → defaultValue (ax_ty ci j) = vp_V (ax_df ci) j := by
  rcases ax_ci h with rfl | rfl | rfl | rfl | rfl | rfl | rfl | rfl | rfl <;> decide +kernel
theorem ax_K.nw {c1 : ax_C} {k1 q : Nat} (hcl : ax_clB h L S = true) (k : ax_K p l e R s m args below meth c Q mi A b D tA ad h cells slots pc' L (.ref h.1.1 :: S) (ax_push h c1 k1)) (r : ax_Rp tA ad b D A s (ax_maxL mi) h L H locs ls) {H1 : Heap}
    (hP : va_P D ax_cl (ax_wl tA ad b h ++ [(q, ax_cc tA (ax_ad ad h.1.1 q) b c1)]) H1) (hD : va_D A (ax_wl tA ad b h ++ [(q, ax_cc tA (ax_ad ad h.1.1 q) b c1)])) (hS : va_S A s.heap H1 locs) : W p l e R s m args below meth c H1 locs (cells + 1) (slots + k1) Q (F0 m pc' ls (.ref q :: S.map (ax_cv ad b))) := by
  simp only [ax_clB, ax_clF, Bool.and_eq_true] at hcl
  obtain ⟨c1', c2, c3⟩ := hcl
  rw [ax_wl_push (k := k1) c1'] at hP hD
  have hag : ∀ i, i < h.1.1 → ax_ad ad h.1.1 q i = ad i := fun i hi => ax_ad_lt hi
  have e1 : (Value.ref h.1.1 :: S).map (ax_cv (ax_ad ad h.1.1 q) b) = .ref q :: S.map (ax_cv ad b) := by
    rw [List.map_cons, ax_map_cl hag c3]
    show Value.ref (ax_ad ad h.1.1 q h.1.1) :: _ = _
    rw [show ax_ad ad h.1.1 q h.1.1 = q from if_pos rfl]
  rw [← e1]
  refine k (ax_ad ad h.1.1 q) H1 locs ls (cells + 1) (slots + k1) ⟨hP, hD, hS, r.2.2.2.ad_cl hag c2⟩ ⟨Nat.le_succ _, fun i hi => ?_⟩ ?_ ?_
  · have hi' : i < h.1.1 ∨ h.1.1 + 1 ≤ i := hi
    unfold ax_ad
    rw [if_neg (by omega)]
  · show cells + 1 + h.1.2.1 = cells + (h.1.2.1 + 1)
    omega
  · show slots + k1 + h.1.2.2 = slots + (h.1.2.2 + k1)
    omega
theorem ax_Kc {cA cB : ClassId} {ty : FieldType} (h1 : va_RA s cA ty) (h2 : va_RA s cB ty) : cA = cB := by
  cases ty with
  | object C =>
    obtain ⟨_, _, -, -, -, x⟩ := h1
    obtain ⟨_, _, -, -, -, y⟩ := h2
    exact Option.some.inj (x.symm.trans y)
  | _ => exact Option.some.inj (Eq.trans (Eq.symm h1) h2)

theorem ax_s_new {ix : Nat} (C : ax_Cx p l s m meth c mi A X b D tA) (r : ax_Rp tA ad b D A s (ax_maxL mi) h L H locs ls) (hi : ax_ins mi pc = some (.new ix)) (hs : ax_do X mi pc L S h (.new ix) = some z) (hrc : ∀ (f' : ax_F) (h' : ax_H), z = .inl (f', h') → cells + h'.1.2.1 ≤ R.cells + h.1.2.1 ∧ slots + h'.1.2.2 ≤ R.slots + h.1.2.2) (kt : ∀ (kx : Nat) (q : Nat × Nat × Bool) {pl : Nat}, ax_ncl (ax_own mi) ix = some (.inr kx, pl) → ax_thr mi pc = some (kx, q) → S = [] → z = .inr (.inl (.inr kx, ((h.1.1, h.1.2.1 + 1, h.1.2.2 + 6), h.2))) → W p l e R s m args below meth c H locs cells slots Q (F0 m pc ls [])) (k : ∀ (pc' : Nat) (L' : ax_L) (S' : List Value) (h' : ax_H), z = .inl ((pc', L', S'), h') → ax_K p l e R s m args below meth c Q mi A b D tA ad h cells slots pc' L' S' h') : W p l e R s m args below meth c H locs cells slots Q (F0 m pc ls (S.map (ax_cv ad b))) := by
  obtain ⟨hx, hb, hml, hown, hr, hlocks, hnm, htab, htr, E, hK, hA, hU, hN, hX⟩ := C
  obtain ⟨hP, hD, hS, hl⟩ := id r
  obtain ⟨n, hd, hn⟩ := ax_dec hi
  cases ax_len1 hn 3 rfl
  simp only [ax_do] at hs
  split at hs
  · rename_i ci pl e0
    obtain ⟨q1, q2⟩ := ax_bifR hs
    cases q2
    obtain ⟨g1, g2⟩ := ax_ncl_ok e0
    obtain ⟨g3, g4, g5⟩ := ax_cls_ok g1
    obtain ⟨r1, r2⟩ := hrc _ _ rfl
    have r1' : cells + (h.1.2.1 + 1) ≤ R.cells + h.1.2.1 := r1
    have r2' : slots + (h.1.2.2 + (ax_cr ci).2.2) ≤ R.slots + h.1.2.2 := r2
    refine va_new (D := D) (tys := ax_tys tA) (C := (ax_cr ci).1) (T := (ax_cr ci).2.1) (N := (ax_cr ci).2.2) (Ts := u_ws (ax_cr ci).1 (ax_cr ci).2.1 (ax_cr ci).2.2) (own := ax_R (ax_own mi)) hx hb (fun w hw => E.use (g5 w hw)) (fun _ hw => hw) (ax_ty ci) (ax_ty_ok g1) hown (E.use g2) (E.use g3) (E.use g4) hK hP hD hS hA (ax_cr_ok g1) (ax_df_ok g1) (by omega) (by omega) hd (fun q H1 hP1 hD1 hS1 => ?_)
    rw [show (Sum.inr (ci, ax_df ci) : va_E) = ax_cc tA (ax_ad ad h.1.1 q) b (.inr (ci, ax_df ci)) by show _ = Sum.inr (ci, (ax_df ci).map (ax_cv (ax_ad ad h.1.1 q) b)); rw [ax_df_map g1]] at hP1 hD1
    exact ax_K.nw q1 (k _ _ _ _ rfl) r hP1 hD1 hS1
  · rename_i kx pl e0
    split at hs
    · rename_i k2 q e1
      obtain ⟨q1, q2⟩ := ax_bifR hs
      cases q2
      cases Nat.eq_of_beq_eq_true q1
      exact kt _ _ e0 e1 rfl rfl
    · cases hs
  · cases hs

theorem ax_s_newarray {ty : ArrayType} (C : ax_Cx p l s m meth c mi A X b D tA) (r : ax_Rp tA ad b D A s (ax_maxL mi) h L H locs ls) (hi : ax_ins mi pc = some (.newarray ty)) (hs : ax_do X mi pc L S h (.newarray ty) = some z) (hrc : ∀ (f' : ax_F) (h' : ax_H), z = .inl (f', h') → cells + h'.1.2.1 ≤ R.cells + h.1.2.1 ∧ slots + h'.1.2.2 ≤ R.slots + h.1.2.2) (k : ∀ (pc' : Nat) (L' : ax_L) (S' : List Value) (h' : ax_H), z = .inl ((pc', L', S'), h') → ax_K p l e R s m args below meth c Q mi A b D tA ad h cells slots pc' L' S' h') : W p l e R s m args below meth c H locs cells slots Q (F0 m pc ls (S.map (ax_cv ad b))) := by
  obtain ⟨hx, hb, hml, hown, hr, hlocks, hnm, htab, htr, E, hK, hA, hU, hN, hX⟩ := C
  obtain ⟨hP, hD, hS, hl⟩ := id r
  obtain ⟨n, hd, hn⟩ := ax_dec hi
  cases ax_len1 hn 2 rfl
  simp only [ax_do] at hs
  split at hs
  · rename_i n0 S0
    obtain ⟨q1, q2⟩ := ax_bifR hs
    simp only [Bool.and_eq_true] at q1
    obtain ⟨⟨c1, c2⟩, c3⟩ := q1
    have c2' := Nat.le_of_ble_eq_true c2
    split at q2
    · cases q2
      obtain ⟨r1, r2⟩ := hrc _ _ rfl
      have r1' : cells + (h.1.2.1 + 1) ≤ R.cells + h.1.2.1 := r1
      have r2' : slots + (h.1.2.2 + n0.toNatClampNeg) ≤ R.slots + h.1.2.2 := r2
      refine va_newa (D := D) (tys := ax_tys tA) (atype := .int) (a0 := (n0.toNatClampNeg, .inl (fun _ => 0))) (N' := n0.toNatClampNeg) hx hb (E.use ax_ac1) rfl hK hP hD hS hA (fun _ => rfl) (ax_le_toNat c1) rfl (by show _ * 4 ≤ _; omega) (by omega) (by omega) hd (fun q cA H1 hK1 hP1 hD1 hS1 => ?_)
      cases ax_Kc (s := s) (cA := cA) (cB := tA 0) (ty := .int) (hK1.2 3 _ rfl).2 (hK.2 0 _ rfl).2
      exact ax_K.nw c3 (k _ _ _ _ rfl) r hP1 hD1 hS1
    · cases q2
      obtain ⟨r1, r2⟩ := hrc _ _ rfl
      have r1' : cells + (h.1.2.1 + 1) ≤ R.cells + h.1.2.1 := r1
      have r2' : slots + (h.1.2.2 + n0.toNatClampNeg) ≤ R.slots + h.1.2.2 := r2
      refine va_newa (D := D) (tys := ax_tys tA) (atype := .long) (a0 := (n0.toNatClampNeg, .inr (.inl (fun _ => 0)))) (N' := n0.toNatClampNeg) hx hb (E.use ax_ac2) rfl hK hP hD hS hA (fun _ => rfl) (ax_le_toNat c1) rfl (by show _ * 8 ≤ _; omega) (by omega) (by omega) hd (fun q cA H1 hK1 hP1 hD1 hS1 => ?_)
      cases ax_Kc (s := s) (cA := cA) (cB := tA 1) (ty := .long) (hK1.2 3 _ rfl).2 (hK.2 1 _ rfl).2
      exact ax_K.nw c3 (k _ _ _ _ rfl) r hP1 hD1 hS1
    · cases q2
  · cases hs

theorem ax_s_anewarray {ix : Nat} (C : ax_Cx p l s m meth c mi A X b D tA) (r : ax_Rp tA ad b D A s (ax_maxL mi) h L H locs ls) (hi : ax_ins mi pc = some (.anewarray ix)) (hs : ax_do X mi pc L S h (.anewarray ix) = some z) (hrc : ∀ (f' : ax_F) (h' : ax_H), z = .inl (f', h') → cells + h'.1.2.1 ≤ R.cells + h.1.2.1 ∧ slots + h'.1.2.2 ≤ R.slots + h.1.2.2) (k : ∀ (pc' : Nat) (L' : ax_L) (S' : List Value) (h' : ax_H), z = .inl ((pc', L', S'), h') → ax_K p l e R s m args below meth c Q mi A b D tA ad h cells slots pc' L' S' h') : W p l e R s m args below meth c H locs cells slots Q (F0 m pc ls (S.map (ax_cv ad b))) := by
  obtain ⟨hx, hb, hml, hown, hr, hlocks, hnm, htab, htr, E, hK, hA, hU, hN, hX⟩ := C
  obtain ⟨hP, hD, hS, hl⟩ := id r
  obtain ⟨n, hd, hn⟩ := ax_dec hi
  cases ax_len1 hn 3 rfl
  simp only [ax_do] at hs
  split at hs
  · rename_i pl n0 S0 e0
    obtain ⟨q1, q2⟩ := ax_bifR hs
    simp only [Bool.and_eq_true] at q1
    obtain ⟨⟨c1, c2⟩, c3⟩ := q1
    have c2' := Nat.le_of_ble_eq_true c2
    cases q2
    obtain ⟨g1, g2⟩ := ax_ncl_ok e0
    obtain ⟨r1, r2⟩ := hrc _ _ rfl
    have r1' : cells + (h.1.2.1 + 1) ≤ R.cells + h.1.2.1 := r1
    have r2' : slots + (h.1.2.2 + n0.toNatClampNeg) ≤ R.slots + h.1.2.2 := r2
    refine va_newq (D := D) (tys := ax_tys tA) (C := "CourierClash$State") (N' := n0.toNatClampNeg) hx hb hown (E.use g2) E.2.2.2 hK hP hD hS hA (ax_le_toNat c1) rfl (by omega) (by omega) (by omega) hd (fun q cA H1 hK1 hP1 hD1 hS1 => ?_)
    cases ax_Kc (s := s) (cA := cA) (cB := tA 2) (ty := .object "CourierClash$State") (hK1.2 3 _ rfl).2 (hK.2 2 _ rfl).2
    have e9 : (Sum.inl (tA 2, (n0.toNatClampNeg, Sum.inr (Sum.inr (Sum.inr (Sum.inr (fun _ => none)))))) : va_E) = ax_cc tA (ax_ad ad h.1.1 q) b (.inl (2, (n0.toNatClampNeg, .inr (.inr (.inr (.inr (fun _ => none))))))) := by
      show _ = Sum.inl (tA 2, (n0.toNatClampNeg, Sum.inr (Sum.inr (Sum.inr (Sum.inr (fun k => bif Nat.blt k n0.toNatClampNeg then (none : Option Nat).map (ax_ad ad h.1.1 q) else none))))))
      congr 7
      funext j
      cases Nat.blt j n0.toNatClampNeg <;> rfl
    rw [e9] at hP1 hD1
    exact ax_K.nw c3 (k _ _ _ _ rfl) r hP1 hD1 hS1
  · cases hs

end AXS
