/-! what an abstract heap and frame say of the machine's own -/
def ax_ncs : List (String × String) := []
def ax_Env (U : State) : Prop := (∀ w, ax_In w → w.before #[] U = true) ∧ (∀ q ∈ ax_strs, ∃ sa, vk_R q.1 q.2.1 q.2.2 sa U) ∧ (∀ q ∈ ax_ncs, va_Nc q.1 q.2 U) ∧ va_AO "CourierClash$State" U
theorem ax_word {w : Cond} (hm : ax_mv w = true) {s U : State} (hW : s.WarmedH U.vm) {A A' : Array Value} (h : w.before A s = true) : w.before A' U = true := by
  cases hg : goodWord w with
  | true => exact word_at hW (good_of_word hg) h
  | false =>
    unfold ax_mv at hm
    rw [hg, Bool.false_or] at hm
    split at hm
    · exact va_Nw.use rfl (va_Nw.warmM hW (va_Nw.of rfl h))
    · exact va_Nw.use rfl (va_Nw.warmC hW (va_Nw.of rfl h))
    · exact va_Nw.use rfl (va_Nw.warmD hW (va_Nw.of rfl h))
    · cases hm
theorem ax_Env.use {U : State} (E : ax_Env U) {w : Cond} (hw : ax_In w) {A : Array Value} : w.before A U = true := ax_word hw.2 (State.WarmedH.refl U) (E.1 w hw)
theorem ax_Env.move {s U : State} (hW : s.WarmedH U.vm) (E : ax_Env s) : ax_Env U :=
  ⟨fun w hw => ax_word hw.2 hW (E.1 w hw), fun q hq => by obtain ⟨sa, h⟩ := E.2.1 q hq; exact ⟨sa, vk_R.warm hW h⟩, fun q hq => va_Nc.moved hW.alike (E.2.2.1 q hq), va_AO.moved hW.alike E.2.2.2⟩
def ax_cv (ad : Nat → Nat) (b : Nat) : Value → Value
  | .ref i => .ref (ad i)
  | .retAddr _ => .ref b
  | v => v
def ax_ca (ad : Nat → Nat) : vp_A → vp_A
  | (n, .inr (.inr (.inr (.inr f)))) => (n, .inr (.inr (.inr (.inr (fun k => bif Nat.blt k n then (f k).map ad else none)))))
  | (n, x) => (n, x)
def ax_cc (tA : Nat → ClassId) (ad : Nat → Nat) (b : Nat) : ax_C → va_E
  | .inl (t, a) => .inl (tA t, ax_ca ad a)
  | .inr (c, fs) => .inr (c, fs.map (ax_cv ad b))
def ax_wl (tA : Nat → ClassId) (ad : Nat → Nat) (b : Nat) (h : ax_H) : va_W := (List.range h.1.1).map fun i => (ad i, ax_cc tA ad b (h.2 i))
def ax_tys (tA : Nat → ClassId) : List (ClassId × FieldType) := [(tA 0, .int), (tA 1, .long), (tA 2, .object "CourierClash$State")]
section AXW
variable {tA : Nat → ClassId} {ad ad' : Nat → Nat} {b : Nat} {h : ax_H}
theorem ax_wl_get {i : Nat} (hi : i < h.1.1) : (ax_wl tA ad b h)[i]? = some (ad i, ax_cc tA ad b (h.2 i)) := by
  rw [ax_wl, List.getElem?_map, List.getElem?_range hi]; rfl
theorem ax_wl_none {i : Nat} (hi : h.1.1 ≤ i) : (ax_wl tA ad b h)[i]? = none := by
  rw [List.getElem?_eq_none]; simp [ax_wl]; exact hi
theorem ax_at_lt {a : Nat} {c : ax_C} (e : ax_at h a = some c) : a < h.1.1 ∧ h.2 a = c := by
  unfold ax_at at e
  obtain ⟨h1, h2⟩ := ax_bifR e
  exact ⟨ax_blt h1, Option.some.inj h2⟩
theorem ax_wl_at {a : Nat} {c : ax_C} (e : ax_at h a = some c) : (ax_wl tA ad b h)[a]? = some (ad a, ax_cc tA ad b c) := by
  obtain ⟨h1, h2⟩ := ax_at_lt e
  rw [ax_wl_get h1, h2]
theorem ax_wl_up {a : Nat} {c0 : ax_C} (e : ax_at h a = some c0) (c : ax_C) : (ax_wl tA ad b h).set a (ad a, ax_cc tA ad b c) = ax_wl tA ad b (ax_up h a c) := by
  obtain ⟨h1, -⟩ := ax_at_lt e
  apply List.ext_getElem?
  intro i
  rw [List.getElem?_set]
  by_cases q : a = i
  · subst q
    have hl : a < (ax_wl tA ad b h).length := by simp [ax_wl]; exact h1
    rw [if_pos rfl, if_pos hl, ax_wl_get (h := ax_up h a c) h1]
    show _ = some (ad a, ax_cc tA ad b (bif Nat.beq a a then c else h.2 a))
    rw [Nat.beq_refl]; rfl
  · rw [if_neg q]
    rcases Nat.lt_or_ge i h.1.1 with h2 | h2
    · rw [ax_wl_get h2, ax_wl_get (h := ax_up h a c) h2]
      show _ = some (ad i, ax_cc tA ad b (bif Nat.beq i a then c else h.2 i))
      have hb : Nat.beq i a = false := by
        cases hz : Nat.beq i a with
        | false => rfl
        | true => exact absurd (Nat.eq_of_beq_eq_true hz).symm q
      rw [hb]; rfl
    · rw [ax_wl_none h2, ax_wl_none (h := ax_up h a c) h2]
theorem ax_cv_cl {n : Nat} (hag : ∀ i, i < n → ad' i = ad i) {v : Value} (hv : ax_clV n v = true) : ax_cv ad' b v = ax_cv ad b v := by
  cases v with
  | ref i => show Value.ref (ad' i) = Value.ref (ad i); rw [hag i (ax_blt hv)]
  | _ => rfl
theorem ax_map_cl {n : Nat} (hag : ∀ i, i < n → ad' i = ad i) {S : List Value} (hv : S.all (ax_clV n) = true) : S.map (ax_cv ad' b) = S.map (ax_cv ad b) := by
  apply List.map_congr_left
  intro v hm
  exact ax_cv_cl hag (List.all_eq_true.mp hv v hm)
theorem ax_cc_cl {n : Nat} (hag : ∀ i, i < n → ad' i = ad i) {c : ax_C} (hc : ax_clC n c = true) : ax_cc tA ad' b c = ax_cc tA ad b c := by
  match c, hc with
  | .inr (ci, fs), hc =>
    show Sum.inr (ci, fs.map (ax_cv ad' b)) = Sum.inr (ci, fs.map (ax_cv ad b))
    rw [ax_map_cl hag hc]
  | .inl (t, (n0, .inr (.inr (.inr (.inr f))))), hc =>
    show Sum.inl (tA t, (n0, Sum.inr (Sum.inr (Sum.inr (Sum.inr (fun k => bif Nat.blt k n0 then (f k).map ad' else none)))))) = Sum.inl (tA t, (n0, Sum.inr (Sum.inr (Sum.inr (Sum.inr (fun k => bif Nat.blt k n0 then (f k).map ad else none))))))
    have e : (fun k => bif Nat.blt k n0 then (f k).map ad' else none) = (fun k => bif Nat.blt k n0 then (f k).map ad else none) := by
      funext k
      cases hk : Nat.blt k n0 with
      | false => rfl
      | true =>
        have h1 := ax_allr hc (ax_blt hk)
        cases hf : f k with
        | none => rfl
        | some i =>
          rw [hf] at h1
          show some (ad' i) = some (ad i)
          rw [hag i (ax_blt h1)]
    rw [e]
  | .inl (t, (n0, .inl f)), _ => rfl
  | .inl (t, (n0, .inr (.inl f))), _ => rfl
  | .inl (t, (n0, .inr (.inr (.inl f)))), _ => rfl
  | .inl (t, (n0, .inr (.inr (.inr (.inl f))))), _ => rfl
/-- the map of numbers to addresses, with a new one -/
def ax_ad (ad : Nat → Nat) (n q : Nat) : Nat → Nat := fun j => if j = n then q else ad j
theorem ax_ad_lt {n q i : Nat} (hi : i < n) : ax_ad ad n q i = ad i := by unfold ax_ad; rw [if_neg (by omega)]
theorem ax_wl_push {q : Nat} {c : ax_C} {k : Nat} (hcl : (List.range h.1.1).all (fun i => ax_clC h.1.1 (h.2 i)) = true) : ax_wl tA ad b h ++ [(q, ax_cc tA (ax_ad ad h.1.1 q) b c)] = ax_wl tA (ax_ad ad h.1.1 q) b (ax_push h c k) := by
  show _ = (List.range (h.1.1 + 1)).map (fun i => (ax_ad ad h.1.1 q i, ax_cc tA (ax_ad ad h.1.1 q) b (bif Nat.beq i h.1.1 then c else h.2 i)))
  rw [List.range_succ, List.map_append]
  congr 1
  · unfold ax_wl
    apply List.map_congr_left
    intro i hi
    have hl := List.mem_range.mp hi
    have hb : Nat.beq i h.1.1 = false := by
      cases hz : Nat.beq i h.1.1 with
      | false => rfl
      | true => have := Nat.eq_of_beq_eq_true hz; omega
    rw [ax_ad_lt hl, hb]
    show (ad i, ax_cc tA ad b (h.2 i)) = (ad i, ax_cc tA (ax_ad ad h.1.1 q) b (h.2 i))
    rw [ax_cc_cl (fun j hj => ax_ad_lt hj) (ax_allr hcl hl)]
  · show [_] = [(ax_ad ad h.1.1 q h.1.1, ax_cc tA (ax_ad ad h.1.1 q) b (bif Nat.beq h.1.1 h.1.1 then c else h.2 h.1.1))]
    rw [Nat.beq_refl, show ax_ad ad h.1.1 q h.1.1 = q from if_pos rfl]
    rfl
end AXW
/-! locals -/
theorem ax_ld_lt : ∀ {L : ax_L} {i : Nat} {v : Value}, ax_ld L i = some v → i < L.length
  | [], _, _, h => by cases h
  | _ :: _, 0, _, _ => by simp
  | _ :: L, i + 1, v, h => by have := ax_ld_lt (L := L) (i := i) h; simp; exact this
theorem ax_set_len : ∀ (L : ax_L) (i : Nat) (x : Option Value), (ax_set L i x).length = L.length
  | [], _, _ => rfl
  | _ :: _, 0, _ => rfl
  | _ :: L, i + 1, x => by simp [ax_set, ax_set_len L i x]
theorem ax_ld_set : ∀ (L : ax_L) (i j : Nat) (x : Option Value), ax_ld (ax_set L i x) j = if j = i then (if i < L.length then x else none) else ax_ld L j
  | [], i, j, x => by by_cases q : j = i <;> simp [ax_set, ax_ld, q]
  | y :: L, 0, 0, x => by simp [ax_set, ax_ld]
  | y :: L, 0, j + 1, x => by simp [ax_set, ax_ld]
  | y :: L, i + 1, 0, x => by simp [ax_set, ax_ld]
  | y :: L, i + 1, j + 1, x => by simp [ax_set, ax_ld, ax_ld_set L i j x]
theorem ax_has_lt : ∀ {L : ax_L} {i : Nat}, ax_has L i = true → i < L.length
  | [], _, h => by cases h
  | _ :: _, 0, _ => by simp
  | _ :: L, i + 1, h => by have := ax_has_lt (L := L) (i := i) h; simp; exact this
theorem ax_kill_s (L : ax_L) (j : Nat) : ax_kill L (j + 1) = bif ax_wide (ax_ld L j) then ax_set L j none else L := rfl
theorem ax_kill_len (L : ax_L) (i : Nat) : (ax_kill L i).length = L.length := by
  cases i with
  | zero => rfl
  | succ j => rw [ax_kill_s]; cases ax_wide (ax_ld L j) <;> simp [ax_set_len]
theorem ax_kill_ld {L : ax_L} {i j : Nat} {v : Value} (h : ax_ld (ax_kill L i) j = some v) : ax_ld L j = some v ∧ ¬ (j + 1 = i ∧ ax_wide (some v) = true) := by
  cases i with
  | zero => exact ⟨h, fun q => by omega⟩
  | succ i =>
    rw [ax_kill_s] at h
    cases hw : ax_wide (ax_ld L i) with
    | false =>
      rw [hw] at h
      refine ⟨h, fun q => ?_⟩
      have e : j = i := by omega
      subst e
      have h' : ax_ld L j = some v := h
      rw [h', q.2] at hw
      cases hw
    | true =>
      rw [hw] at h
      have h2 : ax_ld (ax_set L i none) j = some v := h
      rw [ax_ld_set] at h2
      by_cases q : j = i
      · rw [if_pos q] at h2
        split at h2 <;> cases h2
      · rw [if_neg q] at h2
        exact ⟨h2, fun q2 => by omega⟩
def ax_lv (ad : Nat → Nat) (b : Nat) (ls : Array Slot) (nL : Nat) (L : ax_L) : Prop := L.length = nL ∧ ls.size = nL ∧ lv_wf ls ∧ ∀ (i : Nat) (v : Value), ax_ld L i = some v → ls[i]? = some (.val (ax_cv ad b v))
def ax_as (ad : Nat → Nat) (b : Nat) (L : ax_L) : List (Nat × Value) := (List.range L.length).filterMap fun i => (ax_ld L i).map fun v => (i, ax_cv ad b v)
section AXV
variable {ad : Nat → Nat} {b nL : Nat} {ls ls' : Array Slot} {L : ax_L}
theorem ax_as_mem {i : Nat} {v : Value} (h : ax_ld L i = some v) : (i, ax_cv ad b v) ∈ ax_as ad b L :=
  List.mem_filterMap.mpr ⟨i, List.mem_range.mpr (ax_ld_lt h), by rw [h]; rfl⟩
theorem ax_lv.has (hl : ax_lv ad b ls nL L) : lv_has ls nL (ax_as ad b L) := by
  refine ⟨hl.2.1, hl.2.2.1, fun q hq => ?_⟩
  obtain ⟨i, -, hi⟩ := List.mem_filterMap.mp hq
  cases hv : ax_ld L i with
  | none => rw [hv] at hi; cases hi
  | some v =>
    rw [hv] at hi
    have e : (i, ax_cv ad b v) = q := Option.some.inj hi
    rw [← e]
    exact hl.2.2.2 i v hv
theorem ax_cat (v : Value) : ((ax_cv ad b v).category == 2) = ax_wide (some v) := by cases v <;> rfl
theorem ax_cat1 {v : Value} (h : ax_wide (some v) = false) : (ax_cv ad b v).category = 1 := by cases v <;> first | rfl | cases h
theorem ax_lv_st1 {i : Nat} {v : Value} (hl : ax_lv ad b ls nL L) (hh : ax_has L i = true) (h' : lv_has ls' nL ((i, ax_cv ad b v) :: (ax_as ad b L).filter (fun q => !(q.1 == i) && !(q.1 + 1 == i && q.2.category == 2)))) : ax_lv ad b ls' nL (ax_set (ax_kill L i) i (some v)) := by
  refine ⟨by rw [ax_set_len, ax_kill_len]; exact hl.1, h'.1, h'.2.1, fun j w hj => ?_⟩
  rw [ax_ld_set] at hj
  by_cases q : j = i
  · rw [if_pos q, if_pos (by rw [ax_kill_len]; exact ax_has_lt hh)] at hj
    cases hj
    rw [q]
    exact h'.2.2 (i, ax_cv ad b v) List.mem_cons_self
  · rw [if_neg q] at hj
    obtain ⟨h1, h2⟩ := ax_kill_ld hj
    refine h'.2.2 (j, ax_cv ad b w) (List.mem_cons_of_mem _ (List.mem_filter.mpr ⟨ax_as_mem h1, ?_⟩))
    show (!(j == i) && !(j + 1 == i && (ax_cv ad b w).category == 2)) = true
    rw [ax_cat]
    by_cases q2 : j + 1 = i
    · have hw : ax_wide (some w) = false := by
        cases hz : ax_wide (some w) with
        | false => rfl
        | true => exact absurd ⟨q2, hz⟩ h2
      simp [q, hw]
    · simp [q, q2]
theorem ax_lv_st2 {i : Nat} {v : Value} (hl : ax_lv ad b ls nL L) (hh : ax_has L (i + 1) = true) (h' : lv_has ls' nL ((i, ax_cv ad b v) :: (ax_as ad b L).filter (fun q => !(q.1 == i) && (!(q.1 == i + 1) && !(q.1 + 1 == i && q.2.category == 2))))) : ax_lv ad b ls' nL (ax_set (ax_set (ax_kill L i) i (some v)) (i + 1) none) := by
  have hlt := ax_has_lt hh
  refine ⟨by rw [ax_set_len, ax_set_len, ax_kill_len]; exact hl.1, h'.1, h'.2.1, fun j w hj => ?_⟩
  rw [ax_ld_set] at hj
  by_cases q0 : j = i + 1
  · rw [if_pos q0] at hj
    split at hj <;> cases hj
  rw [if_neg q0, ax_ld_set] at hj
  by_cases q : j = i
  · rw [if_pos q, if_pos (by rw [ax_kill_len]; omega)] at hj
    cases hj
    rw [q]
    exact h'.2.2 (i, ax_cv ad b v) List.mem_cons_self
  · rw [if_neg q] at hj
    obtain ⟨h1, h2⟩ := ax_kill_ld hj
    refine h'.2.2 (j, ax_cv ad b w) (List.mem_cons_of_mem _ (List.mem_filter.mpr ⟨ax_as_mem h1, ?_⟩))
    show (!(j == i) && (!(j == i + 1) && !(j + 1 == i && (ax_cv ad b w).category == 2))) = true
    rw [ax_cat]
    by_cases q2 : j + 1 = i
    · have hw : ax_wide (some w) = false := by
        cases hz : ax_wide (some w) with
        | false => rfl
        | true => exact absurd ⟨q2, hz⟩ h2
      simp [q, q0, hw]
    · simp [q, q0, q2]
theorem ax_lv.ad_cl {ad' : Nat → Nat} {n : Nat} (hl : ax_lv ad b ls nL L) (hag : ∀ i, i < n → ad' i = ad i) (hc : L.all (ax_clO n) = true) : ax_lv ad' b ls nL L := by
  refine ⟨hl.1, hl.2.1, hl.2.2.1, fun i v hv => ?_⟩
  have hm : some v ∈ L := by
    have key : ∀ (L : ax_L) (i : Nat), ax_ld L i = some v → some v ∈ L := by
      intro L
      induction L with
      | nil => intro i h; cases h
      | cons x L ih =>
        intro i h
        cases i with
        | zero => have e : x = some v := h; rw [e]; exact List.mem_cons_self
        | succ i => exact List.mem_cons_of_mem _ (ih i h)
    exact key L i hv
  have h1 : ax_clV n v = true := List.all_eq_true.mp hc _ hm
  rw [ax_cv_cl hag h1]
  exact hl.2.2.2 i v hv
end AXV
