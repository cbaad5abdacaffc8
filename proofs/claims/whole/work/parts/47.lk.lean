/-! LOOKS: of the class and of the reference -/
section LK
variable {m m1 m2 : dM} {s : gS} {f : Nat → Int32}
theorem gx {X : Nat × (Nat → Int32)} {i j : Nat} (h : i + j < X.1) (hX : X.1 ≤ 2560) : gX X (nI i + nI j) = some (X.2 (i + j)) := by
  unfold gX
  rw [nI_add, nI_inb h (by omega), nI_clamp (by omega)]
  rfl
theorem lkI {A : Option (Int32 × dM)} {B : dM → Option (Int32 × dM)} (h : INV m) (H : ∀ s, IC m s → IM m s → ∃ s' k v r1, A = some r1 ∧ CO m s' k v r1 ∧ ∀ m1, IM m1 s → ∃ r2, B m1 = some r2 ∧ MO m1 s' k v r2) : OK m (A.bind fun (r1 : Int32 × dM) => (B r1.2).bind fun (r2 : Int32 × dM) => (D142 r2.2).bind fun (x3 : Int32) => if x3 = r1.1 then if r1.1 = (nI 0) then (gL r2.2 138 1 (nI 0)).bind fun (x4 : Int64) => if (lg_cmp x4 r2.1.toInt64) = (nI 0) then some (.inl r2.2) else some (.inr r2.2) else some (.inl r2.2) else some (.inr r2.2)) := by
  obtain ⟨s, hC, hM⟩ := h
  obtain ⟨s', k, v, r1, e1, c1, H2⟩ := H s hC hM
  obtain ⟨r2, e2, q2⟩ := H2 r1.2 (hM.c c1.2.2.2.1)
  rw [e1]
  show OK m (Option.bind (B r1.2) _)
  rw [e2]
  exact end_I c1 q2
theorem lkB {A : Option (Int32 × dM)} {B : dM → Option (Int32 × dM)} (h : INV m) (H : ∀ s, IC m s → IM m s → ∃ s' k v r1, A = some r1 ∧ CO m s' k v r1 ∧ ∀ m1, IM m1 s → ∃ r2, B m1 = some r2 ∧ MB m1 s' k v r2) : OK m (A.bind fun (r1 : Int32 × dM) => (B r1.2).bind fun (r2 : Int32 × dM) => (D142 r2.2).bind fun (x5 : Int32) => if x5 = r1.1 then if r1.1 = (nI 0) then (gL r2.2 138 1 (nI 0)).bind fun (x6 : Int64) => Option.bind ((if r2.1 = (nI 0) then some (0 : Int64) else some (1 : Int64)) : Option (Int64)) fun (v7 : Int64) => if (lg_cmp x6 v7) = (nI 0) then some (.inl r2.2) else some (.inr r2.2) else some (.inl r2.2) else some (.inr r2.2)) := by
  obtain ⟨s, hC, hM⟩ := h
  obtain ⟨s', k, v, r1, e1, c1, H2⟩ := H s hC hM
  obtain ⟨r2, e2, q2⟩ := H2 r1.2 (hM.c c1.2.2.2.1)
  rw [e1]
  show OK m (Option.bind (B r1.2) _)
  rw [e2]
  exact end_B c1 q2
theorem lk0 {A : Option Int32} {B : Option (Int32 × dM)} (h : INV m) (H : ∀ s, IC m s → IM m s → ∃ x m2, A = some x ∧ B = some (x, m2) ∧ mdq m m2) : OK m (A.bind fun (x1 : Int32) => B.bind fun (r2 : Int32 × dM) => if x1 = r2.1 then some (.inl r2.2) else some (.inr r2.2)) := by
  obtain ⟨s, hC, hM⟩ := h
  obtain ⟨x, m2, e1, e2, q⟩ := H s hC hM
  rw [e1, e2]
  refine ⟨m2, ?_, ⟨s, hC.m q.cM.v q.1.2.2.1, hM.q q⟩, .inl q.1.2.2.2⟩
  show (if x = x then _ else _) = _
  rw [if_pos rfl]
theorem co_v (h : IC m1 s) (c : chv cC m m1) (e : m1.1 = m.1) {v : Int64} : CO m s 0 v (nI 0, wL m1 138 0 v) := ⟨rfl, by omega, h.out, c.wL (.inr rfl), .inl e, fun _ => by
  show rL (wL m1 138 0 v) 138 0 = v
  rw [rL_ws]
  show (if 0 = 0 then v else _) = v
  rw [if_pos rfl]⟩
theorem co_x (h : IC m1 s) (c : chv cC m m1) (e : m1.1 = m.1) {k : Nat} (hk : 0 < k) (h4 : k < 4) {v : Int64} : CO m s k v (nI k, bump m1) := ⟨rfl, h4, h, c, .inr (by show (m1.1.1 + 1, m1.1.2 + 6) = _; rw [e]), fun q => by omega⟩
theorem mo_v (h : IM m s) {x : Int32} (c : mdq m m2) (e : rI m2 130 7 = nI 0) : MO m s 0 x.toInt64 (x, m2) := ⟨h.q c, e, c.cM, fun _ => rfl⟩
theorem mo_x (h : IM m s) {x : Int32} {v : Int64} {k : Nat} (hk : 0 < k) (c : mdq m m2) (e : rI m2 130 7 = nI k) : MO m s k v (x, m2) := ⟨h.q c, e, c.cM, fun q => by omega⟩
theorem mb_v (h : IM m s) {x : Int32} (c : mdq m m2) (e : rI m2 130 7 = nI 0) : MB m s 0 (if x = nI 0 then (0 : Int64) else 1) (x, m2) := ⟨h.q c, e, c.cM, fun _ => rfl⟩
theorem mb_x (h : IM m s) {x : Int32} {v : Int64} {k : Nat} (hk : 0 < k) (c : mdq m m2) (e : rI m2 130 7 = nI k) : MB m s k v (x, m2) := ⟨h.q c, e, c.cM, fun q => by omega⟩
theorem t_v {v : Int32} : mdq m (wI m 130 7 v) := mdq.w7 mdq.rf
theorem t_x {u v : Int32} : mdq m (wI (wI m 130 7 u) 130 7 v) := (mdq.w7 mdq.rf).w7
/-- the law's calls that give numbers -/
theorem w_I {e : Option (Int32 ⊕ Nat)} {x : Int32} {xx : Nat → dM → Option (Int32 × dM)} (h : e = some (.inl x)) : cT e m (fun (x1 : Int32) => (sL m 138 1 (nI 0) x1.toInt64).bind fun (m4 : dM) => some (nI 0, m4)) xx = some (nI 0, wL m 138 0 x.toInt64) := by
  rw [h]
  show (sL m 138 1 (nI 0) x.toInt64).bind (fun (m4 : dM) => some (nI 0, m4)) = _
  rw [sL_n (by omega) (by omega)]
  rfl
theorem w_B {e : Option (Int32 ⊕ Nat)} {x : Int32} {xx : Nat → dM → Option (Int32 × dM)} (h : e = some (.inl x)) : cT e m (fun (x1 : Int32) => Option.bind ((if x1 = (nI 0) then some (0 : Int64) else some (1 : Int64)) : Option (Int64)) fun (v4 : Int64) => (sL m 138 1 (nI 0) v4).bind fun (m5 : dM) => some (nI 0, m5)) xx = some (nI 0, wL m 138 0 (if x = nI 0 then (0 : Int64) else 1)) := by
  rw [h]
  show Option.bind (if x = nI 0 then some 0 else some 1) _ = _
  rw [iff_some]
  show (sL m 138 1 (nI 0) (if x = nI 0 then (0 : Int64) else 1)).bind (fun (m4 : dM) => some (nI 0, m4)) = _
  rw [sL_n (by omega) (by omega)]
  rfl
theorem w_X {α : Type} {e : Option (α ⊕ Nat)} {j : Nat} {kk : α → Option (Int32 × dM)} {xx : Nat → dM → Option (Int32 × dM)} (h : e = some (.inr j)) : cT e m kk xx = xx j (bump m) := by
  rw [h]
  rfl
theorem g_I {e : Option ((Int32 ⊕ Nat) × dM)} {x : Int32} {xx : Nat → dM → Option (Int32 × dM)} (h : e = some (.inl x, m1)) : cG e (fun (x1 : Int32) (m4 : dM) => (sL m4 138 1 (nI 0) x1.toInt64).bind fun (m5 : dM) => some (nI 0, m5)) xx = some (nI 0, wL m1 138 0 x.toInt64) := by
  rw [h]
  show (sL m1 138 1 (nI 0) x.toInt64).bind (fun (m4 : dM) => some (nI 0, m4)) = _
  rw [sL_n (by omega) (by omega)]
  rfl
theorem g_B {e : Option ((Int32 ⊕ Nat) × dM)} {x : Int32} {xx : Nat → dM → Option (Int32 × dM)} (h : e = some (.inl x, m1)) : cG e (fun (x1 : Int32) (m4 : dM) => Option.bind ((if x1 = (nI 0) then some (0 : Int64) else some (1 : Int64)) : Option (Int64)) fun (v5 : Int64) => (sL m4 138 1 (nI 0) v5).bind fun (m6 : dM) => some (nI 0, m6)) xx = some (nI 0, wL m1 138 0 (if x = nI 0 then (0 : Int64) else 1)) := by
  rw [h]
  show Option.bind (if x = nI 0 then some 0 else some 1) _ = _
  rw [iff_some]
  show (sL m1 138 1 (nI 0) (if x = nI 0 then (0 : Int64) else 1)).bind (fun (m4 : dM) => some (nI 0, m4)) = _
  rw [sL_n (by omega) (by omega)]
  rfl
theorem g_X {α : Type} {e : Option ((α ⊕ Nat) × dM)} {j : Nat} {kk : α → dM → Option (Int32 × dM)} {xx : Nat → dM → Option (Int32 × dM)} (h : e = some (.inr j, m1)) : cG e kk xx = xx j m1 := by
  rw [h]
  rfl
theorem IC.R (h : IC m s) : RC m 1 s.1 := h.1
theorem IC.V (h : IC m s) : rv s.1 := h.2.1
theorem IM.e1 (h : IM m s) : rI m 131 = s.1 := h.1
theorem IM.f7 (h : IM m s) {v : Int32} : rI (wI m 130 7 v) 131 = s.1 := (rI_wn (by decide)).trans h.1
end LK
