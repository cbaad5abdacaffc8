/-! THE PICTURES: of the class and of the reference, of both -/
abbrev gS : Type := (Nat → Int32) × Nat × (Nat → Nat → Int32) × Nat × (Nat → Int32) × Nat × (Nat → Int32)
def KC (m : dM) (b : Nat) (G : Nat → Int32) : Prop := b < 2 ∧ rI m 0 7 = nI b ∧ (b = 1 → RC m 19 G ∧ rv G)
def KM (m : dM) (b : Nat) (G : Nat → Int32) : Prop := rI m 130 4 = nI b ∧ (b = 1 → ∀ j, j < 299 → rI m 133 j = G j)
def BC (m : dM) (L : Nat) (cs : Nat → Int32) : Prop := L ≤ 60 ∧ rI m 42 1 = nI L ∧ ∀ i, i < L → rI m 43 i = cs i
def BM (m : dM) (L : Nat) (cs : Nat → Int32) : Prop := rI m 130 6 = nI L ∧ ∀ i, i < L → rI m 134 i = cs i
def IC (m : dM) (s : gS) : Prop := RC m 1 s.1 ∧ rv s.1 ∧ SC m s.2.1 s.2.2.1 ∧ KC m s.2.2.2.1 s.2.2.2.2.1 ∧ BC m s.2.2.2.2.2.1 s.2.2.2.2.2.2
def IM (m : dM) (s : gS) : Prop := rI m 131 = s.1 ∧ SM m s.2.1 s.2.2.1 ∧ KM m s.2.2.2.1 s.2.2.2.2.1 ∧ BM m s.2.2.2.2.2.1 s.2.2.2.2.2.2
/-- changed only there; nothing is said of the room -/
def chv (S : Nat → Prop) (m m' : dM) : Prop := (∀ b, ¬ S b → rI m' b = rI m b) ∧ ∀ b, ¬ S b → rL m' b = rL m b
theorem chv.rf {S : Nat → Prop} {m : dM} : chv S m m := ⟨fun _ _ => rfl, fun _ _ => rfl⟩
theorem chv.tr {S : Nat → Prop} {m m' m'' : dM} (h : chv S m m') (k : chv S m' m'') : chv S m m'' := ⟨fun b q => (k.1 b q).trans (h.1 b q), fun b q => (k.2 b q).trans (h.2 b q)⟩
theorem chv.mono {S T : Nat → Prop} {m m' : dM} (h : chv S m m') (k : ∀ b, S b → T b) : chv T m m' := ⟨fun b q => h.1 b (fun z => q (k b z)), fun b q => h.2 b (fun z => q (k b z))⟩
theorem chw.v {S : Nat → Prop} {m m' : dM} (h : chw S m m') : chv S m m' := ⟨h.1, h.2.1⟩
theorem chg.v {S : Nat → Prop} {m m' : dM} (h : chg S m m') : chv S m m' := ⟨h.1, h.2.1⟩
theorem chv.bump {S : Nat → Prop} {m m' : dM} (h : chv S m m') : chv S m (bump m') := h
theorem chv.wL {S : Nat → Prop} {m m' : dM} {a j : Nat} {v : Int64} (h : chv S m m') (ha : S a) : chv S m (wL m' a j v) := ⟨h.1, fun b q => (rL_wn (fun (e : b = a) => q (by rw [e]; exact ha))).trans (h.2 b q)⟩
theorem RC.chv {m m' : dM} {B : Nat} {f : Nat → Int32} {S : Nat → Prop} (R : RC m B f) (h : chv S m m') (q : ∀ b, B ≤ b → b ≤ B + 16 → ¬ S b) : RC m' B f := R.cg fun b h1 h2 => ⟨h.1 b (q b h1 h2), h.2 b (q b h1 h2)⟩
/-- cells of the class; of the reference -/
def cC (b : Nat) : Prop := b ≤ 129 ∨ b = 138
def cM (b : Nat) : Prop := 130 ≤ b ∧ b ≤ 137
theorem IM.c {m m' : dM} {s : gS} (h : IM m s) (c : chv cC m m') : IM m' s := by
  obtain ⟨h1, h2, h3, h4⟩ := h
  have k : ∀ b, 130 ≤ b → b ≤ 137 → rI m' b = rI m b := fun b q1 q2 => c.1 b (by unfold cC; omega)
  unfold IM SM KM BM
  rw [k 130 (by omega) (by omega), k 131 (by omega) (by omega), k 132 (by omega) (by omega), k 133 (by omega) (by omega), k 134 (by omega) (by omega)]
  exact ⟨h1, h2, h3, h4⟩
theorem IC.m {m m' : dM} {s : gS} (h : IC m s) (c : chv cM m m') (r : rR m' = rR m) : IC m' s := by
  obtain ⟨h1, h2, ⟨a1, a2, a3, a4, a5⟩, ⟨b1, b2, b3⟩, h5⟩ := h
  have k : ∀ b, b < 130 → rI m' b = rI m b := fun b q1 => c.1 b (by unfold cM; omega)
  have kc : ∀ b, 130 ≤ b → b < 130 → False := fun b q1 q2 => by omega
  refine ⟨h1.chv c (fun b z1 z2 => by unfold cM; omega), h2, ⟨a1, ?_, ?_, ?_, fun i hi => ?_⟩, ⟨b1, ?_, fun e => ⟨(b3 e).1.chv c (fun b z1 z2 => by unfold cM; omega), (b3 e).2⟩⟩, ?_⟩
  · rw [k 0 (by omega)]; exact a2
  · rw [r]; exact a3
  · rw [r]; exact a4
  · rw [r]
    have := isS.rg (a3 i (by omega))
    exact ⟨(a5 i hi).1.chv c (fun b z1 z2 => by unfold cM; omega), (a5 i hi).2⟩
  · rw [k 0 (by omega)]; exact b2
  · unfold BC
    rw [k 42 (by omega), k 43 (by omega)]
    exact h5
/-- the row of now and the saved states behind a saving -/
def svS (s : gS) : gS := (s.1, svn s.2.1, svF s.2.1 s.2.2.1 s.1, s.2.2.2)
/-- another row of now -/
def nwS (s : gS) (f : Nat → Int32) : gS := (f, s.2)
section IV
variable {m m1 : dM} {s : gS}
theorem IC.sv (h : IC m s) : ∃ m', D131 m = some m' ∧ IC m' (svS s) ∧ chw (fun b => b ≤ 129) m m' := by
  obtain ⟨h1, h2, h3, h4, h5⟩ := h
  obtain ⟨m', e, c, j0, S⟩ := d131 h1 h2 h3
  obtain ⟨b1, b2, b3⟩ := h4
  obtain ⟨l1, l2, l3⟩ := h5
  refine ⟨m', e, ⟨h1.chw c (fun b z1 z2 => by omega), h2, S, ⟨b1, ?_, fun e => ⟨(b3 e).1.chw c (fun b z1 z2 => by omega), (b3 e).2⟩⟩, l1, ?_, fun i hi => ?_⟩, c.mono (fun b q => by omega)⟩
  · rw [j0 7 (by omega)]
    exact b2
  · rw [c.1 42 (by omega)]
    exact l2
  · rw [c.1 43 (by omega)]
    exact l3 i hi
/-- the state of now is changed -/
theorem IC.nw (h : IC m s) {f : Nat → Int32} (c : chg (fun b => (1 ≤ b ∧ b ≤ 17) ∨ (37 ≤ b ∧ b ≤ 41)) m m1) (R : RC m1 1 f) (V : rv f) : IC m1 (nwS s f) := by
  obtain ⟨h1, h2, h3, ⟨b1, b2, b3⟩, l1, l2, l3⟩ := h
  refine ⟨R, V, h3.chw c.w c.2.2.1 (fun b z1 z2 => by omega) (by rw [c.1 0 (by omega)]), ⟨b1, ?_, fun e => ⟨(b3 e).1.ch c (fun b z1 z2 => by omega), (b3 e).2⟩⟩, l1, ?_, fun i hi => ?_⟩
  · rw [c.1 0 (by omega)]
    exact b2
  · rw [c.1 42 (by omega)]
    exact l2
  · rw [c.1 43 (by omega)]
    exact l3 i hi
/-- nothing is changed but what the class throws away -/
theorem IC.th (h : IC m s) (c : chg (fun b => (37 ≤ b ∧ b ≤ 41) ∨ b = 44) m m1) : IC m1 s := by
  obtain ⟨h1, h2, h3, ⟨b1, b2, b3⟩, l1, l2, l3⟩ := h
  refine ⟨h1.ch c (fun b z1 z2 => by omega), h2, h3.chw c.w c.2.2.1 (fun b z1 z2 => by omega) (by rw [c.1 0 (by omega)]), ⟨b1, ?_, fun e => ⟨(b3 e).1.ch c (fun b z1 z2 => by omega), (b3 e).2⟩⟩, l1, ?_, fun i hi => ?_⟩
  · rw [c.1 0 (by omega)]
    exact b2
  · rw [c.1 42 (by omega)]
    exact l2
  · rw [c.1 43 (by omega)]
    exact l3 i hi
theorem IC.bump (h : IC m s) : IC (bump m) s := h
theorem IC.out (h : IC m s) {v : Int64} : IC (wL m 138 0 v) s := by
  obtain ⟨h1, h2, ⟨a1, a2, a3, a4, a5⟩, ⟨b1, b2, b3⟩, h5⟩ := h
  have c : chg (fun b => b = 138) m (wL m 138 0 v) := chg.wL chg.rf rfl
  refine ⟨h1.ch c (fun b z1 z2 => by omega), h2, ⟨a1, a2, a3, a4, fun i hi => ?_⟩, ⟨b1, b2, fun e => ⟨(b3 e).1.ch c (fun b z1 z2 => by omega), (b3 e).2⟩⟩, h5⟩
  have := isS.rg (a3 i (by omega))
  exact ⟨(a5 i hi).1.ch c (fun b z1 z2 => by show ¬ b = 138; omega), (a5 i hi).2⟩
theorem IM.sv (h : IM m s) (hn : s.2.1 ≤ 5) : ∃ m', D149 m = some m' ∧ IM m' (svS s) ∧ chg cM m m' ∧ rI m' 130 7 = rI m 130 7 := by
  obtain ⟨h1, h2, ⟨k1, k2⟩, ⟨l1, l2⟩⟩ := h
  obtain ⟨m', e, c, j0, S⟩ := d149 h2 hn h1
  refine ⟨m', e, ⟨?_, S, ⟨?_, fun e j hj => ?_⟩, ?_, fun i hi => ?_⟩, c.mono (fun b q => by unfold cM; omega), j0 7 (by omega)⟩
  · rw [c.1 131 (by omega)]
    exact h1
  · rw [j0 4 (by omega)]
    exact k1
  · rw [c.1 133 (by omega)]
    exact k2 e j hj
  · rw [j0 6 (by omega)]
    exact l1
  · rw [c.1 134 (by omega)]
    exact l2 i hi
theorem IM.nw (h : IM m s) {f : Nat → Int32} (c : chg (fun b => b = 131 ∨ b = 135 ∨ b = 136 ∨ b = 137) m m1) (r : rI m1 131 = f) : IM m1 (nwS s f) := by
  obtain ⟨h1, h2, h3, h4⟩ := h
  refine ⟨r, ?_, ?_, ?_⟩
  · unfold SM
    rw [c.1 130 (by omega), c.1 132 (by omega)]
    exact h2
  · unfold KM
    rw [c.1 130 (by omega), c.1 133 (by omega)]
    exact h3
  · unfold BM
    rw [c.1 130 (by omega), c.1 134 (by omega)]
    exact h4
theorem IM.q (h : IM m s) (c : mdq m m1) : IM m1 s := by
  obtain ⟨h1, ⟨a1, a2⟩, ⟨b1, b2⟩, ⟨l1, l2⟩⟩ := h
  obtain ⟨c0, c2, c4, c6⟩ := c
  refine ⟨?_, ⟨?_, fun i hi j hj => ?_⟩, ⟨?_, fun e j hj => ?_⟩, ?_, fun i hi => ?_⟩
  · rw [c0.1 131 (by omega)]; exact h1
  · rw [c2]; exact a1
  · rw [c0.1 132 (by omega)]; exact a2 i hi j hj
  · rw [c4]; exact b1
  · rw [c0.1 133 (by omega)]; exact b2 e j hj
  · rw [c6]; exact l1
  · rw [c0.1 134 (by omega)]; exact l2 i hi
theorem IM.w7 (h : IM m s) {v : Int32} : IM (wI m 130 7 v) s := h.q (mdq.w7 mdq.rf)
theorem mdq.cM (h : mdq m m1) : chg (fun b => 130 ≤ b ∧ b ≤ 137) m m1 := h.1.mono fun b q => by omega
end IV
/-- the room that a call may take -/
def rm (m m' : dM) : Prop := m'.1 = m.1 ∨ m'.1 = (m.1.1 + 1, m.1.2 + 6)
/-- what the law's call of the class gives: its code, its answer -/
def CO (m : dM) (s : gS) (k : Nat) (v : Int64) (r : Int32 × dM) : Prop := r.1 = nI k ∧ k < 4 ∧ IC r.2 s ∧ chv cC m r.2 ∧ rm m r.2 ∧ (k = 0 → rL r.2 138 0 = v)
/-- what the reference's call gives -/
def MO (m : dM) (s : gS) (k : Nat) (v : Int64) (r : Int32 × dM) : Prop := IM r.2 s ∧ rI r.2 130 7 = nI k ∧ chg cM m r.2 ∧ (k = 0 → r.1.toInt64 = v)
def MB (m : dM) (s : gS) (k : Nat) (v : Int64) (r : Int32 × dM) : Prop := IM r.2 s ∧ rI r.2 130 7 = nI k ∧ chg cM m r.2 ∧ (k = 0 → (if r.1 = nI 0 then (0 : Int64) else 1) = v)
def INV (m : dM) : Prop := ∃ s, IC m s ∧ IM m s
/-- what a case of the law gives -/
def OK (m : dM) (z : Option (dM ⊕ dM)) : Prop := ∃ m', z = some (.inl m') ∧ INV m' ∧ rm m m'
section TL
variable {m : dM} {s : gS} {k : Nat} {v : Int64} {r1 r2 : Int32 × dM}
theorem end_I (h : CO m s k v r1) (q : MO r1.2 s k v r2) : OK m ((D142 r2.2).bind fun (x3 : Int32) => if x3 = r1.1 then if r1.1 = (nI 0) then (gL r2.2 138 1 (nI 0)).bind fun (x4 : Int64) => if (lg_cmp x4 r2.1.toInt64) = (nI 0) then some (.inl r2.2) else some (.inr r2.2) else some (.inl r2.2) else some (.inr r2.2)) := by
  obtain ⟨h1, h2, h3, h4, h5, h6⟩ := h
  obtain ⟨q1, q2, q3, q4⟩ := q
  have hI : INV r2.2 := ⟨s, h3.m q3.v q3.2.2.1, q1⟩
  have hr : rm m r2.2 := by
    unfold rm
    rw [q3.2.2.2]
    exact h5
  refine ⟨r2.2, ?_, hI, hr⟩
  show (if rI r2.2 130 7 = r1.1 then _ else _) = _
  rw [h1, if_pos q2]
  by_cases e : k = 0
  · subst e
    rw [if_pos rfl, gL_n (by omega) (by omega)]
    show (if lg_cmp (rL r2.2 138 0) r2.1.toInt64 = nI 0 then _ else _) = _
    rw [if_pos (lg0.mpr (by rw [q3.2.1 138 (by unfold cM; omega), h6 rfl]; exact (q4 rfl).symm))]
  · rw [if_neg (by rw [nI_eq (by omega) (by omega)]; exact e)]
theorem end_B (h : CO m s k v r1) (q : MB r1.2 s k v r2) : OK m ((D142 r2.2).bind fun (x5 : Int32) => if x5 = r1.1 then if r1.1 = (nI 0) then (gL r2.2 138 1 (nI 0)).bind fun (x6 : Int64) => Option.bind ((if r2.1 = (nI 0) then some (0 : Int64) else some (1 : Int64)) : Option (Int64)) fun (v7 : Int64) => if (lg_cmp x6 v7) = (nI 0) then some (.inl r2.2) else some (.inr r2.2) else some (.inl r2.2) else some (.inr r2.2)) := by
  obtain ⟨h1, h2, h3, h4, h5, h6⟩ := h
  obtain ⟨q1, q2, q3, q4⟩ := q
  have hI : INV r2.2 := ⟨s, h3.m q3.v q3.2.2.1, q1⟩
  have hr : rm m r2.2 := by
    unfold rm
    rw [q3.2.2.2]
    exact h5
  refine ⟨r2.2, ?_, hI, hr⟩
  show (if rI r2.2 130 7 = r1.1 then _ else _) = _
  rw [h1, if_pos q2]
  by_cases e : k = 0
  · subst e
    rw [if_pos rfl, gL_n (by omega) (by omega)]
    show Option.bind (if r2.1 = nI 0 then some 0 else some 1) _ = _
    rw [iff_some]
    show (if lg_cmp (rL r2.2 138 0) (if r2.1 = nI 0 then (0 : Int64) else 1) = nI 0 then _ else _) = _
    rw [if_pos (lg0.mpr (by rw [q3.2.1 138 (by unfold cM; omega), h6 rfl]; exact (q4 rfl).symm))]
  · rw [if_neg (by rw [nI_eq (by omega) (by omega)]; exact e)]
end TL
