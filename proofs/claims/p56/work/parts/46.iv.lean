/-! THE PICTURES: of the class and of the reference, of both -/
abbrev gS : Type := (Nat → Int32) × Nat × (Nat → Nat → Int32) × Nat × (Nat → Int32) × Nat × (Nat → Int32)
def KC (m : dM) (b : Nat) (G : Nat → Int32) : Prop := b < 2 ∧ rI m 0 7 = nI b ∧ (b = 1 → RC m 19 G ∧ rv G)
def BC (m : dM) (L : Nat) (cs : Nat → Int32) : Prop := L ≤ 60 ∧ rI m 42 1 = nI L ∧ ∀ i, i < L → rI m 43 i = cs i
def IC (m : dM) (s : gS) : Prop := RC m 1 s.1 ∧ rv s.1 ∧ SC m s.2.1 s.2.2.1 ∧ KC m s.2.2.2.1 s.2.2.2.2.1 ∧ BC m s.2.2.2.2.2.1 s.2.2.2.2.2.2
/-- changed only there; nothing is said of the room -/
def chv (S : Nat → Prop) (m m' : dM) : Prop := (∀ b, ¬ S b → rI m' b = rI m b) ∧ ∀ b, ¬ S b → rL m' b = rL m b
theorem chv.rf {S : Nat → Prop} {m : dM} : chv S m m := ⟨fun _ _ => rfl, fun _ _ => rfl⟩
theorem chv.tr {S : Nat → Prop} {m m' m'' : dM} (h : chv S m m') (k : chv S m' m'') : chv S m m'' := ⟨fun b q => (k.1 b q).trans (h.1 b q), fun b q => (k.2 b q).trans (h.2 b q)⟩
theorem chv.mono {S T : Nat → Prop} {m m' : dM} (h : chv S m m') (k : ∀ b, S b → T b) : chv T m m' := ⟨fun b q => h.1 b (fun z => q (k b z)), fun b q => h.2 b (fun z => q (k b z))⟩
theorem chw.v {S : Nat → Prop} {m m' : dM} (h : chw S m m') : chv S m m' := ⟨h.1, h.2.1⟩
theorem chg.v {S : Nat → Prop} {m m' : dM} (h : chg S m m') : chv S m m' := ⟨h.1, h.2.1⟩
theorem chv.bump {S : Nat → Prop} {m m' : dM} (h : chv S m m') : chv S m (bump m') := h
theorem chv.wL {S : Nat → Prop} {m m' : dM} {a j : Nat} {v : Int64} (h : chv S m m') (ha : S a) : chv S m (wL m' a j v) := ⟨h.1, fun b q => (rL_wn (fun (e : b = a) => q (by rw [e]; exact ha))).trans (h.2 b q)⟩
theorem RC.chv {m m' : dM} {B : Nat} {f : Nat → Int32} {S : Nat → Prop} (R : RC m B f) (h : chv S m m') (q : ∀ b, B ≤ b → b ≤ B + 16 → ¬ S b) : RC m' B f := R.cg fun b h1 h2 => ⟨h.1 b (q b h1 h2), h.2 b (q b h1 h2)⟩
/-- cells of the class; of the reference -/
def cC (b : Nat) : Prop := b ≤ 129 ∨ b = 138
/-- the row of now and the saved states behind a saving -/
def svS (s : gS) : gS := (s.1, svn s.2.1, svF s.2.1 s.2.2.1 s.1, s.2.2.2)
/-- another row of now -/
def nwS (s : gS) (f : Nat → Int32) : gS := (f, s.2)
section IV
variable {m m1 : dM} {s : gS}
theorem IC.sv (h : IC m s) : ∃ m', D131 m = some m' ∧ IC m' (svS s) ∧ chw (fun b => b ≤ 129) m m' := by
  obtain ⟨h1, h2, h3, h4, h5⟩ := h
  obtain ⟨m', e, c, j0, S⟩ := d131 h1 h2 h3
  obtain ⟨b1, b2, b3⟩ := h4
  obtain ⟨l1, l2, l3⟩ := h5
  refine ⟨m', e, ⟨h1.chw c (fun b z1 z2 => by omega), h2, S, ⟨b1, ?_, fun e => ⟨(b3 e).1.chw c (fun b z1 z2 => by omega), (b3 e).2⟩⟩, l1, ?_, fun i hi => ?_⟩, c.mono (fun b q => by omega)⟩
  · rw [j0 7 (by omega)]
    exact b2
  · rw [c.1 42 (by omega)]
    exact l2
  · rw [c.1 43 (by omega)]
    exact l3 i hi
/-- the state of now is changed -/
theorem IC.nw (h : IC m s) {f : Nat → Int32} (c : chg (fun b => (1 ≤ b ∧ b ≤ 17) ∨ (37 ≤ b ∧ b ≤ 41)) m m1) (R : RC m1 1 f) (V : rv f) : IC m1 (nwS s f) := by
  obtain ⟨h1, h2, h3, ⟨b1, b2, b3⟩, l1, l2, l3⟩ := h
  refine ⟨R, V, h3.chw c.w c.2.2.1 (fun b z1 z2 => by omega) (by rw [c.1 0 (by omega)]), ⟨b1, ?_, fun e => ⟨(b3 e).1.ch c (fun b z1 z2 => by omega), (b3 e).2⟩⟩, l1, ?_, fun i hi => ?_⟩
  · rw [c.1 0 (by omega)]
    exact b2
  · rw [c.1 42 (by omega)]
    exact l2
  · rw [c.1 43 (by omega)]
    exact l3 i hi
/-- nothing is changed but what the class throws away -/
theorem IC.th (h : IC m s) (c : chg (fun b => (37 ≤ b ∧ b ≤ 41) ∨ b = 44) m m1) : IC m1 s := by
  obtain ⟨h1, h2, h3, ⟨b1, b2, b3⟩, l1, l2, l3⟩ := h
  refine ⟨h1.ch c (fun b z1 z2 => by omega), h2, h3.chw c.w c.2.2.1 (fun b z1 z2 => by omega) (by rw [c.1 0 (by omega)]), ⟨b1, ?_, fun e => ⟨(b3 e).1.ch c (fun b z1 z2 => by omega), (b3 e).2⟩⟩, l1, ?_, fun i hi => ?_⟩
  · rw [c.1 0 (by omega)]
    exact b2
  · rw [c.1 42 (by omega)]
    exact l2
  · rw [c.1 43 (by omega)]
    exact l3 i hi
theorem IC.bump (h : IC m s) : IC (bump m) s := h
end IV
section TL
variable {m : dM} {s : gS} {k : Nat} {v : Int64} {r1 r2 : Int32 × dM}
end TL
