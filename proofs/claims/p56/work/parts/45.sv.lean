/-! SAVED STATES: copies of states, saving -/
/-- changed only there, and perhaps the order of the saved states -/
def chw (S : Nat → Prop) (m m' : dM) : Prop := (∀ b, ¬ S b → rI m' b = rI m b) ∧ (∀ b, ¬ S b → rL m' b = rL m b) ∧ m'.1 = m.1
theorem chw.rf {S : Nat → Prop} {m : dM} : chw S m m := ⟨fun _ _ => rfl, fun _ _ => rfl, rfl⟩
theorem chw.tr {S : Nat → Prop} {m m' m'' : dM} (h : chw S m m') (k : chw S m' m'') : chw S m m'' := ⟨fun b q => (k.1 b q).trans (h.1 b q), fun b q => (k.2.1 b q).trans (h.2.1 b q), k.2.2.trans h.2.2⟩
theorem chw.mono {S T : Nat → Prop} {m m' : dM} (h : chw S m m') (k : ∀ b, S b → T b) : chw T m m' := ⟨fun b q => h.1 b (fun z => q (k b z)), fun b q => h.2.1 b (fun z => q (k b z)), h.2.2⟩
theorem chg.w {S : Nat → Prop} {m m' : dM} (h : chg S m m') : chw S m m' := ⟨h.1, h.2.1, h.2.2.2⟩
theorem chw.wI {S : Nat → Prop} {m m' : dM} {a j : Nat} {v : Int32} (h : chw S m m') (ha : S a) : chw S m (wI m' a j v) := ⟨fun b q => (rI_wn (fun (e : b = a) => q (by rw [e]; exact ha))).trans (h.1 b q), h.2⟩
theorem chw.wL {S : Nat → Prop} {m m' : dM} {a j : Nat} {v : Int64} (h : chw S m m') (ha : S a) : chw S m (wL m' a j v) := ⟨h.1, fun b q => (rL_wn (fun (e : b = a) => q (by rw [e]; exact ha))).trans (h.2.1 b q), h.2.2⟩
theorem RC.chw {m m' : dM} {B : Nat} {f : Nat → Int32} {S : Nat → Prop} (R : RC m B f) (h : chw S m m') (q : ∀ b, B ≤ b → b ≤ B + 16 → ¬ S b) : RC m' B f := R.cg fun b h1 h2 => ⟨h.1 b (q b h1 h2), h.2.1 b (q b h1 h2)⟩
/-- one state copied over another -/
def K41 (A B : Nat) (m : dM) : dM := wI (wI (wI (wI (wI (cI (wI (cL (wI (cI (cI (cI (cI (wI (cI (cI (cI (cI (wI (wI (wI (cI (cI m (A + 2) (B + 2) 24) (A + 3) (B + 3) 24) (B + 1) 2 (rI m (A + 1) 2)) (B + 1) 3 (rI m (A + 1) 3)) (B + 1) 4 (rI m (A + 1) 4)) (A + 5) (B + 5) 4) (A + 6) (B + 6) 4) (A + 7) (B + 7) 4) (A + 8) (B + 8) 4) (B + 4) 4 (rI m (A + 4) 4)) (A + 10) (B + 10) 8) (A + 11) (B + 11) 8) (A + 12) (B + 12) 8) (A + 13) (B + 13) 8) (B + 9) 4 (rI m (A + 9) 4)) (A + 15) (B + 15) 61) (B + 14) 1 (rI m (A + 14) 1)) (A + 16) (B + 16) 2) B 5 (rI m A 5)) B 6 (rI m A 6)) B 7 (rI m A 7)) B 8 (rI m A 8)) B 9 (rI m A 9)
theorem c1_wI {m : dM} {a j : Nat} {v : Int32} : (wI m a j v).1 = m.1 := rfl
theorem c1_cI {m : dM} {a b n : Nat} : (cI m a b n).1 = m.1 := rfl
theorem c1_cL {m : dM} {a b n : Nat} : (cL m a b n).1 = m.1 := rfl
section K4
variable {m : dM} {f : Nat → Int32} {A B : Nat}
theorem K41_c : chg (fun b => B ≤ b ∧ b ≤ B + 16) m (K41 A B m) := by
  refine ⟨fun b q => ?_, fun b q => ?_, ?_, ?_⟩
  · replace q : ¬ (B ≤ b ∧ b ≤ B + 16) := q
    unfold K41
    simp (disch := omega) only [rI_wn, rI_cn, rI_cL]
  · replace q : ¬ (B ≤ b ∧ b ≤ B + 16) := q
    unfold K41
    simp (disch := omega) only [rL_wI, rL_cI, rL_cn]
  · unfold K41
    simp only [rR_wI, rR_cI, rR_cL]
  · unfold K41
    simp only [c1_wI, c1_cI, c1_cL]
theorem K41_R (h : B + 16 < A ∨ A + 16 < B) (R : RC m A f) (ht : tN f ≤ 61) : RC (K41 A B m) B f := by
  obtain ⟨R1, R2, R3, R4, R5⟩ := R
  have e0 : rI (K41 A B m) B = upd (upd (upd (upd (upd (rI m B) 5 (rI m A 5)) 6 (rI m A 6)) 7 (rI m A 7)) 8 (rI m A 8)) 9 (rI m A 9) := by
    unfold K41
    simp (disch := omega) only [rI_ws, rI_wn, rI_cn, rI_cL]
  have e1 : rI (K41 A B m) (B + 1) = upd (upd (upd (rI m (B + 1)) 2 (rI m (A + 1) 2)) 3 (rI m (A + 1) 3)) 4 (rI m (A + 1) 4) := by
    unfold K41
    simp (disch := omega) only [rI_ws, rI_wn, rI_cn, rI_cL]
  have e2 : rI (K41 A B m) (B + 2) = fun j => if j < 24 then rI m (A + 2) j else rI m (B + 2) j := by
    unfold K41
    simp (disch := omega) only [rI_cs, rI_wn, rI_cn, rI_cL]
  have e3 : rI (K41 A B m) (B + 3) = fun j => if j < 24 then rI m (A + 3) j else rI m (B + 3) j := by
    unfold K41
    simp (disch := omega) only [rI_cs, rI_wn, rI_cn, rI_cL]
  have e4 : rI (K41 A B m) (B + 4) = upd (rI m (B + 4)) 4 (rI m (A + 4) 4) := by
    unfold K41
    simp (disch := omega) only [rI_ws, rI_wn, rI_cn, rI_cL]
  have e5 : rI (K41 A B m) (B + 5) = fun j => if j < 4 then rI m (A + 5) j else rI m (B + 5) j := by
    unfold K41
    simp (disch := omega) only [rI_cs, rI_wn, rI_cn, rI_cL]
  have e6 : rI (K41 A B m) (B + 6) = fun j => if j < 4 then rI m (A + 6) j else rI m (B + 6) j := by
    unfold K41
    simp (disch := omega) only [rI_cs, rI_wn, rI_cn, rI_cL]
  have e7 : rI (K41 A B m) (B + 7) = fun j => if j < 4 then rI m (A + 7) j else rI m (B + 7) j := by
    unfold K41
    simp (disch := omega) only [rI_cs, rI_wn, rI_cn, rI_cL]
  have e8 : rI (K41 A B m) (B + 8) = fun j => if j < 4 then rI m (A + 8) j else rI m (B + 8) j := by
    unfold K41
    simp (disch := omega) only [rI_cs, rI_wn, rI_cn, rI_cL]
  have e9 : rI (K41 A B m) (B + 9) = upd (rI m (B + 9)) 4 (rI m (A + 9) 4) := by
    unfold K41
    simp (disch := omega) only [rI_ws, rI_wn, rI_cn, rI_cL]
  have e10 : rI (K41 A B m) (B + 10) = fun j => if j < 8 then rI m (A + 10) j else rI m (B + 10) j := by
    unfold K41
    simp (disch := omega) only [rI_cs, rI_wn, rI_cn, rI_cL]
  have e11 : rI (K41 A B m) (B + 11) = fun j => if j < 8 then rI m (A + 11) j else rI m (B + 11) j := by
    unfold K41
    simp (disch := omega) only [rI_cs, rI_wn, rI_cn, rI_cL]
  have e12 : rI (K41 A B m) (B + 12) = fun j => if j < 8 then rI m (A + 12) j else rI m (B + 12) j := by
    unfold K41
    simp (disch := omega) only [rI_cs, rI_wn, rI_cn, rI_cL]
  have e13 : rI (K41 A B m) (B + 13) = fun j => if j < 8 then rI m (A + 13) j else rI m (B + 13) j := by
    unfold K41
    simp (disch := omega) only [rI_cs, rI_wn, rI_cn, rI_cL]
  have e14 : rI (K41 A B m) (B + 14) = upd (rI m (B + 14)) 1 (rI m (A + 14) 1) := by
    unfold K41
    simp (disch := omega) only [rI_ws, rI_wn, rI_cn, rI_cL]
  have e15 : rL (K41 A B m) (B + 15) = fun j => if j < 61 then rL m (A + 15) j else rL m (B + 15) j := by
    unfold K41
    simp (disch := omega) only [rL_cs, rL_wI, rL_cI]
  have e16 : rI (K41 A B m) (B + 16) = fun j => if j < 2 then rI m (A + 16) j else rI m (B + 16) j := by
    unfold K41
    simp (disch := omega) only [rI_cs, rI_wn, rI_cn, rI_cL]
  refine ⟨⟨?_, fun s hs => ?_⟩, fun c hc => ?_, ⟨?_, fun p hp => ?_⟩, ⟨?_, fun i hi => ?_⟩, fun j hj => ?_, ?_⟩
  · rw [e1, upd_s]
    exact R1.1
  · rw [e1, e2, e3, upd_n (by decide), upd_n (by decide), upd_s, upd_n (by decide), upd_s]
    simp only [hs, if_true]
    exact R1.2 s hs
  · rw [e4, e5, e6, e7, e8, upd_s]
    simp only [hc, if_true]
    exact R2 c hc
  · rw [e9, upd_s]
    exact R3.1
  · rw [e10, e11, e12, e13]
    simp only [hp, if_true]
    exact R3.2 p hp
  · rw [e14, upd_s]
    exact R4.1
  · rw [e15]
    simp only [show i < 61 by omega, if_true]
    exact R4.2 i hi
  · rw [e16]
    simp only [hj, if_true]
    exact R5.1 j hj
  · rw [e0, upd_n (by decide), upd_n (by decide), upd_n (by decide), upd_n (by decide), upd_s, upd_n (by decide), upd_n (by decide), upd_n (by decide), upd_s, upd_n (by decide), upd_n (by decide), upd_s, upd_n (by decide), upd_s, upd_s]
    exact R5.2
theorem k41_45_1 : D41_45_1 m = some (K41 1 45 m) := by
  simp (disch := decide) only [D41_45_1, D58_46_2, D1_49_5, D28_54_10, D22_59_15, K41, kI_e, fI_e, kL_e, Option.bind_some, rI_wn, rI_cn, rI_cL, Nat.reduceAdd]
theorem k41_62_1 : D41_62_1 m = some (K41 1 62 m) := by
  simp (disch := decide) only [D41_62_1, D58_63_2, D1_66_5, D28_71_10, D22_76_15, K41, kI_e, fI_e, kL_e, Option.bind_some, rI_wn, rI_cn, rI_cL, Nat.reduceAdd]
theorem k41_79_1 : D41_79_1 m = some (K41 1 79 m) := by
  simp (disch := decide) only [D41_79_1, D58_80_2, D1_83_5, D28_88_10, D22_93_15, K41, kI_e, fI_e, kL_e, Option.bind_some, rI_wn, rI_cn, rI_cL, Nat.reduceAdd]
theorem k41_96_1 : D41_96_1 m = some (K41 1 96 m) := by
  simp (disch := decide) only [D41_96_1, D58_97_2, D1_100_5, D28_105_10, D22_110_15, K41, kI_e, fI_e, kL_e, Option.bind_some, rI_wn, rI_cn, rI_cL, Nat.reduceAdd]
theorem k41_113_1 : D41_113_1 m = some (K41 1 113 m) := by
  simp (disch := decide) only [D41_113_1, D58_114_2, D1_117_5, D28_122_10, D22_127_15, K41, kI_e, fI_e, kL_e, Option.bind_some, rI_wn, rI_cn, rI_cL, Nat.reduceAdd]
theorem k41_1_45 : D41_1_45 m = some (K41 45 1 m) := by
  simp (disch := decide) only [D41_1_45, D58_2_46, D1_5_49, D28_10_54, D22_15_59, K41, kI_e, fI_e, kL_e, Option.bind_some, rI_wn, rI_cn, rI_cL, Nat.reduceAdd]
theorem k41_1_62 : D41_1_62 m = some (K41 62 1 m) := by
  simp (disch := decide) only [D41_1_62, D58_2_63, D1_5_66, D28_10_71, D22_15_76, K41, kI_e, fI_e, kL_e, Option.bind_some, rI_wn, rI_cn, rI_cL, Nat.reduceAdd]
theorem k41_1_79 : D41_1_79 m = some (K41 79 1 m) := by
  simp (disch := decide) only [D41_1_79, D58_2_80, D1_5_83, D28_10_88, D22_15_93, K41, kI_e, fI_e, kL_e, Option.bind_some, rI_wn, rI_cn, rI_cL, Nat.reduceAdd]
theorem k41_1_96 : D41_1_96 m = some (K41 96 1 m) := by
  simp (disch := decide) only [D41_1_96, D58_2_97, D1_5_100, D28_10_105, D22_15_110, K41, kI_e, fI_e, kL_e, Option.bind_some, rI_wn, rI_cn, rI_cL, Nat.reduceAdd]
theorem k41_1_113 : D41_1_113 m = some (K41 113 1 m) := by
  simp (disch := decide) only [D41_1_113, D58_2_114, D1_5_117, D28_10_122, D22_15_127, K41, kI_e, fI_e, kL_e, Option.bind_some, rI_wn, rI_cn, rI_cL, Nat.reduceAdd]
theorem k41_S1 {v : Nat} (h : isS v = true) : D41_S_1 m v = some (K41 1 v m) := by
  rcases isS.or h with rfl | rfl | rfl | rfl | rfl
  · unfold D41_S_1
    rw [if_pos rfl, k41_45_1]
  · unfold D41_S_1
    rw [if_neg (by decide), if_pos rfl, k41_62_1]
  · unfold D41_S_1
    rw [if_neg (by decide), if_neg (by decide), if_pos rfl, k41_79_1]
  · unfold D41_S_1
    rw [if_neg (by decide), if_neg (by decide), if_neg (by decide), if_pos rfl, k41_96_1]
  · unfold D41_S_1
    rw [if_neg (by decide), if_neg (by decide), if_neg (by decide), if_neg (by decide), if_pos rfl, k41_113_1]
theorem k41_1S {v : Nat} (h : isS v = true) : D41_1_S m v = some (K41 v 1 m) := by
  rcases isS.or h with rfl | rfl | rfl | rfl | rfl
  · unfold D41_1_S
    rw [if_pos rfl, k41_1_45]
  · unfold D41_1_S
    rw [if_neg (by decide), if_pos rfl, k41_1_62]
  · unfold D41_1_S
    rw [if_neg (by decide), if_neg (by decide), if_pos rfl, k41_1_79]
  · unfold D41_1_S
    rw [if_neg (by decide), if_neg (by decide), if_neg (by decide), if_pos rfl, k41_1_96]
  · unfold D41_1_S
    rw [if_neg (by decide), if_neg (by decide), if_neg (by decide), if_neg (by decide), if_pos rfl, k41_1_113]
end K4
/-- the class's saved states; the reference's -/
def SC (m : dM) (n : Nat) (F : Nat → Nat → Int32) : Prop := n ≤ 5 ∧ rI m 0 6 = nI n ∧ (∀ i, i < 5 → isS (rR m i) = true) ∧ (∀ i j, i < 5 → j < 5 → rR m i = rR m j → i = j) ∧ ∀ i, i < n → RC m (rR m i) (F i) ∧ rv (F i)
def svn (n : Nat) : Nat := if n < 5 then n + 1 else 5
def svF (n : Nat) (F : Nat → Nat → Int32) (f : Nat → Int32) : Nat → Nat → Int32 := fun i => if n < 5 then (if i = n then f else F i) else (if i = 4 then f else F (i + 1))
theorem isS.far {u v : Nat} (hu : isS u = true) (hv : isS v = true) (h : u ≠ v) : u + 16 < v ∨ v + 16 < u := by
  have h1 := isS.or hu
  have h2 := isS.or hv
  omega
theorem isS.rg {u : Nat} (hu : isS u = true) : 45 ≤ u ∧ u ≤ 113 := by
  have h1 := isS.or hu
  omega
section SV
variable {m : dM} {f : Nat → Int32} {n : Nat} {F : Nat → Nat → Int32}
/-- what only a call on the state of now may change -/
theorem SC.chw {m' : dM} {S : Nat → Prop} (h : SC m n F) (c : chw S m m') (r : rR m' = rR m) (q : ∀ b, 45 ≤ b → b ≤ 129 → ¬ S b) (h0 : rI m' 0 6 = rI m 0 6) : SC m' n F := by
  obtain ⟨h1, h2, h3, h4, h5⟩ := h
  unfold SC
  rw [r, h0]
  exact ⟨h1, h2, h3, h4, fun i hi => ⟨(h5 i hi).1.chw c (fun b z1 z2 => by have := isS.rg (h3 i (by omega)); exact q b (by omega) (by omega)), (h5 i hi).2⟩⟩
theorem d131a (R : RC m 1 f) (V : rv f) (hn : n < 5) (S : SC m n F) : ∃ m', ((gR m (rI m 0 6)).bind fun (x1 : Nat) => (D41_S_1 m x1).bind fun (r2 : dM) => (fI r2 0 6 ((rI r2 0 6) + (nI 1))).bind fun (m3 : dM) => some m3) = some m' ∧ chw (fun b => b = 0 ∨ (45 ≤ b ∧ b ≤ 129)) m m' ∧ (∀ j, j ≠ 6 → rI m' 0 j = rI m 0 j) ∧ SC m' (n + 1) (fun i => if i = n then f else F i) := by
  obtain ⟨h1, h2, h3, h4, h5⟩ := S
  have hv := h3 n hn
  have hr := isS.rg hv
  have hk := K41_c (m := m) (A := 1) (B := rR m n)
  have hRK : RC (K41 1 (rR m n) m) (rR m n) f := K41_R (by omega) R V.t61
  have hS1 := k41_S1 (m := m) hv
  generalize K41 1 (rR m n) m = K at hk hRK hS1
  have h0 : rI K 0 = rI m 0 := hk.1 0 (by omega)
  have hrR : rR K = rR m := hk.2.2.1
  rw [h2, gR_n hn]
  show ∃ m', Option.bind (D41_S_1 m (rR m n)) _ = _ ∧ _
  rw [hS1]
  refine ⟨wI K 0 6 (rI K 0 6 + nI 1), rfl, (hk.w.mono (fun b q => by omega)).wI (.inl rfl), fun j hj => ?_, by omega, ?_, ?_, ?_, fun i hi => ?_⟩
  · rw [rI_ws, upd_n hj, h0]
  · rw [rI_ws, upd_s, h0, h2, nI_add]
  · rw [rR_wI, hrR]
    exact h3
  · rw [rR_wI, hrR]
    exact h4
  · have hc : chw (fun b => b = 0 ∨ (rR m n ≤ b ∧ b ≤ rR m n + 16)) m (wI K 0 6 (rI K 0 6 + nI 1)) := (hk.w.mono (fun b q => .inr q)).wI (.inl rfl)
    rw [rR_wI, hrR]
    show RC _ (rR m i) (if i = n then f else F i) ∧ rv (if i = n then f else F i)
    by_cases e : i = n
    · subst e
      rw [if_pos rfl]
      exact ⟨hRK.chw (chw.rf.wI (S := fun b => b = 0) rfl) (fun b z1 z2 => by omega), V⟩
    · rw [if_neg e]
      have hf := isS.far (h3 i (by omega)) hv (fun z => e (h4 i n (by omega) hn z))
      have hr2 := isS.rg (h3 i (by omega))
      exact ⟨(h5 i (by omega)).1.chw hc (fun b z1 z2 => by omega), (h5 i (by omega)).2⟩
theorem d131 (R : RC m 1 f) (V : rv f) (S : SC m n F) : ∃ m', D131 m = some m' ∧ chw (fun b => b = 0 ∨ (45 ≤ b ∧ b ≤ 129)) m m' ∧ (∀ j, j ≠ 6 → rI m' 0 j = rI m 0 j) ∧ SC m' (svn n) (svF n F f) := by
  unfold D131 svn svF
  by_cases hn : n < 5
  · obtain ⟨m', e, c, j0, s⟩ := d131a R V hn S
    rw [S.2.1, if_pos (nI_lt hn (by omega)), if_pos hn]
    rw [S.2.1] at e
    refine ⟨m', e, c, j0, ?_⟩
    simp only [hn, if_true]
    exact s
  · have S0 := S
    obtain ⟨h1, h2, h3, h4, h5⟩ := S0
    have e5 : n = 5 := by omega
    subst e5
    rw [h2, if_neg (by decide), if_neg hn, gR_n (by omega)]
    show ∃ m', Option.bind (lp _ _ _) _ = _ ∧ _
    simp only [hn, if_false]
    refine lpx (fun k s => s.1 = nI (k + 1) ∧ (rI s.2 = rI m ∧ rL s.2 = rL m ∧ s.2.1 = m.1) ∧ ∀ i, i < 5 → rR s.2 i = if i < k then rR m (i + 1) else rR m i) (fun v => (rI v = rI m ∧ rL v = rL m ∧ v.1 = m.1) ∧ ∀ i, i < 5 → rR v i = if i < 4 then rR m (i + 1) else rR m i) 4 (by omega) ⟨rfl, ⟨rfl, rfl, rfl⟩, fun i hi => rfl⟩ ?_ ?_ ?_
    · rintro k ⟨x, m2⟩ hk ⟨hx, ⟨a1, a2, a3⟩, r2⟩
      replace hx : x = nI (k + 1) := hx
      replace a1 : rI m2 = rI m := a1
      replace a2 : rL m2 = rL m := a2
      replace a3 : m2.1 = m.1 := a3
      replace r2 : ∀ i, i < 5 → rR m2 i = if i < k then rR m (i + 1) else rR m i := r2
      subst hx
      have e1 : rR m2 (k + 1) = rR m (k + 1) := by rw [r2 (k + 1) (by omega), if_neg (by omega)]
      refine .inl ⟨(nI (k + 1) + nI 1, wR m2 k (rR m (k + 1))), ?_, nI_add (k + 1) 1, ⟨a1, a2, a3⟩, fun i hi => ?_⟩
      · show (if nI 5 ≤ nI (k + 1) then _ else Option.bind (gR m2 (nI (k + 1))) _) = _
        rw [if_neg (nI_ge (by omega) (by omega)), gR_n (by omega), e1, nI_sub (by omega), show k + 1 - 1 = k from rfl]
        show Option.bind (sR m2 (nI k) (rR m (k + 1))) _ = _
        rw [sR_n (by omega) (h3 (k + 1) (by omega))]
        rfl
      · show rR (wR m2 k (rR m (k + 1))) i = _
        rw [rR_wR]
        show (if i = k then rR m (k + 1) else rR m2 i) = _
        by_cases e : i = k
        · subst e
          rw [if_pos rfl, if_pos (by omega)]
        · rw [if_neg e, r2 i hi]
          by_cases e2 : i < k
          · rw [if_pos e2, if_pos (by omega)]
          · rw [if_neg e2, if_neg (by omega)]
    · rintro ⟨x, m2⟩ ⟨hx, a, r2⟩
      replace hx : x = nI 5 := hx
      subst hx
      exact ⟨m2, (by show (if nI 5 ≤ nI 5 then _ else _) = _; rw [if_pos (nI_le (Nat.le_refl 5) (by omega))]), a, r2⟩
    · rintro m2 ⟨⟨a1, a2, a3⟩, r2⟩
      rw [sR_n (by omega) (h3 0 (by omega))]
      have c3 : chw (fun b => b = 0) m (wI (wR m2 4 (rR m 0)) 0 6 (nI 4)) := ⟨fun b q => by rw [rI_wn q, rI_wR, a1], fun b q => by rw [rL_wI, rL_wR, a2], a3⟩
      have r3 : ∀ i, i < 5 → rR (wI (wR m2 4 (rR m 0)) 0 6 (nI 4)) i = rR m (if i = 4 then 0 else i + 1) := by
        intro i hi
        rw [rR_wI, rR_wR]
        show (if i = 4 then rR m 0 else rR m2 i) = _
        by_cases e : i = 4
        · rw [if_pos e, if_pos e]
        · rw [if_neg e, if_neg e, r2 i hi, if_pos (by omega)]
      have R3 : RC (wI (wR m2 4 (rR m 0)) 0 6 (nI 4)) 1 f := R.chw c3 (fun b z1 z2 => by omega)
      have S3 : SC (wI (wR m2 4 (rR m 0)) 0 6 (nI 4)) 4 (fun i => F (i + 1)) := by
        refine ⟨by omega, by rw [rI_ws, upd_s], fun i hi => ?_, fun i j hi hj e => ?_, fun i hi => ?_⟩
        · rw [r3 i hi]
          exact h3 _ (by split <;> omega)
        · rw [r3 i hi, r3 j hj] at e
          have := h4 _ _ (by split <;> omega) (by split <;> omega) e
          split at this <;> split at this <;> omega
        · rw [r3 i (by omega), if_neg (by omega)]
          have := isS.rg (h3 (i + 1) (by omega))
          exact ⟨(h5 (i + 1) (by omega)).1.chw c3 (fun b z1 z2 => by omega), (h5 (i + 1) (by omega)).2⟩
      obtain ⟨m4, e4, c4, j4, S4⟩ := d131a R3 V (by omega) S3
      refine ⟨m4, ?_, (c3.mono (fun b q => .inl q)).tr c4, fun j hj => ?_, ?_⟩
      · exact e4
      · rw [j4 j hj, rI_ws, upd_n hj, rI_wR, a1]
      · exact S4
end SV
