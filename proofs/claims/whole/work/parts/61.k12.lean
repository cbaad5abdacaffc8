/-! TEXTS: where the first error is -/
section PY
variable {m m1 m2 M : dM} {s : gS} {f g : Nat → Int32} {X : Nat × (Nat → Int32)} {i L k e kd co st : Nat} {cs : Nat → Int32}
theorem fn_E (h : fn (sT cs L)) : Eix cs L L := ⟨Nat.le_refl _, by unfold fn at h; omega, fun z => by omega⟩
theorem k12 (h : INV m) : OK m (C12 X m (nI i)) := by
  unfold C12
  obtain ⟨s, hC, hM⟩ := h
  have hB := hC.2.2.2.2
  have l60 := hB.1
  obtain ⟨e, ed, he⟩ := d13 hB
  have hMB := (hM.w7 (v := nI 0)).2.2.2
  obtain ⟨n, m', e1, t1, hr⟩ := q193 hMB l60
  have c1 : chg (fun b => b = 130 ∨ b = 134) m m' := (chg.wI chg.rf (.inl rfl)).tr (t1.1.mono (fun b q => .inl q))
  have IM' : IM m' s := hM.bf c1 (fun j q1 q2 q3 q4 => (t1.2 j q3 q4).trans (by rw [rI_ws, upd_n q2])) (t1.B hMB)
  have IC' : IC m' s := hC.m (c1.mono (fun b q => by unfold cM; omega)).v c1.2.2.1
  have hend : OK m (some (.inl m')) := ⟨m', rfl, ⟨s, IC', IM'⟩, .inl c1.2.2.2⟩
  have e2 : D194 m = some (nI e, m') := by
    unfold D194
    rw [fI_e, Option.bind_some, e1, Option.bind_some]
    rcases hr with ⟨hf, e', a1, a2⟩ | ⟨e', ⟨a1, a2⟩, hE⟩
    · have z := he.u (fn_E hf)
      dsimp only
      rw [a2, if_pos rfl, Option.bind_some, (t1.B hMB).1, z]
    · dsimp only
      rw [a2, if_neg (by decide), Option.bind_some, a1, he.u hE.1]
  unfold D82
  rw [ed, e2, Option.bind_some, Option.bind_some, Option.bind_some]
  dsimp only
  rw [if_pos rfl]
  exact hend
/-! TEXTS: the class reads a part -/
def ga (cs : Nat → Int32) (k : Nat) : Nat → Int32
  | 0 => nI 0
  | i + 1 => if cs (k + 1 + i) = nI 62 then nI 0 else nI 10 * ga cs k i + cs (k + 1 + i) - nI 48
def gm (cs : Nat → Int32) (k : Nat) (m : dM) : Nat → dM
  | 0 => m
  | i + 1 => if cs (k + 1 + i) = nI 62 then wI (gm cs k m i) 42 3 (ga cs k i) else gm cs k m i
theorem gm_c : ∀ i, chg (fun b => b = 42) m (gm cs k m i) ∧ ∀ j, j ≠ 3 → rI (gm cs k m i) 42 j = rI m 42 j
  | 0 => ⟨chg.rf, fun _ _ => rfl⟩
  | i + 1 => by
    obtain ⟨h1, h2⟩ := gm_c i
    show chg (fun b => b = 42) m (if cs (k + 1 + i) = nI 62 then wI (gm cs k m i) 42 3 (ga cs k i) else gm cs k m i) ∧ ∀ j, j ≠ 3 → rI (if cs (k + 1 + i) = nI 62 then wI (gm cs k m i) 42 3 (ga cs k i) else gm cs k m i) 42 j = rI m 42 j
    by_cases q : cs (k + 1 + i) = nI 62
    · rw [if_pos q]
      exact ⟨chg.wI h1 rfl, fun j hj => by rw [rI_ws, upd_n hj]; exact h2 j hj⟩
    · rw [if_neg q]
      exact ⟨h1, h2⟩
theorem n62 {d : Nat} (hd : d < 10) : nI (48 + d) ≠ nI 62 := fun z => by
  have := (nI_eq (by omega) (by omega)).mp z
  omega
theorem ga_d {d a : Nat} (h : cs (k + 1 + i) = nI (48 + d)) (hd : d < 10) (ha : ga cs k i = nI a) : ga cs k (i + 1) = nI (10 * a + d) ∧ gm cs k m (i + 1) = gm cs k m i := by
  constructor
  · show (if cs (k + 1 + i) = nI 62 then nI 0 else nI 10 * ga cs k i + cs (k + 1 + i) - nI 48) = _
    rw [h, if_neg (n62 hd), ha, nI_mul, nI_add, nI_sub (by omega), show 10 * a + (48 + d) - 48 = 10 * a + d by omega]
  · show (if cs (k + 1 + i) = nI 62 then _ else _) = _
    rw [h, if_neg (n62 hd)]
theorem ga_num {v : Nat} (h : Num cs L (k + 1 + i) e v) (h0 : ga cs k i = nI 0) : ∃ j, e = k + 1 + (i + j) ∧ ga cs k (i + j) = nI v ∧ gm cs k m (i + j) = gm cs k m i := by
  obtain ⟨kL, d, hd, ed, h⟩ := h
  obtain ⟨a1, a2⟩ := ga_d (m := m) ed hd h0
  rw [show 10 * 0 + d = d by omega] at a1
  rcases h with ⟨he, hv, -⟩ | ⟨k1, d2, hd2, ed2, -, -, he, hv⟩
  · exact ⟨1, by omega, by rw [hv]; exact a1, a2⟩
  · obtain ⟨b1, b2⟩ := ga_d (m := m) (i := i + 1) (k := k) (cs := cs) ed2 hd2 a1
    exact ⟨2, by omega, by rw [hv]; exact b1, b2.trans a2⟩
theorem d20 (hB : BC m L cs) (kL : k < L) (hb : Bhd cs L k e) (h59 : e < L → cs e = nI 59) : D20 m (nI k) = some (nI (e + 1), wI (if cs k = nI 115 then wI (gm cs k (wI (wI m 42 2 (cs k)) 42 3 (nI 0)) (e - (k + 1))) 42 3 (ga cs k (e - (k + 1))) else gm cs k (wI (wI m 42 2 (cs k)) 42 3 (nI 0)) (e - (k + 1))) 42 4 (ga cs k (e - (k + 1)))) := by
  obtain ⟨l60, l1, l2⟩ := hB
  obtain ⟨b1, b2, b3, b4, b5⟩ := hb
  have e1 : (if nI k < nI 0 then some (nI 0) else if rI m 42 1 ≤ nI k then some (nI 0) else (gI m 43 60 (nI k)).bind fun (x2 : Int32) => some x2) = some (cs k) := by
    rw [l1, if_neg (nI_nlt (by omega) (by omega)), if_neg (nI_ge kL (by omega)), gI_n (by omega) (by omega), l2 k kL]
    rfl
  unfold D20
  rw [e1, Option.bind_some, fI_e, Option.bind_some, fI_e, Option.bind_some]
  have hM : ∀ i, rI (gm cs k (wI (wI m 42 2 (cs k)) 42 3 (nI 0)) i) 42 1 = nI L ∧ ∀ j, j < L → rI (gm cs k (wI (wI m 42 2 (cs k)) 42 3 (nI 0)) i) 43 j = cs j := fun i => by
    obtain ⟨c1, c2⟩ := gm_c (m := wI (wI m 42 2 (cs k)) 42 3 (nI 0)) (cs := cs) (k := k) i
    refine ⟨?_, fun j hj => ?_⟩
    · rw [c2 1 (by omega), rI_ws, upd_n (by decide), rI_ws, upd_n (by decide)]
      exact l1
    · rw [c1.1 43 (by omega), rI_wn (by decide), rI_wn (by decide)]
      exact l2 j hj
  have h42 : rI (gm cs k (wI (wI m 42 2 (cs k)) 42 3 (nI 0)) (e - (k + 1))) 42 2 = cs k := by
    rw [(gm_c _).2 2 (by omega), rI_ws, upd_n (by decide), rI_ws, upd_s]
  have hz : gm cs k (wI (wI m 42 2 (cs k)) 42 3 (nI 0)) 0 = wI (wI m 42 2 (cs k)) 42 3 (nI 0) := rfl
  generalize wI (wI m 42 2 (cs k)) 42 3 (nI 0) = m4 at hM h42 hz
  refine lpb (ga cs k (e - (k + 1)), nI e, gm cs k m4 (e - (k + 1))) (fun i => (ga cs k i, nI (k + 1 + i), nI (k + 1 + i), gm cs k m4 i)) (e - (k + 1)) (by omega) ?_ (fun i hi => ?_) ?_ ?_
  · rw [hz, nI_add]
    rfl
  · obtain ⟨q1, q2⟩ := hM i
    dsimp only
    rw [q1, if_neg (nI_ge (by omega) (by omega)), if_neg (nI_ge (by omega) (by omega)), gI_n (by omega) (by omega), q2 _ (by omega), Option.bind_some, if_neg (b5 _ (by omega) (by omega)), Option.bind_some]
    by_cases q : cs (k + 1 + i) = nI 62
    · have g1 : ga cs k (i + 1) = nI 0 := if_pos q
      have g2 : gm cs k m4 (i + 1) = wI (gm cs k m4 i) 42 3 (ga cs k i) := if_pos q
      rw [if_pos q, fI_e, Option.bind_some, Option.bind_some, g1, g2, nI_add]
      rfl
    · have g1 : ga cs k (i + 1) = nI 10 * ga cs k i + cs (k + 1 + i) - nI 48 := if_neg q
      have g2 : gm cs k m4 (i + 1) = gm cs k m4 i := if_neg q
      rw [if_neg q, Option.bind_some, Option.bind_some, g1, g2, nI_add]
      rfl
  · obtain ⟨q1, q2⟩ := hM (e - (k + 1))
    dsimp only
    rw [q1, show k + 1 + (e - (k + 1)) = e by omega, if_neg (nI_ge (by omega) (by omega))]
    by_cases q : e < L
    · rw [if_neg (nI_ge q (by omega)), gI_n (by omega) (by omega), q2 e q, Option.bind_some, if_pos (h59 q)]
    · rw [if_pos (nI_le (by omega) (by omega))]
  · dsimp only
    rw [h42]
    by_cases q : cs k = nI 115
    · rw [if_pos q, if_pos q, fI_e, Option.bind_some, Option.bind_some, fI_e, Option.bind_some, nI_add]
    · rw [if_neg q, if_neg q, Option.bind_some, fI_e, Option.bind_some, nI_add]
theorem d20p (hB : BC m L cs) (hp : Prt cs L k e kd co st) (h0 : sT cs k = 0) (h59 : e < L → cs e = nI 59) : ∃ m', D20 m (nI k) = some (nI (e + 1), m') ∧ chg (fun b => b = 42) m m' ∧ BC m' L cs ∧ rI m' 42 2 = nI kd ∧ (kd = 111 ∨ kd = 115 → rI m' 42 3 = nI co) ∧ (kd = 111 ∨ kd = 116 → rI m' 42 4 = nI st) := by
  have hb := prt_b hp h0
  have ek := hp.2.1
  refine ⟨_, d20 hB hp.1 hb h59, ?_⟩
  obtain ⟨c1, c2⟩ := gm_c (m := wI (wI m 42 2 (cs k)) 42 3 (nI 0)) (cs := cs) (k := k) (e - (k + 1))
  have c0 : chg (fun b => b = 42) m (wI (wI m 42 2 (cs k)) 42 3 (nI 0)) := chg.wI (chg.wI chg.rf rfl) rfl
  have z1 : rI (wI (wI m 42 2 (cs k)) 42 3 (nI 0)) 42 1 = rI m 42 1 := by rw [rI_ws, upd_n (by decide), rI_ws, upd_n (by decide)]
  have z2 : rI (wI (wI m 42 2 (cs k)) 42 3 (nI 0)) 42 2 = cs k := by rw [rI_ws, upd_n (by decide), rI_ws, upd_s]
  have hg : ∀ i, ∃ g, g = gm cs k (wI (wI m 42 2 (cs k)) 42 3 (nI 0)) i := fun i => ⟨_, rfl⟩
  have key : ∀ K : dM, (chg (fun b => b = 42) m K) → (∀ j, j ≠ 3 → rI K 42 j = rI (wI (wI m 42 2 (cs k)) 42 3 (nI 0)) 42 j) → ∀ a : Int32, chg (fun b => b = 42) m (wI K 42 4 a) ∧ BC (wI K 42 4 a) L cs ∧ rI (wI K 42 4 a) 42 2 = nI kd ∧ rI (wI K 42 4 a) 42 3 = rI K 42 3 ∧ rI (wI K 42 4 a) 42 4 = a := by
    intro K cK hK a
    refine ⟨chg.wI cK rfl, ⟨hB.1, ?_, fun j hj => ?_⟩, ?_, ?_, ?_⟩
    · rw [rI_ws, upd_n (by decide), hK 1 (by decide), z1]; exact hB.2.1
    · rw [rI_wn (by decide), cK.1 43 (by omega)]; exact hB.2.2 j hj
    · rw [rI_ws, upd_n (by decide), hK 2 (by decide), z2, ek]
    · rw [rI_ws, upd_n (by decide)]
    · rw [rI_ws, upd_s]
  have hm4 : ∃ m4, m4 = wI (wI m 42 2 (cs k)) 42 3 (nI 0) := ⟨_, rfl⟩
  by_cases q : cs k = nI 115
  · rw [if_pos q]
    obtain ⟨y1, y2, y3, y4, y5⟩ := key (wI (gm cs k (wI (wI m 42 2 (cs k)) 42 3 (nI 0)) (e - (k + 1))) 42 3 (ga cs k (e - (k + 1)))) (chg.wI (c0.tr c1) rfl) (fun j hj => by rw [rI_ws, upd_n hj]; exact c2 j hj) (ga cs k (e - (k + 1)))
    obtain ⟨-, -, h⟩ := hp
    rcases h with ⟨rfl, -⟩ | ⟨rfl, hc, k1, e1, he⟩ | ⟨rfl, -⟩ | ⟨rfl, -⟩
    · rw [ek] at q; exact absurd q (by decide)
    · refine ⟨y1, y2, y3, fun _ => ?_, fun z => by omega⟩
      rw [y4, rI_ws, upd_s, show e - (k + 1) = 0 + 1 by omega, (ga_d (m := m) (i := 0) (a := 0) e1 (by omega) rfl).1, show 10 * 0 + co = co by omega]
    · rw [ek] at q; exact absurd q (by decide)
    · rw [ek] at q; exact absurd q (by decide)
  · rw [if_neg q]
    obtain ⟨y1, y2, y3, y4, y5⟩ := key (gm cs k (wI (wI m 42 2 (cs k)) 42 3 (nI 0)) (e - (k + 1))) (c0.tr c1) c2 (ga cs k (e - (k + 1)))
    refine ⟨y1, y2, y3, ?_⟩
    rw [y4, y5]
    clear y1 y2 y3 y4 y5 key c1 c2
    generalize wI (wI m 42 2 (cs k)) 42 3 (nI 0) = m4
    obtain ⟨-, -, h⟩ := hp
    rcases h with ⟨rfl, hc, k1, e1, k2, e2, hn⟩ | ⟨rfl, hc, k1, e1, he⟩ | ⟨rfl, hn⟩ | ⟨rfl, he⟩
    · have a1 := (ga_d (m := m4) (i := 0) (a := 0) (k := k) e1 (by omega) rfl).1
      rw [show 10 * 0 + co = co by omega] at a1
      have a2 : ga cs k (1 + 1) = nI 0 := if_pos e2
      have a3 : gm cs k m4 (1 + 1) = wI (gm cs k m4 1) 42 3 (ga cs k 1) := if_pos e2
      obtain ⟨j, j1, j2, j3⟩ := ga_num (m := m4) (i := 1 + 1) hn a2
      rw [show e - (k + 1) = 1 + 1 + j by omega, j2, j3, a3]
      exact ⟨fun _ => by rw [rI_ws, upd_s]; exact a1, fun _ => rfl⟩
    · exact absurd ek q
    · obtain ⟨j, j1, j2, j3⟩ := ga_num (m := m4) (i := 0) hn rfl
      rw [show e - (k + 1) = 0 + j by omega, j2]
      exact ⟨fun z => by omega, fun _ => rfl⟩
    · exact ⟨fun z => by omega, fun z => by omega⟩
end PY
