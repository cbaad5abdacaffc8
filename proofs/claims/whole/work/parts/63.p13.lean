/-! TEXTS: all parts are played -/
def stF (f : Nat → Int32) (n : Nat) : Nat → Int32 := upd (upd f 172 (nI 1)) 173 (nI n)
/-- what is played, with so much patience, from here, as the part of that number -/
def Pl (cs : Nat → Int32) (L : Nat) : Nat → Nat → Nat → (Nat → Int32) → Nat → (Nat → Int32) → Prop
  | 0, _, _, _, _, _ => False
  | j + 1, k, n, f, N, F => ∃ e kd co st, Prt cs L k e kd co st ∧ ((¬ prE f kd co st ∧ N = n ∧ F = stF f n) ∨ (prE f kd co st ∧ e = L ∧ N = n + 1 ∧ F = prF f kd co st) ∨ (prE f kd co st ∧ e < L ∧ Pl cs L j (e + 1) (n + 1) (prF f kd co st) N F))
def rl (m m' : dM) : Prop := chg (fun b => b = 130 ∨ rowM b) m m' ∧ ∀ j, j ≠ 10 → j ≠ 11 → rI m' 130 j = rI m 130 j
theorem rl.rf {m : dM} : rl m m := ⟨chg.rf, fun _ _ _ => rfl⟩
theorem rl.tr {m m' m'' : dM} (h : rl m m') (k : rl m' m'') : rl m m'' := ⟨h.1.tr k.1, fun j q1 q2 => (k.2 j q1 q2).trans (h.2 j q1 q2)⟩
theorem tmq.rl {m m' : dM} (h : tmq m m') : rl m m' := ⟨h.1.mono (fun b q => .inl q), h.2⟩
theorem rl_row {m m' : dM} (h : chg rowM m m') : rl m m' := ⟨h.mono (fun b q => .inr q), fun j _ _ => by rw [h.1 130 (by unfold rowM; omega)]⟩
theorem rl.B {m m' : dM} {L : Nat} {cs : Nat → Int32} (h : rl m m') (b : BM m L cs) : BM m' L cs := by
  refine ⟨(h.2 6 (by omega) (by omega)).trans b.1, fun i hi => ?_⟩
  rw [h.1.1 134 (by unfold rowM; omega)]
  exact b.2 i hi
section PW
variable {m m1 m2 M : dM} {s : gS} {f g : Nat → Int32} {X : Nat × (Nat → Int32)} {i L k e kd co st : Nat} {cs : Nat → Int32}
theorem num_u {e2 v v2 : Nat} (h : Num cs L k e v) (q : Num cs L k e2 v2) : e = e2 ∧ v = v2 := by
  obtain ⟨kL, d, hd, ed, h⟩ := h
  obtain ⟨-, d', hd', ed', q⟩ := q
  have z : d = d' := by
    have := (nI_eq (by omega) (by omega)).mp (ed.symm.trans ed')
    omega
  subst z
  rcases h with ⟨h1, h2, h3⟩ | ⟨h1, a, ha, h2, h3, h4, h5, h6⟩
  · rcases q with ⟨q1, q2, q3⟩ | ⟨q1, b, hb, q2, q3, q4, q5, q6⟩
    · exact ⟨by omega, by omega⟩
    · have := h3 q1 b hb q2
      omega
  · rcases q with ⟨q1, q2, q3⟩ | ⟨q1, b, hb, q2, q3, q4, q5, q6⟩
    · have := q3 h1 a ha h2
      omega
    · have := (nI_eq (by omega) (by omega)).mp (h2.symm.trans q2)
      omega
theorem prt_u {e2 kd2 co2 st2 : Nat} (h : Prt cs L k e kd co st) (q : Prt cs L k e2 kd2 co2 st2) : e = e2 ∧ kd = kd2 ∧ (kd = 111 ∨ kd = 115 → co = co2) ∧ (kd = 111 ∨ kd = 116 → st = st2) := by
  have hk := h.K
  have qk := q.K
  obtain ⟨-, h0, h⟩ := h
  obtain ⟨-, q0, q⟩ := q
  have z : kd = kd2 := by
    refine (nI_eq ?_ ?_).mp (h0.symm.trans q0)
    · unfold prK at hk; omega
    · unfold prK at qk; omega
  subst z
  rcases h with ⟨a1, a2, a3, a4, a5, a6, a7⟩ | ⟨a1, a2, a3, a4, a5⟩ | ⟨a1, a2⟩ | ⟨a1, a2⟩
  · rcases q with ⟨b1, b2, b3, b4, b5, b6, b7⟩ | ⟨b1, -⟩ | ⟨b1, -⟩ | ⟨b1, -⟩
    · have := (nI_eq (by omega) (by omega)).mp (a4.symm.trans b4)
      obtain ⟨u1, u2⟩ := num_u a7 b7
      exact ⟨u1, rfl, fun _ => by omega, fun _ => u2⟩
    · omega
    · omega
    · omega
  · rcases q with ⟨b1, -⟩ | ⟨b1, b2, b3, b4, b5⟩ | ⟨b1, -⟩ | ⟨b1, -⟩
    · omega
    · have := (nI_eq (by omega) (by omega)).mp (a4.symm.trans b4)
      exact ⟨by omega, rfl, fun _ => by omega, fun z => by omega⟩
    · omega
    · omega
  · rcases q with ⟨b1, -⟩ | ⟨b1, -⟩ | ⟨b1, b2⟩ | ⟨b1, -⟩
    · omega
    · omega
    · obtain ⟨u1, u2⟩ := num_u a2 b2
      exact ⟨u1, rfl, fun z => by omega, fun _ => u2⟩
    · omega
  · rcases q with ⟨b1, -⟩ | ⟨b1, -⟩ | ⟨b1, -⟩ | ⟨b1, b2⟩
    · omega
    · omega
    · omega
    · exact ⟨by omega, rfl, fun z => by omega, fun z => by omega⟩
theorem num_24 {v : Nat} (h : Num cs L k e v) : v < 24 := by
  obtain ⟨kL, d, hd, ed, h⟩ := h
  rcases h with ⟨h1, h2, h3⟩ | ⟨h1, a, ha, h2, h3, h4, h5, h6⟩ <;> omega
theorem prt_24 (h : Prt cs L k e kd co st) : kd = 111 ∨ kd = 116 → st < 24 := by
  obtain ⟨-, -, h⟩ := h
  intro z
  rcases h with ⟨a1, a2, a3, a4, a5, a6, a7⟩ | ⟨a1, -⟩ | ⟨a1, a2⟩ | ⟨a1, -⟩
  · exact num_24 a7
  · omega
  · exact num_24 a2
  · omega
theorem prt_n (h : Prt cs L k e kd co st) (h0 : sT cs k = 0) (hf : fn (sT cs L)) (q : e < L) : cs e = nI 59 ∧ sT cs (e + 1) = 0 := by
  obtain ⟨b1, b2, b3, b4, b5⟩ := prt_b h h0
  have z := b4 q
  by_cases w : cs e = nI 59
  · rw [if_pos w] at z
    exact ⟨w, z⟩
  · rw [if_neg w] at z
    have := sT_8' z (show e + 1 ≤ L by omega)
    rw [this] at hf
    unfold fn at hf
    omega
theorem pl_ex (hB : BM m L cs) (l60 : L ≤ 60) (hf : fn (sT cs L)) : ∀ j k n f, k ≤ L → L < k + j → sT cs k = 0 → ∃ N F, Pl cs L j k n f N F := by
  intro j
  induction j with
  | zero => intro k n f h1 h2; omega
  | succ j ih =>
    intro k n f h1 h2 h0
    obtain ⟨zK, aK⟩ := kR_q (m := m) (k := k) (w := 0)
    rcases q192p (zK.B hB) l60 h1 aK h0 with ⟨e, kd, co, st, hp, -⟩ | ⟨e, her, -⟩
    · obtain ⟨b1, b2, b3, b4, b5⟩ := prt_b hp h0
      by_cases q : prE f kd co st
      · by_cases w : e < L
        · obtain ⟨w1, w2⟩ := prt_n hp h0 hf w
          obtain ⟨N, F, hP⟩ := ih (e + 1) (n + 1) (prF f kd co st) (by omega) (by omega) w2
          exact ⟨N, F, e, kd, co, st, hp, .inr (.inr ⟨q, w, hP⟩)⟩
        · exact ⟨_, _, e, kd, co, st, hp, .inr (.inl ⟨q, by omega, rfl, rfl⟩)⟩
      · exact ⟨_, _, e, kd, co, st, hp, .inl ⟨q, rfl, rfl⟩⟩
    · exact absurd hf her.2
theorem q193x (hB : BM m L cs) (l60 : L ≤ 60) (hf : fn (sT cs L)) (hr : rI m 131 = f) (V : rv f) {J N : Nat} {F : Nat → Int32} (hJ : J < 3000) (hP : Pl cs L J 0 0 f N F) : ∃ m', D193 m (nI 1) = some (nI N, m') ∧ rl m m' ∧ rI m' 131 = F := by
  unfold D193
  have a0 : AT (wI (wI m 130 10 (nI 0)) 130 11 (nI 0)) 0 0 := ⟨by rw [rI_ws, upd_n (by decide), rI_ws, upd_s], by rw [rI_ws, upd_s]⟩
  have t0 : tmq m (wI (wI m 130 10 (nI 0)) 130 11 (nI 0)) := ⟨chg.wI (chg.wI chg.rf rfl) rfl, fun j q1 q2 => by rw [rI_ws, upd_n q2, rI_ws, upd_n q1]⟩
  have hr0 : rI (wI (wI m 130 10 (nI 0)) 130 11 (nI 0)) 131 = f := (t0.1.1 131 (by omega)).trans hr
  rw [fI_e, Option.bind_some, fI_e, Option.bind_some]
  generalize wI (wI m 130 10 (nI 0)) 130 11 (nI 0) = M at a0 t0 hr0
  have k := lp_inv (F := 3000) (s0 := (nI 0, nI 1, M)) (f := fun (s3 : Int32 × Int32 × dM) => if s3.2.1 = (nI 0) then some (Sum.inr (α := Int32 × Int32 × dM) (s3.1, s3.2.2)) else (D192 s3.2.2 (nI 1)).bind fun (r4 : Int32 × dM) => if r4.1 = (nI 0) then (sI r4.2 131 299 (nI 172) (nI 1)).bind fun (m5 : dM) => (sI m5 131 299 (nI 173) s3.1).bind fun (m6 : dM) => some (.inr (s3.1, m6)) else Option.bind ((if (rI r4.2 130 11) = (nI 0) then if (rI r4.2 130 6) ≤ (rI r4.2 130 10) then some (nI 0) else some (nI 1) else some (nI 0)) : Option (Int32)) fun (v7 : Int32) => if v7 = (nI 0) then some (.inl (s3.1 + (nI 1), v7, r4.2)) else (D190 r4.2 (nI 59) (nI 59)).bind fun (r8 : Int32 × dM) => Option.bind ((if (rI r8.2 130 11) = (nI 0) then some (nI 1) else some (nI 0)) : Option (Int32)) fun (v9 : Int32) => some (.inl (s3.1 + (nI 1), v9, r8.2)))
    (fun i s => rl m s.2.2 ∧ ((s.2.1 = nI 1 ∧ ∃ j k n f, s.1 = nI n ∧ i + j = J ∧ k ≤ L ∧ 2 * n ≤ k ∧ sT cs k = 0 ∧ AT s.2.2 k 0 ∧ rI s.2.2 131 = f ∧ rv f ∧ Pl cs L j k n f N F) ∨ (s.2.1 = nI 0 ∧ s.1 = nI N ∧ rI s.2.2 131 = F)))
    (fun r => r.1 = nI N ∧ rl m r.2 ∧ rI r.2 131 = F) J hJ ⟨t0.rl, .inl ⟨rfl, J, 0, 0, f, rfl, Nat.zero_add _, Nat.zero_le _, Nat.le_refl _, rfl, a0, hr0, V, hP⟩⟩ ?_ ?_
  · obtain ⟨⟨n, m'⟩, e, h1, h2, h3⟩ := k
    replace h1 : n = nI N := h1
    subst h1
    exact ⟨m', e, h2, h3⟩
  · rintro i ⟨n1, y, m1⟩ hi ⟨t1, ⟨hy, j, k, n, f1, hn, hj, k1, k2, k3, k4, k5, k6, k7⟩ | ⟨hy, h1, h2⟩⟩
    · replace hy : y = nI 1 := hy
      replace hn : n1 = nI n := hn
      replace t1 : rl m m1 := t1
      replace k4 : AT m1 k 0 := k4
      replace k5 : rI m1 131 = f1 := k5
      subst hy hn
      have hB1 := t1.B hB
      dsimp only
      rw [if_neg (show ¬ nI 1 = nI 0 by decide)]
      obtain ⟨j, rfl⟩ : ∃ j', j = j' + 1 := ⟨j - 1, by omega⟩
      obtain ⟨e, kd, co, st, hp, hc⟩ := k7
      rcases q192p hB1 l60 k1 k4 k3 with ⟨e', kd', co', st', hp', u, w, m', e5, t5, a5, w1, w2, w3⟩ | ⟨e', her, -⟩
      · obtain ⟨rfl, rfl, u3, u4⟩ := prt_u hp hp'
        obtain ⟨b1, b2, b3, b4, b5⟩ := prt_b hp k3
        have hB2 := t5.B hB1
        have hrow : rI m' 131 = f1 := (t5.1.1 131 (by omega)).trans k5
        obtain ⟨x1, x2⟩ := fnx hrow k6 hp.K (prt_24 hp) (u := u) (w := w) (fun z => by
          rw [u3 z]
          rcases z with z | z
          · exact (w1 z).1
          · exact w2 z) (fun z => by
          rw [u4 z]
          rcases z with z | z
          · exact (w1 z).2
          · exact w3 z)
        have hstep : prE f1 kd co st → ∃ m3, FN (nI kd) u w m' (nI 1) = some (nI 1, m3) ∧ rl m m3 ∧ AT m3 e 0 ∧ BM m3 L cs ∧ rI m3 131 = prF f1 kd co st := fun q => by
          obtain ⟨m3, e6, c6, r6⟩ := x1 q
          refine ⟨m3, e6, (t1.tr t5.rl).tr (rl_row c6), ⟨?_, ?_⟩, (rl_row c6).B hB2, r6⟩
          · rw [c6.1 130 (by unfold rowM; omega)]; exact a5.1
          · rw [c6.1 130 (by unfold rowM; omega)]; exact a5.2
        rw [e5]
        rcases hc with ⟨q, eN, eF⟩ | ⟨q, eL, eN, eF⟩ | ⟨q, w, hc⟩
        · right
          subst eF
          rw [eN]
          rw [x2 q, Option.bind_some]
          dsimp only
          rw [if_pos rfl, sI_n (by omega) (by omega), Option.bind_some, sI_n (by omega) (by omega), Option.bind_some]
          refine ⟨_, rfl, rfl, (t1.tr t5.rl).tr (rl_row (chg.wI (chg.wI chg.rf (.inl rfl)) (.inl rfl))), ?_⟩
          show rI (wI (wI m' 131 172 (nI 1)) 131 173 _) 131 = _
          rw [rI_ws, rI_ws, hrow]
          rfl
        · left
          obtain ⟨m3, e6, t6, a6, B6, r6⟩ := hstep q
          rw [e6, Option.bind_some]
          dsimp only
          rw [if_neg (show ¬ nI 1 = nI 0 by decide), a6.2, if_pos rfl, B6.1, a6.1, if_pos (nI_le (by omega) (by omega)), Option.bind_some, if_pos rfl]
          exact ⟨_, rfl, t6, .inr ⟨rfl, by rw [eN]; exact nI_add n 1, by rw [eF]; exact r6⟩⟩
        · left
          obtain ⟨m3, e6, t6, a6, B6, r6⟩ := hstep q
          obtain ⟨v1, v2⟩ := prt_n hp k3 hf w
          rw [e6, Option.bind_some]
          dsimp only
          rw [if_neg (show ¬ nI 1 = nI 0 by decide), a6.2, if_pos rfl, B6.1, a6.1, if_neg (nI_ge w (by omega)), Option.bind_some, if_neg (by decide), q190 B6 l60 b2 a6, Option.bind_some]
          have ec : chr cs L e = nI 59 := by unfold chr; rw [if_pos w, v1]
          rw [ec]
          obtain ⟨z1, z2⟩ := kR_q (m := m3) (k := e + 1) (w := 0)
          generalize kR m3 (e + 1) 0 = K at z1 z2
          dsimp only
          rw [if_pos (show nI 59 ≤ nI 59 ∧ nI 59 ≤ nI 59 from ⟨by decide, by decide⟩), z2.2, if_pos rfl, Option.bind_some]
          refine ⟨_, rfl, t6.tr z1.rl, .inl ⟨rfl, j, e + 1, n + 1, _, nI_add n 1, by omega, by omega, by omega, v2, z2, (z1.1.1 131 (by omega)).trans r6, prF_rv k6 hp.K q, hc⟩⟩
      · exact absurd hf her.2
    · replace hy : y = nI 0 := hy
      subst hy
      exact .inr ⟨(n1, m1), rfl, h1, t1, h2⟩
  · rintro ⟨n, y, m1⟩ ⟨t1, ⟨hy, j, k, n, f1, hn, hj, k1, k2, k3, k4, k5, k6, k7⟩ | ⟨hy, h1, h2⟩⟩
    · obtain rfl : j = 0 := by omega
      exact absurd k7 id
    · replace hy : y = nI 0 := hy
      subst hy
      exact ⟨(n, m1), rfl, h1, t1, h2⟩
theorem rv_s (V : rv f) (e : ∀ y, y ≠ 172 → y ≠ 173 → g y = f y) (h : g 172 = nI 1 → ∃ p, p ≤ 60 ∧ g 173 = nI p) : rv g := by
  refine ⟨V.1.cg (fun y q => e y (by omega) (by omega)), V.2.1.cg V.s24 (fun y q => e y (by omega) (by omega)), V.2.2.1.cg (fun y _ q => e y (by omega) (by omega)), ?_⟩
  obtain ⟨q1, q2, q3, q4, q5, q6⟩ := V.2.2.2
  unfold rvN
  rw [tN.cg (e 174 (by omega) (by omega)), e 174 (by omega) (by omega), e 168 (by omega) (by omega), e 167 (by omega) (by omega), pN.cg (e 117 (by omega) (by omega))]
  refine ⟨q1, q2, q3, q4, h, fun pl hpl => ?_⟩
  rw [e (170 + pl) (by omega) (by omega), q6 pl hpl]
  exact (vd.cg V.p8 (fun y _ q => e y (by omega) (by omega))).symm
theorem RC_s (R : RC m 1 f) (V : rv f) (e : ∀ y, y ≠ 172 → y ≠ 173 → g y = f y) {v : Int32} (hv : v = if g 172 = nI 1 then g 173 else -1) : RC (wI m 1 9 v) 1 g := by
  refine R.mkm (chg.wI chg.rf (.inl rfl)) (fun x q => e x (by omega) (by omega)) ⟨fun j hj => ?_, ?_⟩ V
  · show rI (wI m 1 9 v) 17 j = _
    rw [rI_wn (by decide), R.pt hj, e (170 + j) (by omega) (by omega)]
  · show rI (wI m 1 9 v) 1 5 = _ ∧ rI (wI m 1 9 v) 1 6 = _ ∧ rI (wI m 1 9 v) 1 7 = _ ∧ rI (wI m 1 9 v) 1 8 = _ ∧ rI (wI m 1 9 v) 1 9 = _
    rw [rI_ws, e 166 (by omega) (by omega), e 167 (by omega) (by omega), e 168 (by omega) (by omega), e 169 (by omega) (by omega)]
    refine ⟨?_, ?_, ?_, ?_, ?_⟩
    · rw [upd_n (by decide)]; exact R.cp
    · rw [upd_n (by decide)]; exact R.lm
    · rw [upd_n (by decide)]; exact R.tn
    · rw [upd_n (by decide)]; exact R.fl
    · rw [upd_s]; exact hv
theorem stF_e {n y : Nat} (h1 : y ≠ 172) (h2 : y ≠ 173) : stF f n y = f y := (upd_n h2).trans (upd_n h1)
theorem stF_2 {n : Nat} : stF f n 172 = nI 1 := (upd_n (by decide)).trans upd_s
theorem stF_3 {n : Nat} : stF f n 173 = nI n := upd_s
def plC (b : Nat) : Prop := nowC b ∨ b = 42
theorem BC.ch (h : BC m L cs) (c : chg nowC m m1) : BC m1 L cs := by
  refine ⟨h.1, ?_, fun j hj => ?_⟩
  · rw [c.1 42 (by unfold nowC; omega)]; exact h.2.1
  · rw [c.1 43 (by unfold nowC; omega)]; exact h.2.2 j hj
theorem d132 (hB : BC m L cs) (hf : fn (sT cs L)) (R : RC m 1 f) (V : rv f) {J N : Nat} {F : Nat → Int32} (hJ : J < 3000) (hP : Pl cs L J 0 0 (upd f 172 (nI 0)) N F) : ∃ m', D132 m = some (nI N, m') ∧ chg plC m m' ∧ BC m' L cs ∧ RC m' 1 F ∧ rv F := by
  have l60 := hB.1
  have V0 : rv (upd f 172 (nI 0)) := rv_s V (fun y q _ => upd_n q) (fun z => by rw [upd_s] at z; exact absurd z (by decide))
  have R0 : RC (wI m 1 9 (-1)) 1 (upd f 172 (nI 0)) := RC_s R V (fun y q _ => upd_n q) (by rw [upd_s, if_neg (by decide)])
  have c0 : chg nowC m (wI m 1 9 (-1)) := chg.wI chg.rf (.inl (by omega))
  unfold D132
  rw [fI_e, Option.bind_some]
  generalize wI m 1 9 (-1) = M at R0 c0
  have k := lp_inv (F := 3000) (s0 := (nI 0, nI 0, M)) (f := fun (s2 : Int32 × Int32 × dM) => if (nI 60) ≤ s2.2.1 then some (Sum.inr (α := Int32 × Int32 × dM) (s2.2.1, s2.2.2)) else if (rI s2.2.2 42 1) ≤ s2.1 then some (.inr (s2.2.1, s2.2.2)) else (D20 s2.2.2 s2.1).bind fun (r3 : Int32 × dM) => (D133 r3.2).bind fun (r4 : Int32 × dM) => if r4.1 = (nI 0) then (fI r4.2 1 9 s2.2.1).bind fun (m5 : dM) => some (.inr (s2.2.1, m5)) else some (.inl (r3.1, s2.2.1 + (nI 1), r4.2)))
    (fun i s => chg plC m s.2.2 ∧ BC s.2.2 L cs ∧ ((∃ j k n f, s.1 = nI k ∧ s.2.1 = nI n ∧ i + j = J ∧ k ≤ L ∧ 2 * n ≤ k ∧ sT cs k = 0 ∧ RC s.2.2 1 f ∧ rv f ∧ Pl cs L j k n f N F) ∨ (∃ p, s.1 = nI p ∧ L ≤ p ∧ p ≤ 61 ∧ s.2.1 = nI N ∧ RC s.2.2 1 F ∧ rv F)))
    (fun r => r.1 = nI N ∧ chg plC m r.2 ∧ BC r.2 L cs ∧ RC r.2 1 F ∧ rv F) J hJ ⟨c0.mono (fun b q => .inl q), hB.ch c0, .inl ⟨J, 0, 0, _, rfl, rfl, Nat.zero_add _, Nat.zero_le _, Nat.le_refl _, rfl, R0, V0, hP⟩⟩ ?_ ?_
  · obtain ⟨⟨n, m'⟩, e, h1, h2⟩ := k
    replace h1 : n = nI N := h1
    subst h1
    exact ⟨m', e, h2⟩
  · rintro i ⟨x, y, m1⟩ hi ⟨c1, B1, ⟨j, k, n, f1, hx, hy, hj, k1, k2, k3, k4, k5, k6⟩ | ⟨p, hx, h1, h2, hy, h3⟩⟩
    · replace hx : x = nI k := hx
      replace hy : y = nI n := hy
      replace c1 : chg plC m m1 := c1
      replace B1 : BC m1 L cs := B1
      replace k4 : RC m1 1 f1 := k4
      subst hx hy
      obtain ⟨j, rfl⟩ : ∃ j', j = j' + 1 := ⟨j - 1, by omega⟩
      obtain ⟨e, kd, co, st, hp, hc⟩ := k6
      obtain ⟨b1, b2, b3, b4, b5⟩ := prt_b hp k3
      obtain ⟨m2, e2, c2, B2, z2, z3, z4⟩ := d20p B1 hp k3 (fun q => (prt_n hp k3 hf q).1)
      have R2 : RC m2 1 f1 := k4.ch c2 (fun b q1 q2 => by omega)
      obtain ⟨x1, x2⟩ := d133 R2 k5 hp.K (prt_24 hp) z2 z3 z4
      dsimp only
      rw [if_neg (nI_ge (show n < 60 by omega) (by omega)), B1.2.1, if_neg (nI_ge hp.1 (by omega)), e2, Option.bind_some]
      have c3 : chg plC m m2 := c1.tr (c2.mono (fun b q => .inr q))
      dsimp only
      rcases hc with ⟨q, eN, eF⟩ | ⟨q, eL, eN, eF⟩ | ⟨q, w, hc⟩
      · right
        subst eF
        rw [eN]
        rw [x2 q, Option.bind_some]
        dsimp only
        rw [if_pos rfl, fI_e, Option.bind_some]
        have c4 : chg nowC m2 (wI m2 1 9 (nI n)) := chg.wI chg.rf (.inl (by omega))
        refine ⟨_, rfl, rfl, c3.tr (c4.mono (fun b q => .inl q)), B2.ch c4, RC_s R2 k5 (fun y q1 q2 => stF_e q1 q2) (by rw [stF_2, stF_3, if_pos rfl]), rv_s k5 (fun y q1 q2 => stF_e q1 q2) (fun _ => ⟨n, by omega, stF_3⟩)⟩
      · left
        obtain ⟨m3, e6, c6, R6⟩ := x1 q
        rw [e6, Option.bind_some]
        dsimp only
        rw [if_neg (show ¬ nI 1 = nI 0 by decide)]
        exact ⟨_, rfl, c3.tr (c6.mono (fun b q => .inl q)), B2.ch c6, .inr ⟨e + 1, rfl, by omega, by omega, by rw [eN]; exact nI_add n 1, by rw [eF]; exact R6, by rw [eF]; exact prF_rv k5 hp.K q⟩⟩
      · left
        obtain ⟨m3, e6, c6, R6⟩ := x1 q
        obtain ⟨v1, v2⟩ := prt_n hp k3 hf w
        rw [e6, Option.bind_some]
        dsimp only
        rw [if_neg (show ¬ nI 1 = nI 0 by decide)]
        exact ⟨_, rfl, c3.tr (c6.mono (fun b q => .inl q)), B2.ch c6, .inl ⟨j, e + 1, n + 1, _, rfl, nI_add n 1, by omega, by omega, by omega, v2, R6, prF_rv k5 hp.K q, hc⟩⟩
    · right
      replace hx : x = nI p := hx
      replace hy : y = nI N := hy
      replace B1 : BC m1 L cs := B1
      subst hx hy
      dsimp only
      rw [B1.2.1, if_pos (nI_le h1 (by omega))]
      refine ⟨(nI N, m1), ?_, rfl, c1, B1, h3⟩
      split <;> rfl
  · rintro ⟨x, y, m1⟩ ⟨c1, B1, ⟨j, k, n, f1, hx, hy, hj, k1, k2, k3, k4, k5, k6⟩ | ⟨p, hx, h1, h2, hy, h3⟩⟩
    · obtain rfl : j = 0 := by omega
      exact absurd k6 id
    · replace hx : x = nI p := hx
      replace hy : y = nI N := hy
      replace B1 : BC m1 L cs := B1
      subst hx hy
      dsimp only
      rw [B1.2.1, if_pos (nI_le h1 (by omega))]
      refine ⟨(nI N, m1), ?_, rfl, c1, B1, h3⟩
      split <;> rfl
theorem IC.nwb (h : IC m s) (c : chg (fun b => nowC b ∨ b = 42) m m1) (R : RC m1 1 f) (V : rv f) (hb : BC m1 L cs) : IC m1 (bfS (nwS s f) L cs) := by
  obtain ⟨h1, h2, h3, ⟨b1, b2, b3⟩, -⟩ := h
  refine ⟨R, V, h3.chw c.w c.2.2.1 (fun b z1 z2 => by unfold nowC; omega) (by rw [c.1 0 (by unfold nowC; omega)]), ⟨b1, ?_, fun e => ⟨(b3 e).1.ch c (fun b z1 z2 => by unfold nowC; omega), (b3 e).2⟩⟩, hb⟩
  rw [c.1 0 (by unfold nowC; omega)]
  exact b2
theorem IM.nwb (h : IM m s) (c : chg (fun b => b = 130 ∨ rowM b) m m1) (c0 : ∀ j, j ≠ 6 → j ≠ 7 → j ≠ 10 → j ≠ 11 → rI m1 130 j = rI m 130 j) (r : rI m1 131 = f) (hb : BM m1 L cs) : IM m1 (bfS (nwS s f) L cs) := by
  obtain ⟨h1, ⟨a1, a2⟩, ⟨b1, b2⟩, -⟩ := h
  refine ⟨r, ⟨(c0 2 (by omega) (by omega) (by omega) (by omega)).trans a1, fun i hi j hj => ?_⟩, ⟨(c0 4 (by omega) (by omega) (by omega) (by omega)).trans b1, fun e j hj => ?_⟩, hb⟩
  · rw [c.1 132 (by unfold rowM; omega)]
    exact a2 i hi j hj
  · rw [c.1 133 (by unfold rowM; omega)]
    exact b2 e j hj
theorem k13 (h : INV m) : OK m (C13 X m (nI i)) := by
  unfold C13
  refine lkI (A := D256 m) (B := fun m1 => D195 m1) h (fun s hC hM => ?_)
  have hB := hC.2.2.2.2
  have l60 := hB.1
  obtain ⟨v, ev, hv⟩ := d14 hB
  rcases hv with ⟨rfl, hf⟩ | ⟨rfl, hf⟩
  · obtain ⟨m1, e1, I1, c1⟩ := hC.sv
    obtain ⟨N, F, hP⟩ := pl_ex hM.2.2.2 l60 hf 61 0 0 (upd s.1 172 (nI 0)) (Nat.zero_le _) (by omega) rfl
    obtain ⟨m2, e2, c2, B2, R2, V2⟩ := d132 I1.2.2.2.2 hf I1.R I1.V (by omega) hP
    have c3 : chg (fun b => nowC b ∨ b = 42) m1 (wI m2 42 1 (nI 0)) := chg.wI c2 (.inr rfl)
    have R3 : RC (wI m2 42 1 (nI 0)) 1 F := R2.ch (chg.wI (S := fun b => b = 42) chg.rf rfl) (fun b q1 q2 => by omega)
    have B3 : BC (wI m2 42 1 (nI 0)) 0 s.2.2.2.2.2.2 := ⟨by omega, by rw [rI_ws, upd_s], fun j hj => by omega⟩
    have I3 := I1.nwb c3 R3 V2 B3
    refine ⟨_, 0, _, _, g_I (x := nI N) (m1 := wI m2 42 1 (nI 0)) ?_, co_v I3 ((c1.v.mono (fun b q => .inl q)).tr (c3.v.mono (fun b q => by unfold nowC at q; unfold cC; omega))) (c3.2.2.2.trans c1.2.2), fun m3 hM3 => ?_⟩
    · unfold D83
      rw [ev, Option.bind_some, if_neg (by decide), e1, Option.bind_some, e2, Option.bind_some]
      rfl
    · have hMB := (hM3.w7 (v := nI 0)).2.2.2
      obtain ⟨n, m4, e4, t4, hr⟩ := q193 hMB l60
      have c4 : chg (fun b => b = 130 ∨ b = 134) m3 m4 := (chg.wI chg.rf (.inl rfl)).tr (t4.1.mono (fun b q => .inl q))
      have IM4 : IM m4 s := hM3.bf c4 (fun j q1 q2 q3 q4 => (t4.2 j q3 q4).trans (by rw [rI_ws, upd_n q2])) (t4.B hMB)
      obtain ⟨m5, e5, IM5, c5, t5⟩ := IM4.sv hC.n5
      have r6 : rI (wI m5 131 172 (nI 0)) 131 = upd s.1 172 (nI 0) := by rw [rI_ws, IM5.e1]; rfl
      have t6 : rl m5 (wI m5 131 172 (nI 0)) := rl_row (chg.wI chg.rf (.inl rfl))
      have V0 : rv (upd s.1 172 (nI 0)) := rv_s hC.V (fun y q _ => upd_n q) (fun z => by rw [upd_s] at z; exact absurd z (by decide))
      obtain ⟨m7, e7, t7, r7'⟩ := q193x (t6.B IM5.2.2.2) l60 hf r6 V0 (by omega) hP
      have t8 := t6.tr t7
      have c8 : chg (fun b => b = 130 ∨ rowM b) m5 (wI m7 130 6 (nI 0)) := chg.wI t8.1 (.inl rfl)
      have IM8 : IM (wI m7 130 6 (nI 0)) (bfS (nwS (svS s) F) 0 s.2.2.2.2.2.2) := IM5.nwb c8 (fun j q1 q2 q3 q4 => by rw [rI_ws, upd_n q1]; exact t8.2 j q3 q4) (by rw [rI_wn (by decide)]; exact r7') ⟨by rw [rI_ws, upd_s], fun j hj => by omega⟩
      refine ⟨(nI N, wI m7 130 6 (nI 0)), ?_, IM8, ?_, ?_, fun _ => rfl⟩
      · show D195 m3 = _
        unfold D195
        rw [fI_e, Option.bind_some, e4, Option.bind_some]
        rcases hr with ⟨-, e', a1, a2⟩ | ⟨e', a, hE⟩
        · dsimp only
          rw [a2, if_pos rfl, e5, Option.bind_some, sI_n (by omega) (by omega), Option.bind_some, e7, Option.bind_some]
          rfl
        · exact absurd hf hE.2
      · show rI (wI m7 130 6 (nI 0)) 130 7 = _
        rw [rI_ws, upd_n (by decide), t8.2 7 (by omega) (by omega), t5, t4.2 7 (by omega) (by omega), r7]
      · exact ((c4.mono (fun b q => by unfold cM; omega)).tr c5).tr (c8.mono (fun b q => by unfold rowM at q; unfold cM; omega))
  · refine ⟨s, 1, 0, (nI 1, bump m), ?_, co_x hC chv.rf rfl (by omega) (by omega), fun m3 hM3 => ?_⟩
    · refine g_X (j := 1) (m1 := bump m) ?_
      unfold D83
      rw [ev, Option.bind_some, if_pos rfl]
    · have hMB := (hM3.w7 (v := nI 0)).2.2.2
      obtain ⟨n, m4, e4, t4, hr⟩ := q193 hMB l60
      have c4 : chg (fun b => b = 130 ∨ b = 134) m3 m4 := (chg.wI chg.rf (.inl rfl)).tr (t4.1.mono (fun b q => .inl q))
      have IM4 : IM m4 s := hM3.bf c4 (fun j q1 q2 q3 q4 => (t4.2 j q3 q4).trans (by rw [rI_ws, upd_n q2])) (t4.B hMB)
      refine ⟨(nI 0, wI m4 130 7 (nI 1)), ?_, IM4.w7, r7, ?_, fun z => by omega⟩
      · show D195 m3 = _
        unfold D195
        rw [fI_e, Option.bind_some, e4, Option.bind_some]
        rcases hr with ⟨h, -⟩ | ⟨e', ⟨a1, a2⟩, hE⟩
        · exact absurd h hf
        · dsimp only
          rw [a2, if_neg (by decide), d143, Option.bind_some]
      · exact chg.wI (c4.mono (fun b q => by unfold cM; omega)) (by unfold cM; omega)
end PW
