/-! THE LAW'S METHODS: numbers, what is free, which streets there are -/
theorem cTe {α β : Type} {v : α} {m : dM} {k : α → Option β} {x : Nat → dM → Option β} : cT (some (.inl v)) m k x = k v := rfl
theorem cGe {α β : Type} {v : α} {m : dM} {k : α → dM → Option β} {x : Nat → dM → Option β} : cG (some (.inl v, m)) k x = k v m := rfl
theorem rem_n {k n : Nat} (hk : k < 2 ^ 31) (h0 : 0 < n) (hn : n < 2 ^ 31) : nI k - nI k / nI n * nI n = nI (k % n) := by
  have e := Nat.div_add_mod k n
  rw [Nat.mul_comm] at e
  rw [pk_div hk h0 hn, nI_mul, nI_sub (by omega)]
  congr 1
  omega
theorem gM_n {k n : Nat} (hk : k < 2 ^ 31) (h0 : 0 < n) (hn : n < 2 ^ 31) : gM (nI k) (nI n) = some (nI (k % n)) := by
  unfold gM
  have e : nI n = 0 ↔ False := ⟨fun z => absurd z (nI_ne0 h0 hn), False.elim⟩
  rw [decide_eq_false (fun z => e.mp z)]
  show some (nI k - nI k / nI n * nI n) = _
  rw [rem_n hk h0 hn]
theorem and31 (x : Int32) : ∃ k, k < 2 ^ 31 ∧ x &&& nI 2147483647 = nI k := by
  refine ⟨(x &&& nI 2147483647).toBitVec.toNat, ?_, ?_⟩
  · have : (x &&& nI 2147483647).toBitVec.toNat ≤ 2147483647 := by
      rw [Int32.toBitVec_and, BitVec.toNat_and]
      exact Nat.and_le_right
    omega
  · refine Int32.toBitVec_inj.mp ?_
    show _ = BitVec.ofNat 32 _
    rw [BitVec.ofNat_toNat]
    simp
theorem l301 (v : Int32) {n : Nat} (h0 : 0 < n) (hn : n < 2 ^ 31) : ∃ j, j < n ∧ D301 v (nI n) = some (nI j) := by
  obtain ⟨k, hk, e⟩ := and31 v
  refine ⟨k % n, Nat.mod_lt _ h0, ?_⟩
  unfold D301
  rw [e, gM_n hk h0 hn]
  rfl
theorem l300 {X : Nat × (Nat → Int32)} {m : dM} (hX : X.1 ≤ 2560) {e : Nat} (he : e < 56) : ∃ v, D300 X m (nI e) = some v := by
  unfold D300
  show ∃ v, Option.bind (if nI X.1 ≤ nI e then some _ else Option.bind (gX X (nI e)) _) _ = _
  by_cases q : nI X.1 ≤ nI e
  · rw [if_pos q]
    exact ⟨_, rfl⟩
  · rw [if_neg q]
    rw [nI_leI (by omega) (by omega)] at q
    unfold gX
    rw [nI_inb (show e < X.1 by omega) (by omega)]
    exact ⟨_, rfl⟩
section L5
variable {m : dM} {f : Nat → Int32}
/-- another courier is at a junction -/
def ocP (f : Nat → Int32) (c : Nat) (p : Int32) (b : Nat) : Bool := decide (b ≠ c ∧ f (97 + 5 * b + 0) = p)
theorem l305 (R : RC m 1 f) {c : Nat} (hc : c < 4) (p : Int32) : D305 m (nI c) p = some (bI (!anyN (ocP f c p) 4)) := by
  unfold D305
  refine lpb (bI (!anyN (ocP f c p) 4)) (fun k => (bI (!anyN (ocP f c p) k), nI k)) 4 (by omega) rfl (fun i hi => ?_) ?_ ?_
  · show (if nI 4 ≤ nI i then _ else Option.bind (if bI (!anyN (ocP f c p) i) = nI 0 then some (nI 0) else if nI i = nI c then some (nI 1) else cT (D94 m (nI i)) m _ _) _) = _
    rw [if_neg (nI_ge hi (by omega)), a94 R hi, an4, ← nI_add]
    cases w : anyN (ocP f c p) i with
    | true => rfl
    | false =>
      rw [if_neg (show ¬ bI (!false) = nI 0 by decide)]
      by_cases q : i = c
      · rw [if_pos (show nI i = nI c by rw [q])]
        have : ocP f c p i = false := decide_eq_false (fun z => z.1 q)
        rw [this]
        rfl
      · rw [if_neg (fun z => q ((nI_eq (by omega) (by omega)).mp z))]
        show Option.bind (if f (97 + 5 * i + 0) = p then some (nI 0) else some (nI 1)) _ = _
        by_cases r : f (97 + 5 * i + 0) = p
        · have : ocP f c p i = true := decide_eq_true ⟨q, r⟩
          rw [if_pos r, this]
          rfl
        · have : ocP f c p i = false := decide_eq_false (fun z => r z.2)
          rw [if_neg r, this]
          rfl
  · show (if nI 4 ≤ nI 4 then _ else _) = _
    rw [if_pos (nI_le (Nat.le_refl 4) (by omega))]
  · show Option.bind (gB (bI (!anyN (ocP f c p) 4))) _ = _
    unfold bI
    rw [gB_i]
    rfl
theorem l304 (R : RC m 1 f) (V : rv f) {p q : Int32} : D304 m p q = some (bI (anyN (mtB f p q) (sN f))) := by
  have h24 := V.s24
  unfold D304
  refine lpb (bI (anyN (mtB f p q) (sN f))) (fun k => (bI (anyN (mtB f p q) k), nI k)) (sN f) (by omega) rfl (fun i hi => ?_) ?_ ?_
  · show Option.bind (D90 m) _ = _
    rw [a90 R, V.s0]
    show (if nI (sN f) ≤ nI i then _ else Option.bind (if bI (anyN (mtB f p q) i) = nI 0 then cT (D91 m (nI i)) m _ _ else some (nI 1)) _) = _
    rw [if_neg (nI_ge hi (by omega)), a91 R V hi, an4, ← nI_add]
    cases w : anyN (mtB f p q) i with
    | true => rfl
    | false =>
      rw [if_pos (show bI false = nI 0 from rfl)]
      show Option.bind (if f (1 + 4 * i) = p then cT (D92 m (nI i)) m _ _ else some (nI 0)) _ = _
      rw [a92 R V hi]
      by_cases r : f (1 + 4 * i) = p
      · rw [if_pos r]
        show Option.bind (if f (1 + 4 * i + 1) = q then some (nI 1) else some (nI 0)) _ = _
        by_cases t : f (1 + 4 * i + 1) = q
        · have : mtB f p q i = true := decide_eq_true ⟨r, t⟩
          rw [if_pos t, this]
          rfl
        · have : mtB f p q i = false := decide_eq_false (fun z => t z.2)
          rw [if_neg t, this]
          rfl
      · have : mtB f p q i = false := decide_eq_false (fun z => r z.1)
        rw [if_neg r, this]
        rfl
  · show Option.bind (D90 m) _ = _
    rw [a90 R, V.s0]
    show (if nI (sN f) ≤ nI (sN f) then _ else _) = _
    rw [if_pos (nI_le (Nat.le_refl _) (by omega))]
  · show Option.bind (gB (bI (anyN (mtB f p q) (sN f)))) _ = _
    unfold bI
    rw [gB_i]
    rfl
end L5
/-- what an event gives: an answer that is none below 0, a state -/
def DO (m : dM) (z : Option (Int32 × dM)) : Prop := ∃ (r : Int32 × dM) (s' : gS), z = some r ∧ IC r.2 s' ∧ EE s'.1 ∧ r.2.1 = m.1 ∧ ¬ r.1 < nI 0
section L3
variable {m : dM} {s : gS}
theorem DO.eta {z : Option (Int32 × dM)} (h : DO m z) : DO m (Option.bind z fun (v : Int32 × dM) => some (v.1, v.2)) := by
  obtain ⟨r, s', e, q⟩ := h
  rw [e]
  exact ⟨r, s', rfl, q⟩
theorem DO.mk {m' : dM} {s' : gS} {k : Nat} (I : IC m' s') (E : EE s'.1) (h : m'.1 = m.1) (hk : k < 2 ^ 31) : DO m (some (nI k, m')) := ⟨(nI k, m'), s', rfl, I, E, h, nI_nlt (Nat.zero_le _) hk⟩
theorem lpy {σ β γ δ : Type} {F : Nat} {f : σ → Option (σ ⊕ β)} {s0 : σ} {K : β → Option (γ ⊕ δ)} {Q : γ → Prop} (P : Nat → σ → Prop) (Q1 : β → Prop) (N : Nat) (hF : N < F) (h0 : P 0 s0) (step : ∀ i s, i < N → P i s → (∃ s', f s = some (.inl s') ∧ P (i + 1) s') ∨ (∃ b, f s = some (.inr b) ∧ Q1 b)) (fin : ∀ s, P N s → ∃ b, f s = some (.inr b) ∧ Q1 b) (k : ∀ b, Q1 b → ∃ r, K b = some (Sum.inl r) ∧ Q r) : ∃ r, (lp F f s0).bind K = some (Sum.inl r) ∧ Q r := by
  obtain ⟨b, e, q⟩ := lp_inv P Q1 N hF h0 step fin
  obtain ⟨r, e2, q2⟩ := k b q
  exact ⟨r, by rw [e]; exact e2, q2⟩
/-- couriers' orders, where there is a street for them -/
theorem l303 (hC : IC m s) (hE : EE s.1) (hn : 0 < sN s.1) (p : Int32) : DO m (D303 m p) := by
  suffices h : ∃ r, D303 m p = some r ∧ ∃ s', IC r.2 s' ∧ EE s'.1 ∧ r.2.1 = m.1 ∧ ¬ r.1 < nI 0 by
    obtain ⟨r, e, s', q⟩ := h
    exact ⟨r, s', e, q⟩
  unfold D303
  refine lpx (fun i t => ∃ s' k, t.1 = nI k ∧ t.2.1 = nI i ∧ IC t.2.2 s' ∧ EE s'.1 ∧ t.2.2.1 = m.1 ∧ k ≤ i ∧ sN s'.1 = sN s.1) (fun r => ∃ s' k, IC r.2 s' ∧ EE s'.1 ∧ r.2.1 = m.1 ∧ k ≤ 4 ∧ r.1 = nI k) 4 (by omega) ⟨s, 0, rfl, rfl, hC, hE, rfl, Nat.le_refl _, rfl⟩ ?_ ?_ ?_
  · rintro i ⟨t1, t2, m1⟩ hi ⟨s', k, h1, h2, I, E, hm, hk, hs⟩
    replace h1 : t1 = nI k := h1
    replace h2 : t2 = nI i := h2
    subst h1 h2
    replace I : IC m1 s' := I
    replace hm : m1.1 = m.1 := hm
    have R := I.R
    have V := I.V
    have h24 := V.s24
    have hn' : 0 < sN s'.1 := by rw [hs]; exact hn
    left
    try simp only
    rw [if_neg (nI_ge hi (by omega)), a90 R, V.s0, Option.bind_some]
    obtain ⟨j, hj, ej⟩ := l301 (p >>> ((nI 2 + nI i) &&& nI 31)) hn' (by omega)
    rw [ej, Option.bind_some]
    refine lpy (fun i2 t => ∃ u, u < sN s'.1 ∧ t = (nI u, nI i2)) (fun b => ∃ t, t < sN s'.1 ∧ b = nI t) (sN s'.1) (by omega) ⟨j, hj, rfl⟩ ?_ ?_ ?_
    · rintro i2 t hi2 ⟨u, hu, rfl⟩
      simp only [Option.bind_some]
      rw [if_neg (nI_ge hi2 (by omega)), a118 R V hi hu, cTe]
      by_cases q : nI (why s'.1 i u) = nI 0
      · rw [if_pos q]
        exact .inr ⟨nI u, rfl, u, hu, rfl⟩
      · rw [if_neg q, nI_add u 1, gM_n (by omega) hn' (by omega)]
        exact .inl ⟨_, rfl, (u + 1) % sN s'.1, Nat.mod_lt _ hn', by rw [nI_add]⟩
    · rintro t ⟨u, hu, rfl⟩
      simp only [Option.bind_some]
      rw [if_pos (nI_le (Nat.le_refl _) (by omega))]
      exact ⟨nI u, rfl, u, hu, rfl⟩
    · rintro b ⟨t, ht, rfl⟩
      have hwl := why_le (f := s'.1) (c := i) (s := t)
      try simp only
      rw [a118 R V hi ht, cTe]
      by_cases q : why s'.1 i t = 0
      · rw [q, if_pos rfl]
        obtain ⟨m2, e2, I2, hm2⟩ := c77 I hi ht q
        have hN : ∀ x, x < 97 → upd s'.1 (97 + 5 * i + 2) (nI t) x = s'.1 x := fun x hx => upd_n (by omega)
        have hs2 : sN (upd s'.1 (97 + 5 * i + 2) (nI t)) = sN s'.1 := sN.cg (hN 0 (by omega))
        have e3 : D92 m2 (nI t) = some (.inl (s'.1 (1 + 4 * t + 1))) := by
          have := a92 I2.R I2.V (t := t) (by show t < sN (upd s'.1 (97 + 5 * i + 2) (nI t)); rw [hs2]; exact ht)
          rw [this]
          show some (Sum.inl (upd s'.1 (97 + 5 * i + 2) (nI t) (1 + 4 * t + 1))) = _
          rw [hN _ (by omega)]
        rw [e2, cGe, e3, cTe, if_pos rfl, Option.bind_some]
        refine ⟨_, rfl, nwS (svS s') (upd s'.1 (97 + 5 * i + 2) (nI t)), k + 1, nI_add k 1, nI_add i 1, I2, EE_or E V hi, hm2.trans hm, by omega, ?_⟩
        show sN (upd s'.1 (97 + 5 * i + 2) (nI t)) = _
        rw [hs2, hs]
      · rw [if_neg (fun z => q ((nI_eq (by omega) (by omega)).mp z)), Option.bind_some]
        exact ⟨_, rfl, s', k + 0, nI_add k 0, nI_add i 1, I, E, hm, by omega, hs⟩
  · rintro ⟨t1, t2, m1⟩ ⟨s', k, h1, h2, I, E, hm, hk, hs⟩
    replace h2 : t2 = nI 4 := h2
    subst h2
    try simp only
    rw [if_pos (nI_le (Nat.le_refl 4) (by omega))]
    exact ⟨_, rfl, s', k, I, E, hm, hk, h1⟩
  · rintro ⟨x, m'⟩ ⟨s', k, I, E, hm, hk, hx⟩
    replace hx : x = nI k := hx
    subst hx
    exact ⟨_, rfl, s', I, E, hm, nI_nlt (Nat.zero_le _) (by omega)⟩
end L3
