/-! THE LAW'S LOOK AT COURIERS -/
section CHAIN
variable {α β : Type}
theorem bnx {e : Option α} {k : α → Option β} {x : α} {r : β} (h : e = some x) (h2 : k x = some r) : e.bind k = some r := by rw [h]; exact h2
theorem cTx {e : Option (α ⊕ Nat)} {m : dM} {k : α → Option β} {x : Nat → dM → Option β} {v : α} {r : β} (h : e = some (.inl v)) (h2 : k v = some r) : cT e m k x = some r := by rw [h]; exact h2
theorem cGx {e : Option ((α ⊕ Nat) × dM)} {k : α → dM → Option β} {x : Nat → dM → Option β} {v : α} {m : dM} {r : β} (h : e = some (.inl v, m)) (h2 : k v m = some r) : cG e k x = some r := by rw [h]; exact h2
theorem ifx {c : Prop} {dc : Decidable c} {a b : Option α} {r : α} (h : c) (h2 : a = some r) : @ite _ c dc a b = some r := by rw [if_pos h]; exact h2
theorem ifn {c : Prop} {dc : Decidable c} {a b : Option α} {r : α} (h : ¬ c) (h2 : b = some r) : @ite _ c dc a b = some r := by rw [if_neg h]; exact h2
end CHAIN
theorem and1 (x : Int32) : x &&& nI 1 = nI 0 ∨ x &&& nI 1 = nI 1 := by
  have h : (x &&& nI 1).toBitVec.toNat ≤ 1 := by
    rw [Int32.toBitVec_and, BitVec.toNat_and]
    exact Nat.and_le_right
  have e : x &&& nI 1 = nI (x &&& nI 1).toBitVec.toNat := by
    refine Int32.toBitVec_inj.mp ?_
    show _ = BitVec.ofNat 32 _
    rw [BitVec.ofNat_toNat]
    simp
  rcases (show (x &&& nI 1).toBitVec.toNat = 0 ∨ (x &&& nI 1).toBitVec.toNat = 1 by omega) with z | z
  · rw [z] at e
    exact .inl e
  · rw [z] at e
    exact .inr e
theorem bit0 {x : Int32} {s : Nat} (hs : s < 32) : ((x >>> (nI s &&& nI 31)) &&& nI 1 = nI 0) ↔ ¬ bt x s = true := by
  rw [← bit1 hs]
  rcases and1 (x >>> (nI s &&& nI 31)) with e | e
  · rw [e]
    exact ⟨fun _ => n01n, fun _ => rfl⟩
  · rw [e]
    exact ⟨fun z => absurd z n10n, fun z => absurd rfl z⟩
section FIN
variable {f : Nat → Int32} {c : Nat}
theorem it_1 (h : g0 f c = nI 1) : ∀ n, it f n c = nI 1
  | 0 => h
  | n + 1 => by
    show (if c < 4 ∧ it f n c = nI 0 then nI (fl f (it f n) c) else it f n c) = nI 1
    rw [it_1 h n, if_neg (fun z => n10n z.2)]
theorem fl_n1 (f g : Nat → Int32) (c : Nat) : ¬ nI (fl f g c) = nI 1 := by
  unfold fl
  split
  · decide
  · split
    · decide
    · split
      · decide
      · split
        · decide
        · decide
theorem it_n1 (h : g0 f c = nI 0) : ∀ n, ¬ it f n c = nI 1
  | 0 => by
    show ¬ g0 f c = nI 1
    rw [h]
    exact n01n
  | n + 1 => by
    show ¬ (if c < 4 ∧ it f n c = nI 0 then nI (fl f (it f n) c) else it f n c) = nI 1
    split
    · exact fl_n1 _ _ _
    · exact it_n1 h n
theorem fin_no (h : f (97 + 5 * c + 2) = -1) : fin f c = nI 1 := it_1 (if_pos h) 4
theorem fin_or (h : ¬ f (97 + 5 * c + 2) = -1) : ¬ fin f c = nI 1 := it_n1 (if_neg h) 4
end FIN
section WAY
variable {f : Nat → Int32} {v : Int32}
theorem rc_hd {a : Nat} : ∀ n j, rc f v a (n + 1) j → j = a ∨ ∃ s i, s < sN f ∧ eg f v s a i ∧ rc f v i n j
  | 0, j, h => by
    rcases h with h | ⟨s, i, hs, hi, he⟩
    · exact .inl h
    · have hi' : i = a := hi
      subst hi'
      exact .inr ⟨s, j, hs, he, rfl⟩
  | n + 1, j, h => by
    rcases h with h | ⟨s, i, hs, hi, he⟩
    · rcases rc_hd n j h with e | ⟨s', i', hs', he', hr'⟩
      · exact .inl e
      · exact .inr ⟨s', i', hs', he', .inl hr'⟩
    · rcases rc_hd n i hi with e | ⟨s', i', hs', he', hr'⟩
      · subst e
        exact .inr ⟨s, j, hs, he, rc_mono (Nat.zero_le _) rfl⟩
      · exact .inr ⟨s', i', hs', he', .inr ⟨s, i, hs, hr', he⟩⟩
theorem rc_cons {a i s : Nat} (hs : s < sN f) (he : eg f v s a i) : ∀ k j, rc f v i k j → rc f v a (k + 1) j
  | 0, j, h => by
    have h' : j = i := h
    subst h'
    exact .inr ⟨s, a, hs, rfl, he⟩
  | k + 1, j, h => by
    rcases h with h | ⟨s', i', hs', hi', he'⟩
    · exact .inl (rc_cons hs he k j h)
    · exact .inr ⟨s', i', hs', rc_cons hs he k i' hi', he'⟩
theorem wy_s (a j : Nat) : WY f v a j (wy f v a j) := by
  obtain ⟨x, hx⟩ := WY_ex f v a j
  have := wy_e hx
  rw [← this]
  exact hx
/-- the next street of a way is one that begins where the courier is -/
theorem fs_st (V : rv f) {c b : Nat} (hc : c < 4) (hb : b < 10) (q : nI 0 < wy f (f (97 + 5 * c + 1)) (aV f c) b) {x : Int32} (h : FS f c b (wy f (f (97 + 5 * c + 1)) (aV f c) b) 0 x) : ∃ t, t < sN f ∧ x = nI t ∧ f (1 + 4 * t) = f (97 + 5 * c + 0) ∧ f (1 + 4 * t + 3) = nI 1 ∧ (¬ nI 1 < wy f (f (97 + 5 * c + 1)) (aV f c) b → f (1 + 4 * t + 1) = nI b) := by
  rcases wy_s (f := f) (v := f (97 + 5 * c + 1)) (aV f c) b with ⟨n, hn, hd, e⟩ | ⟨-, e⟩
  · rw [e] at h q ⊢
    rw [nI_ltI (by omega) (by omega)] at q
    obtain ⟨n', rfl⟩ : ∃ k, n = k + 1 := ⟨n - 1, by omega⟩
    have hex : ∃ s, s < sN f ∧ okS f c b (nI (n' + 1)) s := by
      rcases rc_hd n' b hd.1 with e0 | ⟨s, i, hs, he, hr⟩
      · exact absurd e0 (hd.2 0 (by omega))
      · refine ⟨s, hs, ?_, he.1, ?_⟩
        · rw [aV_e V.2.1 hc]
          exact he.2.2.2.1
        · have hi : i < 10 := he.2.2.1
          have hw : WY f (f (97 + 5 * c + 1)) i b (nI n') := .inl ⟨n', by omega, ⟨hr, fun k hk z => hd.2 (k + 1) (by omega) (rc_cons hs he k b z)⟩, rfl⟩
          rw [he.2.2.2.2, nI_clamp (by omega), nI_sub (by omega), ← wy_e hw]
          rfl
    rcases h with ⟨t, -, ht, ⟨o1, o2, o3⟩, -, rfl⟩ | ⟨hno, -⟩
    · refine ⟨t, ht, rfl, o1, o2.1, fun w => ?_⟩
      rw [nI_ltI (by omega) (by omega)] at w
      have hn0 : n' = 0 := by omega
      subst hn0
      have h10 := (V.1.2.2.1 t ht).2.1.tn (by omega)
      rcases wy_s (f := f) (v := f (97 + 5 * c + 1)) (f (1 + 4 * t + 1)).toNatClampNeg b with ⟨k, hk, hd2, e2⟩ | ⟨-, e2⟩
      · rw [o3] at e2
        have : k = 0 := by
          have z : nI 0 = nI k := e2
          exact ((nI_eq (by omega) (by omega)).mp z).symm
        subst this
        have z : b = (f (1 + 4 * t + 1)).toNatClampNeg := hd2.1
        rw [h10.1, ← z]
      · rw [o3] at e2
        exact absurd e2 (by decide)
    · obtain ⟨s, hs, ho⟩ := hex
      exact absurd ho (hno s (Nat.zero_le _) hs)
  · rw [e] at q
    exact absurd q (by decide)
end WAY
def okF (n : Nat) : Bool := ax_n32 (FP.fmul (fq n) (1082130432 : UInt32)) && decide (¬ Op.cmpValue (FP.fcmp (FP.fmul (fq n) (1082130432 : UInt32)) (FP.i2f (nI n - nI 1))) .l ≤ nI 0) && decide (¬ nI 0 ≤ Op.cmpValue (FP.fcmp (FP.fmul (fq n) (1082130432 : UInt32)) (FP.i2f (nI n + nI 1))) .g)
theorem okF_all : ∀ n, n < 161 → okF n = true := by decide +kernel
section CS
variable {m : dM} {s : gS}
theorem IC.th1 {m1 : dM} (h : IC m s) (c : chg (fun b => 37 ≤ b ∧ b ≤ 41) m m1) : IC m1 s := h.th (c.mono (fun b q => .inl q))
theorem IC.th2 {m1 : dM} (h : IC m s) (c : chg (fun b => b = 44) m m1) : IC m1 s := h.th (c.mono (fun b q => .inr q))
theorem l306 (hC : IC m s) : ∃ m', D306 m = some (nI 1, m') ∧ IC m' s ∧ m'.1 = m.1 := by
  have V := hC.V
  obtain ⟨n, hn, en⟩ := lds_b V
  have hok := okF_all n hn
  unfold okF at hok
  rw [Bool.and_eq_true, Bool.and_eq_true, decide_eq_true_eq, decide_eq_true_eq] at hok
  obtain ⟨⟨k1, k2⟩, k3⟩ := hok
  have eG : gF (FP.fmul (fq n) (1082130432 : UInt32)) = some (FP.fmul (fq n) (1082130432 : UInt32)) := by
    unfold gF
    rw [k1]
    rfl
  suffices h : ∃ r, D306 m = some r ∧ ∃ m', r = (nI 1, m') ∧ IC m' s ∧ m'.1 = m.1 by
    obtain ⟨r, e, m', rfl, I, hm⟩ := h
    exact ⟨m', e, I, hm⟩
  unfold D306
  refine lpx (fun i t => ∃ m1, t = (nI 1, ldS s.1 i, nI i, m1) ∧ IC m1 s ∧ m1.1 = m.1) (fun b => ∃ m1, b = (nI 1, ldS s.1 4, m1) ∧ IC m1 s ∧ m1.1 = m.1) 4 (by omega) ⟨m, rfl, hC, rfl⟩ ?_ ?_ ?_
  · rintro i t hi ⟨m1, rfl, I1, hm1⟩
    have R1 := I1.R
    have hfree : anyN (ocP s.1 i (s.1 (97 + 5 * i + 0))) 4 = false := an_no 4 fun b hb => decide_eq_false fun z => V.2.1.2 b hb i hi z.1 z.2
    have e305 : D305 m1 (nI i) (s.1 (97 + 5 * i + 0)) = some (nI 1) := by
      rw [l305 R1 hi, hfree]
      rfl
    obtain ⟨m2, e2, c2⟩ := a119 R1 V hi
    have I2 := I1.th1 c2
    have R2 := I2.R
    obtain ⟨y, ey, hy⟩ := a113 R2 V hi
    obtain ⟨y', m3, ey', c3, hy'⟩ := a114 R2 V hi
    have eyy : y' = y := mk.eq hy' hy
    subst eyy
    have I3 := I2.th2 c3
    have R3 := I3.R
    have ha := aV_lt V.2.1 hi
    have eA := aV_e V.2.1 hi
    have ho := (V.2.1.1 i hi).2.2
    refine .inl ⟨(nI 1, ldS s.1 (i + 1), nI (i + 1), m3), ?_, m3, rfl, I3, (c3.2.2.2.trans c2.2.2.2).trans hm1⟩
    refine ifn (nI_ge hi (by omega)) ?_
    refine cTx (a97 R1 hi) ?_
    refine bnx (x := (nI 1, m2)) ?_ ?_
    · refine ifn n10n ?_
      refine cTx (a94 R1 hi) ?_
      refine bnx e305 ?_
      refine ifn n10n ?_
      by_cases q : s.1 (97 + 5 * i + 2) = -1
      · refine ifx (if_pos q) ?_
        refine cGx e2 ?_
        refine ifx (fin_no q) ?_
        exact ifx (if_pos q) rfl
      · have q' : ¬ (if s.1 (97 + 5 * i + 2) = -1 then nI 0 else nI 1) = nI 0 := by rw [if_neg q]; exact n10n
        refine ifn q' ?_
        refine ifn q' ?_
        refine cGx e2 ?_
        exact ifn (fin_or q) rfl
    refine bnx (x := nI 1) ?_ ?_
    · refine ifn n10n ?_
      rcases ho with q | ⟨t, ht, h1, h2, h3⟩
      · exact ifx (if_pos q) rfl
      · have q : ¬ s.1 (97 + 5 * i + 2) = -1 := by
          rw [h1, nI_m1 (by have := V.s24; omega)]
          exact id
        have q' : ¬ (if s.1 (97 + 5 * i + 2) = -1 then nI 0 else nI 1) = nI 0 := by rw [if_neg q]; exact n10n
        have e98 : D98 m2 (nI i) = some (.inl (nI t)) := by rw [a98 R2 hi q, h1]
        have e93 : D93 m2 (nI t) = some (.inl (nI 1)) := by rw [a93 R2 V ht, if_pos h3]
        refine ifn q' ?_
        refine cTx e98 ?_
        refine cTx e93 ?_
        refine ifn n10n ?_
        refine cTx e98 ?_
        refine cTx (a91 R2 V ht) ?_
        refine cTx (a94 R2 hi) ?_
        exact ifx h2 rfl
    refine cTx ey ?_
    refine bnx (x := (nI 1, m3)) ?_ ?_
    · refine ifn n10n ?_
      refine cGx ey' ?_
      refine ifx rfl ?_
      refine cTx (a94 R3 hi) ?_
      refine ifx ?_ rfl
      show (y' >>> (s.1 (97 + 5 * i + 0) &&& nI 31)) &&& nI 1 = nI 1
      rw [eA, bit1 (by omega)]
      exact (hy _ (by omega)).mpr ⟨ha, rc_mono (Nat.zero_le _) rfl⟩
    refine bnx (x := nI 1) ?_ ?_
    · refine lp_n (fun k => (nI 1, nI k)) 10 (by omega) rfl (fun j hj => ?_) ?_
      · refine ifn (nI_ge hj (by omega)) ?_
        refine cTx (a115 R3 V hi hj) ?_
        refine bnx (x := nI 1) ?_ ?_
        · refine ifn n10n ?_
          rcases wy_s (f := s.1) (v := s.1 (97 + 5 * i + 1)) (aV s.1 i) j with ⟨k, hk, hd, e⟩ | ⟨hno, e⟩
          · have hb : ¬ (y' >>> (nI j &&& nI 31)) &&& nI 1 = nI 0 := by
              rw [bit0 (by omega)]
              exact fun z => z ((hy j (by omega)).mpr ⟨hj, rc_mono (by omega) hd.1⟩)
            rw [e]
            refine bnx (x := nI 0) (ifx (nI_le (Nat.zero_le _) (by omega)) rfl) ?_
            refine bnx (x := nI 0) (ifn hb rfl) ?_
            refine ifx rfl ?_
            by_cases q : j = aV s.1 i
            · have k0 : k = 0 := Classical.byContradiction fun z => hd.2 0 (by omega) q
              subst k0
              refine bnx (x := nI 1) (ifx rfl rfl) ?_
              refine cTx (a94 R3 hi) ?_
              refine bnx (x := nI 1) (ifx (by rw [eA, ← q]) rfl) ?_
              refine ifx rfl ?_
              exact ifn (nI_ge (by omega) (by omega)) rfl
            · have k0 : ¬ nI k = nI 0 := fun z => by
                have : k = 0 := (nI_eq (by omega) (by omega)).mp z
                subst this
                exact q hd.1
              refine bnx (x := nI 0) (ifn k0 rfl) ?_
              refine cTx (a94 R3 hi) ?_
              refine bnx (x := nI 0) (ifn (by rw [eA]; exact fun z => q ((nI_eq (by omega) (by omega)).mp z)) rfl) ?_
              refine ifx rfl ?_
              exact ifn (nI_ge hk (by omega)) rfl
          · have hb : (y' >>> (nI j &&& nI 31)) &&& nI 1 = nI 0 := by
              rw [bit0 (by omega)]
              exact fun z => hno 9 (by omega) (rc_ten ha hj ((hy j (by omega)).mp z).2)
            have hq : ¬ j = aV s.1 i := fun z => hno 0 (by omega) z
            rw [e]
            refine bnx (x := nI 1) (ifn (by decide) rfl) ?_
            refine bnx (x := nI 1) (ifx hb rfl) ?_
            refine ifx rfl ?_
            refine bnx (x := nI 0) (ifn (by decide) rfl) ?_
            refine cTx (a94 R3 hi) ?_
            refine bnx (x := nI 0) (ifn (by rw [eA]; exact fun z => hq ((nI_eq (by omega) (by omega)).mp z)) rfl) ?_
            refine ifx rfl ?_
            exact ifn (by decide) rfl
        refine bnx (x := nI 1) ?_ ?_
        · by_cases q : nI 0 < wy s.1 (s.1 (97 + 5 * i + 1)) (aV s.1 i) j
          · obtain ⟨x, ex, hx⟩ := a116 R3 V hi hj q
            obtain ⟨t, ht, rfl, f1, f2, f3⟩ := fs_st V hi hj q hx
            refine ifn (Int32.not_le.mpr q) ?_
            refine cTx ex ?_
            refine bnx (x := nI 1) ?_ rfl
            refine ifn n10n ?_
            refine cTx (by rw [a93 R3 V ht, if_pos f2]) ?_
            refine ifn n10n ?_
            refine cTx (a91 R3 V ht) ?_
            refine cTx (a94 R3 hi) ?_
            refine ifx f1 ?_
            by_cases w : nI 1 < wy s.1 (s.1 (97 + 5 * i + 1)) (aV s.1 i) j
            · exact ifx w rfl
            · refine ifn w ?_
              refine cTx (a92 R3 V ht) ?_
              exact ifx (f3 w) rfl
          · exact ifx (Int32.not_lt.mp q) rfl
        show some (Sum.inl (nI 1, nI j + nI 1)) = _
        rw [nI_add]
      · exact ifx (nI_le (Nat.le_refl 10) (by omega)) rfl
    refine cTx (a96 R3 V hi) ?_
    show some (Sum.inl (nI 1, ldS s.1 i + ld s.1 (nI i) (pN s.1), nI i + nI 1, m3)) = _
    rw [nI_add]
    rfl
  · rintro t ⟨m1, rfl, I1, hm1⟩
    exact ⟨(nI 1, ldS s.1 4, m1), ifx (nI_le (Nat.le_refl 4) (by omega)) rfl, m1, rfl, I1, hm1⟩
  · rintro b ⟨m1, rfl, I1, hm1⟩
    refine ⟨(nI 1, m1), ?_, m1, rfl, I1, hm1⟩
    rw [en]
    refine bnx (x := nI 1) ?_ rfl
    refine ifn n10n ?_
    refine bnx (d120 I1.R V hn en) ?_
    refine bnx eG ?_
    refine ifn k2 ?_
    refine bnx (d120 I1.R V hn en) ?_
    refine bnx eG ?_
    exact ifn k3 rfl
end CS
