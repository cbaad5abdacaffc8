/-! CHANGES: parcels, vans, streets -/
section ST
variable {m m1 m2 : dM} {s : gS} {f g : Nat → Int32} {X : Nat × (Nat → Int32)} {i : Nat}
/-- a parcel comes -/
def adF (f : Nat → Int32) (a b w v : Int32) : Nat → Int32 := fun x => if x = 117 then nI (pN f + 1) else if x = 118 + 6 * pN f + 0 then a else if x = 118 + 6 * pN f + 1 then b else if x = 118 + 6 * pN f + 2 then w else if x = 118 + 6 * pN f + 3 then v else if x = 118 + 6 * pN f + 4 then nI 0 else if x = 118 + 6 * pN f + 5 then -1 else f x
section AD
variable {a b w v : Int32}
theorem ad_117 : adF f a b w v 117 = nI (pN f + 1) := if_pos rfl
theorem ad_o {x : Nat} (h1 : x ≠ 117) (h2 : ¬ (118 + 6 * pN f ≤ x ∧ x < 118 + 6 * pN f + 6)) : adF f a b w v x = f x := by
  unfold adF
  rw [if_neg h1, if_neg (by omega), if_neg (by omega), if_neg (by omega), if_neg (by omega), if_neg (by omega), if_neg (by omega)]
theorem ad_0 : adF f a b w v (118 + 6 * pN f + 0) = a := by
  unfold adF
  rw [if_neg (by omega), if_pos rfl]
theorem ad_1 : adF f a b w v (118 + 6 * pN f + 1) = b := by
  unfold adF
  rw [if_neg (by omega), if_neg (by omega), if_pos rfl]
theorem ad_2 : adF f a b w v (118 + 6 * pN f + 2) = w := by
  unfold adF
  rw [if_neg (by omega), if_neg (by omega), if_neg (by omega), if_pos rfl]
theorem ad_3 : adF f a b w v (118 + 6 * pN f + 3) = v := by
  unfold adF
  rw [if_neg (by omega), if_neg (by omega), if_neg (by omega), if_neg (by omega), if_pos rfl]
theorem ad_4 : adF f a b w v (118 + 6 * pN f + 4) = nI 0 := by
  unfold adF
  rw [if_neg (by omega), if_neg (by omega), if_neg (by omega), if_neg (by omega), if_neg (by omega), if_pos rfl]
theorem ad_5 : adF f a b w v (118 + 6 * pN f + 5) = -1 := by
  unfold adF
  rw [if_neg (by omega), if_neg (by omega), if_neg (by omega), if_neg (by omega), if_neg (by omega), if_neg (by omega), if_pos rfl]
theorem pN_ad (h : pN f < 8) : pN (adF f a b w v) = pN f + 1 := by
  unfold pN
  rw [show adF f a b w v 117 = nI (pN f + 1) from ad_117, nI_clamp (by omega)]
  rfl
theorem ad_rv (V : rv f) (h : pN f < 8) (ha : sm a 10) (hb : sm b 10) (hw : sm w 6) (hv : ∃ u, u < 10 ∧ 0 < u ∧ v = nI u) : rv (adF f a b w v) := by
  have e : ∀ x, x < 117 ∨ 166 ≤ x → adF f a b w v x = f x := fun x q => ad_o (by omega) (by omega)
  have ep : ∀ p k, p < pN f → k < 6 → adF f a b w v (118 + 6 * p + k) = f (118 + 6 * p + k) := fun p k h1 h2 => ad_o (by omega) (by omega)
  refine ⟨V.1.cg (fun x q => e x (by omega)), V.2.1.cg V.s24 (fun x q => e x (by omega)), ⟨?_, ?_, fun p hp => ?_⟩, ?_⟩
  · rw [ad_117, pN_ad h]
  · rw [pN_ad h]; omega
  · rw [pN_ad h] at hp
    by_cases q : p = pN f
    · subst q
      rw [ad_0, ad_1, ad_2, ad_3, ad_4, ad_5]
      exact ⟨ha, hb, hw, hv, sm_nI (by omega), fun z => absurd rfl z⟩
    · rw [ep p 0 (by omega) (by omega), ep p 1 (by omega) (by omega), ep p 2 (by omega) (by omega), ep p 3 (by omega) (by omega), ep p 4 (by omega) (by omega), ep p 5 (by omega) (by omega)]
      exact V.2.2.1.2.2 p (by omega)
  · obtain ⟨q1, q2, q3, q4, q5, q6⟩ := V.2.2.2
    unfold rvN
    rw [tN.cg (e 174 (by omega)), e 174 (by omega), e 168 (by omega), e 167 (by omega), e 172 (by omega), e 173 (by omega), pN_ad h]
    refine ⟨q1, q2, q3, q4, q5, fun pl hpl => ?_⟩
    rw [e (170 + pl) (by omega), q6 pl hpl]
    show _ = vd (adF f a b w v) pl (pN f) + (if adF f a b w v (118 + 6 * pN f + 4) = nI 2 ∧ (adF f a b w v (118 + 6 * pN f + 5)).toNatClampNeg / 2 = pl then adF f a b w v (118 + 6 * pN f + 3) else nI 0)
    rw [ad_4, if_neg (show ¬ (nI 0 = nI 2 ∧ (adF f a b w v (118 + 6 * pN f + 5)).toNatClampNeg / 2 = pl) from fun z => absurd z.1 (by decide)), show ∀ x : Int32, x + nI 0 = x from fun x => Int32.add_zero x]
    refine (vd.eq (pN f) fun p hp => ?_).symm
    rw [ep p 4 hp (by omega), ep p 5 hp (by omega), ep p 3 hp (by omega)]
end AD
theorem d42_x (hC : rvC f) (hP : rvP f) (hat : ∀ c, c < 4 → rI m 6 c = f (97 + 5 * c + 0)) (Rp : RCp m 1 f) : D42 m = some (lN (fL1 f)) := by
  have h8 := hP.2.1
  unfold D42
  refine lpb (lN (la (aV f) 4)) (fun i => (lN (la (aV f) i), nI i)) 4 (by omega) rfl (fun i hi => ?_) rfl ?_
  · show (if nI 4 ≤ nI i then _ else _) = _
    rw [if_neg (nI_ge hi (by omega)), gI_n hi (by omega), hat i hi, aV_e hC hi]
    show some (Sum.inl ((lN _ <<< ((nI 4).toInt64 &&& 63)) ||| (nI _).toInt64, nI i + nI 1)) = _
    have h1 := la_lt (a := aV f) i (fun j hj => Nat.lt_trans (aV_lt hC (show j < 4 by omega)) (by omega))
    have h2 := aV_lt hC hi
    have h3 : (16 : Nat) ^ i ≤ 16 ^ 3 := Nat.pow_le_pow_right (by omega) (by omega)
    rw [wb_shl _ (by omega), nI_l (by omega), g_or (k := 4) (p := 2 ^ 4) rfl (by omega) (by omega), nI_add]
    rfl
  · refine lpb (lN (fL1 f)) (fun i => (lN (lb (la (aV f) 4) (qV f) i), nI i)) (pN f) (by omega) rfl (fun i hi => ?_) ?_ rfl
    · show (if rI m 10 4 ≤ nI i then _ else _) = _
      rw [show rI m 10 4 = f 117 from Rp.1, hP.1, if_neg (nI_ge hi (by omega)), gI_n (by omega) (by omega), show rI m 14 i = spt f i from (Rp.2 i (by omega)).2.2.2 hi]
      have h0 := qV_e hP i
      rw [if_pos hi] at h0
      rw [h0]
      show some (Sum.inl ((lN _ <<< ((nI 5).toInt64 &&& 63)) ||| (nI _).toInt64, nI i + nI 1)) = _
      have h1 := lb_lt (q := qV f) (la_lt (a := aV f) 4 (fun j hj => Nat.lt_trans (aV_lt hC hj) (by omega))) i (fun j _ => Nat.lt_trans (qV_lt hP j) (by omega))
      have h2 := qV_lt hP i
      have h3 : (32 : Nat) ^ i ≤ 32 ^ 7 := Nat.pow_le_pow_right (by omega) (by omega)
      have h4 : 16 ^ 4 * 32 ^ i ≤ 16 ^ 4 * 32 ^ 7 := Nat.mul_le_mul_left _ h3
      rw [wb_shl _ (by omega), nI_l (by omega), g_or (k := 5) (p := 2 ^ 5) rfl (by omega) (by omega), nI_add]
      rfl
    · show (if rI m 10 4 ≤ nI (pN f) then _ else _) = _
      rw [show rI m 10 4 = f 117 from Rp.1, hP.1, if_pos (nI_le (Nat.le_refl _) (by omega))]
      rfl
/-- the class's parcel -/
def aK (m : dM) (n : Nat) (a b w v : Int32) : dM := wI (wI (wI (wI (wI m 14 n a) 11 n b) 12 n w) 13 n v) 10 4 (nI (n + 1))
theorem d30 (R : RC m 1 f) (V : rv f) (h : pN f < 8) {a b w v : Int32} : D30 m a b w v = some (nI (pN f), aK m (pN f) a b w v) := by
  unfold D30
  rw [R.pc, V.p0, if_pos (nI_lt h (by omega)), sI_n h (by omega), Option.bind_some, sI_n h (by omega), Option.bind_some, sI_n h (by omega), Option.bind_some, sI_n h (by omega), Option.bind_some, fI_e, Option.bind_some, rI_wn (show (10 : Nat) ≠ 13 by decide), rI_wn (show (10 : Nat) ≠ 12 by decide), rI_wn (show (10 : Nat) ≠ 11 by decide), rI_wn (show (10 : Nat) ≠ 14 by decide), R.pc, V.p0, nI_add]
  rfl
/-- the notes of before stand for nothing: a parcel's row behind a dropping of notes -/
theorem RC_ad (R : RC m 1 f) (V : rv f) (h : pN f < 8) {a b w v : Int32} (V2 : rv (adF f a b w v)) : ∃ m', D43 (aK m (pN f) a b w v) = some m' ∧ chg nowC m m' ∧ RC m' 1 (nt (adF f a b w v) 0) := by
  have e : ∀ x, x < 117 ∨ 166 ≤ x → adF f a b w v x = f x := fun x q => ad_o (by omega) (by omega)
  have ep : ∀ p k, p ≠ pN f → k < 6 → adF f a b w v (118 + 6 * p + k) = f (118 + 6 * p + k) := fun p k h1 h2 => ad_o (by omega) (by omega)
  have cK : chg (fun b => 10 ≤ b ∧ b ≤ 14) m (aK m (pN f) a b w v) := chg.wI (chg.wI (chg.wI (chg.wI (chg.wI chg.rf (by omega)) (by omega)) (by omega)) (by omega)) (by omega)
  have r10 : rI (aK m (pN f) a b w v) 10 = upd (rI m 10) 4 (nI (pN f + 1)) := by
    unfold aK
    rw [rI_ws, rI_wn (by decide), rI_wn (by decide), rI_wn (by decide), rI_wn (by decide)]
  have r11 : rI (aK m (pN f) a b w v) 11 = upd (rI m 11) (pN f) b := by
    unfold aK
    rw [rI_wn (by decide), rI_wn (by decide), rI_wn (by decide), rI_ws, rI_wn (by decide)]
  have r12 : rI (aK m (pN f) a b w v) 12 = upd (rI m 12) (pN f) w := by
    unfold aK
    rw [rI_wn (by decide), rI_wn (by decide), rI_ws, rI_wn (by decide), rI_wn (by decide)]
  have r13 : rI (aK m (pN f) a b w v) 13 = upd (rI m 13) (pN f) v := by
    unfold aK
    rw [rI_wn (by decide), rI_ws, rI_wn (by decide), rI_wn (by decide), rI_wn (by decide)]
  have r14 : rI (aK m (pN f) a b w v) 14 = upd (rI m 14) (pN f) a := by
    unfold aK
    rw [rI_wn (by decide), rI_wn (by decide), rI_wn (by decide), rI_wn (by decide), rI_ws]
  generalize aK m (pN f) a b w v = K at cK r10 r11 r12 r13 r14
  -- a memory whose notes are empty, so that its state is told by the new row with no notes
  have Rp : RCp K 1 (adF f a b w v) := by
    refine ⟨?_, fun p hp => ?_⟩
    · show rI K 10 4 = _
      rw [r10, upd_s, ad_117]
    · show rI K 11 p = _ ∧ rI K 12 p = _ ∧ rI K 13 p = _ ∧ (_ → rI K 14 p = _)
      rw [r11, r12, r13, r14, pN_ad h]
      by_cases q : p = pN f
      · subst q
        rw [upd_s, upd_s, upd_s, upd_s, ad_1, ad_2, ad_3]
        refine ⟨rfl, rfl, rfl, fun _ => ?_⟩
        unfold spt
        rw [ad_4, if_pos rfl, ad_0]
      · rw [upd_n q, upd_n q, upd_n q, upd_n q, ep p 1 q (by omega), ep p 2 q (by omega), ep p 3 q (by omega)]
        refine ⟨R.tg hp, R.wg hp, R.vl hp, fun z => ?_⟩
        unfold spt
        rw [ep p 4 q (by omega), ep p 5 q (by omega), ep p 0 q (by omega)]
        exact R.sp hp (by omega)
  have key : ∃ m', D43 K = some m' ∧ chg (fun b => b = 15 ∨ b = 16) K m' ∧ rI m' 15 1 = nI 1 ∧ rL m' 16 0 = lN (fL1 (adF f a b w v)) := by
    have e0 : rI (wI K 15 1 (nI 0)) 15 1 = nI 0 := by rw [rI_ws, upd_s]
    have e42 : D42 K = some (lN (fL1 (adF f a b w v))) := by
      have hat : ∀ c, c < 4 → rI K 6 c = adF f a b w v (97 + 5 * c + 0) := fun c hc => by
        rw [cK.1 6 (by omega), R.at hc, e (97 + 5 * c + 0) (by omega)]
      -- a state with these couriers and parcels
      have hx := d42_x (m := K) (f := adF f a b w v) V2.2.1 V2.2.2.1 hat Rp
      exact hx
    refine ⟨wI (wL (wI K 15 1 (nI 0)) 16 0 (lN (fL1 (adF f a b w v)))) 15 1 (nI (0 + 1)), ?_, chg.wI (chg.wL (chg.wI chg.rf (.inl rfl)) (.inr rfl)) (.inl rfl), ?_, ?_⟩
    · unfold D43
      show Option.bind (D42 (wI K 15 1 (nI 0))) _ = _
      rw [D42_w, e42]
      show Option.bind (D23 (wI K 15 1 (nI 0)) (lN (fL1 (adF f a b w v)))) _ = _
      rw [d23 e0 (by omega)]
      rfl
    · rw [rI_ws, upd_s]
    · rw [rL_wI, rL_ws]
      show (if 0 = 0 then _ else _) = _
      rw [if_pos rfl]
  obtain ⟨m', e1, c1, h15, h16⟩ := key
  have cA : chg (fun b => 10 ≤ b ∧ b ≤ 16) m m' := (cK.mono (fun b q => by omega)).tr (c1.mono (fun b q => by omega))
  have en : ∀ x, x < 174 → nt (adF f a b w v) 0 x = adF f a b w v x := fun x q => nt_o (by omega) (by omega) (by omega)
  refine ⟨m', e1, cA.mono (fun b q => .inl (by omega)), R.mkp cA (fun x q1 q2 => (en x q2).trans (e x (by omega))) (Rp.cg (fun x _ q => en x (by omega)) (fun b _ _ => c1.1 b (by omega))) ⟨?_, fun i hi => ?_⟩⟩
  · show rI m' 15 1 = _
    rw [h15, nt_t]
  · rw [tN_nt (by omega)] at hi
    have hi0 : i = 0 := by omega
    subst hi0
    show nt3 _ (rL m' 16 0) _ _
    rw [h16, pN.cg (en 117 (by omega))]
    exact nowN V2

end ST
