/-! A TURN in the reference: deliveries, picking up; both as one row -/
theorem sub_0 {a b : Nat} (ha : a < 100) (hb : b < 100) : (nI a - nI b = nI 0) = (a = b) := by
  have h := pk_sub_toInt (a := a) (b := b) (by omega) (by omega)
  have h0 := nI_toInt (n := 0) (by omega)
  refine propext ⟨fun e => ?_, fun e => ?_⟩
  · rw [e, h0] at h
    omega
  · rw [e]
    exact Int32.sub_self _
theorem sub_p {a b : Nat} (ha : a < 100) (hb : b < 100) : (nI 0 < nI a - nI b) = (b < a) := by
  have h := pk_sub_toInt (a := a) (b := b) (by omega) (by omega)
  have h0 := nI_toInt (n := 0) (by omega)
  rw [Int32.lt_iff_toInt_lt, h, h0]
  exact propext ⟨fun _ => by omega, fun _ => by omega⟩
theorem upd_cm {f : Nat → Int32} {a b : Nat} {x y : Int32} (h : a ≠ b) : upd (upd f a x) b y = upd (upd f b y) a x := by
  funext i
  by_cases e1 : i = a
  · subst e1
    rw [upd_n h, upd_s, upd_s]
  · by_cases e2 : i = b
    · subst e2
      rw [upd_s, upd_n e1, upd_s]
    · rw [upd_n e2, upd_n e1, upd_n e1, upd_n e2]
section TM
variable {m : dM} {f : Nat → Int32} {c : Nat}
theorem d174 (hf : rI m 131 = f) (P : rvP f) {a b : Nat} (ha : a < pN f) (hb : b < pN f) : D174 m (nI a) (nI b) = some (if ky f a < ky f b then nI 1 else nI 0) := by
  have h8 := P.2.1
  obtain ⟨-, -, ⟨w, hw, ew⟩, ⟨v, hv, hv0, ev⟩, -⟩ := P.2.2 a ha
  obtain ⟨-, -, ⟨w', hw', ew'⟩, ⟨v', hv', hv0', ev'⟩, -⟩ := P.2.2 b hb
  unfold D174
  rw [d152 hf (by omega) (by omega), d152 hf (by omega) (by omega), d152 hf (by omega) (by omega), d152 hf (by omega) (by omega), ew, ev, ew', ev']
  have hky : ky f a < ky f b ↔ v' < v ∨ (v = v' ∧ (w < w' ∨ (w = w' ∧ a < b))) := by
    unfold ky
    rw [ew, ev, ew', ev', nI_clamp (by omega), nI_clamp (by omega), nI_clamp (by omega), nI_clamp (by omega)]
    omega
  simp only [Option.bind_some]
  by_cases q : v = v'
  · rw [if_pos (show nI v - nI v' = nI 0 from (sub_0 (by omega) (by omega)).mpr q)]
    show Option.bind (if nI 0 < nI w' - nI w then some (nI 1) else if nI w' - nI w = nI 0 then (if nI b ≤ nI a then some (nI 0) else some (nI 1)) else some (nI 0)) _ = _
    by_cases q2 : w < w'
    · rw [if_pos ((sub_p (by omega) (by omega)).mpr q2), if_pos (hky.mpr (.inr ⟨q, .inl q2⟩))]
      rfl
    · rw [if_neg (fun z => q2 ((sub_p (by omega) (by omega)).mp z))]
      by_cases q3 : w = w'
      · rw [if_pos ((sub_0 (by omega) (by omega)).mpr q3.symm)]
        by_cases q4 : a < b
        · rw [if_neg (nI_ge q4 (by omega)), if_pos (hky.mpr (.inr ⟨q, .inr ⟨q3, q4⟩⟩))]
          rfl
        · rw [if_pos (nI_le (by omega) (by omega)), if_neg (fun z => by have := hky.mp z; omega)]
          rfl
      · rw [if_neg (fun z => q3 ((sub_0 (by omega) (by omega)).mp z).symm), if_neg (fun z => by have := hky.mp z; omega)]
        rfl
  · rw [if_neg (show ¬ nI v - nI v' = nI 0 from fun z => q ((sub_0 (by omega) (by omega)).mp z))]
    show Option.bind (if nI 0 < nI v - nI v' then some (nI 1) else if nI v - nI v' = nI 0 then (if nI b ≤ nI a then some (nI 0) else some (nI 1)) else some (nI 0)) _ = _
    by_cases q2 : v' < v
    · rw [if_pos ((sub_p (by omega) (by omega)).mpr q2), if_pos (hky.mpr (.inl q2))]
      rfl
    · rw [if_neg (fun z => q2 ((sub_p (by omega) (by omega)).mp z)), if_neg (fun z => q ((sub_0 (by omega) (by omega)).mp z)), if_neg (fun z => by have := hky.mp z; omega)]
      rfl
theorem oi_m {q : Nat} (h : q < 8) : (oi (some q) = -1) = False := nI_m1 (by omega)
theorem d173 (hf : rI m 131 = f) (P : rvP f) {j : Int32} {L : Option Nat} (hL : ∀ q, L = some q → q < pN f) : D173 m j (oi L) = some (oi (nx f j L (pN f))) := by
  have h8 := P.2.1
  unfold D173
  refine lpb (oi (nx f j L (pN f))) (fun i => (oi (nx f j L i), nI i)) (pN f) (by omega) rfl (fun i hi => ?_) ?_ rfl
  · have e0 : ∀ A B : Option ((Int32 × Int32) ⊕ Int32), (if rI m 131 117 ≤ nI i then A else B) = B := fun A B => by rw [hf, P.1, if_neg (nI_ge hi (by omega))]
    show (if rI m 131 117 ≤ nI i then _ else Option.bind (D152 m (nI i) (nI 4)) _) = _
    rw [e0, d152 hf (by omega) (by omega), d152 hf (by omega) (by omega)]
    show Option.bind (if f (118 + 6 * i + 4) = nI 0 then (if f (118 + 6 * i + 0) = j then (if oi L = -1 then some (nI 1) else Option.bind (D174 m (oi L) (nI i)) fun (x6 : Int32) => if x6 = nI 0 then some (nI 0) else some (nI 1)) else some (nI 0)) else some (nI 0)) _ = _
    have hv : ∃ v, (if f (118 + 6 * i + 4) = nI 0 then (if f (118 + 6 * i + 0) = j then (if oi L = -1 then some (nI 1) else Option.bind (D174 m (oi L) (nI i)) fun (x6 : Int32) => if x6 = nI 0 then some (nI 0) else some (nI 1)) else some (nI 0)) else some (nI 0)) = some v ∧ (v = nI 0 ↔ ¬ cdB f j L i = true) := by
      unfold cdB
      by_cases q1 : f (118 + 6 * i + 4) = nI 0
      · rw [if_pos q1]
        by_cases q2 : f (118 + 6 * i + 0) = j
        · rw [if_pos q2, decide_eq_true ⟨q1, q2⟩, Bool.true_and]
          cases L with
          | none => exact ⟨nI 1, if_pos rfl, by unfold lB; simp [n10]⟩
          | some a =>
            have ha := hL a rfl
            rw [if_neg (by rw [oi_m (by omega)]; exact id), show oi (some a) = nI a from rfl, d174 hf P ha hi]
            unfold lB
            by_cases w : ky f a < ky f i
            · exact ⟨nI 1, by rw [if_pos w]; rfl, by simp [n10, w]⟩
            · exact ⟨nI 0, by rw [if_neg w]; rfl, by simp [w]⟩
        · rw [if_neg q2, decide_eq_false (fun z => q2 z.2), Bool.false_and]
          exact ⟨_, rfl, by simp⟩
      · rw [if_neg q1, decide_eq_false (fun z => q1 z.1), Bool.false_and]
        exact ⟨_, rfl, by simp⟩
    obtain ⟨v, ev, hv⟩ := hv
    rw [ev]
    show Option.bind (if v = nI 0 then some (oi (nx f j L i)) else if oi (nx f j L i) = -1 then some (nI i) else Option.bind (D174 m (nI i) (oi (nx f j L i))) fun (x8 : Int32) => if x8 = nI 0 then some (oi (nx f j L i)) else some (nI i)) _ = _
    rw [nx_1]
    by_cases q : cdB f j L i = true
    · rw [if_neg (fun z => hv.mp z q), if_pos q]
      cases w : nx f j L i with
      | none =>
        rw [if_pos (show oi none = (-1 : Int32) from rfl), ← nI_add]
        rfl
      | some a =>
        obtain ⟨ha, -⟩ := nx_some w
        rw [if_neg (by rw [oi_m (by omega)]; exact id), show oi (some a) = nI a from rfl, d174 hf P hi (by omega)]
        show Option.bind (if (if ky f i < ky f a then nI 1 else nI 0) = nI 0 then some (nI a) else some (nI i)) _ = some (Sum.inl (oi (if ky f i < ky f a then some i else some a), nI (i + 1)))
        rw [← nI_add]
        by_cases z : ky f i < ky f a
        · rw [if_pos z, if_pos z, if_neg (by decide)]
          rfl
        · rw [if_neg z, if_neg z, if_pos rfl]
          rfl
    · rw [if_pos (hv.mpr q), if_neg q, ← nI_add]
      rfl
  · show (if rI m 131 117 ≤ nI (pN f) then _ else _) = _
    rw [hf, P.1, if_pos (nI_le (Nat.le_refl _) (by omega))]
theorem div2 (hc : c < 4) : nI 170 + nI c / nI 2 = nI (170 + c / 2) := by rw [pk_div (by omega) (by omega) (by omega), nI_add]
theorem mx_pk (h8 : pN f ≤ 8) {b n : Nat} (hb : b < 4) : mx (pkS f c n).1 b = mx f b := by
  unfold mx
  rw [pkS_o h8 (fun p _ => by omega), pkS_o h8 (fun p _ => by omega)]
theorem d175 (hf : rI m 131 = f) (P : rvP f) (hc : c < 4) : ∃ m', D175 m (nI c) = some m' ∧ chg (fun b => b = 131) m m' ∧ rI m' 131 = P2 f c := by
  have h8 := P.2.1
  unfold D175
  rw [d150 hf hc (by omega)]
  show ∃ m', Option.bind (lp _ _ _) _ = _ ∧ _
  refine lpx (fun k s => s.1 = nI k ∧ chg (fun b => b = 131) m s.2 ∧ rI s.2 131 = dl f c k) (fun m' => chg (fun b => b = 131) m m' ∧ rI m' 131 = dl f c (pN f)) (pN f) (by omega) ⟨rfl, chg.rf, hf⟩ ?_ ?_ ?_
  · rintro k ⟨x, m2⟩ hk ⟨hx, c2, r2⟩
    replace hx : x = nI k := hx
    replace c2 : chg (fun b => b = 131) m m2 := c2
    replace r2 : rI m2 131 = dl f c k := r2
    subst hx
    refine .inl ?_
    have e0 : ∀ A B : Option ((Int32 × dM) ⊕ dM), (if rI m2 131 117 ≤ nI k then A else B) = B := fun A B => by rw [r2, dl_o k 117 (by omega) (fun p _ => by omega), P.1, if_neg (nI_ge hk (by omega))]
    have hno : ¬ dcB f c k = true → ∃ s', (Option.bind (some m2) fun (v5 : dM) => some (Sum.inl (β := dM) (nI k + nI 1, v5))) = some (.inl s') ∧ s'.1 = nI (k + 1) ∧ chg (fun b => b = 131) m s'.2 ∧ rI s'.2 131 = dl f c (k + 1) := fun q => ⟨_, rfl, nI_add k 1, c2, by rw [dl_1, if_neg q]; exact r2⟩
    show ∃ s', (if rI m2 131 117 ≤ nI k then _ else Option.bind (D152 m2 (nI k) (nI 4)) _) = _ ∧ _
    rw [e0, d152 r2 (by omega) (by omega), dl_s (by omega), if_neg (show ¬ (k < k ∧ dcB f c k = true) from fun z => by omega)]
    show ∃ s', Option.bind (if f (118 + 6 * k + 4) = nI 1 then Option.bind (D152 m2 (nI k) (nI 5)) _ else _) _ = _ ∧ _
    rw [d152 r2 (by omega) (by omega), dl_o k (118 + 6 * k + 5) (by omega) (fun p _ => by omega)]
    show ∃ s', Option.bind (if f (118 + 6 * k + 4) = nI 1 then (if f (118 + 6 * k + 5) = nI c then Option.bind (D152 m2 (nI k) (nI 1)) _ else _) else _) _ = _ ∧ _
    rw [d152 r2 (by omega) (by omega), dl_o k (118 + 6 * k + 1) (by omega) (fun p _ => by omega)]
    show ∃ s', Option.bind (if f (118 + 6 * k + 4) = nI 1 then (if f (118 + 6 * k + 5) = nI c then (if f (118 + 6 * k + 1) = f (97 + 5 * c + 0) then Option.bind (D153 m2 (nI k) (nI 4) (nI 2)) _ else _) else _) else _) _ = _ ∧ _
    by_cases q1 : f (118 + 6 * k + 4) = nI 1
    · rw [if_pos q1]
      by_cases q2 : f (118 + 6 * k + 5) = nI c
      · rw [if_pos q2]
        by_cases q3 : f (118 + 6 * k + 1) = f (97 + 5 * c + 0)
        · have q : dcB f c k = true := by
            unfold dcB
            rw [decide_eq_true_eq]
            exact ⟨q1, q2, q3⟩
          rw [if_pos q3, d153 (by omega) (by omega), div2 hc]
          show ∃ s', Option.bind (Option.bind (gI (wI m2 131 (118 + 6 * k + 4) (nI 2)) 131 299 (nI (170 + c / 2))) _) _ = _ ∧ _
          rw [gI_n (by omega) (by omega), rI_ws, upd_n (by omega)]
          show ∃ s', Option.bind (Option.bind (D152 (wI m2 131 (118 + 6 * k + 4) (nI 2)) (nI k) (nI 3)) _) _ = _ ∧ _
          rw [d152 rfl (by omega) (by omega), rI_ws, upd_n (by omega), r2, dl_o k (118 + 6 * k + 3) (by omega) (fun p _ => by omega)]
          show ∃ s', Option.bind (Option.bind (sI (wI m2 131 (118 + 6 * k + 4) (nI 2)) 131 299 (nI (170 + c / 2)) (dl f c k (170 + c / 2) + f (118 + 6 * k + 3))) _) _ = _ ∧ _
          rw [sI_n (by omega) (by omega)]
          refine ⟨(nI k + nI 1, _), rfl, nI_add k 1, chg.wI (chg.wI c2 rfl) rfl, ?_⟩
          show rI (wI (wI m2 131 (118 + 6 * k + 4) (nI 2)) 131 (170 + c / 2) (dl f c k (170 + c / 2) + f (118 + 6 * k + 3))) 131 = _
          rw [rI_ws, rI_ws, r2, dl_1, if_pos q]
        · rw [if_neg q3]
          exact hno (fun z => q3 (by unfold dcB at z; rw [decide_eq_true_eq] at z; exact z.2.2))
      · rw [if_neg q2]
        exact hno (fun z => q2 (dc_e z).2)
    · rw [if_neg q1]
      exact hno (fun z => q1 (dc_e z).1)
  · rintro ⟨x, m2⟩ ⟨hx, c2, r2⟩
    replace hx : x = nI (pN f) := hx
    replace r2 : rI m2 131 = dl f c (pN f) := r2
    subst hx
    refine ⟨m2, ?_, c2, r2⟩
    show (if rI m2 131 117 ≤ nI (pN f) then _ else _) = _
    rw [r2, dl_o _ 117 (by omega) (fun p _ => by omega), P.1, if_pos (nI_le (Nat.le_refl _) (by omega))]
  · rintro m1 ⟨c1, r1⟩
    obtain ⟨Pd, pd⟩ := dl_P P hc (Nat.le_refl (pN f))
    have hat : dl f c (pN f) (97 + 5 * c + 0) = f (97 + 5 * c + 0) := dl_o _ _ (by omega) (fun p _ => by omega)
    show ∃ m', Option.bind (D173 m1 (f (97 + 5 * c + 0)) (oi none)) _ = _ ∧ _
    rw [d173 r1 Pd (fun q h => by cases h)]
    show ∃ m', Option.bind (lp _ _ _) _ = _ ∧ _
    have h8d : pN (dl f c (pN f)) ≤ 8 := by omega
    refine lpx (fun k s => s.1 = oi (pkN (dl f c (pN f)) c (pkS (dl f c (pN f)) c k)) ∧ chg (fun b => b = 131) m s.2 ∧ rI s.2 131 = (pkS (dl f c (pN f)) c k).1) (fun m' => chg (fun b => b = 131) m m' ∧ rI m' 131 = P2 f c) (pN (dl f c (pN f))) (by omega) ⟨?_, c1, r1⟩ ?_ ?_ (fun m' h => ⟨m', rfl, h⟩)
    · show oi (nx (dl f c (pN f)) (f (97 + 5 * c + 0)) none (pN (dl f c (pN f)))) = oi (nx (dl f c (pN f)) (dl f c (pN f) (97 + 5 * c + 0)) none (pN (dl f c (pN f))))
      rw [hat]
    · rintro k ⟨x, m2⟩ hk ⟨hx, c2, r2⟩
      replace hx : x = oi (pkN (dl f c (pN f)) c (pkS (dl f c (pN f)) c k)) := hx
      replace c2 : chg (fun b => b = 131) m m2 := c2
      replace r2 : rI m2 131 = (pkS (dl f c (pN f)) c k).1 := r2
      subst hx
      obtain ⟨P2', p2'⟩ := pkS_P Pd hc k
      show (∃ s', (if oi (pkN (dl f c (pN f)) c (pkS (dl f c (pN f)) c k)) = -1 then _ else Option.bind (D173 m2 (f (97 + 5 * c + 0)) (oi (pkN (dl f c (pN f)) c (pkS (dl f c (pN f)) c k)))) _) = _ ∧ _) ∨ (∃ b, (if oi (pkN (dl f c (pN f)) c (pkS (dl f c (pN f)) c k)) = -1 then _ else Option.bind (D173 m2 (f (97 + 5 * c + 0)) (oi (pkN (dl f c (pN f)) c (pkS (dl f c (pN f)) c k)))) _) = _ ∧ _)
      cases q : pkN (dl f c (pN f)) c (pkS (dl f c (pN f)) c k) with
      | none =>
        rw [if_pos (show oi none = (-1 : Int32) from rfl)]
        refine .inr ⟨m2, rfl, c2, ?_⟩
        rw [r2, pk_fin (by omega) q]
        rfl
      | some p =>
        obtain ⟨h1, h2, -⟩ := pkN_p q
        have hS : pkS (dl f c (pN f)) c (k + 1) = (pk1 (dl f c (pN f)) (pkS (dl f c (pN f)) c k).1 c p, some p) := by rw [pkS_1, q]
        refine .inl ?_
        rw [if_neg (by rw [oi_m (by omega)]; exact id), d173 r2 P2' (L := some p) (fun a ha => by cases ha; omega)]
        show ∃ s', Option.bind (D158 m2 (nI c)) _ = _ ∧ _
        rw [d158 r2 P2'.1 P2'.2.1]
        show ∃ s', Option.bind (D152 m2 (nI p) (nI 2)) _ = _ ∧ _
        rw [d152 r2 (by omega) (by omega)]
        show ∃ s', Option.bind (D160 m2 (nI c)) _ = _ ∧ _
        rw [d160 r2 hc, mx_pk h8d hc, p2']
        have hnx : oi (nx (pkS (dl f c (pN f)) c k).1 (f (97 + 5 * c + 0)) (some p) (pN (dl f c (pN f)))) = oi (pkN (dl f c (pN f)) c (pkS (dl f c (pN f)) c (k + 1))) := by
          rw [hS]
          show _ = oi (nx (pk1 (dl f c (pN f)) (pkS (dl f c (pN f)) c k).1 c p) (dl f c (pN f) (97 + 5 * c + 0)) (some p) (pN (dl f c (pN f))))
          rw [nx_pk1, hat]
        show ∃ s', Option.bind (if mx (dl f c (pN f)) c < ld (pkS (dl f c (pN f)) c k).1 (nI c) (pN (dl f c (pN f))) + (pkS (dl f c (pN f)) c k).1 (118 + 6 * p + 2) then _ else Option.bind (D153 m2 (nI p) (nI 4) (nI 1)) _) _ = _ ∧ _
        by_cases w : mx (dl f c (pN f)) c < ld (pkS (dl f c (pN f)) c k).1 (nI c) (pN (dl f c (pN f))) + (pkS (dl f c (pN f)) c k).1 (118 + 6 * p + 2)
        · rw [if_pos w]
          refine ⟨(_, m2), rfl, hnx, c2, ?_⟩
          rw [hS]
          show rI m2 131 = pk1 (dl f c (pN f)) (pkS (dl f c (pN f)) c k).1 c p
          unfold pk1
          rw [if_neg (Int32.not_le.mpr w)]
          exact r2
        · rw [if_neg w, d153 (by omega) (by omega)]
          show ∃ s', Option.bind (Option.bind (D153 (wI m2 131 (118 + 6 * p + 4) (nI 1)) (nI p) (nI 5) (nI c)) _) _ = _ ∧ _
          rw [d153 (by omega) (by omega)]
          refine ⟨(_, wI (wI m2 131 (118 + 6 * p + 4) (nI 1)) 131 (118 + 6 * p + 5) (nI c)), rfl, hnx, chg.wI (chg.wI c2 rfl) rfl, ?_⟩
          rw [hS]
          show rI (wI (wI m2 131 (118 + 6 * p + 4) (nI 1)) 131 (118 + 6 * p + 5) (nI c)) 131 = pk1 (dl f c (pN f)) (pkS (dl f c (pN f)) c k).1 c p
          unfold pk1
          rw [if_pos (Int32.not_lt.mp w), rI_ws, rI_ws, r2]
          rfl
    · rintro ⟨x, m2⟩ ⟨hx, c2, r2⟩
      replace hx : x = oi (pkN (dl f c (pN f)) c (pkS (dl f c (pN f)) c (pN (dl f c (pN f))))) := hx
      rw [pk_end] at hx
      subst hx
      exact ⟨m2, rfl, c2, r2⟩
end TM
/-- an order that is gone -/
def O (f : Nat → Int32) (b : Nat) : Nat → Int32 := upd f (97 + 5 * b + 2) (-1)
section OO
variable {f : Nat → Int32} {b c : Nat}
theorem O_n {x : Nat} (h : x ≠ 97 + 5 * b + 2) : O f b x = f x := upd_n h
theorem O_s : O f b (97 + 5 * b + 2) = -1 := upd_s
theorem pN_O (hb : b < 4) : pN (O f b) = pN f := pN.cg (O_n (by omega))
theorem dc_O (hb : b < 4) {p : Nat} : dcB (O f b) c p = dcB f c p := by
  unfold dcB
  rw [O_n (by omega), O_n (by omega), O_n (by omega), O_n (by omega)]
theorem dl_O (hb : b < 4) : ∀ n, dl (O f b) c n = O (dl f c n) b
  | 0 => rfl
  | n + 1 => by
    rw [dl_1, dl_1, dc_O hb, dl_O hb n, O_n (by omega), O_n (by omega)]
    by_cases q : dcB f c n = true
    · rw [if_pos q, if_pos q]
      unfold O
      rw [upd_cm (show 97 + 5 * b + 2 ≠ 118 + 6 * n + 4 by omega), upd_cm (show 97 + 5 * b + 2 ≠ 170 + c / 2 by omega)]
    · rw [if_neg q, if_neg q]
theorem ky_O (hb : b < 4) : ky (O f b) = ky f := by
  funext p
  unfold ky
  rw [O_n (by omega), O_n (by omega)]
theorem nx_O (hb : b < 4) {j : Int32} {L : Option Nat} {n : Nat} : nx (O f b) j L n = nx f j L n := by
  refine nx_cg n (fun p hp => ?_) (ky_O hb)
  unfold cdB lB
  rw [ky_O hb, O_n (by omega), O_n (by omega)]
theorem ld_O (hb : b < 4) {x : Int32} : ∀ n, ld (O f b) x n = ld f x n
  | 0 => rfl
  | n + 1 => by
    show ld (O f b) x n + _ = ld f x n + _
    rw [ld_O hb n, O_n (by omega), O_n (by omega), O_n (by omega)]
theorem mx_O (hb : b < 4) (hc : c < 4) : mx (O f b) c = mx f c := by
  unfold mx
  rw [O_n (by omega), O_n (by omega)]
theorem pk1_O {h : Nat → Int32} (hb : b < 4) (hc : c < 4) {p : Nat} : pk1 (O f b) (O h b) c p = O (pk1 f h c p) b := by
  unfold pk1
  rw [ld_O hb, mx_O hb hc, pN_O hb, O_n (by omega)]
  by_cases q : ld h (nI c) (pN f) + h (118 + 6 * p + 2) ≤ mx f c
  · rw [if_pos q, if_pos q]
    unfold car O
    rw [upd_cm (show 97 + 5 * b + 2 ≠ 118 + 6 * p + 4 by omega), upd_cm (show 97 + 5 * b + 2 ≠ 118 + 6 * p + 5 by omega)]
  · rw [if_neg q, if_neg q]
theorem pkS_O (hb : b < 4) (hc : c < 4) : ∀ n, pkS (O f b) c n = (O (pkS f c n).1 b, (pkS f c n).2)
  | 0 => rfl
  | n + 1 => by
    have e : pkN (O f b) c (O (pkS f c n).1 b, (pkS f c n).2) = pkN f c (pkS f c n) := by
      unfold pkN
      show nx (O (pkS f c n).1 b) (O f b (97 + 5 * c + 0)) (pkS f c n).2 (pN (O f b)) = _
      rw [nx_O hb, pN_O hb, O_n (by omega)]
    rw [pkS_1, pkS_1, pkS_O hb hc n, e]
    cases q : pkN f c (pkS f c n) with
    | none => rfl
    | some p =>
      show (pk1 (O f b) (O (pkS f c n).1 b) c p, some p) = (O (pk1 f (pkS f c n).1 c p) b, some p)
      rw [pk1_O hb hc]
theorem P2_O (hb : b < 4) (hc : c < 4) : P2 (O f b) c = O (P2 f c) b := by
  unfold P2
  rw [pN_O hb, dl_O hb, pkS_O hb hc, pN_O hb]
theorem P2_P (P : rvP f) (hc : c < 4) : rvP (P2 f c) ∧ pN (P2 f c) = pN f := by
  obtain ⟨h1, h2⟩ := dl_P P hc (Nat.le_refl (pN f))
  obtain ⟨h3, h4⟩ := pkS_P h1 hc (pN (dl f c (pN f)))
  exact ⟨h3, h4.trans h2⟩
theorem O_P (P : rvP f) (hb : b < 4) : rvP (O f b) := P.cg fun x q1 q2 => O_n (by omega)
end OO
/-- the four couriers, one behind the other -/
def P8 (f : Nat → Int32) : Nat → Nat → Int32
  | 0 => f
  | k + 1 => P2 (P8 f k) k
def H8 (f : Nat → Int32) : Nat → Nat → Int32
  | 0 => f
  | k + 1 => O (P2 (H8 f k) k) k
def clr (f : Nat → Int32) : Nat → Int32 := O (O (O (O f 0) 1) 2) 3
theorem H8_clr {f : Nat → Int32} : H8 f 4 = P8 (clr f) 4 := by
  show O (P2 (O (P2 (O (P2 (O (P2 f 0) 0) 1) 1) 2) 2) 3) 3 = P2 (P2 (P2 (P2 (O (O (O (O f 0) 1) 2) 3) 0) 1) 2) 3
  simp (disch := omega) only [P2_O]
theorem H8_P {f : Nat → Int32} (P : rvP f) : ∀ k, k ≤ 4 → rvP (H8 f k)
  | 0, _ => P
  | k + 1, h => O_P (P2_P (H8_P P k (by omega)) (by omega)).1 (by omega)
theorem P8_rv {f : Nat → Int32} (V : rv f) : ∀ k, k ≤ 4 → rv (P8 f k)
  | 0, _ => V
  | k + 1, h => P2_rv (P8_rv V k (by omega)) (by omega)
