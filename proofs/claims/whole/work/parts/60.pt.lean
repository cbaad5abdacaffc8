/-! TEXTS: parts, the check -/
def FN (v1 u w : Int32) (M : dM) (p0 : Int32) : Option (Int32 × dM) := if p0 = (nI 0) then some (nI 1, M) else Option.bind ((if v1 = (nI 115) then some (nI 1) else if v1 = (nI 114) then (D168 M).bind fun (x16 : Int32) => if x16 = (nI 0) then some (nI 1) else some (nI 0) else (D147 M w).bind fun (x17 : Int32) => if x17 = (nI 0) then some (nI 0) else if v1 = (nI 116) then some (nI 1) else (D169 M u w).bind fun (x18 : Int32) => if x18 = (nI 0) then some (nI 1) else some (nI 0)) : Option (Int32)) fun (v15 : Int32) => Option.bind ((if v15 = (nI 0) then some M else Option.bind ((if v1 = (nI 116) then (D177 M w).bind fun (r21 : Int32 × dM) => if r21.1 = (nI 0) then some (nI 0, r21.2) else some (nI 1, r21.2) else some (nI 0, M)) : Option (Int32 × dM)) fun (v20 : Int32 × dM) => Option.bind ((if v1 = (nI 114) then (D176 v20.2).bind fun (r23 : Int32 × dM) => some (r23.1, r23.2) else some (nI 0, v20.2)) : Option (Int32 × dM)) fun (v22 : Int32 × dM) => if v1 = (nI 111) then Option.bind ((if v1 = (nI 111) then some w else some (-1)) : Option (Int32)) fun (v24 : Int32) => (D151 v22.2 u (nI 2) v24).bind fun (r25 : dM) => some r25 else if v1 = (nI 115) then Option.bind ((if v1 = (nI 111) then some w else some (-1)) : Option (Int32)) fun (v26 : Int32) => (D151 v22.2 u (nI 2) v26).bind fun (r27 : dM) => some r27 else some v22.2) : Option (dM)) fun (v19 : dM) => (gB v15).bind fun (b28 : Int32) => some (b28, v19)
def PB (v1 : Int32) (K : dM) (p0 : Int32) : Option (Int32 × dM) := Option.bind ((if v1 = (nI 111) then (D190 K (nI 48) (nI 51)).bind fun (r8 : Int32 × dM) => some (r8.1 - (nI 48), r8.2) else if v1 = (nI 115) then (D190 K (nI 48) (nI 51)).bind fun (r9 : Int32 × dM) => some (r9.1 - (nI 48), r9.2) else some (nI 0, K)) : Option (Int32 × dM)) fun (v7 : Int32 × dM) => Option.bind ((if v1 = (nI 111) then (D190 v7.2 (nI 62) (nI 62)).bind fun (r11 : Int32 × dM) => some (r11.1, r11.2) else some (nI 0, v7.2)) : Option (Int32 × dM)) fun (v10 : Int32 × dM) => Option.bind ((if v1 = (nI 111) then (D191 v10.2).bind fun (r13 : Int32 × dM) => some (r13.1, r13.2) else if v1 = (nI 116) then (D191 v10.2).bind fun (r14 : Int32 × dM) => some (r14.1, r14.2) else some (nI 0, v10.2)) : Option (Int32 × dM)) fun (v12 : Int32 × dM) => FN v1 v7.1 v12.1 v12.2 p0

theorem PB_o {K : dM} {p0 : Int32} : PB (nI 111) K p0 = (D190 K (nI 48) (nI 51)).bind fun (r8 : Int32 × dM) => (D190 r8.2 (nI 62) (nI 62)).bind fun (r11 : Int32 × dM) => (D191 r11.2).bind fun (r13 : Int32 × dM) => FN (nI 111) (r8.1 - nI 48) r13.1 r13.2 p0 := by
  unfold PB
  simp only [if_true, Option.bind_assoc, Option.bind_some, if_pos (rfl : nI 111 = nI 111)]
theorem PB_s {K : dM} {p0 : Int32} : PB (nI 115) K p0 = (D190 K (nI 48) (nI 51)).bind fun (r8 : Int32 × dM) => FN (nI 115) (r8.1 - nI 48) (nI 0) r8.2 p0 := by
  unfold PB
  simp only [Option.bind_assoc, Option.bind_some, if_pos (rfl : nI 115 = nI 115), if_neg (show ¬ nI 115 = nI 111 by decide), if_neg (show ¬ nI 115 = nI 116 by decide), if_true]
theorem PB_t {K : dM} {p0 : Int32} : PB (nI 116) K p0 = (D191 K).bind fun (r13 : Int32 × dM) => FN (nI 116) (nI 0) r13.1 r13.2 p0 := by
  unfold PB
  simp only [Option.bind_assoc, Option.bind_some, if_pos (rfl : nI 116 = nI 116), if_neg (show ¬ nI 116 = nI 111 by decide), if_neg (show ¬ nI 116 = nI 115 by decide), if_true]
theorem PB_r {K : dM} {p0 : Int32} : PB (nI 114) K p0 = FN (nI 114) (nI 0) (nI 0) K p0 := by
  unfold PB
  simp only [Option.bind_some, if_neg (show ¬ nI 114 = nI 111 by decide), if_neg (show ¬ nI 114 = nI 115 by decide), if_neg (show ¬ nI 114 = nI 116 by decide)]
theorem FN_0 {v1 u w : Int32} {M : dM} : FN v1 u w M (nI 0) = some (nI 1, M) := if_pos rfl
/-- a part of a text: from where to where, of which kind, with which courier and street -/
def Prt (cs : Nat → Int32) (L k e kd co st : Nat) : Prop := k < L ∧ cs k = nI kd ∧ ((kd = 111 ∧ co < 4 ∧ k + 1 < L ∧ cs (k + 1) = nI (48 + co) ∧ k + 2 < L ∧ cs (k + 2) = nI 62 ∧ Num cs L (k + 3) e st) ∨ (kd = 115 ∧ co < 4 ∧ k + 1 < L ∧ cs (k + 1) = nI (48 + co) ∧ e = k + 2) ∨ (kd = 116 ∧ Num cs L (k + 1) e st) ∨ (kd = 114 ∧ e = k + 1))
/-- behind a part -/
def Bhd (cs : Nat → Int32) (L k e : Nat) : Prop := k < e ∧ e ≤ L ∧ fn (sT cs e) ∧ (e < L → sT cs (e + 1) = if cs e = nI 59 then 0 else 8) ∧ ∀ j, k ≤ j → j < e → cs j ≠ nI 59
def Er (cs : Nat → Int32) (L e : Nat) : Prop := Eix cs L e ∧ ¬ fn (sT cs L)
section PT
variable {m : dM} {cs : Nat → Int32} {L k e : Nat}
theorem er_of (h1 : e ≤ L) (h2 : sT cs e ≠ 8) (h3 : ¬ fn (sT cs e)) (h4 : e < L → sT cs (e + 1) = 8) : Er cs L e := by
  refine ⟨⟨h1, h2, h4⟩, fun z => ?_⟩
  by_cases q : e < L
  · have := sT_8' (h4 q) (show e + 1 ≤ L by omega)
    rw [this] at z
    unfold fn at z
    omega
  · have : e = L := by omega
    rw [this] at h3
    exact h3 z
theorem dgB_n {d h : Nat} (hd : d < 52) (hh : h < 100) : dgB (nI (48 + d)) h = decide (48 + d ≤ h) := by
  unfold dgB
  rw [decide_eq_decide]
  constructor
  · intro z
    by_cases q : 48 + d ≤ h
    · exact q
    · exact absurd z.2 (nI_ge (by omega) (by omega))
  · intro z
    exact ⟨nI_le (by omega) (by omega), nI_le z (by omega)⟩
theorem dgB_y {c : Int32} {h : Nat} (hh : h < 100) (h48 : 48 ≤ h) (q : dgB c h = true) : ∃ d, d ≤ h - 48 ∧ c = nI (48 + d) := by
  unfold dgB at q
  rw [decide_eq_true_eq] at q
  rcases dg_or c hh h48 with z | z
  · exact z
  · exact absurd q z
theorem ne59 {d : Nat} (hd : d < 10) : nI (48 + d) ≠ nI 59 := fun z => by
  have := (nI_eq (by omega) (by omega)).mp z
  omega
theorem num_b {v : Nat} (h : Num cs L k e v) (h3 : sT cs k = 3) : Bhd cs L k e := by
  obtain ⟨kL, d, hd, ed, h⟩ := h
  have s1 : sT cs (k + 1) = if d = 1 then 4 else if d = 2 then 5 else 6 := by
    show t15 (sT cs k) (cs k) = _
    rw [h3, ed]
    show (if nI (48 + d) = nI 49 then 4 else if nI (48 + d) = nI 50 then 5 else if dgB (nI (48 + d)) 57 = true then 6 else 8) = _
    rw [dgB_n (by omega) (by omega), decide_eq_true (show 48 + d ≤ 57 by omega), if_pos rfl]
    by_cases q1 : d = 1
    · rw [if_pos q1, q1, if_pos rfl]
    · rw [if_neg q1, if_neg (fun z => q1 (by have := (nI_eq (by omega) (by omega)).mp z; omega))]
      by_cases q2 : d = 2
      · rw [if_pos q2, q2, if_pos rfl]
      · rw [if_neg q2, if_neg (fun z => q2 (by have := (nI_eq (by omega) (by omega)).mp z; omega))]
  rcases h with ⟨he, -, hn⟩ | ⟨k1, d2, hd2, ed2, d0, h24, he, -⟩
  · subst he
    refine ⟨by omega, by omega, ?_, fun q => ?_, fun j h1 h2 => ?_⟩
    · rw [s1]
      unfold fn
      split
      · exact .inl rfl
      · split
        · exact .inr (.inl rfl)
        · exact .inr (.inr rfl)
    · show t15 (sT cs (k + 1)) (cs (k + 1)) = _
      rw [s1]
      by_cases q1 : d = 1
      · rw [if_pos q1]
        show (if dgB (cs (k + 1)) 57 = true then 6 else if cs (k + 1) = nI 59 then 0 else 8) = _
        rw [if_neg]
        intro z
        obtain ⟨d2, y1, y2⟩ := dgB_y (by omega) (by omega) z
        have := hn q d2 (by omega) y2
        omega
      · rw [if_neg q1]
        by_cases q2 : d = 2
        · rw [if_pos q2]
          show (if dgB (cs (k + 1)) 51 = true then 6 else if cs (k + 1) = nI 59 then 0 else 8) = _
          rw [if_neg]
          intro z
          obtain ⟨d2, y1, y2⟩ := dgB_y (by omega) (by omega) z
          have := hn q d2 (by omega) y2
          omega
        · rw [if_neg q2]
          rfl
    · rw [show j = k by omega, ed]
      exact ne59 hd
  · subst he
    have s2 : sT cs (k + 2) = 6 := by
      show t15 (sT cs (k + 1)) (cs (k + 1)) = 6
      rw [s1, ed2]
      by_cases q1 : d = 1
      · rw [if_pos q1]
        show (if dgB (nI (48 + d2)) 57 = true then 6 else _) = 6
        rw [dgB_n (by omega) (by omega), decide_eq_true (show 48 + d2 ≤ 57 by omega), if_pos rfl]
      · have q2 : d = 2 := by omega
        rw [if_neg q1, if_pos q2]
        show (if dgB (nI (48 + d2)) 51 = true then 6 else _) = 6
        rw [dgB_n (by omega) (by omega), decide_eq_true (show 48 + d2 ≤ 51 by omega), if_pos rfl]
    refine ⟨by omega, by omega, ?_, fun q => ?_, fun j h1 h2 => ?_⟩
    · rw [s2]; exact .inr (.inr rfl)
    · show t15 (sT cs (k + 2)) (cs (k + 2)) = _
      rw [s2]
      rfl
    · by_cases z : j = k
      · rw [z, ed]; exact ne59 hd
      · rw [show j = k + 1 by omega, ed2]; exact ne59 hd2
theorem prt_b {kd co st : Nat} (h : Prt cs L k e kd co st) (h0 : sT cs k = 0) : Bhd cs L k e := by
  obtain ⟨kL, ek, h⟩ := h
  rcases h with ⟨rfl, hc, k1, e1, k2, e2, hn⟩ | ⟨rfl, hc, k1, e1, he⟩ | ⟨rfl, hn⟩ | ⟨rfl, he⟩
  · have s1 : sT cs (k + 1) = 1 := by
      show t15 (sT cs k) (cs k) = 1
      rw [h0, ek]; rfl
    have s2 : sT cs (k + 2) = 2 := by
      show t15 (sT cs (k + 1)) (cs (k + 1)) = 2
      rw [s1, e1]
      show (if dgB (nI (48 + co)) 51 = true then 2 else 8) = 2
      rw [dgB_n (by omega) (by omega), decide_eq_true (show 48 + co ≤ 51 by omega), if_pos rfl]
    have s3 : sT cs (k + 3) = 3 := by
      show t15 (sT cs (k + 2)) (cs (k + 2)) = 3
      rw [s2, e2]; rfl
    obtain ⟨b1, b2, b3, b4, b5⟩ := num_b hn s3
    refine ⟨by omega, b2, b3, b4, fun j h1 h2 => ?_⟩
    by_cases z : j = k
    · rw [z, ek]; decide
    · by_cases z1 : j = k + 1
      · rw [z1, e1]; exact ne59 (by omega)
      · by_cases z2 : j = k + 2
        · rw [z2, e2]; decide
        · exact b5 j (by omega) h2
  · subst he
    have s1 : sT cs (k + 1) = 7 := by
      show t15 (sT cs k) (cs k) = 7
      rw [h0, ek]; rfl
    have s2 : sT cs (k + 2) = 6 := by
      show t15 (sT cs (k + 1)) (cs (k + 1)) = 6
      rw [s1, e1]
      show (if dgB (nI (48 + co)) 51 = true then 6 else 8) = 6
      rw [dgB_n (by omega) (by omega), decide_eq_true (show 48 + co ≤ 51 by omega), if_pos rfl]
    refine ⟨by omega, by omega, ?_, fun q => ?_, fun j h1 h2 => ?_⟩
    · rw [s2]; exact .inr (.inr rfl)
    · show t15 (sT cs (k + 2)) (cs (k + 2)) = _
      rw [s2]; rfl
    · by_cases z : j = k
      · rw [z, ek]; decide
      · rw [show j = k + 1 by omega, e1]; exact ne59 (by omega)
  · have s1 : sT cs (k + 1) = 3 := by
      show t15 (sT cs k) (cs k) = 3
      rw [h0, ek]; rfl
    obtain ⟨b1, b2, b3, b4, b5⟩ := num_b hn s1
    refine ⟨by omega, b2, b3, b4, fun j h1 h2 => ?_⟩
    by_cases z : j = k
    · rw [z, ek]; decide
    · exact b5 j (by omega) h2
  · subst he
    have s1 : sT cs (k + 1) = 6 := by
      show t15 (sT cs k) (cs k) = 6
      rw [h0, ek]; rfl
    refine ⟨by omega, by omega, ?_, fun q => ?_, fun j h1 h2 => ?_⟩
    · rw [s1]; exact .inr (.inr rfl)
    · show t15 (sT cs (k + 1)) (cs (k + 1)) = _
      rw [s1]; rfl
    · rw [show j = k by omega, ek]; decide
theorem q192 (hB : BM m L cs) (l60 : L ≤ 60) (hk : k ≤ L) (hA : AT m k 0) {p0 : Int32} : D192 m p0 = if chr cs L k = nI 111 ∨ chr cs L k = nI 115 ∨ chr cs L k = nI 116 ∨ chr cs L k = nI 114 then PB (chr cs L k) (kR m (k + 1) 0) p0 else some (nI 1, kR m k 1) := by
  unfold D192
  obtain ⟨h10, h11⟩ := hA
  rw [rd_c hB l60 hk h10, Option.bind_some, if_pos h11]
  by_cases q : chr cs L k = nI 111 ∨ chr cs L k = nI 115 ∨ chr cs L k = nI 116 ∨ chr cs L k = nI 114
  · have e3 : (if chr cs L k = (nI 111) then some (nI 0) else if chr cs L k = (nI 115) then some (nI 0) else if chr cs L k = (nI 116) then some (nI 0) else if chr cs L k = (nI 114) then some (nI 0) else some (nI 1)) = some (nI 0) := by
      by_cases a : chr cs L k = nI 111
      · rw [if_pos a]
      · rw [if_neg a]
        by_cases b : chr cs L k = nI 115
        · rw [if_pos b]
        · rw [if_neg b]
          by_cases c : chr cs L k = nI 116
          · rw [if_pos c]
          · rw [if_neg c, if_pos (((q.resolve_left a).resolve_left b).resolve_left c)]
    rw [if_pos q, e3, Option.bind_some, gB_0, Option.bind_some, fI_e, Option.bind_some, rI_ws, upd_s, if_pos rfl, Option.bind_some, fI_e, Option.bind_some, upd_n (by decide), h10, nI_add]
    have e11 : rI (wI (wI m 130 11 (nI 0)) 130 10 (nI (k + 1))) 130 11 = nI 0 := (kR_q (m := m) (k := k + 1) (w := 0)).2.2
    rw [if_pos e11]
    rfl
  · have e3 : (if chr cs L k = (nI 111) then some (nI 0) else if chr cs L k = (nI 115) then some (nI 0) else if chr cs L k = (nI 116) then some (nI 0) else if chr cs L k = (nI 114) then some (nI 0) else some (nI 1)) = some (nI 1) := by
      rw [if_neg (fun z => q (.inl z)), if_neg (fun z => q (.inr (.inl z))), if_neg (fun z => q (.inr (.inr (.inl z)))), if_neg (fun z => q (.inr (.inr (.inr z))))]
    rw [if_neg q, e3, Option.bind_some, gB_1, Option.bind_some, fI_e, Option.bind_some, rI_ws, upd_s, if_neg (by decide), Option.bind_some, fI_e, Option.bind_some, upd_n (by decide), h10, nI_add]
    have e11 : rI (wI (wI m 130 11 (nI 1)) 130 10 (nI (k + 0))) 130 11 = nI 1 := (kR_q (m := m) (k := k + 0) (w := 1)).2.2
    rw [if_neg (by rw [e11]; decide)]
    rfl
theorem chr_y {d : Nat} (hd : 0 < d) (hd2 : d < 200) (h : chr cs L k = nI d) : k < L ∧ cs k = nI d := by
  unfold chr at h
  by_cases q : k < L
  · rw [if_pos q] at h
    exact ⟨q, h⟩
  · rw [if_neg q] at h
    have := (nI_eq (by omega) (by omega)).mp h
    omega
/-- one part is read -/
theorem q192p (hB : BM m L cs) (l60 : L ≤ 60) (hk : k ≤ L) (hA : AT m k 0) (h0 : sT cs k = 0) : (∃ e kd co st, Prt cs L k e kd co st ∧ ∃ u w m', (∀ p0, D192 m p0 = FN (nI kd) u w m' p0) ∧ tmq m m' ∧ AT m' e 0 ∧ (kd = 111 → u = nI co ∧ w = nI st) ∧ (kd = 115 → u = nI co) ∧ (kd = 116 → w = nI st)) ∨ (∃ e, Er cs L e ∧ ∃ m', D192 m (nI 0) = some (nI 1, m') ∧ tmq m m' ∧ AT m' e 1) := by
  have hD := fun p0 => q192 hB l60 hk hA (p0 := p0)
  have s0 : k < L → sT cs (k + 1) = t15 0 (cs k) := fun _ => by
    show t15 (sT cs k) (cs k) = _
    rw [h0]
  obtain ⟨zK, aK⟩ := kR_q (m := m) (k := k + 1) (w := 0)
  have hBK := zK.B hB
  have csub : ∀ d, d < 10 → nI (48 + d) - nI 48 = nI d := fun d hd => by rw [nI_sub (by omega), show 48 + d - 48 = d by omega]
  by_cases q : chr cs L k = nI 111 ∨ chr cs L k = nI 115 ∨ chr cs L k = nI 116 ∨ chr cs L k = nI 114
  · simp only [if_pos q] at hD
    generalize kR m (k + 1) 0 = K at hD zK aK hBK
    rcases q with q | q | q | q
    · -- an order
      obtain ⟨kL, ek⟩ := chr_y (by omega) (by omega) q
      have s1 : sT cs (k + 1) = 1 := by rw [s0 kL, ek]; rfl
      simp only [q, PB_o, q190 hBK l60 (show k + 1 ≤ L by omega) aK, Option.bind_some] at hD
      by_cases y : nI 48 ≤ chr cs L (k + 1) ∧ chr cs L (k + 1) ≤ nI 51
      · obtain ⟨k1, ec⟩ := chr_n (by omega) (by omega) y
        rcases dg_or (chr cs L (k + 1)) (h := 51) (by omega) (by omega) with ⟨a, ha, ea⟩ | z
        · have ea' : cs (k + 1) = nI (48 + a) := ec.symm.trans ea
          have s2 : sT cs (k + 2) = 2 := by
            show t15 (sT cs (k + 1)) (cs (k + 1)) = 2
            rw [s1, ea']
            show (if dgB (nI (48 + a)) 51 = true then 2 else 8) = 2
            rw [dgB_n (by omega) (by omega), decide_eq_true (show 48 + a ≤ 51 by omega), if_pos rfl]
          simp only [if_pos y] at hD
          obtain ⟨zK2, aK2⟩ := kR_q (m := K) (k := k + 1 + 1) (w := 0)
          have hBK2 := zK2.B hBK
          generalize kR K (k + 1 + 1) 0 = K2 at hD zK2 aK2 hBK2
          simp only [q190 hBK2 l60 (show k + 1 + 1 ≤ L by omega) aK2, Option.bind_some, ea, csub a (by omega)] at hD
          by_cases y2 : nI 62 ≤ chr cs L (k + 1 + 1) ∧ chr cs L (k + 1 + 1) ≤ nI 62
          · obtain ⟨k2, ec2⟩ := chr_n (by omega) (by omega) y2
            have e62 : cs (k + 2) = nI 62 := (ec2.symm.trans (Int32.le_antisymm y2.2 y2.1))
            have s3 : sT cs (k + 3) = 3 := by
              show t15 (sT cs (k + 2)) (cs (k + 2)) = 3
              rw [s2, e62]; rfl
            simp only [if_pos y2] at hD
            obtain ⟨zK3, aK3⟩ := kR_q (m := K2) (k := k + 1 + 1 + 1) (w := 0)
            have hBK3 := zK3.B hBK2
            generalize kR K2 (k + 1 + 1 + 1) 0 = K3 at hD zK3 aK3 hBK3
            rcases q191 hBK3 l60 (show k + 3 ≤ L by omega) aK3 with ⟨e, v, m', hn, e5, t5, a5⟩ | ⟨hno, v, m', e5, t5, a5⟩
            · left
              refine ⟨e, 111, a, v, ⟨kL, ek, .inl ⟨rfl, by omega, k1, ea', k2, e62, hn⟩⟩, nI a, nI v, m', fun p0 => ?_, ((zK.tr zK2).tr zK3).tr t5, a5, fun _ => ⟨rfl, rfl⟩, fun z => by omega, fun z => by omega⟩
              rw [hD p0, e5]
              rfl
            · right
              refine ⟨k + 3, er_of (by omega) (by rw [s3]; omega) (by rw [s3]; unfold fn; omega) (fun z => ?_), m', ?_, ((zK.tr zK2).tr zK3).tr t5, a5⟩
              · show t15 (sT cs (k + 3)) (cs (k + 3)) = 8
                rw [s3]
                have hn := hno z
                show (if cs (k + 3) = nI 49 then 4 else if cs (k + 3) = nI 50 then 5 else if dgB (cs (k + 3)) 57 = true then 6 else 8) = 8
                rw [if_neg (fun y => hn (by rw [y]; exact ⟨by decide, by decide⟩)), if_neg (fun y => hn (by rw [y]; exact ⟨by decide, by decide⟩)), if_neg (fun y => hn (by unfold dgB at y; rw [decide_eq_true_eq] at y; exact y))]
              · rw [hD (nI 0), e5]
                rfl
          · right
            simp only [if_neg y2] at hD
            obtain ⟨zK3, aK3⟩ := kR_q (m := K2) (k := k + 1 + 1) (w := 1)
            generalize kR K2 (k + 1 + 1) 1 = K3 at hD zK3 aK3
            obtain ⟨v, m', e5, t5, a5⟩ := q191w aK3
            refine ⟨k + 2, er_of (by omega) (by rw [s2]; omega) (by rw [s2]; unfold fn; omega) (fun z => ?_), m', ?_, ((zK.tr zK2).tr zK3).tr t5, a5⟩
            · show t15 (sT cs (k + 2)) (cs (k + 2)) = 8
              rw [s2]
              show (if cs (k + 2) = nI 62 then 3 else 8) = 8
              rw [if_neg (fun w => y2 (by unfold chr; rw [if_pos z, w]; exact ⟨by decide, by decide⟩))]
            · rw [hD (nI 0), e5]
              rfl
        · exact absurd y z
      · right
        simp only [if_neg y] at hD
        obtain ⟨zK2, aK2⟩ := kR_q (m := K) (k := k + 1) (w := 1)
        generalize kR K (k + 1) 1 = K2 at hD zK2 aK2
        simp only [q190w aK2, Option.bind_some] at hD
        obtain ⟨zK3, aK3⟩ := kR_q (m := K2) (k := k + 1) (w := 1)
        generalize kR K2 (k + 1) 1 = K3 at hD zK3 aK3
        obtain ⟨v, m', e5, t5, a5⟩ := q191w aK3
        refine ⟨k + 1, er_of (by omega) (by rw [s1]; omega) (by rw [s1]; unfold fn; omega) (fun z => ?_), m', ?_, ((zK.tr zK2).tr zK3).tr t5, a5⟩
        · show t15 (sT cs (k + 1)) (cs (k + 1)) = 8
          rw [s1]
          show (if dgB (cs (k + 1)) 51 = true then 2 else 8) = 8
          rw [if_neg (fun w => y (by unfold dgB at w; rw [decide_eq_true_eq] at w; unfold chr; rw [if_pos z]; exact w))]
        · rw [hD (nI 0), e5]
          rfl
    · obtain ⟨kL, ek⟩ := chr_y (by omega) (by omega) q
      have s1 : sT cs (k + 1) = 7 := by rw [s0 kL, ek]; rfl
      simp only [q, PB_s, q190 hBK l60 (show k + 1 ≤ L by omega) aK, Option.bind_some] at hD
      by_cases y : nI 48 ≤ chr cs L (k + 1) ∧ chr cs L (k + 1) ≤ nI 51
      · obtain ⟨k1, ec⟩ := chr_n (by omega) (by omega) y
        rcases dg_or (chr cs L (k + 1)) (h := 51) (by omega) (by omega) with ⟨a, ha, ea⟩ | z
        · have ea' : cs (k + 1) = nI (48 + a) := ec.symm.trans ea
          simp only [if_pos y] at hD
          simp only [ea, csub a (by omega)] at hD
          obtain ⟨zK2, aK2⟩ := kR_q (m := K) (k := k + 1 + 1) (w := 0)
          generalize kR K (k + 1 + 1) 0 = K2 at hD zK2 aK2
          left
          exact ⟨k + 2, 115, a, 0, ⟨kL, ek, .inr (.inl ⟨rfl, by omega, k1, ea', rfl⟩)⟩, nI a, nI 0, K2, fun p0 => hD p0, zK.tr zK2, aK2, fun z => by omega, fun _ => rfl, fun z => by omega⟩
        · exact absurd y z
      · right
        simp only [if_neg y] at hD
        obtain ⟨zK2, aK2⟩ := kR_q (m := K) (k := k + 1) (w := 1)
        generalize kR K (k + 1) 1 = K2 at hD zK2 aK2
        refine ⟨k + 1, er_of (by omega) (by rw [s1]; omega) (by rw [s1]; unfold fn; omega) (fun z => ?_), K2, ?_, zK.tr zK2, aK2⟩
        · show t15 (sT cs (k + 1)) (cs (k + 1)) = 8
          rw [s1]
          show (if dgB (cs (k + 1)) 51 = true then 6 else 8) = 8
          rw [if_neg (fun w => y (by unfold dgB at w; rw [decide_eq_true_eq] at w; unfold chr; rw [if_pos z]; exact w))]
        · rw [hD (nI 0)]
          rfl
    · obtain ⟨kL, ek⟩ := chr_y (by omega) (by omega) q
      have s1 : sT cs (k + 1) = 3 := by rw [s0 kL, ek]; rfl
      simp only [q, PB_t] at hD
      rcases q191 hBK l60 (show k + 1 ≤ L by omega) aK with ⟨e, v, m', hn, e5, t5, a5⟩ | ⟨hno, v, m', e5, t5, a5⟩
      · left
        refine ⟨e, 116, 0, v, ⟨kL, ek, .inr (.inr (.inl ⟨rfl, hn⟩))⟩, nI 0, nI v, m', fun p0 => ?_, zK.tr t5, a5, fun z => by omega, fun z => by omega, fun _ => rfl⟩
        rw [hD p0, e5]
        rfl
      · right
        refine ⟨k + 1, er_of (by omega) (by rw [s1]; omega) (by rw [s1]; unfold fn; omega) (fun z => ?_), m', ?_, zK.tr t5, a5⟩
        · show t15 (sT cs (k + 1)) (cs (k + 1)) = 8
          rw [s1]
          have hn := hno z
          show (if cs (k + 1) = nI 49 then 4 else if cs (k + 1) = nI 50 then 5 else if dgB (cs (k + 1)) 57 = true then 6 else 8) = 8
          rw [if_neg (fun y => hn (by rw [y]; exact ⟨by decide, by decide⟩)), if_neg (fun y => hn (by rw [y]; exact ⟨by decide, by decide⟩)), if_neg (fun y => hn (by unfold dgB at y; rw [decide_eq_true_eq] at y; exact y))]
        · rw [hD (nI 0), e5]
          rfl
    · obtain ⟨kL, ek⟩ := chr_y (by omega) (by omega) q
      simp only [q, PB_r] at hD
      left
      exact ⟨k + 1, 114, 0, 0, ⟨kL, ek, .inr (.inr (.inr ⟨rfl, rfl⟩))⟩, nI 0, nI 0, K, hD, zK, aK, fun z => by omega, fun z => by omega, fun z => by omega⟩
  · right
    simp only [if_neg q] at hD
    obtain ⟨zK2, aK2⟩ := kR_q (m := m) (k := k) (w := 1)
    refine ⟨k, er_of hk (by rw [h0]; omega) (by rw [h0]; unfold fn; omega) (fun z => ?_), _, hD (nI 0), zK2, aK2⟩
    rw [s0 z]
    have ec : chr cs L k = cs k := by unfold chr; rw [if_pos z]
    rw [ec] at q
    show (if cs k = nI 111 then 1 else if cs k = nI 115 then 7 else if cs k = nI 116 then 3 else if cs k = nI 114 then 6 else 8) = 8
    rw [if_neg (fun y => q (.inl y)), if_neg (fun y => q (.inr (.inl y))), if_neg (fun y => q (.inr (.inr (.inl y)))), if_neg (fun y => q (.inr (.inr (.inr y))))]
/-- the whole text is checked -/
theorem q193 (hB : BM m L cs) (l60 : L ≤ 60) : ∃ n m', D193 m (nI 0) = some (n, m') ∧ tmq m m' ∧ ((fn (sT cs L) ∧ ∃ e, AT m' e 0) ∨ ∃ e, AT m' e 1 ∧ Er cs L e) := by
  unfold D193
  have a0 : AT (wI (wI m 130 10 (nI 0)) 130 11 (nI 0)) 0 0 := ⟨by rw [rI_ws, upd_n (by decide), rI_ws, upd_s], by rw [rI_ws, upd_s]⟩
  have t0 : tmq m (wI (wI m 130 10 (nI 0)) 130 11 (nI 0)) := ⟨chg.wI (chg.wI chg.rf rfl) rfl, fun j q1 q2 => by rw [rI_ws, upd_n q2, rI_ws, upd_n q1]⟩
  rw [fI_e, Option.bind_some, fI_e, Option.bind_some]
  generalize wI (wI m 130 10 (nI 0)) 130 11 (nI 0) = M at a0 t0
  have k := lp_inv (F := 3000) (s0 := (nI 0, nI 1, M)) (f := fun (s3 : Int32 × Int32 × dM) => if s3.2.1 = (nI 0) then some (Sum.inr (α := Int32 × Int32 × dM) (s3.1, s3.2.2)) else (D192 s3.2.2 (nI 0)).bind fun (r4 : Int32 × dM) => if r4.1 = (nI 0) then (sI r4.2 131 299 (nI 172) (nI 1)).bind fun (m5 : dM) => (sI m5 131 299 (nI 173) s3.1).bind fun (m6 : dM) => some (.inr (s3.1, m6)) else Option.bind ((if (rI r4.2 130 11) = (nI 0) then if (rI r4.2 130 6) ≤ (rI r4.2 130 10) then some (nI 0) else some (nI 1) else some (nI 0)) : Option (Int32)) fun (v7 : Int32) => if v7 = (nI 0) then some (.inl (s3.1 + (nI 1), v7, r4.2)) else (D190 r4.2 (nI 59) (nI 59)).bind fun (r8 : Int32 × dM) => Option.bind ((if (rI r8.2 130 11) = (nI 0) then some (nI 1) else some (nI 0)) : Option (Int32)) fun (v9 : Int32) => some (.inl (s3.1 + (nI 1), v9, r8.2)))
    (fun i s => tmq m s.2.2 ∧ ((s.2.1 = nI 1 ∧ ∃ k, i ≤ k ∧ k ≤ L ∧ sT cs k = 0 ∧ AT s.2.2 k 0) ∨ (s.2.1 = nI 0 ∧ ((fn (sT cs L) ∧ ∃ e, AT s.2.2 e 0) ∨ ∃ e, AT s.2.2 e 1 ∧ Er cs L e))))
    (fun r => tmq m r.2 ∧ ((fn (sT cs L) ∧ ∃ e, AT r.2 e 0) ∨ ∃ e, AT r.2 e 1 ∧ Er cs L e)) (L + 2) (by omega) ⟨t0, .inl ⟨rfl, 0, Nat.le_refl _, Nat.zero_le _, rfl, a0⟩⟩ ?_ ?_
  · obtain ⟨⟨n, m'⟩, e, t, h⟩ := k
    exact ⟨n, m', e, t, h⟩
  · rintro i ⟨n, y, m1⟩ hi ⟨t1, ⟨hy, k, k1, k2, k3, k4⟩ | ⟨hy, h⟩⟩
    · replace hy : y = nI 1 := hy
      replace t1 : tmq m m1 := t1
      replace k4 : AT m1 k 0 := k4
      subst hy
      have hB1 := t1.B hB
      refine .inl ?_
      dsimp only
      rw [if_neg (show ¬ nI 1 = nI 0 by decide)]
      rcases q192p hB1 l60 k2 k4 k3 with ⟨e, kd, co, st, hp, u, w, m', e5, t5, a5, -⟩ | ⟨e, her, m', e5, t5, a5⟩
      · rw [e5, FN_0]
        obtain ⟨b1, b2, b3, b4, b5⟩ := prt_b hp k3
        have hB2 := t5.B hB1
        rw [Option.bind_some]
        dsimp only
        rw [if_neg (show ¬ nI 1 = nI 0 by decide), a5.2, if_pos rfl, hB2.1, a5.1]
        by_cases q : e < L
        · rw [if_neg (nI_ge q (by omega)), Option.bind_some, if_neg (by decide), q190 hB2 l60 b2 a5, Option.bind_some]
          have ec : chr cs L e = cs e := by unfold chr; rw [if_pos q]
          rw [ec]
          by_cases w59 : nI 59 ≤ cs e ∧ cs e ≤ nI 59
          · have c59 : cs e = nI 59 := Int32.le_antisymm w59.2 w59.1
            have s59 := b4 q
            rw [if_pos c59] at s59
            rw [if_pos w59]
            obtain ⟨z1, z2⟩ := kR_q (m := m') (k := e + 1) (w := 0)
            generalize kR m' (e + 1) 0 = K at z1 z2
            dsimp only
            rw [z2.2, if_pos rfl]
            exact ⟨(n + nI 1, nI 1, K), rfl, (t1.tr t5).tr z1, .inl ⟨rfl, e + 1, by omega, by omega, s59, z2⟩⟩
          · have c59 : cs e ≠ nI 59 := fun z => w59 (by rw [z]; exact ⟨by decide, by decide⟩)
            have s59 := b4 q
            rw [if_neg c59] at s59
            rw [if_neg w59]
            obtain ⟨z1, z2⟩ := kR_q (m := m') (k := e) (w := 1)
            generalize kR m' e 1 = K at z1 z2
            dsimp only
            rw [z2.2, if_neg (show ¬ nI 1 = nI 0 by decide)]
            refine ⟨(n + nI 1, nI 0, K), rfl, (t1.tr t5).tr z1, .inr ⟨rfl, .inr ⟨e, z2, ⟨b2, ?_, fun _ => s59⟩, ?_⟩⟩⟩
            · unfold fn at b3; omega
            · rw [sT_8' s59 (show e + 1 ≤ L by omega)]
              unfold fn; omega
        · have eL : e = L := by omega
          rw [if_pos (nI_le (by omega) (by omega)), Option.bind_some, if_pos rfl]
          exact ⟨(n + nI 1, nI 0, m'), rfl, t1.tr t5, .inr ⟨rfl, .inl ⟨by rw [← eL]; exact b3, e, a5⟩⟩⟩
      · rw [e5]
        rw [Option.bind_some]
        dsimp only
        rw [if_neg (show ¬ nI 1 = nI 0 by decide), a5.2, if_neg (show ¬ nI 1 = nI 0 by decide), Option.bind_some, if_pos rfl]
        exact ⟨(n + nI 1, nI 0, m'), rfl, t1.tr t5, .inr ⟨rfl, .inr ⟨e, a5, her⟩⟩⟩
    · replace hy : y = nI 0 := hy
      subst hy
      exact .inr ⟨(n, m1), rfl, t1, h⟩
  · rintro ⟨n, y, m1⟩ ⟨t1, ⟨hy, k, k1, k2, -⟩ | ⟨hy, h⟩⟩
    · omega
    · replace hy : y = nI 0 := hy
      subst hy
      exact ⟨(n, m1), rfl, t1, h⟩
end PT
