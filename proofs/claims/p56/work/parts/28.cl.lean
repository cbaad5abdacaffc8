/-! THE CLASS'S STATES AND SMALL METHODS. (The family 'Int32 by its bits' is pasted from the kit's laws.) -/
def bt (x : Int32) (i : Nat) : Bool := x.toBitVec.getLsbD i
theorem b_ext {x y : Int32} (h : ∀ i, i < 32 → bt x i = bt y i) : x = y := Int32.toBitVec_inj.mp (BitVec.eq_of_getLsbD_eq (fun i hi => h i hi))
theorem b_or (x y : Int32) (i : Nat) : bt (x ||| y) i = (bt x i || bt y i) := by unfold bt; rw [Int32.toBitVec_or, BitVec.getLsbD_or]
theorem b_and (x y : Int32) (i : Nat) : bt (x &&& y) i = (bt x i && bt y i) := by unfold bt; rw [Int32.toBitVec_and, BitVec.getLsbD_and]
theorem b_xor (x y : Int32) (i : Nat) : bt (x ^^^ y) i = (bt x i ^^ bt y i) := by unfold bt; rw [Int32.toBitVec_xor, BitVec.getLsbD_xor]
theorem b_big {x : Int32} {i : Nat} (h : 32 ≤ i) : bt x i = false := BitVec.getLsbD_of_ge _ _ h
theorem b_255 (i : Nat) : bt 255 i = decide (i < 8) := by
  rcases Nat.lt_or_ge i 32 with h | h
  · exact (by decide +kernel : ∀ i, i < 32 → bt 255 i = decide (i < 8)) i h
  · rw [b_big h, decide_eq_false (by omega)]
theorem b_65535 (i : Nat) : bt 65535 i = decide (i < 16) := by
  rcases Nat.lt_or_ge i 32 with h | h
  · exact (by decide +kernel : ∀ i, i < 32 → bt 65535 i = decide (i < 16)) i h
  · rw [b_big h, decide_eq_false (by omega)]
theorem b_m1 : ∀ i, i < 32 → bt (-1) i = true := by decide +kernel
theorem b_0 (i : Nat) : bt 0 i = false := BitVec.getLsbD_zero
theorem s_l : ∀ n, n < 32 → ((nI n &&& 31).toBitVec.smod 32).toNat = n := by decide +kernel
theorem s_u : ∀ n, n < 32 → (((nI n).toUInt32 &&& Int32.toUInt32 31).toBitVec % 32).toNat = n := by decide +kernel
theorem b_shl (n : Nat) (hn : n < 32) (x : Int32) {i : Nat} (hi : i < 32) : bt (x <<< (nI n &&& 31)) i = (decide (n ≤ i) && bt x (i - n)) := by
  unfold bt
  rw [Int32.toBitVec_shiftLeft]
  show (x.toBitVec <<< ((nI n &&& 31).toBitVec.smod 32).toNat).getLsbD i = _
  rw [s_l n hn, BitVec.getLsbD_shiftLeft]
  rcases Nat.lt_or_ge i n with h | h
  · simp [h, Nat.not_le.mpr h]
  · simp [hi, h, Nat.not_lt.mpr h]
theorem b_ushr (n : Nat) (hn : n < 32) (x : Int32) (i : Nat) : bt ((x.toUInt32 >>> ((nI n).toUInt32 &&& Int32.toUInt32 31)).toInt32) i = bt x (n + i) := by
  show (x.toUInt32 >>> ((nI n).toUInt32 &&& Int32.toUInt32 31)).toBitVec.getLsbD i = x.toUInt32.toBitVec.getLsbD (n + i)
  rw [UInt32.toBitVec_shiftRight]
  show (x.toUInt32.toBitVec >>> (((nI n).toUInt32 &&& Int32.toUInt32 31).toBitVec % 32).toNat).getLsbD i = _
  rw [s_u n hn, BitVec.getLsbD_ushiftRight]
theorem b_sshr (n : Nat) (hn : n < 32) (x : Int32) {i : Nat} (hi : i < 32) : bt (x >>> (nI n &&& 31)) i = if n + i < 32 then bt x (n + i) else bt x 31 := by
  unfold bt
  rw [Int32.toBitVec_shiftRight]
  show (x.toBitVec.sshiftRight ((nI n &&& 31).toBitVec.smod 32).toNat).getLsbD i = _
  rw [s_l n hn, BitVec.getLsbD_sshiftRight, BitVec.msb_eq_getLsbD_last]
  simp [hi]
/-- a noted position: its number in the class, its two in the reference -/
def nt3 (n : Nat) (x : Int64) (u v : Int32) : Prop := ∃ (a q : Nat → Nat), (∀ c, c < 4 → a c < 10) ∧ (∀ p, q p < 18) ∧ (∀ p, n ≤ p → q p = 0) ∧ x = lN (lb (la a 4) q n) ∧ u = nI (pb (pa a 4) q 4) ∧ v = nI (pb 0 (fun i => q (4 + i)) 4)
def RCs (m : dM) (B : Nat) (f : Nat → Int32) : Prop := rI m (B + 1) 4 = f 0 ∧ ∀ s, s < 24 → rI m (B + 2) s = f (1 + 4 * s) ∧ rI m (B + 3) s = f (1 + 4 * s + 1) ∧ bt (rI m (B + 1) 2) s = decide (f (1 + 4 * s + 2) = nI 1) ∧ bt (rI m (B + 1) 3) s = decide (f (1 + 4 * s + 3) = nI 1)
def RCc (m : dM) (B : Nat) (f : Nat → Int32) : Prop := ∀ c, c < 4 → bt (rI m (B + 4) 4) c = decide (f (97 + 5 * c + 1) = nI 1) ∧ rI m (B + 5) c = f (97 + 5 * c + 0) ∧ rI m (B + 6) c = f (97 + 5 * c + 2) ∧ rI m (B + 7) c = f (97 + 5 * c + 3) ∧ rI m (B + 8) c = f (97 + 5 * c + 4)
def RCp (m : dM) (B : Nat) (f : Nat → Int32) : Prop := rI m (B + 9) 4 = f 117 ∧ ∀ p, p < 8 → rI m (B + 10) p = f (118 + 6 * p + 1) ∧ rI m (B + 11) p = f (118 + 6 * p + 2) ∧ rI m (B + 12) p = f (118 + 6 * p + 3) ∧ (p < pN f → rI m (B + 13) p = spt f p)
def RCn (m : dM) (B : Nat) (f : Nat → Int32) : Prop := rI m (B + 14) 1 = f 174 ∧ ∀ i, i < tN f → nt3 (pN f) (rL m (B + 15) i) (f (175 + 2 * i)) (f (175 + 2 * i + 1))
def RCm (m : dM) (B : Nat) (f : Nat → Int32) : Prop := (∀ j, j < 2 → rI m (B + 16) j = f (170 + j)) ∧ rI m B 5 = f 166 ∧ rI m B 6 = f 167 ∧ rI m B 7 = f 168 ∧ rI m B 8 = f 169 ∧ rI m B 9 = if f 172 = nI 1 then f 173 else -1
/-- a State of the class and the reference's row -/
def RC (m : dM) (B : Nat) (f : Nat → Int32) : Prop := RCs m B f ∧ RCc m B f ∧ RCp m B f ∧ RCn m B f ∧ RCm m B f
theorem lN_inj {a b : Nat} (ha : a < 2 ^ 63) (hb : b < 2 ^ 63) (h : lN a = lN b) : a = b := by
  have e := congrArg Int64.toInt h
  rw [show (lN a).toInt = (a : Int) from lg_ofNat_toInt ha, show (lN b).toInt = (b : Int) from lg_ofNat_toInt hb] at e
  omega
theorem la_lt {a : Nat → Nat} : ∀ n, (∀ i, i < n → a i < 16) → la a n < 16 ^ n
  | 0, _ => Nat.one_pos
  | n + 1, h => by
    have h1 := la_lt n (fun i hi => h i (by omega))
    have h2 := h n (by omega)
    show la a n * 16 + a n < 16 ^ (n + 1)
    rw [Nat.pow_succ]
    omega
theorem lb_lt {x X : Nat} {q : Nat → Nat} (hx : x < X) : ∀ n, (∀ i, i < n → q i < 32) → lb x q n < X * 32 ^ n
  | 0, _ => by show x < X * 1; omega
  | n + 1, h => by
    have h1 := lb_lt hx n (fun i hi => h i (by omega))
    have h2 := h n (by omega)
    show lb x q n * 32 + q n < X * 32 ^ (n + 1)
    rw [Nat.pow_succ, ← Nat.mul_assoc]
    omega
theorem pa_inj {a b : Nat → Nat} : ∀ n, (∀ i, i < n → a i < 10) → (∀ i, i < n → b i < 10) → pa a n = pa b n → ∀ i, i < n → a i = b i
  | 0, _, _, _, i, hi => by omega
  | n + 1, ha, hb, e, i, hi => by
    have e1 : pa a n * 10 + a n = pa b n * 10 + b n := e
    have h1 := ha n (by omega)
    have h2 := hb n (by omega)
    by_cases q : i = n
    · rw [q]; omega
    · exact pa_inj n (fun i hi => ha i (by omega)) (fun i hi => hb i (by omega)) (by omega) i (by omega)
theorem la_inj {a b : Nat → Nat} : ∀ n, (∀ i, i < n → a i < 10) → (∀ i, i < n → b i < 10) → la a n = la b n → ∀ i, i < n → a i = b i
  | 0, _, _, _, i, hi => by omega
  | n + 1, ha, hb, e, i, hi => by
    have e1 : la a n * 16 + a n = la b n * 16 + b n := e
    have h1 := ha n (by omega)
    have h2 := hb n (by omega)
    by_cases q : i = n
    · rw [q]; omega
    · exact la_inj n (fun i hi => ha i (by omega)) (fun i hi => hb i (by omega)) (by omega) i (by omega)
theorem pb_inj {x y : Nat} {a b : Nat → Nat} : ∀ n, (∀ i, i < n → a i < 18) → (∀ i, i < n → b i < 18) → pb x a n = pb y b n → x = y ∧ ∀ i, i < n → a i = b i
  | 0, _, _, e => ⟨e, fun i hi => by omega⟩
  | n + 1, ha, hb, e => by
    have e1 : pb x a n * 18 + a n = pb y b n * 18 + b n := e
    have h1 := ha n (by omega)
    have h2 := hb n (by omega)
    obtain ⟨h3, h4⟩ := pb_inj n (fun i hi => ha i (by omega)) (fun i hi => hb i (by omega)) (show pb x a n = pb y b n by omega)
    refine ⟨h3, fun i hi => ?_⟩
    by_cases q : i = n
    · rw [q]; omega
    · exact h4 i (by omega)
theorem lb_inj {x y : Nat} {a b : Nat → Nat} : ∀ n, (∀ i, i < n → a i < 18) → (∀ i, i < n → b i < 18) → lb x a n = lb y b n → x = y ∧ ∀ i, i < n → a i = b i
  | 0, _, _, e => ⟨e, fun i hi => by omega⟩
  | n + 1, ha, hb, e => by
    have e1 : lb x a n * 32 + a n = lb y b n * 32 + b n := e
    have h1 := ha n (by omega)
    have h2 := hb n (by omega)
    obtain ⟨h3, h4⟩ := lb_inj n (fun i hi => ha i (by omega)) (fun i hi => hb i (by omega)) (show lb x a n = lb y b n by omega)
    refine ⟨h3, fun i hi => ?_⟩
    by_cases q : i = n
    · rw [q]; omega
    · exact h4 i (by omega)
theorem pa_eq {a b : Nat → Nat} : ∀ n, (∀ i, i < n → a i = b i) → pa a n = pa b n
  | 0, _ => rfl
  | n + 1, h => by
    show pa a n * 10 + a n = pa b n * 10 + b n
    rw [pa_eq n (fun i hi => h i (by omega)), h n (by omega)]
theorem la_eq {a b : Nat → Nat} : ∀ n, (∀ i, i < n → a i = b i) → la a n = la b n
  | 0, _ => rfl
  | n + 1, h => by
    show la a n * 16 + a n = la b n * 16 + b n
    rw [la_eq n (fun i hi => h i (by omega)), h n (by omega)]
theorem pb_eq {x : Nat} {a b : Nat → Nat} : ∀ n, (∀ i, i < n → a i = b i) → pb x a n = pb x b n
  | 0, _ => rfl
  | n + 1, h => by
    show pb x a n * 18 + a n = pb x b n * 18 + b n
    rw [pb_eq n (fun i hi => h i (by omega)), h n (by omega)]
theorem lb_eq {x : Nat} {a b : Nat → Nat} : ∀ n, (∀ i, i < n → a i = b i) → lb x a n = lb x b n
  | 0, _ => rfl
  | n + 1, h => by
    show lb x a n * 32 + a n = lb x b n * 32 + b n
    rw [lb_eq n (fun i hi => h i (by omega)), h n (by omega)]
theorem nt3_big {n : Nat} (h8 : n ≤ 8) {a q : Nat → Nat} (ha : ∀ c, c < 4 → a c < 10) (hq : ∀ p, q p < 18) : lb (la a 4) q n < 2 ^ 63 ∧ pb (pa a 4) q 4 < 2 ^ 31 ∧ pb 0 (fun i => q (4 + i)) 4 < 2 ^ 31 := by
  have h1 := lb_lt (la_lt 4 (fun i hi => Nat.lt_trans (ha i hi) (by omega))) n (fun i _ => Nat.lt_trans (hq i) (by omega))
  have h2 := pb_lt (pa_lt 4 ha) 4 (fun i _ => hq i)
  have h3 := pb_lt (x := 0) (X := 1) (by omega) 4 (fun i _ => hq (4 + i))
  have h4 : (32 : Nat) ^ n ≤ 32 ^ 8 := Nat.pow_le_pow_right (by omega) h8
  refine ⟨?_, by omega, by omega⟩
  have h5 : 16 ^ 4 * 32 ^ n ≤ 16 ^ 4 * 32 ^ 8 := Nat.mul_le_mul_left _ h4
  omega
/-- two notes are alike for the class when they are for the reference -/
theorem nt3_eq {n : Nat} (h8 : n ≤ 8) {x y : Int64} {u v u' v' : Int32} (h : nt3 n x u v) (k : nt3 n y u' v') : x = y ↔ (u = u' ∧ v = v') := by
  obtain ⟨a, q, ha, hq, hz, rfl, rfl, rfl⟩ := h
  obtain ⟨b, r, hb, hr, hy, rfl, rfl, rfl⟩ := k
  obtain ⟨l1, l2, l3⟩ := nt3_big h8 ha hq
  obtain ⟨k1, k2, k3⟩ := nt3_big h8 hb hr
  constructor
  · intro e
    obtain ⟨e1, e2⟩ := lb_inj n (fun i _ => hq i) (fun i _ => hr i) (lN_inj l1 k1 e)
    have e3 := la_inj 4 ha hb e1
    have e4 : ∀ p, q p = r p := fun p => by
      by_cases hp : p < n
      · exact e2 p hp
      · rw [hz p (by omega), hy p (by omega)]
    have e5 : q = r := funext e4
    rw [e5, pa_eq 4 e3]
    exact ⟨rfl, rfl⟩
  · rintro ⟨e1, e2⟩
    obtain ⟨e3, e4⟩ := pb_inj 4 (fun i _ => hq i) (fun i _ => hr i) ((nI_eq l2 k2).mp e1)
    have e5 := pa_inj 4 ha hb e3
    have e6 := (pb_inj 4 (fun i _ => hq (4 + i)) (fun i _ => hr (4 + i)) ((nI_eq l3 k3).mp e2)).2
    have e7 : ∀ i, i < n → q i = r i := fun i hi => by
      by_cases h4 : i < 4
      · exact e4 i h4
      · have := e6 (i - 4) (by omega)
        rwa [show 4 + (i - 4) = i by omega] at this
    rw [la_eq 4 e5, lb_eq n e7]
/-- one bit -/
theorem b_1 (i : Nat) (hi : i < 32) : bt (nI 1) i = decide (i = 0) := (by decide +kernel : ∀ i, i < 32 → bt (nI 1) i = decide (i = 0)) i hi
theorem n31 : nI 31 = 31 := rfl
theorem bit1 {x : Int32} {s : Nat} (hs : s < 32) : ((x >>> (nI s &&& nI 31)) &&& nI 1 = nI 1) = (bt x s = true) := by
  rw [n31]
  refine propext ⟨fun e => ?_, fun e => ?_⟩
  · have h := congrArg (fun z => bt z 0) e
    simp only [b_and, b_1 0 (by omega), b_sshr s hs x (show 0 < 32 by omega)] at h
    simpa [hs] using h
  · refine b_ext fun i hi => ?_
    rw [b_and, b_1 i hi]
    by_cases h0 : i = 0
    · subst h0
      rw [b_sshr s hs x (by omega)]
      simp [hs, e]
    · simp [h0]
