/-! A TURN in the reference: deliveries, picking up; both as one row -/
theorem sub_0 {a b : Nat} (ha : a < 100) (hb : b < 100) : (nI a - nI b = nI 0) = (a = b) := by
  have h := pk_sub_toInt (a := a) (b := b) (by omega) (by omega)
  have h0 := nI_toInt (n := 0) (by omega)
  refine propext ⟨fun e => ?_, fun e => ?_⟩
  · rw [e, h0] at h
    omega
  · rw [e]
    exact Int32.sub_self _
theorem sub_p {a b : Nat} (ha : a < 100) (hb : b < 100) : (nI 0 < nI a - nI b) = (b < a) := by
  have h := pk_sub_toInt (a := a) (b := b) (by omega) (by omega)
  have h0 := nI_toInt (n := 0) (by omega)
  rw [Int32.lt_iff_toInt_lt, h, h0]
  exact propext ⟨fun _ => by omega, fun _ => by omega⟩
theorem upd_cm {f : Nat → Int32} {a b : Nat} {x y : Int32} (h : a ≠ b) : upd (upd f a x) b y = upd (upd f b y) a x := by
  funext i
  by_cases e1 : i = a
  · subst e1
    rw [upd_n h, upd_s, upd_s]
  · by_cases e2 : i = b
    · subst e2
      rw [upd_s, upd_n e1, upd_s]
    · rw [upd_n e2, upd_n e1, upd_n e1, upd_n e2]
section TM
variable {m : dM} {f : Nat → Int32} {c : Nat}
theorem oi_m {q : Nat} (h : q < 8) : (oi (some q) = -1) = False := nI_m1 (by omega)
theorem div2 (hc : c < 4) : nI 170 + nI c / nI 2 = nI (170 + c / 2) := by rw [pk_div (by omega) (by omega) (by omega), nI_add]
theorem mx_pk (h8 : pN f ≤ 8) {b n : Nat} (hb : b < 4) : mx (pkS f c n).1 b = mx f b := by
  unfold mx
  rw [pkS_o h8 (fun p _ => by omega), pkS_o h8 (fun p _ => by omega)]
end TM
/-- an order that is gone -/
def O (f : Nat → Int32) (b : Nat) : Nat → Int32 := upd f (97 + 5 * b + 2) (-1)
section OO
variable {f : Nat → Int32} {b c : Nat}
theorem O_n {x : Nat} (h : x ≠ 97 + 5 * b + 2) : O f b x = f x := upd_n h
theorem O_s : O f b (97 + 5 * b + 2) = -1 := upd_s
theorem pN_O (hb : b < 4) : pN (O f b) = pN f := pN.cg (O_n (by omega))
theorem dc_O (hb : b < 4) {p : Nat} : dcB (O f b) c p = dcB f c p := by
  unfold dcB
  rw [O_n (by omega), O_n (by omega), O_n (by omega), O_n (by omega)]
theorem dl_O (hb : b < 4) : ∀ n, dl (O f b) c n = O (dl f c n) b
  | 0 => rfl
  | n + 1 => by
    rw [dl_1, dl_1, dc_O hb, dl_O hb n, O_n (by omega), O_n (by omega)]
    by_cases q : dcB f c n = true
    · rw [if_pos q, if_pos q]
      unfold O
      rw [upd_cm (show 97 + 5 * b + 2 ≠ 118 + 6 * n + 4 by omega), upd_cm (show 97 + 5 * b + 2 ≠ 170 + c / 2 by omega)]
    · rw [if_neg q, if_neg q]
theorem ky_O (hb : b < 4) : ky (O f b) = ky f := by
  funext p
  unfold ky
  rw [O_n (by omega), O_n (by omega)]
theorem nx_O (hb : b < 4) {j : Int32} {L : Option Nat} {n : Nat} : nx (O f b) j L n = nx f j L n := by
  refine nx_cg n (fun p hp => ?_) (ky_O hb)
  unfold cdB lB
  rw [ky_O hb, O_n (by omega), O_n (by omega)]
theorem ld_O (hb : b < 4) {x : Int32} : ∀ n, ld (O f b) x n = ld f x n
  | 0 => rfl
  | n + 1 => by
    show ld (O f b) x n + _ = ld f x n + _
    rw [ld_O hb n, O_n (by omega), O_n (by omega), O_n (by omega)]
theorem mx_O (hb : b < 4) (hc : c < 4) : mx (O f b) c = mx f c := by
  unfold mx
  rw [O_n (by omega), O_n (by omega)]
theorem pk1_O {h : Nat → Int32} (hb : b < 4) (hc : c < 4) {p : Nat} : pk1 (O f b) (O h b) c p = O (pk1 f h c p) b := by
  unfold pk1
  rw [ld_O hb, mx_O hb hc, pN_O hb, O_n (by omega)]
  by_cases q : ld h (nI c) (pN f) + h (118 + 6 * p + 2) ≤ mx f c
  · rw [if_pos q, if_pos q]
    unfold car O
    rw [upd_cm (show 97 + 5 * b + 2 ≠ 118 + 6 * p + 4 by omega), upd_cm (show 97 + 5 * b + 2 ≠ 118 + 6 * p + 5 by omega)]
  · rw [if_neg q, if_neg q]
theorem pkS_O (hb : b < 4) (hc : c < 4) : ∀ n, pkS (O f b) c n = (O (pkS f c n).1 b, (pkS f c n).2)
  | 0 => rfl
  | n + 1 => by
    have e : pkN (O f b) c (O (pkS f c n).1 b, (pkS f c n).2) = pkN f c (pkS f c n) := by
      unfold pkN
      show nx (O (pkS f c n).1 b) (O f b (97 + 5 * c + 0)) (pkS f c n).2 (pN (O f b)) = _
      rw [nx_O hb, pN_O hb, O_n (by omega)]
    rw [pkS_1, pkS_1, pkS_O hb hc n, e]
    cases q : pkN f c (pkS f c n) with
    | none => rfl
    | some p =>
      show (pk1 (O f b) (O (pkS f c n).1 b) c p, some p) = (O (pk1 f (pkS f c n).1 c p) b, some p)
      rw [pk1_O hb hc]
theorem P2_O (hb : b < 4) (hc : c < 4) : P2 (O f b) c = O (P2 f c) b := by
  unfold P2
  rw [pN_O hb, dl_O hb, pkS_O hb hc, pN_O hb]
theorem P2_P (P : rvP f) (hc : c < 4) : rvP (P2 f c) ∧ pN (P2 f c) = pN f := by
  obtain ⟨h1, h2⟩ := dl_P P hc (Nat.le_refl (pN f))
  obtain ⟨h3, h4⟩ := pkS_P h1 hc (pN (dl f c (pN f)))
  exact ⟨h3, h4.trans h2⟩
theorem O_P (P : rvP f) (hb : b < 4) : rvP (O f b) := P.cg fun x q1 q2 => O_n (by omega)
end OO
/-- the four couriers, one behind the other -/
def P8 (f : Nat → Int32) : Nat → Nat → Int32
  | 0 => f
  | k + 1 => P2 (P8 f k) k
def H8 (f : Nat → Int32) : Nat → Nat → Int32
  | 0 => f
  | k + 1 => O (P2 (H8 f k) k) k
def clr (f : Nat → Int32) : Nat → Int32 := O (O (O (O f 0) 1) 2) 3
theorem H8_clr {f : Nat → Int32} : H8 f 4 = P8 (clr f) 4 := by
  show O (P2 (O (P2 (O (P2 (O (P2 f 0) 0) 1) 1) 2) 2) 3) 3 = P2 (P2 (P2 (P2 (O (O (O (O f 0) 1) 2) 3) 0) 1) 2) 3
  simp (disch := omega) only [P2_O]
theorem H8_P {f : Nat → Int32} (P : rvP f) : ∀ k, k ≤ 4 → rvP (H8 f k)
  | 0, _ => P
  | k + 1, h => O_P (P2_P (H8_P P k (by omega)) (by omega)).1 (by omega)
theorem P8_rv {f : Nat → Int32} (V : rv f) : ∀ k, k ≤ 4 → rv (P8 f k)
  | 0, _ => V
  | k + 1, h => P2_rv (P8_rv V k (by omega)) (by omega)
