
/-! A TURN, then: what a courier delivers and picks up, told by rows -/
section CG
variable {m m' : dM} {B : Nat} {f g : Nat → Int32}
theorem RCs.cg (R : RCs m B f) (h : ∀ x, x < 97 → g x = f x) (k : ∀ b, B + 1 ≤ b → b ≤ B + 3 → rI m' b = rI m b) : RCs m' B g := by
  refine ⟨?_, fun s hs => ?_⟩
  · rw [k (B + 1) (by omega) (by omega), h 0 (by omega)]
    exact R.1
  · rw [k (B + 1) (by omega) (by omega), k (B + 2) (by omega) (by omega), k (B + 3) (by omega) (by omega), h (1 + 4 * s) (by omega), h (1 + 4 * s + 1) (by omega), h (1 + 4 * s + 2) (by omega), h (1 + 4 * s + 3) (by omega)]
    exact R.2 s hs
theorem RCc.cg (R : RCc m B f) (h : ∀ x, 97 ≤ x → x < 117 → g x = f x) (k : ∀ b, B + 4 ≤ b → b ≤ B + 8 → rI m' b = rI m b) : RCc m' B g := fun c hc => by
  rw [k (B + 4) (by omega) (by omega), k (B + 5) (by omega) (by omega), k (B + 6) (by omega) (by omega), k (B + 7) (by omega) (by omega), k (B + 8) (by omega) (by omega), h (97 + 5 * c + 0) (by omega) (by omega), h (97 + 5 * c + 1) (by omega) (by omega), h (97 + 5 * c + 2) (by omega) (by omega), h (97 + 5 * c + 3) (by omega) (by omega), h (97 + 5 * c + 4) (by omega) (by omega)]
  exact R c hc
theorem pN.cg (h : g 117 = f 117) : pN g = pN f := by unfold pN; rw [h]
theorem tN.cg (h : g 174 = f 174) : tN g = tN f := by unfold tN; rw [h]
theorem sN.cg (h : g 0 = f 0) : sN g = sN f := by unfold sN; rw [h]
theorem spt.cg {p : Nat} (hp : p < 8) (h : ∀ x, 117 ≤ x → x < 166 → g x = f x) : spt g p = spt f p := by
  unfold spt
  rw [h (118 + 6 * p + 4) (by omega) (by omega), h (118 + 6 * p + 5) (by omega) (by omega), h (118 + 6 * p + 0) (by omega) (by omega)]
theorem RCp.cg (R : RCp m B f) (h : ∀ x, 117 ≤ x → x < 166 → g x = f x) (k : ∀ b, B + 9 ≤ b → b ≤ B + 13 → rI m' b = rI m b) : RCp m' B g := by
  refine ⟨?_, fun p hp => ?_⟩
  · rw [k (B + 9) (by omega) (by omega), h 117 (by omega) (by omega)]
    exact R.1
  · rw [k (B + 10) (by omega) (by omega), k (B + 11) (by omega) (by omega), k (B + 12) (by omega) (by omega), k (B + 13) (by omega) (by omega), h (118 + 6 * p + 1) (by omega) (by omega), h (118 + 6 * p + 2) (by omega) (by omega), h (118 + 6 * p + 3) (by omega) (by omega), spt.cg hp h, pN.cg (h 117 (by omega) (by omega))]
    exact R.2 p hp
theorem RCn.cg (R : RCn m B f) (ht : tN f ≤ 61) (h : ∀ x, x = 117 ∨ (174 ≤ x ∧ x < 297) → g x = f x) (k : ∀ b, B + 14 ≤ b → b ≤ B + 15 → rI m' b = rI m b ∧ rL m' b = rL m b) : RCn m' B g := by
  refine ⟨?_, fun i hi => ?_⟩
  · rw [(k (B + 14) (by omega) (by omega)).1, h 174 (by omega)]
    exact R.1
  · rw [tN.cg (h 174 (by omega))] at hi
    rw [(k (B + 15) (by omega) (by omega)).2, h (175 + 2 * i) (by omega), h (175 + 2 * i + 1) (by omega), pN.cg (h 117 (by omega))]
    exact R.2 i hi
theorem RCm.cg (R : RCm m B f) (h : ∀ x, 166 ≤ x → x < 174 → g x = f x) (k : ∀ b, b = B ∨ b = B + 16 → rI m' b = rI m b) : RCm m' B g := by
  unfold RCm at R ⊢
  rw [k B (by omega), k (B + 16) (by omega), h 166 (by omega) (by omega), h 167 (by omega) (by omega), h 168 (by omega) (by omega), h 169 (by omega) (by omega), h 172 (by omega) (by omega), h 173 (by omega) (by omega)]
  refine ⟨fun j hj => ?_, R.2⟩
  rw [h (170 + j) (by omega) (by omega)]
  exact R.1 j hj
theorem RC.cgr (R : RC m B f) (ht : tN f ≤ 61) (h : ∀ x, x < 299 → g x = f x) : RC m B g := ⟨R.1.cg (fun x q => h x (by omega)) (fun _ _ _ => rfl), R.2.1.cg (fun x _ q => h x (by omega)) (fun _ _ _ => rfl), R.2.2.1.cg (fun x _ q => h x (by omega)) (fun _ _ _ => rfl), R.2.2.2.1.cg ht (fun x q => h x (by omega)) (fun _ _ _ => ⟨rfl, rfl⟩), R.2.2.2.2.cg (fun x _ q => h x (by omega)) (fun _ _ => rfl)⟩
theorem rvS.cg (V : rvS f) (h : ∀ x, x < 97 → g x = f x) : rvS g := by
  obtain ⟨h1, h2, h3, h4⟩ := V
  unfold rvS
  rw [sN.cg (h 0 (by omega)), h 0 (by omega)]
  refine ⟨h1, h2, fun s hs => ?_, fun s q1 q2 => ?_⟩
  · rw [h (1 + 4 * s) (by omega), h (1 + 4 * s + 1) (by omega)]
    exact h3 s hs
  · rw [h (1 + 4 * s + 2) (by omega)]
    exact h4 s q1 q2
theorem rvC.cg (V : rvC f) (h24 : sN f ≤ 24) (h : ∀ x, x < 117 → g x = f x) : rvC g := by
  obtain ⟨h1, h2⟩ := V
  refine ⟨fun c hc => ?_, fun c hc b hb => ?_⟩
  · rw [h (97 + 5 * c + 0) (by omega), h (97 + 5 * c + 1) (by omega), h (97 + 5 * c + 2) (by omega), sN.cg (h 0 (by omega))]
    obtain ⟨q1, q2, q3⟩ := h1 c hc
    refine ⟨q1, q2, ?_⟩
    rcases q3 with q | ⟨s, z1, z2, z3, z4⟩
    · exact .inl q
    · refine .inr ⟨s, z1, z2, ?_, ?_⟩
      · rw [h (1 + 4 * s) (by omega)]; exact z3
      · rw [h (1 + 4 * s + 3) (by omega)]; exact z4
  · rw [h (97 + 5 * c + 0) (by omega), h (97 + 5 * b + 0) (by omega)]
    exact h2 c hc b hb
theorem rvP.w (V : rvP f) (ho : ∀ x, 117 ≤ x → x < 166 → (∀ p, p < 8 → x ≠ 118 + 6 * p + 4 ∧ x ≠ 118 + 6 * p + 5) → g x = f x) (hs : ∀ p, p < pN f → sm (g (118 + 6 * p + 4)) 3 ∧ (g (118 + 6 * p + 4) ≠ nI 0 → sm (g (118 + 6 * p + 5)) 4)) : rvP g := by
  obtain ⟨h1, h2, h3⟩ := V
  have e : g 117 = f 117 := ho 117 (by omega) (by omega) (fun p _ => by omega)
  unfold rvP
  rw [pN.cg e, e]
  refine ⟨h1, h2, fun p hp => ?_⟩
  obtain ⟨q1, q2, q3, q4, -, -⟩ := h3 p hp
  rw [ho (118 + 6 * p + 0) (by omega) (by omega) (fun q _ => by omega), ho (118 + 6 * p + 1) (by omega) (by omega) (fun q _ => by omega), ho (118 + 6 * p + 2) (by omega) (by omega) (fun q _ => by omega), ho (118 + 6 * p + 3) (by omega) (by omega) (fun q _ => by omega)]
  exact ⟨q1, q2, q3, q4, hs p hp⟩
theorem rvP.cg (V : rvP f) (h : ∀ x, 117 ≤ x → x < 166 → g x = f x) : rvP g := V.w (fun x q1 q2 _ => h x q1 q2) fun p hp => by
  have h8 := V.2.1
  rw [h (118 + 6 * p + 4) (by omega) (by omega), h (118 + 6 * p + 5) (by omega) (by omega)]
  exact (V.2.2 p hp).2.2.2.2
theorem vd.eq {pl : Nat} : ∀ n, (∀ p, p < n → (if g (118 + 6 * p + 4) = nI 2 ∧ (g (118 + 6 * p + 5)).toNatClampNeg / 2 = pl then g (118 + 6 * p + 3) else nI 0) = (if f (118 + 6 * p + 4) = nI 2 ∧ (f (118 + 6 * p + 5)).toNatClampNeg / 2 = pl then f (118 + 6 * p + 3) else nI 0)) → vd g pl n = vd f pl n
  | 0, _ => rfl
  | n + 1, h => by
    show vd g pl n + _ = vd f pl n + _
    rw [vd.eq n (fun p hp => h p (by omega)), h n (by omega)]
theorem vd.cg {pl n : Nat} (hn : n ≤ 8) (h : ∀ x, 117 ≤ x → x < 166 → g x = f x) : vd g pl n = vd f pl n := vd.eq n fun p hp => by
  rw [h (118 + 6 * p + 4) (by omega) (by omega), h (118 + 6 * p + 5) (by omega) (by omega), h (118 + 6 * p + 3) (by omega) (by omega)]
theorem rvN.cg (V : rvN f) (h8 : pN f ≤ 8) (h : ∀ x, 117 ≤ x → x < 175 → x ≠ 166 → x ≠ 169 → g x = f x) : rvN g := by
  obtain ⟨h1, h2, h3, h4, h5, h6⟩ := V
  have hv : ∀ x, 117 ≤ x → x < 166 → g x = f x := fun x q1 q2 => h x q1 (by omega) (by omega) (by omega)
  unfold rvN
  rw [tN.cg (h 174 (by omega) (by omega) (by omega) (by omega)), h 174 (by omega) (by omega) (by omega) (by omega), h 168 (by omega) (by omega) (by omega) (by omega), h 167 (by omega) (by omega) (by omega) (by omega), h 172 (by omega) (by omega) (by omega) (by omega), h 173 (by omega) (by omega) (by omega) (by omega), pN.cg (hv 117 (by omega) (by omega))]
  refine ⟨h1, h2, h3, h4, h5, fun pl hpl => ?_⟩
  rw [h (170 + pl) (by omega) (by omega) (by omega) (by omega), vd.cg h8 hv]
  exact h6 pl hpl
theorem rv.cgr (V : rv f) (h : ∀ x, x < 299 → g x = f x) : rv g := ⟨V.1.cg (fun x q => h x (by omega)), V.2.1.cg V.s24 (fun x q => h x (by omega)), V.2.2.1.cg (fun x _ q => h x (by omega)), V.2.2.2.cg V.p8 (fun x _ q _ _ => h x (by omega))⟩
end CG
/-- whether a courier delivers a parcel -/
def dcB (f : Nat → Int32) (c p : Nat) : Bool := decide (f (118 + 6 * p + 4) = nI 1 ∧ f (118 + 6 * p + 5) = nI c ∧ f (118 + 6 * p + 1) = f (97 + 5 * c + 0))
def gn (f : Nat → Int32) (c : Nat) : Nat → Int32
  | 0 => nI 0
  | n + 1 => if dcB f c n = true then gn f c n + f (118 + 6 * n + 3) else gn f c n
/-- the row behind deliveries among the first so many parcels -/
def dl (f : Nat → Int32) (c : Nat) : Nat → Nat → Int32
  | 0 => f
  | n + 1 => if dcB f c n = true then upd (upd (dl f c n) (118 + 6 * n + 4) (nI 2)) (170 + c / 2) (dl f c n (170 + c / 2) + f (118 + 6 * n + 3)) else dl f c n
section DL
variable {f g : Nat → Int32} {c : Nat}
theorem dl_1 {n : Nat} : dl f c (n + 1) = if dcB f c n = true then upd (upd (dl f c n) (118 + 6 * n + 4) (nI 2)) (170 + c / 2) (dl f c n (170 + c / 2) + f (118 + 6 * n + 3)) else dl f c n := rfl
theorem gn_1 {n : Nat} : gn f c (n + 1) = if dcB f c n = true then gn f c n + f (118 + 6 * n + 3) else gn f c n := rfl
theorem dl_o : ∀ n x, x ≠ 170 + c / 2 → (∀ p, p < n → x ≠ 118 + 6 * p + 4) → dl f c n x = f x
  | 0, _, _, _ => rfl
  | n + 1, x, h1, h2 => by
    rw [dl_1]
    by_cases q : dcB f c n = true
    · rw [if_pos q, upd_n h1, upd_n (h2 n (by omega))]
      exact dl_o n x h1 (fun p hp => h2 p (by omega))
    · rw [if_neg q]
      exact dl_o n x h1 (fun p hp => h2 p (by omega))
theorem dl_s {p : Nat} (hp : p < 8) : ∀ n, dl f c n (118 + 6 * p + 4) = if p < n ∧ dcB f c p = true then nI 2 else f (118 + 6 * p + 4)
  | 0 => by rw [if_neg (fun z => by omega)]; rfl
  | n + 1 => by
    rw [dl_1]
    by_cases q : dcB f c n = true
    · rw [if_pos q, upd_n (by omega)]
      by_cases e : p = n
      · subst e
        rw [upd_s, if_pos ⟨by omega, q⟩]
      · rw [upd_n (by omega), dl_s hp n]
        simp only [ite_k e]
    · rw [if_neg q, dl_s hp n]
      by_cases e : p = n
      · subst e
        rw [if_neg (fun z => q z.2), if_neg (fun z => q z.2)]
      · simp only [ite_k e]
theorem dl_p : ∀ n, n ≤ 8 → dl f c n (170 + c / 2) = f (170 + c / 2) + gn f c n
  | 0, _ => (Int32.add_zero _).symm
  | n + 1, hn => by
    rw [dl_1, gn_1]
    by_cases q : dcB f c n = true
    · rw [if_pos q, if_pos q, upd_s, dl_p n (by omega), Int32.add_assoc]
    · rw [if_neg q, if_neg q, dl_p n (by omega)]
theorem vd_s2 {k x pl : Nat} {v : Int32} (hc : c < 4) (hk : k < 8) (hx : 166 ≤ x) (h1 : g (118 + 6 * k + 4) = nI 1) (h2 : g (118 + 6 * k + 5) = nI c) : ∀ n, n ≤ 8 → vd (upd (upd g (118 + 6 * k + 4) (nI 2)) x v) pl n = vd g pl n + (if k < n ∧ c / 2 = pl then g (118 + 6 * k + 3) else nI 0)
  | 0, _ => by rw [if_neg (fun z => by omega)]; exact (Int32.add_zero _).symm
  | n + 1, hn => by
    have ih := vd_s2 (pl := pl) (v := v) hc hk hx h1 h2 n (by omega)
    show vd (upd (upd g (118 + 6 * k + 4) (nI 2)) x v) pl n + (if upd (upd g (118 + 6 * k + 4) (nI 2)) x v (118 + 6 * n + 4) = nI 2 ∧ (upd (upd g (118 + 6 * k + 4) (nI 2)) x v (118 + 6 * n + 5)).toNatClampNeg / 2 = pl then upd (upd g (118 + 6 * k + 4) (nI 2)) x v (118 + 6 * n + 3) else nI 0) = (vd g pl n + (if g (118 + 6 * n + 4) = nI 2 ∧ (g (118 + 6 * n + 5)).toNatClampNeg / 2 = pl then g (118 + 6 * n + 3) else nI 0)) + _
    rw [ih, upd_n (show 118 + 6 * n + 4 ≠ x by omega), upd_n (show 118 + 6 * n + 5 ≠ x by omega), upd_n (show 118 + 6 * n + 3 ≠ x by omega), upd_n (show 118 + 6 * n + 5 ≠ 118 + 6 * k + 4 by omega), upd_n (show 118 + 6 * n + 3 ≠ 118 + 6 * k + 4 by omega)]
    by_cases e : k = n
    · subst e
      rw [upd_s, h1, h2, nI_clamp (by omega), if_neg (show ¬ (k < k ∧ c / 2 = pl) from fun z => by omega), if_neg (show ¬ (nI 1 = nI 2 ∧ c / 2 = pl) from fun z => absurd z.1 (by decide))]
      by_cases q : c / 2 = pl
      · rw [if_pos ⟨rfl, q⟩, if_pos ⟨by omega, q⟩]
      · rw [if_neg (fun z => q z.2), if_neg (fun z => q z.2)]
    · rw [upd_n (show 118 + 6 * n + 4 ≠ 118 + 6 * k + 4 by omega)]
      simp only [ite_k e]
      rw [Int32.add_assoc, Int32.add_assoc, Int32.add_comm (if k < n ∧ c / 2 = pl then g (118 + 6 * k + 3) else nI 0)]
theorem dl1_rv (V : rv g) (hc : c < 4) {n : Nat} (hn : n < pN g) (h1 : g (118 + 6 * n + 4) = nI 1) (h2 : g (118 + 6 * n + 5) = nI c) : rv (upd (upd g (118 + 6 * n + 4) (nI 2)) (170 + c / 2) (g (170 + c / 2) + g (118 + 6 * n + 3))) ∧ pN (upd (upd g (118 + 6 * n + 4) (nI 2)) (170 + c / 2) (g (170 + c / 2) + g (118 + 6 * n + 3))) = pN g := by
  have h8 := V.p8
  have e : ∀ x, x ≠ 118 + 6 * n + 4 → x ≠ 170 + c / 2 → upd (upd g (118 + 6 * n + 4) (nI 2)) (170 + c / 2) (g (170 + c / 2) + g (118 + 6 * n + 3)) x = g x := fun x q1 q2 => by rw [upd_n q2, upd_n q1]
  have e117 := e 117 (by omega) (by omega)
  refine ⟨⟨V.1.cg (fun x q => e x (by omega) (by omega)), V.2.1.cg V.s24 (fun x q => e x (by omega) (by omega)), V.2.2.1.w (fun x q1 q2 q3 => e x (by have := (q3 n (by omega)).1; omega) (by omega)) (fun p hp => ?_), ?_⟩, pN.cg e117⟩
  · have e5 := e (118 + 6 * p + 5) (by omega) (by omega)
    by_cases q : p = n
    · subst q
      rw [upd_n (by omega), upd_s, e5, h2]
      exact ⟨sm_nI (by omega), fun _ => sm_nI hc⟩
    · rw [e (118 + 6 * p + 4) (by omega) (by omega), e5]
      exact (V.2.2.1.2.2 p hp).2.2.2.2
  · obtain ⟨q1, q2, q3, q4, q5, q6⟩ := V.2.2.2
    unfold rvN
    rw [tN.cg (e 174 (by omega) (by omega)), e 174 (by omega) (by omega), e 168 (by omega) (by omega), e 167 (by omega) (by omega), e 172 (by omega) (by omega), e 173 (by omega) (by omega), pN.cg e117]
    refine ⟨q1, q2, q3, q4, q5, fun pl hpl => ?_⟩
    rw [vd_s2 hc (by omega) (by omega) h1 h2 _ h8]
    by_cases q : c / 2 = pl
    · subst q
      rw [upd_s, if_pos ⟨hn, rfl⟩, q6 (c / 2) hpl]
    · rw [if_neg (fun z => q z.2), e (170 + pl) (by omega) (by omega), q6 pl hpl]
      exact (Int32.add_zero _).symm
theorem dc_e {p : Nat} (h : dcB f c p = true) : f (118 + 6 * p + 4) = nI 1 ∧ f (118 + 6 * p + 5) = nI c := by
  unfold dcB at h
  rw [decide_eq_true_eq] at h
  exact ⟨h.1, h.2.1⟩
theorem dl_rv (V : rv f) (hc : c < 4) : ∀ n, n ≤ pN f → rv (dl f c n) ∧ pN (dl f c n) = pN f
  | 0, _ => ⟨V, rfl⟩
  | n + 1, hn => by
    have h8 := V.p8
    obtain ⟨ih, ip⟩ := dl_rv V hc n (by omega)
    rw [dl_1]
    by_cases q : dcB f c n = true
    · rw [if_pos q]
      obtain ⟨d1, d2⟩ := dc_e q
      have e3 : f (118 + 6 * n + 3) = dl f c n (118 + 6 * n + 3) := (dl_o n _ (by omega) (fun p _ => by omega)).symm
      rw [e3]
      have := dl1_rv ih hc (n := n) (by omega) (by rw [dl_s (by omega), if_neg (fun z => by omega), d1]) (by rw [dl_o n _ (by omega) (fun p _ => by omega), d2])
      rw [ip] at this
      exact this
    · rw [if_neg q]
      exact ⟨ih, ip⟩
end DL
/-- keys of parcels: what is looked at first is lowest -/
def ky (f : Nat → Int32) (p : Nat) : Nat := (9 - (f (118 + 6 * p + 3)).toNatClampNeg) * 100 + (f (118 + 6 * p + 2)).toNatClampNeg * 10 + p
def lB (f : Nat → Int32) (L : Option Nat) (p : Nat) : Bool := match L with
  | none => true
  | some q => decide (ky f q < ky f p)
def cdB (f : Nat → Int32) (j : Int32) (L : Option Nat) (p : Nat) : Bool := decide (f (118 + 6 * p + 4) = nI 0 ∧ f (118 + 6 * p + 0) = j) && lB f L p
def nx (f : Nat → Int32) (j : Int32) (L : Option Nat) : Nat → Option Nat
  | 0 => none
  | n + 1 => if cdB f j L n = true then (match nx f j L n with
    | none => some n
    | some q => if ky f n < ky f q then some n else some q) else nx f j L n
def oi : Option Nat → Int32
  | none => -1
  | some q => nI q
section NX
variable {f g : Nat → Int32} {j : Int32} {L : Option Nat}
theorem nx_1 {n : Nat} : nx f j L (n + 1) = if cdB f j L n = true then (match nx f j L n with
    | none => some n
    | some q => if ky f n < ky f q then some n else some q) else nx f j L n := rfl
theorem nx_spec : ∀ n, (nx f j L n = none ∧ ∀ p, p < n → cdB f j L p = false) ∨ ∃ q, nx f j L n = some q ∧ q < n ∧ cdB f j L q = true ∧ ∀ p, p < n → cdB f j L p = true → ky f q ≤ ky f p
  | 0 => .inl ⟨rfl, fun p hp => by omega⟩
  | n + 1 => by
    rw [nx_1]
    by_cases q : cdB f j L n = true
    · rw [if_pos q]
      rcases nx_spec (f := f) (j := j) (L := L) n with ⟨h1, h2⟩ | ⟨a, h1, h2, h3, h4⟩
      · rw [h1]
        refine .inr ⟨n, rfl, by omega, q, fun p hp hc => ?_⟩
        by_cases e : p = n
        · rw [e]; exact Nat.le_refl _
        · rw [h2 p (by omega)] at hc
          cases hc
      · rw [h1]
        show (_ ∨ ∃ b, (if ky f n < ky f a then some n else some a) = some b ∧ _)
        by_cases w : ky f n < ky f a
        · rw [if_pos w]
          refine .inr ⟨n, rfl, by omega, q, fun p hp hc => ?_⟩
          by_cases e : p = n
          · rw [e]; exact Nat.le_refl _
          · have := h4 p (by omega) hc
            omega
        · rw [if_neg w]
          refine .inr ⟨a, rfl, by omega, h3, fun p hp hc => ?_⟩
          by_cases e : p = n
          · rw [e]; omega
          · exact h4 p (by omega) hc
    · rw [if_neg q]
      rcases nx_spec (f := f) (j := j) (L := L) n with ⟨h1, h2⟩ | ⟨a, h1, h2, h3, h4⟩
      · refine .inl ⟨h1, fun p hp => ?_⟩
        by_cases e : p = n
        · rw [e]; exact Bool.eq_false_iff.mpr q
        · exact h2 p (by omega)
      · refine .inr ⟨a, h1, by omega, h3, fun p hp hc => ?_⟩
        by_cases e : p = n
        · exact absurd (e ▸ hc) q
        · exact h4 p (by omega) hc
theorem nx_some {n q : Nat} (h : nx f j L n = some q) : q < n ∧ cdB f j L q = true ∧ ∀ p, p < n → cdB f j L p = true → ky f q ≤ ky f p := by
  rcases nx_spec (f := f) (j := j) (L := L) n with ⟨h1, h2⟩ | ⟨a, h1, h2⟩
  · rw [h1] at h; cases h
  · rw [h1] at h; cases h; exact h2
theorem nx_none {n : Nat} (h : nx f j L n = none) : ∀ p, p < n → cdB f j L p = false := by
  rcases nx_spec (f := f) (j := j) (L := L) n with ⟨h1, h2⟩ | ⟨a, h1, h2⟩
  · exact h2
  · rw [h1] at h; cases h
theorem cd_e {p : Nat} (h : cdB f j L p = true) : f (118 + 6 * p + 4) = nI 0 ∧ f (118 + 6 * p + 0) = j ∧ lB f L p = true := by
  unfold cdB at h
  rw [Bool.and_eq_true, decide_eq_true_eq] at h
  exact ⟨h.1.1, h.1.2, h.2⟩
theorem nx_cg : ∀ n, (∀ p, p < n → cdB g j L p = cdB f j L p) → ky g = ky f → nx g j L n = nx f j L n
  | 0, _, _ => rfl
  | n + 1, h, k => by
    rw [nx_1, nx_1, nx_cg n (fun p hp => h p (by omega)) k, h n (by omega), k]
theorem ky_inj {a b : Nat} (ha : a < 8) (hb : b < 8) (wa : (f (118 + 6 * a + 2)).toNatClampNeg < 10) (wb : (f (118 + 6 * b + 2)).toNatClampNeg < 10) (h : ky f a = ky f b) : a = b := by
  unfold ky at h
  omega
end NX
/-- a parcel that is picked up -/
def car (g : Nat → Int32) (p c : Nat) : Nat → Int32 := upd (upd g (118 + 6 * p + 4) (nI 1)) (118 + 6 * p + 5) (nI c)
def pk1 (f g : Nat → Int32) (c p : Nat) : Nat → Int32 := if ld g (nI c) (pN f) + g (118 + 6 * p + 2) ≤ mx f c then car g p c else g
def pkN (f : Nat → Int32) (c : Nat) (s : (Nat → Int32) × Option Nat) : Option Nat := nx s.1 (f (97 + 5 * c + 0)) s.2 (pN f)
/-- picking up, after so many looks: the row, and what was looked at last -/
def pkS (f : Nat → Int32) (c : Nat) : Nat → (Nat → Int32) × Option Nat
  | 0 => (f, none)
  | n + 1 => match pkN f c (pkS f c n) with
    | none => pkS f c n
    | some p => (pk1 f (pkS f c n).1 c p, some p)
section PK
variable {f g : Nat → Int32} {c : Nat}
theorem pkS_1 {n : Nat} : pkS f c (n + 1) = match pkN f c (pkS f c n) with
    | none => pkS f c n
    | some p => (pk1 f (pkS f c n).1 c p, some p) := rfl
theorem car_o {p x : Nat} (h1 : x ≠ 118 + 6 * p + 4) (h2 : x ≠ 118 + 6 * p + 5) : car g p c x = g x := by
  unfold car
  rw [upd_n h2, upd_n h1]
theorem car_4 {p : Nat} : car g p c (118 + 6 * p + 4) = nI 1 := by
  unfold car
  rw [upd_n (by omega), upd_s]
theorem car_5 {p : Nat} : car g p c (118 + 6 * p + 5) = nI c := by
  unfold car
  rw [upd_s]
theorem ky_car {p : Nat} : ky (car g p c) = ky g := by
  funext q
  unfold ky
  rw [car_o (by omega) (by omega), car_o (by omega) (by omega)]
theorem ky_pk1 {p : Nat} : ky (pk1 f g c p) = ky g := by
  unfold pk1
  split
  · exact ky_car
  · rfl
theorem pk1_o {p x : Nat} (h1 : x ≠ 118 + 6 * p + 4) (h2 : x ≠ 118 + 6 * p + 5) : pk1 f g c p x = g x := by
  unfold pk1
  split
  · exact car_o h1 h2
  · rfl
theorem pkN_p {n p : Nat} (h : pkN f c (pkS f c n) = some p) : p < pN f ∧ (pkS f c n).1 (118 + 6 * p + 4) = nI 0 ∧ (pkS f c n).1 (118 + 6 * p + 0) = f (97 + 5 * c + 0) ∧ lB (pkS f c n).1 (pkS f c n).2 p = true ∧ ∀ q, q < pN f → cdB (pkS f c n).1 (f (97 + 5 * c + 0)) (pkS f c n).2 q = true → ky (pkS f c n).1 p ≤ ky (pkS f c n).1 q := by
  obtain ⟨h1, h2, h3⟩ := nx_some h
  obtain ⟨q1, q2, q3⟩ := cd_e h2
  exact ⟨h1, q1, q2, q3, h3⟩
theorem pkS_o (h8 : pN f ≤ 8) {x : Nat} (hx : ∀ p, p < 8 → x ≠ 118 + 6 * p + 4 ∧ x ≠ 118 + 6 * p + 5) : ∀ n, (pkS f c n).1 x = f x
  | 0 => rfl
  | n + 1 => by
    have ih := pkS_o h8 hx n
    rw [pkS_1]
    cases q : pkN f c (pkS f c n) with
    | none => exact ih
    | some p =>
      have hp := (pkN_p q).1
      obtain ⟨z1, z2⟩ := hx p (by omega)
      show pk1 f (pkS f c n).1 c p x = f x
      rw [pk1_o z1 z2, ih]
theorem ky_pkS : ∀ n, ky (pkS f c n).1 = ky f
  | 0 => rfl
  | n + 1 => by
    have ih := ky_pkS (f := f) (c := c) n
    rw [pkS_1]
    cases q : pkN f c (pkS f c n) with
    | none => exact ih
    | some p => exact ky_pk1.trans ih
theorem ld_car {p : Nat} (h0 : g (118 + 6 * p + 4) = nI 0) : ∀ n, ld (car g p c) (nI c) n = ld g (nI c) n + (if p < n then g (118 + 6 * p + 2) else nI 0)
  | 0 => (Int32.add_zero _).symm
  | n + 1 => by
    have ih := ld_car (c := c) h0 n
    show ld (car g p c) (nI c) n + (if car g p c (118 + 6 * n + 4) = nI 1 ∧ car g p c (118 + 6 * n + 5) = nI c then car g p c (118 + 6 * n + 2) else nI 0) = (ld g (nI c) n + (if g (118 + 6 * n + 4) = nI 1 ∧ g (118 + 6 * n + 5) = nI c then g (118 + 6 * n + 2) else nI 0)) + _
    rw [ih, car_o (show 118 + 6 * n + 2 ≠ 118 + 6 * p + 4 by omega) (show 118 + 6 * n + 2 ≠ 118 + 6 * p + 5 by omega)]
    by_cases e : p = n
    · subst e
      rw [car_4, car_5, h0, if_pos ⟨rfl, rfl⟩, if_neg (Nat.lt_irrefl p), if_neg (show ¬ (nI 0 = nI 1 ∧ g (118 + 6 * p + 5) = nI c) from fun z => absurd z.1 (by decide)), if_pos (by omega)]
    · rw [car_o (show 118 + 6 * n + 4 ≠ 118 + 6 * p + 4 by omega) (show 118 + 6 * n + 4 ≠ 118 + 6 * p + 5 by omega), car_o (show 118 + 6 * n + 5 ≠ 118 + 6 * p + 4 by omega) (show 118 + 6 * n + 5 ≠ 118 + 6 * p + 5 by omega)]
      simp only [ite_k e]
      rw [Int32.add_assoc, Int32.add_assoc, Int32.add_comm (if p < n then g (118 + 6 * p + 2) else nI 0)]
theorem car_P (V : rvP g) (hc : c < 4) {p : Nat} (hp : p < pN g) : rvP (car g p c) := V.w (fun x _ _ q => by
    have h8 := V.2.1
    obtain ⟨z1, z2⟩ := q p (by omega)
    exact car_o z1 z2) fun q hq => by
  by_cases e : q = p
  · subst e
    rw [car_4, car_5]
    exact ⟨sm_nI (by omega), fun _ => sm_nI hc⟩
  · rw [car_o (by omega) (by omega), car_o (by omega) (by omega)]
    exact (V.2.2 q hq).2.2.2.2
theorem car_rv (V : rv g) (hc : c < 4) {p : Nat} (hp : p < pN g) (h0 : g (118 + 6 * p + 4) = nI 0) : rv (car g p c) := by
  have h8 := V.p8
  have e : ∀ x, x ≠ 118 + 6 * p + 4 → x ≠ 118 + 6 * p + 5 → car g p c x = g x := fun x q1 q2 => car_o q1 q2
  refine ⟨V.1.cg (fun x q => e x (by omega) (by omega)), V.2.1.cg V.s24 (fun x q => e x (by omega) (by omega)), car_P V.2.2.1 hc hp, ?_⟩
  obtain ⟨q1, q2, q3, q4, q5, q6⟩ := V.2.2.2
  unfold rvN
  rw [tN.cg (e 174 (by omega) (by omega)), e 174 (by omega) (by omega), e 168 (by omega) (by omega), e 167 (by omega) (by omega), e 172 (by omega) (by omega), e 173 (by omega) (by omega), pN.cg (e 117 (by omega) (by omega))]
  refine ⟨q1, q2, q3, q4, q5, fun pl hpl => ?_⟩
  rw [e (170 + pl) (by omega) (by omega), q6 pl hpl]
  refine (vd.eq (pN g) fun q hq => ?_).symm
  by_cases w : q = p
  · subst w
    rw [car_4, h0, if_neg (fun z => absurd z.1 (by decide)), if_neg (fun z => absurd z.1 (by decide))]
  · rw [e (118 + 6 * q + 4) (by omega) (by omega), e (118 + 6 * q + 5) (by omega) (by omega), e (118 + 6 * q + 3) (by omega) (by omega)]
theorem pkS_P (V : rvP f) (hc : c < 4) : ∀ n, rvP (pkS f c n).1 ∧ pN (pkS f c n).1 = pN f
  | 0 => ⟨V, rfl⟩
  | n + 1 => by
    obtain ⟨ih, ip⟩ := pkS_P V hc n
    rw [pkS_1]
    cases q : pkN f c (pkS f c n) with
    | none => exact ⟨ih, ip⟩
    | some p =>
      obtain ⟨hp, h0, -⟩ := pkN_p q
      show rvP (pk1 f (pkS f c n).1 c p) ∧ pN (pk1 f (pkS f c n).1 c p) = pN f
      refine ⟨?_, (pN.cg (pk1_o (by omega) (by omega))).trans ip⟩
      unfold pk1
      split
      · exact car_P ih hc (by omega)
      · exact ih
theorem pkS_rv (V : rv f) (hc : c < 4) : ∀ n, rv (pkS f c n).1
  | 0 => V
  | n + 1 => by
    have ih := pkS_rv V hc n
    have ip := (pkS_P V.2.2.1 hc n).2
    rw [pkS_1]
    cases q : pkN f c (pkS f c n) with
    | none => exact ih
    | some p =>
      obtain ⟨hp, h0, -⟩ := pkN_p q
      show rv (pk1 f (pkS f c n).1 c p)
      unfold pk1
      split
      · exact car_rv ih hc (by omega) h0
      · exact ih
/-- what is left to look at -/
def ms (f : Nat → Int32) (L : Option Nat) : Nat := ct (fun p => lB f L p) (pN f)
theorem pk_ms : ∀ n, pkN f c (pkS f c n) = none ∨ ms f (pkS f c n).2 + n ≤ pN f
  | 0 => .inr (ct_le _)
  | n + 1 => by
    have ih := pk_ms (f := f) (c := c) n
    rw [pkS_1]
    cases q : pkN f c (pkS f c n) with
    | none => exact .inl q
    | some p =>
      rcases ih with ih | ih
      · rw [ih] at q; cases q
      · refine .inr ?_
        obtain ⟨h1, -, -, h4, -⟩ := pkN_p q
        have kk := ky_pkS (f := f) (c := c) n
        have hlt : ms f (some p) < ms f (pkS f c n).2 := by
          refine ct_more (fun i hi => ?_) (j := p) (fun z => ?_) ?_ (pN f) h1
          · unfold lB at hi h4 ⊢
            rw [decide_eq_true_eq] at hi
            rw [kk] at h4
            cases w : (pkS f c n).2 with
            | none => rfl
            | some a =>
              rw [w] at h4
              replace h4 : decide (ky f a < ky f p) = true := h4
              rw [decide_eq_true_eq] at h4
              show decide (ky f a < ky f i) = true
              rw [decide_eq_true_eq]
              omega
          · unfold lB at z
            rw [decide_eq_true_eq] at z
            omega
          · unfold lB at h4 ⊢
            rw [kk] at h4
            exact h4
        show ms f (some p) + (n + 1) ≤ pN f
        omega
theorem pk_end : pkN f c (pkS f c (pN f)) = none := by
  rcases pk_ms (f := f) (c := c) (pN f) with h | h
  · exact h
  · cases q : pkN f c (pkS f c (pN f)) with
    | none => rfl
    | some p =>
      obtain ⟨h1, -, -, h4, -⟩ := pkN_p q
      have kk := ky_pkS (f := f) (c := c) (pN f)
      have h5 := ct_more (p := fun _ => false) (q := fun p => lB f (pkS f c (pN f)).2 p) (fun i hi => by cases hi) (j := p) (by simp) (by
        unfold lB at h4 ⊢
        rw [kk] at h4
        exact h4) (pN f) h1
      unfold ms at h
      omega
theorem pk_st {n : Nat} (h : pkN f c (pkS f c n) = none) : ∀ k, pkS f c (n + k) = pkS f c n
  | 0 => rfl
  | k + 1 => by
    show pkS f c (n + k + 1) = _
    rw [pkS_1, pk_st h k, h]
theorem pk_fin {n : Nat} (hn : n ≤ pN f) (h : pkN f c (pkS f c n) = none) : pkS f c n = pkS f c (pN f) := by
  have := pk_st h (pN f - n)
  rw [show n + (pN f - n) = pN f by omega] at this
  exact this.symm
/-- what follows is the same before and after the picking up -/
theorem nx_pk1 {p : Nat} {j : Int32} {n : Nat} : nx (pk1 f g c p) j (some p) n = nx g j (some p) n := by
  refine nx_cg n (fun q hq => ?_) ky_pk1
  unfold cdB
  have e : lB (pk1 f g c p) (some p) q = lB g (some p) q := by unfold lB; rw [ky_pk1]
  rw [e]
  by_cases w : q = p
  · subst w
    have : lB g (some q) q = false := by unfold lB; rw [decide_eq_false_iff_not]; omega
    rw [this, Bool.and_false, Bool.and_false]
  · rw [pk1_o (by omega) (by omega), pk1_o (by omega) (by omega)]
end PK
theorem dl_P {f : Nat → Int32} {c n : Nat} (V : rvP f) (hc : c < 4) (hn : n ≤ pN f) : rvP (dl f c n) ∧ pN (dl f c n) = pN f := by
  have h8 := V.2.1
  refine ⟨V.w (fun x q1 q2 q3 => dl_o n x (by omega) (fun p hp => (q3 p (by omega)).1)) fun p hp => ?_, pN.cg (dl_o n _ (by omega) (fun p _ => by omega))⟩
  rw [dl_s (by omega), dl_o n (118 + 6 * p + 5) (by omega) (fun q _ => by omega)]
  obtain ⟨-, -, -, -, q5, q6⟩ := V.2.2 p hp
  by_cases q : p < n ∧ dcB f c p = true
  · rw [if_pos q]
    exact ⟨sm_nI (by omega), fun _ => q6 (by rw [(dc_e q.2).1]; decide)⟩
  · rw [if_neg q]
    exact ⟨q5, q6⟩
/-- the row behind a courier's deliveries and what it picks up -/
def P2 (f : Nat → Int32) (c : Nat) : Nat → Int32 := (pkS (dl f c (pN f)) c (pN (dl f c (pN f)))).1
theorem P2_rv {f : Nat → Int32} {c : Nat} (V : rv f) (hc : c < 4) : rv (P2 f c) := by
  obtain ⟨h1, h2⟩ := dl_rv V hc (pN f) (Nat.le_refl _)
  exact pkS_rv h1 hc _

/-! A TURN in the class: deliveries, picking up -/
theorem lpx {σ β γ : Type} {F : Nat} {f : σ → Option (σ ⊕ β)} {s0 : σ} {K : β → Option γ} {Q : γ → Prop} (P : Nat → σ → Prop) (Q1 : β → Prop) (N : Nat) (hF : N < F) (h0 : P 0 s0) (step : ∀ i s, i < N → P i s → (∃ s', f s = some (.inl s') ∧ P (i + 1) s') ∨ (∃ b, f s = some (.inr b) ∧ Q1 b)) (fin : ∀ s, P N s → ∃ b, f s = some (.inr b) ∧ Q1 b) (k : ∀ b, Q1 b → ∃ r, K b = some r ∧ Q r) : ∃ r, (lp F f s0).bind K = some r ∧ Q r := by
  obtain ⟨b, e, h⟩ := lp_inv P Q1 N hF h0 step fin
  obtain ⟨r, e2, h2⟩ := k b h
  exact ⟨r, by rw [e]; exact e2, h2⟩
section T2
variable {m m' : dM} {f g : Nat → Int32} {c : Nat}
theorem spt_dl (V : rvP f) {k p : Nat} (hp : p < 8) (e : p ≠ k) : spt (dl f c (k + 1)) p = spt (dl f c k) p := by
  unfold spt
  rw [dl_s hp, dl_s hp]
  simp only [ite_k e]
  rw [dl_o (k + 1) (118 + 6 * p + 5) (by omega) (fun q _ => by omega), dl_o k (118 + 6 * p + 5) (by omega) (fun q _ => by omega), dl_o (k + 1) (118 + 6 * p + 0) (by omega) (fun q _ => by omega), dl_o k (118 + 6 * p + 0) (by omega) (fun q _ => by omega)]
theorem spt_dk {k : Nat} (hk : k < 8) : spt (dl f c k) k = spt f k := by
  unfold spt
  rw [dl_s hk, if_neg (show ¬ (k < k ∧ dcB f c k = true) from fun z => by omega), dl_o k (118 + 6 * k + 5) (by omega) (fun q _ => by omega), dl_o k (118 + 6 * k + 0) (by omega) (fun q _ => by omega)]
theorem d37 (R : RC m 1 f) (V : rv f) (hc : c < 4) : ∃ r, D37 m (nI c) (f (97 + 5 * c + 0)) = some r ∧ r.1 = gn f c (pN f) ∧ chg (fun b => b = 14) m r.2 ∧ ∀ p, p < 8 → p < pN f → rI r.2 14 p = spt (dl f c (pN f)) p := by
  have h8 := V.p8
  unfold D37
  refine lpx (fun k s => s.1 = gn f c k ∧ s.2.1 = nI k ∧ chg (fun b => b = 14) m s.2.2 ∧ ∀ p, p < 8 → p < pN f → rI s.2.2 14 p = spt (dl f c k) p) (fun r => r.1 = gn f c (pN f) ∧ chg (fun b => b = 14) m r.2 ∧ ∀ p, p < 8 → p < pN f → rI r.2 14 p = spt (dl f c (pN f)) p) (pN f) (by omega) ⟨rfl, rfl, chg.rf, fun p h8 hp => R.sp h8 hp⟩ ?_ ?_ (fun b hb => ⟨_, rfl, hb⟩)
  · rintro k ⟨x, t, m2⟩ hk ⟨hx, ht, c2, r2⟩
    replace hx : x = gn f c k := hx
    replace ht : t = nI k := ht
    replace c2 : chg (fun b => b = 14) m m2 := c2
    replace r2 : ∀ p, p < 8 → p < pN f → rI m2 14 p = spt (dl f c k) p := r2
    subst hx ht
    refine .inl ?_
    have e0 : ∀ A B : Option ((Int32 × Int32 × dM) ⊕ (Int32 × dM)), (if rI m2 10 4 ≤ nI k then A else B) = B := fun A B => by rw [c2.1 10 (by decide), R.pc, V.p0, if_neg (nI_ge hk (by omega))]
    have e1 : gI m2 14 8 (nI k) = some (spt f k) := by rw [gI_n (by omega) (by omega), r2 k (by omega) hk, spt_dk (by omega)]
    have e2 : gI m2 11 8 (nI k) = some (f (118 + 6 * k + 1)) := by rw [gI_n (by omega) (by omega), c2.1 11 (by decide), R.tg (by omega)]
    have hno : ¬ dcB f c k = true → ∃ s', (Option.bind (some (gn f c k, m2)) fun (v4 : Int32 × dM) => some (Sum.inl (β := Int32 × dM) (v4.1, nI k + nI 1, v4.2))) = some (.inl s') ∧ s'.1 = gn f c (k + 1) ∧ s'.2.1 = nI (k + 1) ∧ chg (fun b => b = 14) m s'.2.2 ∧ ∀ p, p < 8 → p < pN f → rI s'.2.2 14 p = spt (dl f c (k + 1)) p := fun q => ⟨_, rfl, by rw [gn_1, if_neg q], nI_add k 1, c2, by rw [dl_1, if_neg q]; exact r2⟩
    show ∃ s', (if rI m2 10 4 ≤ nI k then _ else Option.bind (gI m2 14 8 (nI k)) _) = _ ∧ _
    rw [e0, e1]
    show ∃ s', Option.bind (if spt f k = nI 10 + nI c then Option.bind (gI m2 11 8 (nI k)) _ else _) _ = _ ∧ _
    rw [e2]
    show ∃ s', Option.bind (if spt f k = nI 10 + nI c then (if f (118 + 6 * k + 1) = f (97 + 5 * c + 0) then Option.bind (sI m2 14 8 (nI k) (nI 14 + nI c)) _ else _) else _) _ = _ ∧ _
    by_cases q1 : f (118 + 6 * k + 4) = nI 1 ∧ f (118 + 6 * k + 5) = nI c
    · rw [if_pos ((spt_c V hk hc).mpr q1)]
      by_cases q2 : f (118 + 6 * k + 1) = f (97 + 5 * c + 0)
      · have q : dcB f c k = true := by
          unfold dcB
          rw [decide_eq_true_eq]
          exact ⟨q1.1, q1.2, q2⟩
        rw [if_pos q2, sI_n (by omega) (by omega)]
        show ∃ s', Option.bind (Option.bind (gI (wI m2 14 k (nI 14 + nI c)) 13 8 (nI k)) _) _ = _ ∧ _
        rw [gI_n (by omega) (by omega), rI_wn (by decide), c2.1 13 (by decide), R.vl (by omega)]
        refine ⟨(gn f c k + f (118 + 6 * k + 3), nI k + nI 1, wI m2 14 k (nI 14 + nI c)), rfl, ?_, nI_add k 1, chg.wI c2 rfl, fun p h8 hp => ?_⟩
        · show gn f c k + f (118 + 6 * k + 3) = gn f c (k + 1)
          rw [gn_1, if_pos q]
        · show rI (wI m2 14 k (nI 14 + nI c)) 14 p = _
          rw [rI_ws]
          by_cases e : p = k
          · subst e
            rw [upd_s]
            unfold spt
            rw [dl_s h8, if_pos ⟨by omega, q⟩, if_neg (by decide), if_neg (by decide), dl_o (p + 1) (118 + 6 * p + 5) (by omega) (fun q _ => by omega), q1.2]
          · rw [upd_n e, r2 p h8 hp, spt_dl V.2.2.1 h8 e]
      · rw [if_neg q2]
        exact hno (fun z => q2 (by unfold dcB at z; rw [decide_eq_true_eq] at z; exact z.2.2))
    · rw [if_neg (fun z => q1 ((spt_c V hk hc).mp z))]
      exact hno (fun z => q1 (dc_e z))
  · rintro ⟨x, t, m2⟩ ⟨hx, ht, c2, r2⟩
    replace ht : t = nI (pN f) := ht
    replace c2 : chg (fun b => b = 14) m m2 := c2
    subst ht
    refine ⟨(x, m2), ?_, hx, c2, r2⟩
    show (if rI m2 10 4 ≤ nI (pN f) then _ else _) = _
    rw [c2.1 10 (by decide), R.pc, V.p0, if_pos (nI_le (Nat.le_refl _) (by omega))]
theorem d130 (hc : c < 4) : D130 (nI c) = some (nI (c / 2)) := by
  have : c = 0 ∨ c = 1 ∨ c = 2 ∨ c = 3 := by omega
  rcases this with rfl | rfl | rfl | rfl <;> rfl
/-- the points are written -/
theorem RC_dl (R : RC m 1 f) (V : rv f) (hc : c < 4) {m1 : dM} (c1 : chg (fun b => b = 14) m m1) (h : ∀ p, p < 8 → p < pN f → rI m1 14 p = spt (dl f c (pN f)) p) : RC (wI m1 17 (c / 2) (f (170 + c / 2) + gn f c (pN f))) 1 (dl f c (pN f)) := by
  have h8 := V.p8
  have k : ∀ b, b ≠ 14 → b ≠ 17 → rI (wI m1 17 (c / 2) (f (170 + c / 2) + gn f c (pN f))) b = rI m b := fun b q1 q2 => (rI_wn q2).trans (c1.1 b q1)
  have e : ∀ x, x ≠ 170 + c / 2 → (∀ p, p < 8 → x ≠ 118 + 6 * p + 4) → dl f c (pN f) x = f x := fun x q1 q2 => dl_o _ x q1 (fun p hp => q2 p (by omega))
  refine ⟨R.1.cg (fun x q => e x (by omega) (fun p _ => by omega)) (fun b _ _ => k b (by omega) (by omega)), R.2.1.cg (fun x _ q => e x (by omega) (fun p _ => by omega)) (fun b _ _ => k b (by omega) (by omega)), ⟨?_, fun p hp => ?_⟩, R.2.2.2.1.cg V.t61 (fun x q => e x (by omega) (fun p _ => by omega)) (fun b _ _ => ⟨k b (by omega) (by omega), ?_⟩), ⟨fun j hj => ?_, ?_⟩⟩
  · rw [k 10 (by omega) (by omega), e 117 (by omega) (fun p _ => by omega)]
    exact R.pc
  · rw [k 11 (by omega) (by omega), k 12 (by omega) (by omega), k 13 (by omega) (by omega), e (118 + 6 * p + 1) (by omega) (fun p _ => by omega), e (118 + 6 * p + 2) (by omega) (fun p _ => by omega), e (118 + 6 * p + 3) (by omega) (fun p _ => by omega), (dl_rv V hc (pN f) (Nat.le_refl _)).2]
    exact ⟨R.tg hp, R.wg hp, R.vl hp, fun hq => (by rw [rI_wn (by decide)]; exact h p hp hq)⟩
  · exact c1.2.1 b (by omega)
  · show rI (wI m1 17 (c / 2) (f (170 + c / 2) + gn f c (pN f))) 17 j = _
    rw [rI_ws]
    by_cases q : j = c / 2
    · subst q
      rw [upd_s, dl_p _ h8]
    · rw [upd_n q, c1.1 17 (by decide), R.pt hj, e (170 + j) (by omega) (fun p _ => by omega)]
  · show rI _ 1 5 = _ ∧ rI _ 1 6 = _ ∧ rI _ 1 7 = _ ∧ rI _ 1 8 = _ ∧ rI _ 1 9 = _
    rw [k 1 (by omega) (by omega), e 166 (by omega) (fun p _ => by omega), e 167 (by omega) (fun p _ => by omega), e 168 (by omega) (fun p _ => by omega), e 169 (by omega) (fun p _ => by omega), e 172 (by omega) (fun p _ => by omega), e 173 (by omega) (fun p _ => by omega)]
    exact R.2.2.2.2.2
theorem ky_lt (P : rvP g) {a b : Nat} (ha : a < pN g) (hb : b < pN g) : ky g a < ky g b ↔ g (118 + 6 * b + 3) < g (118 + 6 * a + 3) ∨ (g (118 + 6 * a + 3) = g (118 + 6 * b + 3) ∧ (g (118 + 6 * a + 2) < g (118 + 6 * b + 2) ∨ (g (118 + 6 * a + 2) = g (118 + 6 * b + 2) ∧ a < b))) := by
  have h8 := P.2.1
  obtain ⟨-, -, ⟨w, hw, ew⟩, ⟨v, hv, hv0, ev⟩, -⟩ := P.2.2 a ha
  obtain ⟨-, -, ⟨w', hw', ew'⟩, ⟨v', hv', hv0', ev'⟩, -⟩ := P.2.2 b hb
  unfold ky
  rw [ew, ev, ew', ev', nI_clamp (by omega), nI_clamp (by omega), nI_clamp (by omega), nI_clamp (by omega), nI_ltI (by omega) (by omega), nI_ltI (by omega) (by omega), nI_eq (by omega) (by omega), nI_eq (by omega) (by omega)]
  omega
theorem vl_pos (P : rvP g) {a : Nat} (ha : a < pN g) : nI 0 < g (118 + 6 * a + 3) := by
  obtain ⟨-, -, -, ⟨v, hv, hv0, ev⟩, -⟩ := P.2.2 a ha
  rw [ev]
  exact nI_lt hv0 (by omega)
theorem spt_j (V : rv g) {p : Nat} (hp : p < pN g) {j : Int32} (hj : sm j 10) : (spt g p = j) = (g (118 + 6 * p + 4) = nI 0 ∧ g (118 + 6 * p + 0) = j) := by
  obtain ⟨i, hi, rfl⟩ := hj
  obtain ⟨⟨a, h4, e4⟩, -, -, -, -, h5⟩ := V.2.2.1.2.2 p hp
  unfold spt
  by_cases q1 : g (118 + 6 * p + 4) = nI 0
  · rw [if_pos q1]
    simp only [q1, true_and]
  · obtain ⟨b, h6, e6⟩ := h5 q1
    rw [if_neg q1, e6, nI_add, nI_add]
    refine propext ⟨fun z => ?_, fun z => absurd z.1 q1⟩
    split at z
    · rw [nI_eq (by omega) (by omega)] at z
      omega
    · rw [nI_eq (by omega) (by omega)] at z
      omega
def bv (g : Nat → Int32) (k : Nat) : Option Nat → Int32
  | none => nI 0
  | some q => g (118 + 6 * q + k)
theorem d39 (R : RC m 1 g) (V : rv g) {j : Int32} (hj : sm j 10) {L : Option Nat} {mask : Int32} (hm : ∀ p, p < pN g → g (118 + 6 * p + 4) = nI 0 → g (118 + 6 * p + 0) = j → (bt mask p = true ↔ lB g L p = false)) : D39 m j mask = some (oi (nx g j L (pN g))) := by
  have h8 := V.p8
  unfold D39
  refine lpb (oi (nx g j L (pN g))) (fun i => (oi (nx g j L i), bv g 3 (nx g j L i), bv g 2 (nx g j L i), nI i)) (pN g) (by omega) rfl (fun i hi => ?_) ?_ rfl
  · have e0 : ∀ A B : Option ((Int32 × Int32 × Int32 × Int32) ⊕ Int32), (if rI m 10 4 ≤ nI i then A else B) = B := fun A B => by rw [R.pc, V.p0, if_neg (nI_ge hi (by omega))]
    show (if rI m 10 4 ≤ nI i then _ else Option.bind (gI m 14 8 (nI i)) _) = _
    rw [e0, gI_n (by omega) (by omega), R.sp (by omega) hi]
    show Option.bind (if spt g i = j then (if (mask >>> (nI i &&& nI 31)) &&& nI 1 = nI 1 then some (nI 1) else some (nI 0)) else some (nI 1)) _ = _
    have hv4 : ∃ v, (if spt g i = j then (if (mask >>> (nI i &&& nI 31)) &&& nI 1 = nI 1 then some (nI 1) else some (nI 0)) else some (nI 1)) = some v ∧ (v = nI 0 ↔ cdB g j L i = true) := by
      unfold cdB
      rw [spt_j V hi hj, bit1 (by omega)]
      by_cases q1 : g (118 + 6 * i + 4) = nI 0 ∧ g (118 + 6 * i + 0) = j
      · rw [if_pos q1, decide_eq_true q1, Bool.true_and]
        have := hm i hi q1.1 q1.2
        by_cases q2 : bt mask i = true
        · rw [if_pos q2, this.mp q2]
          exact ⟨_, rfl, by simp [n10]⟩
        · rw [if_neg q2]
          have q3 : lB g L i = true := by
            cases w : lB g L i with
            | true => rfl
            | false => exact absurd (this.mpr w) q2
          rw [q3]
          exact ⟨_, rfl, by simp⟩
      · rw [if_neg q1, decide_eq_false q1, Bool.false_and]
        exact ⟨_, rfl, by simp [n10]⟩
    obtain ⟨v, ev, hv⟩ := hv4
    rw [ev]
    show Option.bind (if v = nI 0 then Option.bind (gI m 13 8 (nI i)) _ else _) _ = _
    rw [nx_1, gI_n (by omega) (by omega), R.vl (by omega), gI_n (by omega) (by omega), R.wg (by omega)]
    show Option.bind (if v = nI 0 then (if bv g 3 (nx g j L i) < g (118 + 6 * i + 3) then some (nI i, g (118 + 6 * i + 3), g (118 + 6 * i + 2)) else (if g (118 + 6 * i + 3) = bv g 3 (nx g j L i) then (if bv g 2 (nx g j L i) ≤ g (118 + 6 * i + 2) then some (oi (nx g j L i), bv g 3 (nx g j L i), bv g 2 (nx g j L i)) else some (nI i, g (118 + 6 * i + 3), g (118 + 6 * i + 2))) else some (oi (nx g j L i), bv g 3 (nx g j L i), bv g 2 (nx g j L i)))) else some (oi (nx g j L i), bv g 3 (nx g j L i), bv g 2 (nx g j L i))) _ = _
    by_cases q : cdB g j L i = true
    · rw [if_pos (hv.mpr q), if_pos q]
      cases w : nx g j L i with
      | none =>
        rw [if_pos (show bv g 3 none < g (118 + 6 * i + 3) from vl_pos V.2.2.1 hi)]
        show some _ = some _
        rw [nI_add]
        rfl
      | some a =>
        obtain ⟨ha, -⟩ := nx_some w
        have kk := ky_lt V.2.2.1 hi (show a < pN g by omega)
        show Option.bind (if g (118 + 6 * a + 3) < g (118 + 6 * i + 3) then _ else (if g (118 + 6 * i + 3) = g (118 + 6 * a + 3) then (if g (118 + 6 * a + 2) ≤ g (118 + 6 * i + 2) then _ else _) else _)) _ = some (Sum.inl (oi (if ky g i < ky g a then some i else some a), bv g 3 (if ky g i < ky g a then some i else some a), bv g 2 (if ky g i < ky g a then some i else some a), nI (i + 1)))
        rw [← nI_add]
        by_cases w1 : g (118 + 6 * a + 3) < g (118 + 6 * i + 3)
        · rw [if_pos w1, if_pos (kk.mpr (.inl w1))]
          rfl
        · rw [if_neg w1]
          by_cases w2 : g (118 + 6 * i + 3) = g (118 + 6 * a + 3)
          · rw [if_pos w2]
            by_cases w3 : g (118 + 6 * a + 2) ≤ g (118 + 6 * i + 2)
            · rw [if_pos w3, if_neg (fun z => by
                rcases kk.mp z with z | ⟨-, z | ⟨-, z⟩⟩
                · exact w1 z
                · exact absurd z (Int32.not_lt.mpr w3)
                · omega)]
              rfl
            · rw [if_neg w3, if_pos (kk.mpr (.inr ⟨w2, .inl (Int32.not_le.mp w3)⟩))]
              rfl
          · rw [if_neg w2, if_neg (fun z => by
              rcases kk.mp z with z | ⟨z, -⟩
              · exact w1 z
              · exact w2 z)]
            rfl
    · rw [if_neg (fun z => q (hv.mp z)), if_neg q, ← nI_add]
      rfl
  · show (if rI m 10 4 ≤ nI (pN g) then _ else _) = _
    rw [R.pc, V.p0, if_pos (nI_le (Nat.le_refl _) (by omega))]
theorem RC_car (R : RC m 1 g) (V : rv g) {p : Nat} (hp : p < pN g) : RC (wI m 14 p (nI 10 + nI c)) 1 (car g p c) := by
  have h8 := V.p8
  have k : ∀ b, b ≠ 14 → rI (wI m 14 p (nI 10 + nI c)) b = rI m b := fun b q1 => rI_wn q1
  have e : ∀ x, x ≠ 118 + 6 * p + 4 → x ≠ 118 + 6 * p + 5 → car g p c x = g x := fun x q1 q2 => car_o q1 q2
  refine ⟨R.1.cg (fun x q => e x (by omega) (by omega)) (fun b _ _ => k b (by omega)), R.2.1.cg (fun x _ q => e x (by omega) (by omega)) (fun b _ _ => k b (by omega)), ⟨?_, fun q hq => ?_⟩, R.2.2.2.1.cg V.t61 (fun x q => e x (by omega) (by omega)) (fun b _ _ => ⟨k b (by omega), rfl⟩), R.2.2.2.2.cg (fun x _ q => e x (by omega) (by omega)) (fun b q => k b (by omega))⟩
  · rw [k 10 (by omega), e 117 (by omega) (by omega)]
    exact R.pc
  · rw [k 11 (by omega), k 12 (by omega), k 13 (by omega), e (118 + 6 * q + 1) (by omega) (by omega), e (118 + 6 * q + 2) (by omega) (by omega), e (118 + 6 * q + 3) (by omega) (by omega), pN.cg (e 117 (by omega) (by omega))]
    refine ⟨R.tg hq, R.wg hq, R.vl hq, fun hn => ?_⟩
    show rI (wI m 14 p (nI 10 + nI c)) 14 q = _
    rw [rI_ws]
    unfold spt
    by_cases w : q = p
    · subst w
      rw [upd_s, car_4, car_5, if_neg (by decide), if_pos rfl]
    · rw [upd_n w, R.sp hq hn, e (118 + 6 * q + 4) (by omega) (by omega), e (118 + 6 * q + 5) (by omega) (by omega), e (118 + 6 * q + 0) (by omega) (by omega)]
      rfl
theorem d38 (R : RC m 1 f) (V : rv f) (hc : c < 4) : ∃ m', D38 m (nI c) (f (97 + 5 * c + 0)) (mx f c) = some m' ∧ chg (fun b => b = 14) m m' ∧ RC m' 1 (pkS f c (pN f)).1 := by
  have h8 := V.p8
  have hat : sm (f (97 + 5 * c + 0)) 10 := (V.2.1.1 c hc).1
  unfold D38
  rw [d34 R V hc]
  show ∃ m', lp _ _ _ = some m' ∧ _
  refine lp_inv (fun k s => s.1 = ld (pkS f c k).1 (nI c) (pN f) ∧ s.2.2.1 = nI k ∧ chg (fun b => b = 14) m s.2.2.2 ∧ RC s.2.2.2 1 (pkS f c k).1 ∧ ∀ p, p < pN f → (pkS f c k).1 (118 + 6 * p + 4) = nI 0 → (pkS f c k).1 (118 + 6 * p + 0) = f (97 + 5 * c + 0) → (bt s.2.1 p = true ↔ lB (pkS f c k).1 (pkS f c k).2 p = false)) (fun m' => chg (fun b => b = 14) m m' ∧ RC m' 1 (pkS f c (pN f)).1) (pN f) (by omega) ⟨rfl, rfl, chg.rf, R, fun p _ _ _ => ?_⟩ ?_ ?_
  · show (bt (nI 0) p = true ↔ lB f none p = false)
    rw [show nI 0 = 0 from rfl, b_0]
    unfold lB
    simp
  · rintro k ⟨x, mask, t, m2⟩ hk ⟨hx, ht, c2, R2, hm⟩
    have V2 := pkS_rv V hc k
    have hpn := (pkS_P V.2.2.1 hc k).2
    replace hx : x = ld (pkS f c k).1 (nI c) (pN f) := hx
    replace ht : t = nI k := ht
    replace c2 : chg (fun b => b = 14) m m2 := c2
    replace R2 : RC m2 1 (pkS f c k).1 := R2
    replace hm : ∀ p, p < pN f → (pkS f c k).1 (118 + 6 * p + 4) = nI 0 → (pkS f c k).1 (118 + 6 * p + 0) = f (97 + 5 * c + 0) → (bt mask p = true ↔ lB (pkS f c k).1 (pkS f c k).2 p = false) := hm
    subst hx ht
    have e0 : ∀ A B : Option ((Int32 × Int32 × Int32 × dM) ⊕ dM), (if rI m2 10 4 ≤ nI k then A else B) = B := fun A B => by rw [c2.1 10 (by decide), R.pc, V.p0, if_neg (nI_ge hk (by omega))]
    have e1 : D39 m2 (f (97 + 5 * c + 0)) mask = some (oi (pkN f c (pkS f c k))) := by
      have := d39 R2 V2 hat (L := (pkS f c k).2) (mask := mask) (by rw [hpn]; exact hm)
      rw [hpn] at this
      exact this
    show (∃ s', (if rI m2 10 4 ≤ nI k then _ else Option.bind (D39 m2 (f (97 + 5 * c + 0)) mask) _) = _ ∧ _) ∨ (∃ b, (if rI m2 10 4 ≤ nI k then _ else Option.bind (D39 m2 (f (97 + 5 * c + 0)) mask) _) = _ ∧ _)
    rw [e0, e1]
    show (∃ s', Option.bind (D29 m2 (oi (pkN f c (pkS f c k)))) _ = _ ∧ _) ∨ (∃ b, Option.bind (D29 m2 (oi (pkN f c (pkS f c k)))) _ = _ ∧ _)
    cases q : pkN f c (pkS f c k) with
    | none =>
      rw [show oi none = (-1 : Int32) from rfl, d29b R2 V2 bad_m1]
      refine .inr ⟨m2, rfl, c2, ?_⟩
      rw [← pk_fin (by omega) q]
      exact R2
    | some p =>
      obtain ⟨h1, h2, h3, h4, h5⟩ := pkN_p q
      have kk := ky_pkS (f := f) (c := c) k
      rw [show oi (some p) = nI p from rfl, d29 R2 V2 (by rw [hpn]; exact h1)]
      refine .inl ?_
      show ∃ s', Option.bind (gI m2 12 8 (nI p)) _ = _ ∧ _
      rw [gI_n (by omega) (by omega), R2.wg (by omega)]
      show ∃ s', Option.bind (if mx f c < ld (pkS f c k).1 (nI c) (pN f) + (pkS f c k).1 (118 + 6 * p + 2) then _ else Option.bind (sI m2 14 8 (nI p) (nI 10 + nI c)) _) _ = _ ∧ _
      have hS : pkS f c (k + 1) = (pk1 f (pkS f c k).1 c p, some p) := by rw [pkS_1, q]
      have hmask : ∀ a, a < pN f → (pkS f c (k + 1)).1 (118 + 6 * a + 4) = nI 0 → (pkS f c (k + 1)).1 (118 + 6 * a + 0) = f (97 + 5 * c + 0) → (bt (mask ||| (nI 1 <<< (nI p &&& nI 31))) a = true ↔ lB (pkS f c (k + 1)).1 (pkS f c (k + 1)).2 a = false) := by
        intro a ha z1 z2
        have k2 := ky_pkS (f := f) (c := c) (k + 1)
        have w1 : (pkS f c k).1 (118 + 6 * a + 4) = nI 0 := by
          by_cases e : a = p
          · rw [e]; exact h2
          · rw [hS] at z1
            replace z1 : pk1 f (pkS f c k).1 c p (118 + 6 * a + 4) = nI 0 := z1
            rwa [pk1_o (by omega) (by omega)] at z1
        have w2 : (pkS f c k).1 (118 + 6 * a + 0) = f (97 + 5 * c + 0) := by
          rw [hS] at z2
          replace z2 : pk1 f (pkS f c k).1 c p (118 + 6 * a + 0) = f (97 + 5 * c + 0) := z2
          rwa [pk1_o (by omega) (by omega)] at z2
        have hk2 := hm a ha w1 w2
        have hl : lB (pkS f c (k + 1)).1 (pkS f c (k + 1)).2 a = decide (ky f p < ky f a) := by
          rw [hS]
          show decide (ky (pk1 f (pkS f c k).1 c p) p < ky (pk1 f (pkS f c k).1 c p) a) = _
          rw [ky_pk1, kk]
        rw [hl, b_or, Bool.or_eq_true, mk.one (show p < 10 by omega) a (by omega), decide_eq_false_iff_not]
        constructor
        · rintro (w | ⟨-, rfl⟩)
          · have w3 := hk2.mp w
            intro w4
            unfold lB at w3 h4
            cases w5 : (pkS f c k).2 with
            | none =>
              rw [w5] at w3
              cases w3
            | some b =>
              rw [w5] at w3 h4
              replace w3 : decide (ky (pkS f c k).1 b < ky (pkS f c k).1 a) = false := w3
              replace h4 : decide (ky (pkS f c k).1 b < ky (pkS f c k).1 p) = true := h4
              rw [kk, decide_eq_false_iff_not] at w3
              rw [kk, decide_eq_true_eq] at h4
              omega
          · exact Nat.lt_irrefl _
        · intro w
          by_cases w3 : bt mask a = true
          · exact .inl w3
          · refine .inr ⟨by omega, ?_⟩
            have w4 : lB (pkS f c k).1 (pkS f c k).2 a = true := by
              cases w5 : lB (pkS f c k).1 (pkS f c k).2 a with
              | true => rfl
              | false => exact absurd (hk2.mpr w5) w3
            have w6 := h5 a ha (by
              unfold cdB
              rw [decide_eq_true ⟨w1, w2⟩, w4]
              rfl)
            rw [kk] at w6
            have hwt : ∀ i, i < pN f → (f (118 + 6 * i + 2)).toNatClampNeg < 10 := fun i hi => by
              have := ((V.2.2.1.2.2 i hi).2.2.1.tn (by omega)).2
              omega
            exact ky_inj (f := f) (by omega) (by omega) (hwt a ha) (hwt p h1) (show ky f a = ky f p by omega)
      by_cases w : mx f c < ld (pkS f c k).1 (nI c) (pN f) + (pkS f c k).1 (118 + 6 * p + 2)
      · have hp1 : pk1 f (pkS f c k).1 c p = (pkS f c k).1 := by
          unfold pk1
          rw [if_neg (Int32.not_le.mpr w)]
        rw [if_pos w]
        refine ⟨(ld (pkS f c k).1 (nI c) (pN f), mask ||| (nI 1 <<< (nI p &&& nI 31)), nI k + nI 1, m2), rfl, ?_, nI_add k 1, c2, ?_, hmask⟩
        · show _ = ld (pkS f c (k + 1)).1 (nI c) (pN f)
          rw [hS, hp1]
        · show RC m2 1 (pkS f c (k + 1)).1
          rw [hS, hp1]
          exact R2
      · have hp1 : pk1 f (pkS f c k).1 c p = car (pkS f c k).1 p c := by
          unfold pk1
          rw [if_pos (Int32.not_lt.mp w)]
        rw [if_neg w, sI_n (by omega) (by omega)]
        show ∃ s', Option.bind (Option.bind (gI (wI m2 14 p (nI 10 + nI c)) 12 8 (nI p)) _) _ = _ ∧ _
        rw [gI_n (by omega) (by omega), rI_wn (by decide), R2.wg (by omega)]
        refine ⟨(ld (pkS f c k).1 (nI c) (pN f) + (pkS f c k).1 (118 + 6 * p + 2), mask ||| (nI 1 <<< (nI p &&& nI 31)), nI k + nI 1, wI m2 14 p (nI 10 + nI c)), rfl, ?_, nI_add k 1, chg.wI c2 rfl, ?_, hmask⟩
        · show _ = ld (pkS f c (k + 1)).1 (nI c) (pN f)
          rw [hS]
          show _ = ld (pk1 f (pkS f c k).1 c p) (nI c) (pN f)
          rw [hp1, ld_car h2, if_pos h1]
        · show RC (wI m2 14 p (nI 10 + nI c)) 1 (pkS f c (k + 1)).1
          rw [hS]
          show RC (wI m2 14 p (nI 10 + nI c)) 1 (pk1 f (pkS f c k).1 c p)
          rw [hp1]
          exact RC_car R2 V2 (by rw [hpn]; exact h1)
  · rintro ⟨x, mask, t, m2⟩ ⟨hx, ht, c2, R2, hm⟩
    replace ht : t = nI (pN f) := ht
    replace c2 : chg (fun b => b = 14) m m2 := c2
    subst ht
    refine ⟨m2, ?_, c2, R2⟩
    show (if rI m2 10 4 ≤ nI (pN f) then _ else _) = _
    rw [c2.1 10 (by decide), R.pc, V.p0, if_pos (nI_le (Nat.le_refl _) (by omega))]
/-- what one courier does behind the moves -/
theorem t2s (R : RC m 1 f) (V : rv f) (hc : c < 4) : ∃ m', ((D130 (nI c)).bind fun (x15 : Int32) => (gI m 17 2 x15).bind fun (x16 : Int32) => (gI m 6 4 (nI c)).bind fun (x17 : Int32) => (D37 m (nI c) x17).bind fun (r18 : Int32 × dM) => (sI r18.2 17 2 x15 (x16 + r18.1)).bind fun (m19 : dM) => (gI m19 6 4 (nI c)).bind fun (x20 : Int32) => (D45 m19 (nI c)).bind fun (x21 : Int32) => D38 m19 (nI c) x20 x21) = some m' ∧ chg (fun b => b = 14 ∨ b = 17) m m' ∧ RC m' 1 (P2 f c) := by
  have hc2 : c / 2 < 2 := by omega
  rw [d130 hc]
  show ∃ m', Option.bind (gI m 17 2 (nI (c / 2))) _ = _ ∧ _
  rw [gI_n hc2 (by omega), R.pt hc2]
  show ∃ m', Option.bind (gI m 6 4 (nI c)) _ = _ ∧ _
  rw [gI_n hc (by omega), R.at hc]
  show ∃ m', Option.bind (D37 m (nI c) (f (97 + 5 * c + 0))) _ = _ ∧ _
  obtain ⟨⟨x, m1⟩, e1, hx, c1, h1⟩ := d37 R V hc
  replace hx : x = gn f c (pN f) := hx
  subst hx
  rw [e1]
  show ∃ m', Option.bind (sI m1 17 2 (nI (c / 2)) (f (170 + c / 2) + gn f c (pN f))) _ = _ ∧ _
  rw [sI_n hc2 (by omega)]
  have R2 := RC_dl R V hc c1 h1
  obtain ⟨V2, p2⟩ := dl_rv V hc (pN f) (Nat.le_refl _)
  show ∃ m', Option.bind (gI (wI m1 17 (c / 2) (f (170 + c / 2) + gn f c (pN f))) 6 4 (nI c)) _ = _ ∧ _
  rw [gI_n hc (by omega), R2.at hc]
  show ∃ m', Option.bind (D45 (wI m1 17 (c / 2) (f (170 + c / 2) + gn f c (pN f))) (nI c)) _ = _ ∧ _
  rw [d45 R2 V2 hc]
  obtain ⟨m3, e3, c3, R3⟩ := d38 R2 V2 hc
  exact ⟨m3, e3, ((c1.mono (fun b e => .inl e)).wI (.inr rfl)).tr (c3.mono (fun b e => .inl e)), R3⟩
end T2

/-! A TURN in the reference: deliveries, picking up; both as one row -/
theorem sub_0 {a b : Nat} (ha : a < 100) (hb : b < 100) : (nI a - nI b = nI 0) = (a = b) := by
  have h := pk_sub_toInt (a := a) (b := b) (by omega) (by omega)
  have h0 := nI_toInt (n := 0) (by omega)
  refine propext ⟨fun e => ?_, fun e => ?_⟩
  · rw [e, h0] at h
    omega
  · rw [e]
    exact Int32.sub_self _
theorem sub_p {a b : Nat} (ha : a < 100) (hb : b < 100) : (nI 0 < nI a - nI b) = (b < a) := by
  have h := pk_sub_toInt (a := a) (b := b) (by omega) (by omega)
  have h0 := nI_toInt (n := 0) (by omega)
  rw [Int32.lt_iff_toInt_lt, h, h0]
  exact propext ⟨fun _ => by omega, fun _ => by omega⟩
theorem upd_cm {f : Nat → Int32} {a b : Nat} {x y : Int32} (h : a ≠ b) : upd (upd f a x) b y = upd (upd f b y) a x := by
  funext i
  by_cases e1 : i = a
  · subst e1
    rw [upd_n h, upd_s, upd_s]
  · by_cases e2 : i = b
    · subst e2
      rw [upd_s, upd_n e1, upd_s]
    · rw [upd_n e2, upd_n e1, upd_n e1, upd_n e2]
section TM
variable {m : dM} {f : Nat → Int32} {c : Nat}
theorem d174 (hf : rI m 131 = f) (P : rvP f) {a b : Nat} (ha : a < pN f) (hb : b < pN f) : D174 m (nI a) (nI b) = some (if ky f a < ky f b then nI 1 else nI 0) := by
  have h8 := P.2.1
  obtain ⟨-, -, ⟨w, hw, ew⟩, ⟨v, hv, hv0, ev⟩, -⟩ := P.2.2 a ha
  obtain ⟨-, -, ⟨w', hw', ew'⟩, ⟨v', hv', hv0', ev'⟩, -⟩ := P.2.2 b hb
  unfold D174
  rw [d152 hf (by omega) (by omega), d152 hf (by omega) (by omega), d152 hf (by omega) (by omega), d152 hf (by omega) (by omega), ew, ev, ew', ev']
  have hky : ky f a < ky f b ↔ v' < v ∨ (v = v' ∧ (w < w' ∨ (w = w' ∧ a < b))) := by
    unfold ky
    rw [ew, ev, ew', ev', nI_clamp (by omega), nI_clamp (by omega), nI_clamp (by omega), nI_clamp (by omega)]
    omega
  simp only [Option.bind_some]
  by_cases q : v = v'
  · rw [if_pos (show nI v - nI v' = nI 0 from (sub_0 (by omega) (by omega)).mpr q)]
    show Option.bind (if nI 0 < nI w' - nI w then some (nI 1) else if nI w' - nI w = nI 0 then (if nI b ≤ nI a then some (nI 0) else some (nI 1)) else some (nI 0)) _ = _
    by_cases q2 : w < w'
    · rw [if_pos ((sub_p (by omega) (by omega)).mpr q2), if_pos (hky.mpr (.inr ⟨q, .inl q2⟩))]
      rfl
    · rw [if_neg (fun z => q2 ((sub_p (by omega) (by omega)).mp z))]
      by_cases q3 : w = w'
      · rw [if_pos ((sub_0 (by omega) (by omega)).mpr q3.symm)]
        by_cases q4 : a < b
        · rw [if_neg (nI_ge q4 (by omega)), if_pos (hky.mpr (.inr ⟨q, .inr ⟨q3, q4⟩⟩))]
          rfl
        · rw [if_pos (nI_le (by omega) (by omega)), if_neg (fun z => by have := hky.mp z; omega)]
          rfl
      · rw [if_neg (fun z => q3 ((sub_0 (by omega) (by omega)).mp z).symm), if_neg (fun z => by have := hky.mp z; omega)]
        rfl
  · rw [if_neg (show ¬ nI v - nI v' = nI 0 from fun z => q ((sub_0 (by omega) (by omega)).mp z))]
    show Option.bind (if nI 0 < nI v - nI v' then some (nI 1) else if nI v - nI v' = nI 0 then (if nI b ≤ nI a then some (nI 0) else some (nI 1)) else some (nI 0)) _ = _
    by_cases q2 : v' < v
    · rw [if_pos ((sub_p (by omega) (by omega)).mpr q2), if_pos (hky.mpr (.inl q2))]
      rfl
    · rw [if_neg (fun z => q2 ((sub_p (by omega) (by omega)).mp z)), if_neg (fun z => q ((sub_0 (by omega) (by omega)).mp z)), if_neg (fun z => by have := hky.mp z; omega)]
      rfl
theorem oi_m {q : Nat} (h : q < 8) : (oi (some q) = -1) = False := nI_m1 (by omega)
theorem d173 (hf : rI m 131 = f) (P : rvP f) {j : Int32} {L : Option Nat} (hL : ∀ q, L = some q → q < pN f) : D173 m j (oi L) = some (oi (nx f j L (pN f))) := by
  have h8 := P.2.1
  unfold D173
  refine lpb (oi (nx f j L (pN f))) (fun i => (oi (nx f j L i), nI i)) (pN f) (by omega) rfl (fun i hi => ?_) ?_ rfl
  · have e0 : ∀ A B : Option ((Int32 × Int32) ⊕ Int32), (if rI m 131 117 ≤ nI i then A else B) = B := fun A B => by rw [hf, P.1, if_neg (nI_ge hi (by omega))]
    show (if rI m 131 117 ≤ nI i then _ else Option.bind (D152 m (nI i) (nI 4)) _) = _
    rw [e0, d152 hf (by omega) (by omega), d152 hf (by omega) (by omega)]
    show Option.bind (if f (118 + 6 * i + 4) = nI 0 then (if f (118 + 6 * i + 0) = j then (if oi L = -1 then some (nI 1) else Option.bind (D174 m (oi L) (nI i)) fun (x6 : Int32) => if x6 = nI 0 then some (nI 0) else some (nI 1)) else some (nI 0)) else some (nI 0)) _ = _
    have hv : ∃ v, (if f (118 + 6 * i + 4) = nI 0 then (if f (118 + 6 * i + 0) = j then (if oi L = -1 then some (nI 1) else Option.bind (D174 m (oi L) (nI i)) fun (x6 : Int32) => if x6 = nI 0 then some (nI 0) else some (nI 1)) else some (nI 0)) else some (nI 0)) = some v ∧ (v = nI 0 ↔ ¬ cdB f j L i = true) := by
      unfold cdB
      by_cases q1 : f (118 + 6 * i + 4) = nI 0
      · rw [if_pos q1]
        by_cases q2 : f (118 + 6 * i + 0) = j
        · rw [if_pos q2, decide_eq_true ⟨q1, q2⟩, Bool.true_and]
          cases L with
          | none => exact ⟨nI 1, if_pos rfl, by unfold lB; simp [n10]⟩
          | some a =>
            have ha := hL a rfl
            rw [if_neg (by rw [oi_m (by omega)]; exact id), show oi (some a) = nI a from rfl, d174 hf P ha hi]
            unfold lB
            by_cases w : ky f a < ky f i
            · exact ⟨nI 1, by rw [if_pos w]; rfl, by simp [n10, w]⟩
            · exact ⟨nI 0, by rw [if_neg w]; rfl, by simp [w]⟩
        · rw [if_neg q2, decide_eq_false (fun z => q2 z.2), Bool.false_and]
          exact ⟨_, rfl, by simp⟩
      · rw [if_neg q1, decide_eq_false (fun z => q1 z.1), Bool.false_and]
        exact ⟨_, rfl, by simp⟩
    obtain ⟨v, ev, hv⟩ := hv
    rw [ev]
    show Option.bind (if v = nI 0 then some (oi (nx f j L i)) else if oi (nx f j L i) = -1 then some (nI i) else Option.bind (D174 m (nI i) (oi (nx f j L i))) fun (x8 : Int32) => if x8 = nI 0 then some (oi (nx f j L i)) else some (nI i)) _ = _
    rw [nx_1]
    by_cases q : cdB f j L i = true
    · rw [if_neg (fun z => hv.mp z q), if_pos q]
      cases w : nx f j L i with
      | none =>
        rw [if_pos (show oi none = (-1 : Int32) from rfl), ← nI_add]
        rfl
      | some a =>
        obtain ⟨ha, -⟩ := nx_some w
        rw [if_neg (by rw [oi_m (by omega)]; exact id), show oi (some a) = nI a from rfl, d174 hf P hi (by omega)]
        show Option.bind (if (if ky f i < ky f a then nI 1 else nI 0) = nI 0 then some (nI a) else some (nI i)) _ = some (Sum.inl (oi (if ky f i < ky f a then some i else some a), nI (i + 1)))
        rw [← nI_add]
        by_cases z : ky f i < ky f a
        · rw [if_pos z, if_pos z, if_neg (by decide)]
          rfl
        · rw [if_neg z, if_neg z, if_pos rfl]
          rfl
    · rw [if_pos (hv.mpr q), if_neg q, ← nI_add]
      rfl
  · show (if rI m 131 117 ≤ nI (pN f) then _ else _) = _
    rw [hf, P.1, if_pos (nI_le (Nat.le_refl _) (by omega))]
theorem div2 (hc : c < 4) : nI 170 + nI c / nI 2 = nI (170 + c / 2) := by rw [pk_div (by omega) (by omega) (by omega), nI_add]
theorem mx_pk (h8 : pN f ≤ 8) {b n : Nat} (hb : b < 4) : mx (pkS f c n).1 b = mx f b := by
  unfold mx
  rw [pkS_o h8 (fun p _ => by omega), pkS_o h8 (fun p _ => by omega)]
theorem d175 (hf : rI m 131 = f) (P : rvP f) (hc : c < 4) : ∃ m', D175 m (nI c) = some m' ∧ chg (fun b => b = 131) m m' ∧ rI m' 131 = P2 f c := by
  have h8 := P.2.1
  unfold D175
  rw [d150 hf hc (by omega)]
  show ∃ m', Option.bind (lp _ _ _) _ = _ ∧ _
  refine lpx (fun k s => s.1 = nI k ∧ chg (fun b => b = 131) m s.2 ∧ rI s.2 131 = dl f c k) (fun m' => chg (fun b => b = 131) m m' ∧ rI m' 131 = dl f c (pN f)) (pN f) (by omega) ⟨rfl, chg.rf, hf⟩ ?_ ?_ ?_
  · rintro k ⟨x, m2⟩ hk ⟨hx, c2, r2⟩
    replace hx : x = nI k := hx
    replace c2 : chg (fun b => b = 131) m m2 := c2
    replace r2 : rI m2 131 = dl f c k := r2
    subst hx
    refine .inl ?_
    have e0 : ∀ A B : Option ((Int32 × dM) ⊕ dM), (if rI m2 131 117 ≤ nI k then A else B) = B := fun A B => by rw [r2, dl_o k 117 (by omega) (fun p _ => by omega), P.1, if_neg (nI_ge hk (by omega))]
    have hno : ¬ dcB f c k = true → ∃ s', (Option.bind (some m2) fun (v5 : dM) => some (Sum.inl (β := dM) (nI k + nI 1, v5))) = some (.inl s') ∧ s'.1 = nI (k + 1) ∧ chg (fun b => b = 131) m s'.2 ∧ rI s'.2 131 = dl f c (k + 1) := fun q => ⟨_, rfl, nI_add k 1, c2, by rw [dl_1, if_neg q]; exact r2⟩
    show ∃ s', (if rI m2 131 117 ≤ nI k then _ else Option.bind (D152 m2 (nI k) (nI 4)) _) = _ ∧ _
    rw [e0, d152 r2 (by omega) (by omega), dl_s (by omega), if_neg (show ¬ (k < k ∧ dcB f c k = true) from fun z => by omega)]
    show ∃ s', Option.bind (if f (118 + 6 * k + 4) = nI 1 then Option.bind (D152 m2 (nI k) (nI 5)) _ else _) _ = _ ∧ _
    rw [d152 r2 (by omega) (by omega), dl_o k (118 + 6 * k + 5) (by omega) (fun p _ => by omega)]
    show ∃ s', Option.bind (if f (118 + 6 * k + 4) = nI 1 then (if f (118 + 6 * k + 5) = nI c then Option.bind (D152 m2 (nI k) (nI 1)) _ else _) else _) _ = _ ∧ _
    rw [d152 r2 (by omega) (by omega), dl_o k (118 + 6 * k + 1) (by omega) (fun p _ => by omega)]
    show ∃ s', Option.bind (if f (118 + 6 * k + 4) = nI 1 then (if f (118 + 6 * k + 5) = nI c then (if f (118 + 6 * k + 1) = f (97 + 5 * c + 0) then Option.bind (D153 m2 (nI k) (nI 4) (nI 2)) _ else _) else _) else _) _ = _ ∧ _
    by_cases q1 : f (118 + 6 * k + 4) = nI 1
    · rw [if_pos q1]
      by_cases q2 : f (118 + 6 * k + 5) = nI c
      · rw [if_pos q2]
        by_cases q3 : f (118 + 6 * k + 1) = f (97 + 5 * c + 0)
        · have q : dcB f c k = true := by
            unfold dcB
            rw [decide_eq_true_eq]
            exact ⟨q1, q2, q3⟩
          rw [if_pos q3, d153 (by omega) (by omega), div2 hc]
          show ∃ s', Option.bind (Option.bind (gI (wI m2 131 (118 + 6 * k + 4) (nI 2)) 131 299 (nI (170 + c / 2))) _) _ = _ ∧ _
          rw [gI_n (by omega) (by omega), rI_ws, upd_n (by omega)]
          show ∃ s', Option.bind (Option.bind (D152 (wI m2 131 (118 + 6 * k + 4) (nI 2)) (nI k) (nI 3)) _) _ = _ ∧ _
          rw [d152 rfl (by omega) (by omega), rI_ws, upd_n (by omega), r2, dl_o k (118 + 6 * k + 3) (by omega) (fun p _ => by omega)]
          show ∃ s', Option.bind (Option.bind (sI (wI m2 131 (118 + 6 * k + 4) (nI 2)) 131 299 (nI (170 + c / 2)) (dl f c k (170 + c / 2) + f (118 + 6 * k + 3))) _) _ = _ ∧ _
          rw [sI_n (by omega) (by omega)]
          refine ⟨(nI k + nI 1, _), rfl, nI_add k 1, chg.wI (chg.wI c2 rfl) rfl, ?_⟩
          show rI (wI (wI m2 131 (118 + 6 * k + 4) (nI 2)) 131 (170 + c / 2) (dl f c k (170 + c / 2) + f (118 + 6 * k + 3))) 131 = _
          rw [rI_ws, rI_ws, r2, dl_1, if_pos q]
        · rw [if_neg q3]
          exact hno (fun z => q3 (by unfold dcB at z; rw [decide_eq_true_eq] at z; exact z.2.2))
      · rw [if_neg q2]
        exact hno (fun z => q2 (dc_e z).2)
    · rw [if_neg q1]
      exact hno (fun z => q1 (dc_e z).1)
  · rintro ⟨x, m2⟩ ⟨hx, c2, r2⟩
    replace hx : x = nI (pN f) := hx
    replace r2 : rI m2 131 = dl f c (pN f) := r2
    subst hx
    refine ⟨m2, ?_, c2, r2⟩
    show (if rI m2 131 117 ≤ nI (pN f) then _ else _) = _
    rw [r2, dl_o _ 117 (by omega) (fun p _ => by omega), P.1, if_pos (nI_le (Nat.le_refl _) (by omega))]
  · rintro m1 ⟨c1, r1⟩
    obtain ⟨Pd, pd⟩ := dl_P P hc (Nat.le_refl (pN f))
    have hat : dl f c (pN f) (97 + 5 * c + 0) = f (97 + 5 * c + 0) := dl_o _ _ (by omega) (fun p _ => by omega)
    show ∃ m', Option.bind (D173 m1 (f (97 + 5 * c + 0)) (oi none)) _ = _ ∧ _
    rw [d173 r1 Pd (fun q h => by cases h)]
    show ∃ m', Option.bind (lp _ _ _) _ = _ ∧ _
    have h8d : pN (dl f c (pN f)) ≤ 8 := by omega
    refine lpx (fun k s => s.1 = oi (pkN (dl f c (pN f)) c (pkS (dl f c (pN f)) c k)) ∧ chg (fun b => b = 131) m s.2 ∧ rI s.2 131 = (pkS (dl f c (pN f)) c k).1) (fun m' => chg (fun b => b = 131) m m' ∧ rI m' 131 = P2 f c) (pN (dl f c (pN f))) (by omega) ⟨?_, c1, r1⟩ ?_ ?_ (fun m' h => ⟨m', rfl, h⟩)
    · show oi (nx (dl f c (pN f)) (f (97 + 5 * c + 0)) none (pN (dl f c (pN f)))) = oi (nx (dl f c (pN f)) (dl f c (pN f) (97 + 5 * c + 0)) none (pN (dl f c (pN f))))
      rw [hat]
    · rintro k ⟨x, m2⟩ hk ⟨hx, c2, r2⟩
      replace hx : x = oi (pkN (dl f c (pN f)) c (pkS (dl f c (pN f)) c k)) := hx
      replace c2 : chg (fun b => b = 131) m m2 := c2
      replace r2 : rI m2 131 = (pkS (dl f c (pN f)) c k).1 := r2
      subst hx
      obtain ⟨P2', p2'⟩ := pkS_P Pd hc k
      show (∃ s', (if oi (pkN (dl f c (pN f)) c (pkS (dl f c (pN f)) c k)) = -1 then _ else Option.bind (D173 m2 (f (97 + 5 * c + 0)) (oi (pkN (dl f c (pN f)) c (pkS (dl f c (pN f)) c k)))) _) = _ ∧ _) ∨ (∃ b, (if oi (pkN (dl f c (pN f)) c (pkS (dl f c (pN f)) c k)) = -1 then _ else Option.bind (D173 m2 (f (97 + 5 * c + 0)) (oi (pkN (dl f c (pN f)) c (pkS (dl f c (pN f)) c k)))) _) = _ ∧ _)
      cases q : pkN (dl f c (pN f)) c (pkS (dl f c (pN f)) c k) with
      | none =>
        rw [if_pos (show oi none = (-1 : Int32) from rfl)]
        refine .inr ⟨m2, rfl, c2, ?_⟩
        rw [r2, pk_fin (by omega) q]
        rfl
      | some p =>
        obtain ⟨h1, h2, -⟩ := pkN_p q
        have hS : pkS (dl f c (pN f)) c (k + 1) = (pk1 (dl f c (pN f)) (pkS (dl f c (pN f)) c k).1 c p, some p) := by rw [pkS_1, q]
        refine .inl ?_
        rw [if_neg (by rw [oi_m (by omega)]; exact id), d173 r2 P2' (L := some p) (fun a ha => by cases ha; omega)]
        show ∃ s', Option.bind (D158 m2 (nI c)) _ = _ ∧ _
        rw [d158 r2 P2'.1 P2'.2.1]
        show ∃ s', Option.bind (D152 m2 (nI p) (nI 2)) _ = _ ∧ _
        rw [d152 r2 (by omega) (by omega)]
        show ∃ s', Option.bind (D160 m2 (nI c)) _ = _ ∧ _
        rw [d160 r2 hc, mx_pk h8d hc, p2']
        have hnx : oi (nx (pkS (dl f c (pN f)) c k).1 (f (97 + 5 * c + 0)) (some p) (pN (dl f c (pN f)))) = oi (pkN (dl f c (pN f)) c (pkS (dl f c (pN f)) c (k + 1))) := by
          rw [hS]
          show _ = oi (nx (pk1 (dl f c (pN f)) (pkS (dl f c (pN f)) c k).1 c p) (dl f c (pN f) (97 + 5 * c + 0)) (some p) (pN (dl f c (pN f))))
          rw [nx_pk1, hat]
        show ∃ s', Option.bind (if mx (dl f c (pN f)) c < ld (pkS (dl f c (pN f)) c k).1 (nI c) (pN (dl f c (pN f))) + (pkS (dl f c (pN f)) c k).1 (118 + 6 * p + 2) then _ else Option.bind (D153 m2 (nI p) (nI 4) (nI 1)) _) _ = _ ∧ _
        by_cases w : mx (dl f c (pN f)) c < ld (pkS (dl f c (pN f)) c k).1 (nI c) (pN (dl f c (pN f))) + (pkS (dl f c (pN f)) c k).1 (118 + 6 * p + 2)
        · rw [if_pos w]
          refine ⟨(_, m2), rfl, hnx, c2, ?_⟩
          rw [hS]
          show rI m2 131 = pk1 (dl f c (pN f)) (pkS (dl f c (pN f)) c k).1 c p
          unfold pk1
          rw [if_neg (Int32.not_le.mpr w)]
          exact r2
        · rw [if_neg w, d153 (by omega) (by omega)]
          show ∃ s', Option.bind (Option.bind (D153 (wI m2 131 (118 + 6 * p + 4) (nI 1)) (nI p) (nI 5) (nI c)) _) _ = _ ∧ _
          rw [d153 (by omega) (by omega)]
          refine ⟨(_, wI (wI m2 131 (118 + 6 * p + 4) (nI 1)) 131 (118 + 6 * p + 5) (nI c)), rfl, hnx, chg.wI (chg.wI c2 rfl) rfl, ?_⟩
          rw [hS]
          show rI (wI (wI m2 131 (118 + 6 * p + 4) (nI 1)) 131 (118 + 6 * p + 5) (nI c)) 131 = pk1 (dl f c (pN f)) (pkS (dl f c (pN f)) c k).1 c p
          unfold pk1
          rw [if_pos (Int32.not_lt.mp w), rI_ws, rI_ws, r2]
          rfl
    · rintro ⟨x, m2⟩ ⟨hx, c2, r2⟩
      replace hx : x = oi (pkN (dl f c (pN f)) c (pkS (dl f c (pN f)) c (pN (dl f c (pN f))))) := hx
      rw [pk_end] at hx
      subst hx
      exact ⟨m2, rfl, c2, r2⟩
end TM
/-- an order that is gone -/
def O (f : Nat → Int32) (b : Nat) : Nat → Int32 := upd f (97 + 5 * b + 2) (-1)
section OO
variable {f : Nat → Int32} {b c : Nat}
theorem O_n {x : Nat} (h : x ≠ 97 + 5 * b + 2) : O f b x = f x := upd_n h
theorem O_s : O f b (97 + 5 * b + 2) = -1 := upd_s
theorem pN_O (hb : b < 4) : pN (O f b) = pN f := pN.cg (O_n (by omega))
theorem dc_O (hb : b < 4) {p : Nat} : dcB (O f b) c p = dcB f c p := by
  unfold dcB
  rw [O_n (by omega), O_n (by omega), O_n (by omega), O_n (by omega)]
theorem dl_O (hb : b < 4) : ∀ n, dl (O f b) c n = O (dl f c n) b
  | 0 => rfl
  | n + 1 => by
    rw [dl_1, dl_1, dc_O hb, dl_O hb n, O_n (by omega), O_n (by omega)]
    by_cases q : dcB f c n = true
    · rw [if_pos q, if_pos q]
      unfold O
      rw [upd_cm (show 97 + 5 * b + 2 ≠ 118 + 6 * n + 4 by omega), upd_cm (show 97 + 5 * b + 2 ≠ 170 + c / 2 by omega)]
    · rw [if_neg q, if_neg q]
theorem ky_O (hb : b < 4) : ky (O f b) = ky f := by
  funext p
  unfold ky
  rw [O_n (by omega), O_n (by omega)]
theorem nx_O (hb : b < 4) {j : Int32} {L : Option Nat} {n : Nat} : nx (O f b) j L n = nx f j L n := by
  refine nx_cg n (fun p hp => ?_) (ky_O hb)
  unfold cdB lB
  rw [ky_O hb, O_n (by omega), O_n (by omega)]
theorem ld_O (hb : b < 4) {x : Int32} : ∀ n, ld (O f b) x n = ld f x n
  | 0 => rfl
  | n + 1 => by
    show ld (O f b) x n + _ = ld f x n + _
    rw [ld_O hb n, O_n (by omega), O_n (by omega), O_n (by omega)]
theorem mx_O (hb : b < 4) (hc : c < 4) : mx (O f b) c = mx f c := by
  unfold mx
  rw [O_n (by omega), O_n (by omega)]
theorem pk1_O {h : Nat → Int32} (hb : b < 4) (hc : c < 4) {p : Nat} : pk1 (O f b) (O h b) c p = O (pk1 f h c p) b := by
  unfold pk1
  rw [ld_O hb, mx_O hb hc, pN_O hb, O_n (by omega)]
  by_cases q : ld h (nI c) (pN f) + h (118 + 6 * p + 2) ≤ mx f c
  · rw [if_pos q, if_pos q]
    unfold car O
    rw [upd_cm (show 97 + 5 * b + 2 ≠ 118 + 6 * p + 4 by omega), upd_cm (show 97 + 5 * b + 2 ≠ 118 + 6 * p + 5 by omega)]
  · rw [if_neg q, if_neg q]
theorem pkS_O (hb : b < 4) (hc : c < 4) : ∀ n, pkS (O f b) c n = (O (pkS f c n).1 b, (pkS f c n).2)
  | 0 => rfl
  | n + 1 => by
    have e : pkN (O f b) c (O (pkS f c n).1 b, (pkS f c n).2) = pkN f c (pkS f c n) := by
      unfold pkN
      show nx (O (pkS f c n).1 b) (O f b (97 + 5 * c + 0)) (pkS f c n).2 (pN (O f b)) = _
      rw [nx_O hb, pN_O hb, O_n (by omega)]
    rw [pkS_1, pkS_1, pkS_O hb hc n, e]
    cases q : pkN f c (pkS f c n) with
    | none => rfl
    | some p =>
      show (pk1 (O f b) (O (pkS f c n).1 b) c p, some p) = (O (pk1 f (pkS f c n).1 c p) b, some p)
      rw [pk1_O hb hc]
theorem P2_O (hb : b < 4) (hc : c < 4) : P2 (O f b) c = O (P2 f c) b := by
  unfold P2
  rw [pN_O hb, dl_O hb, pkS_O hb hc, pN_O hb]
theorem P2_P (P : rvP f) (hc : c < 4) : rvP (P2 f c) ∧ pN (P2 f c) = pN f := by
  obtain ⟨h1, h2⟩ := dl_P P hc (Nat.le_refl (pN f))
  obtain ⟨h3, h4⟩ := pkS_P h1 hc (pN (dl f c (pN f)))
  exact ⟨h3, h4.trans h2⟩
theorem O_P (P : rvP f) (hb : b < 4) : rvP (O f b) := P.cg fun x q1 q2 => O_n (by omega)
end OO
/-- the four couriers, one behind the other -/
def P8 (f : Nat → Int32) : Nat → Nat → Int32
  | 0 => f
  | k + 1 => P2 (P8 f k) k
def H8 (f : Nat → Int32) : Nat → Nat → Int32
  | 0 => f
  | k + 1 => O (P2 (H8 f k) k) k
def clr (f : Nat → Int32) : Nat → Int32 := O (O (O (O f 0) 1) 2) 3
theorem H8_clr {f : Nat → Int32} : H8 f 4 = P8 (clr f) 4 := by
  show O (P2 (O (P2 (O (P2 (O (P2 f 0) 0) 1) 1) 2) 2) 3) 3 = P2 (P2 (P2 (P2 (O (O (O (O f 0) 1) 2) 3) 0) 1) 2) 3
  rw [P2_O (b := 3) (by omega) (by omega), P2_O (b := 2) (by omega) (by omega), P2_O (b := 1) (by omega) (by omega), P2_O (b := 0) (by omega) (by omega)]
  rw [P2_O (b := 3) (by omega) (by omega), P2_O (b := 2) (by omega) (by omega), P2_O (b := 1) (by omega) (by omega), P2_O (b := 0) (by omega) (by omega)]
  rw [P2_O (b := 3) (by omega) (by omega), P2_O (b := 2) (by omega) (by omega), P2_O (b := 1) (by omega) (by omega), P2_O (b := 0) (by omega) (by omega)]
  rw [P2_O (b := 3) (by omega) (by omega), P2_O (b := 2) (by omega) (by omega), P2_O (b := 1) (by omega) (by omega), P2_O (b := 0) (by omega) (by omega)]
theorem H8_P {f : Nat → Int32} (P : rvP f) : ∀ k, k ≤ 4 → rvP (H8 f k)
  | 0, _ => P
  | k + 1, h => O_P (P2_P (H8_P P k (by omega)) (by omega)).1 (by omega)
theorem P8_rv {f : Nat → Int32} (V : rv f) : ∀ k, k ≤ 4 → rv (P8 f k)
  | 0, _ => V
  | k + 1, h => P2_rv (P8_rv V k (by omega)) (by omega)
