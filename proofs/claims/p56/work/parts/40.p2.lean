/-! A TURN, then: what a courier delivers and picks up, told by rows -/
section CG
variable {m m' : dM} {B : Nat} {f g : Nat → Int32}
theorem RCs.cg (R : RCs m B f) (h : ∀ x, x < 97 → g x = f x) (k : ∀ b, B + 1 ≤ b → b ≤ B + 3 → rI m' b = rI m b) : RCs m' B g := by
  refine ⟨?_, fun s hs => ?_⟩
  · rw [k (B + 1) (by omega) (by omega), h 0 (by omega)]
    exact R.1
  · rw [k (B + 1) (by omega) (by omega), k (B + 2) (by omega) (by omega), k (B + 3) (by omega) (by omega), h (1 + 4 * s) (by omega), h (1 + 4 * s + 1) (by omega), h (1 + 4 * s + 2) (by omega), h (1 + 4 * s + 3) (by omega)]
    exact R.2 s hs
theorem RCc.cg (R : RCc m B f) (h : ∀ x, 97 ≤ x → x < 117 → g x = f x) (k : ∀ b, B + 4 ≤ b → b ≤ B + 8 → rI m' b = rI m b) : RCc m' B g := fun c hc => by
  rw [k (B + 4) (by omega) (by omega), k (B + 5) (by omega) (by omega), k (B + 6) (by omega) (by omega), k (B + 7) (by omega) (by omega), k (B + 8) (by omega) (by omega), h (97 + 5 * c + 0) (by omega) (by omega), h (97 + 5 * c + 1) (by omega) (by omega), h (97 + 5 * c + 2) (by omega) (by omega), h (97 + 5 * c + 3) (by omega) (by omega), h (97 + 5 * c + 4) (by omega) (by omega)]
  exact R c hc
theorem pN.cg (h : g 117 = f 117) : pN g = pN f := by unfold pN; rw [h]
theorem tN.cg (h : g 174 = f 174) : tN g = tN f := by unfold tN; rw [h]
theorem sN.cg (h : g 0 = f 0) : sN g = sN f := by unfold sN; rw [h]
theorem spt.cg {p : Nat} (hp : p < 8) (h : ∀ x, 117 ≤ x → x < 166 → g x = f x) : spt g p = spt f p := by
  unfold spt
  rw [h (118 + 6 * p + 4) (by omega) (by omega), h (118 + 6 * p + 5) (by omega) (by omega), h (118 + 6 * p + 0) (by omega) (by omega)]
theorem RCp.cg (R : RCp m B f) (h : ∀ x, 117 ≤ x → x < 166 → g x = f x) (k : ∀ b, B + 9 ≤ b → b ≤ B + 13 → rI m' b = rI m b) : RCp m' B g := by
  refine ⟨?_, fun p hp => ?_⟩
  · rw [k (B + 9) (by omega) (by omega), h 117 (by omega) (by omega)]
    exact R.1
  · rw [k (B + 10) (by omega) (by omega), k (B + 11) (by omega) (by omega), k (B + 12) (by omega) (by omega), k (B + 13) (by omega) (by omega), h (118 + 6 * p + 1) (by omega) (by omega), h (118 + 6 * p + 2) (by omega) (by omega), h (118 + 6 * p + 3) (by omega) (by omega), spt.cg hp h, pN.cg (h 117 (by omega) (by omega))]
    exact R.2 p hp
theorem RCn.cg (R : RCn m B f) (ht : tN f ≤ 61) (h : ∀ x, x = 117 ∨ (174 ≤ x ∧ x < 297) → g x = f x) (k : ∀ b, B + 14 ≤ b → b ≤ B + 15 → rI m' b = rI m b ∧ rL m' b = rL m b) : RCn m' B g := by
  refine ⟨?_, fun i hi => ?_⟩
  · rw [(k (B + 14) (by omega) (by omega)).1, h 174 (by omega)]
    exact R.1
  · rw [tN.cg (h 174 (by omega))] at hi
    rw [(k (B + 15) (by omega) (by omega)).2, h (175 + 2 * i) (by omega), h (175 + 2 * i + 1) (by omega), pN.cg (h 117 (by omega))]
    exact R.2 i hi
theorem RCm.cg (R : RCm m B f) (h : ∀ x, 166 ≤ x → x < 174 → g x = f x) (k : ∀ b, b = B ∨ b = B + 16 → rI m' b = rI m b) : RCm m' B g := by
  unfold RCm at R ⊢
  rw [k B (by omega), k (B + 16) (by omega), h 166 (by omega) (by omega), h 167 (by omega) (by omega), h 168 (by omega) (by omega), h 169 (by omega) (by omega), h 172 (by omega) (by omega), h 173 (by omega) (by omega)]
  refine ⟨fun j hj => ?_, R.2⟩
  rw [h (170 + j) (by omega) (by omega)]
  exact R.1 j hj
theorem RC.cgr (R : RC m B f) (ht : tN f ≤ 61) (h : ∀ x, x < 299 → g x = f x) : RC m B g := ⟨R.1.cg (fun x q => h x (by omega)) (fun _ _ _ => rfl), R.2.1.cg (fun x _ q => h x (by omega)) (fun _ _ _ => rfl), R.2.2.1.cg (fun x _ q => h x (by omega)) (fun _ _ _ => rfl), R.2.2.2.1.cg ht (fun x q => h x (by omega)) (fun _ _ _ => ⟨rfl, rfl⟩), R.2.2.2.2.cg (fun x _ q => h x (by omega)) (fun _ _ => rfl)⟩
theorem rvS.cg (V : rvS f) (h : ∀ x, x < 97 → g x = f x) : rvS g := by
  obtain ⟨h1, h2, h3, h4⟩ := V
  unfold rvS
  rw [sN.cg (h 0 (by omega)), h 0 (by omega)]
  refine ⟨h1, h2, fun s hs => ?_, fun s q1 q2 => ?_⟩
  · rw [h (1 + 4 * s) (by omega), h (1 + 4 * s + 1) (by omega)]
    exact h3 s hs
  · rw [h (1 + 4 * s + 2) (by omega)]
    exact h4 s q1 q2
theorem rvC.cg (V : rvC f) (h24 : sN f ≤ 24) (h : ∀ x, x < 117 → g x = f x) : rvC g := by
  obtain ⟨h1, h2⟩ := V
  refine ⟨fun c hc => ?_, fun c hc b hb => ?_⟩
  · rw [h (97 + 5 * c + 0) (by omega), h (97 + 5 * c + 1) (by omega), h (97 + 5 * c + 2) (by omega), sN.cg (h 0 (by omega))]
    obtain ⟨q1, q2, q3⟩ := h1 c hc
    refine ⟨q1, q2, ?_⟩
    rcases q3 with q | ⟨s, z1, z2, z3, z4⟩
    · exact .inl q
    · refine .inr ⟨s, z1, z2, ?_, ?_⟩
      · rw [h (1 + 4 * s) (by omega)]; exact z3
      · rw [h (1 + 4 * s + 3) (by omega)]; exact z4
  · rw [h (97 + 5 * c + 0) (by omega), h (97 + 5 * b + 0) (by omega)]
    exact h2 c hc b hb
theorem rvP.w (V : rvP f) (ho : ∀ x, 117 ≤ x → x < 166 → (∀ p, p < 8 → x ≠ 118 + 6 * p + 4 ∧ x ≠ 118 + 6 * p + 5) → g x = f x) (hs : ∀ p, p < pN f → sm (g (118 + 6 * p + 4)) 3 ∧ (g (118 + 6 * p + 4) ≠ nI 0 → sm (g (118 + 6 * p + 5)) 4)) : rvP g := by
  obtain ⟨h1, h2, h3⟩ := V
  have e : g 117 = f 117 := ho 117 (by omega) (by omega) (fun p _ => by omega)
  unfold rvP
  rw [pN.cg e, e]
  refine ⟨h1, h2, fun p hp => ?_⟩
  obtain ⟨q1, q2, q3, q4, -, -⟩ := h3 p hp
  rw [ho (118 + 6 * p + 0) (by omega) (by omega) (fun q _ => by omega), ho (118 + 6 * p + 1) (by omega) (by omega) (fun q _ => by omega), ho (118 + 6 * p + 2) (by omega) (by omega) (fun q _ => by omega), ho (118 + 6 * p + 3) (by omega) (by omega) (fun q _ => by omega)]
  exact ⟨q1, q2, q3, q4, hs p hp⟩
theorem rvP.cg (V : rvP f) (h : ∀ x, 117 ≤ x → x < 166 → g x = f x) : rvP g := V.w (fun x q1 q2 _ => h x q1 q2) fun p hp => by
  have h8 := V.2.1
  rw [h (118 + 6 * p + 4) (by omega) (by omega), h (118 + 6 * p + 5) (by omega) (by omega)]
  exact (V.2.2 p hp).2.2.2.2
theorem vd.eq {pl : Nat} : ∀ n, (∀ p, p < n → (if g (118 + 6 * p + 4) = nI 2 ∧ (g (118 + 6 * p + 5)).toNatClampNeg / 2 = pl then g (118 + 6 * p + 3) else nI 0) = (if f (118 + 6 * p + 4) = nI 2 ∧ (f (118 + 6 * p + 5)).toNatClampNeg / 2 = pl then f (118 + 6 * p + 3) else nI 0)) → vd g pl n = vd f pl n
  | 0, _ => rfl
  | n + 1, h => by
    show vd g pl n + _ = vd f pl n + _
    rw [vd.eq n (fun p hp => h p (by omega)), h n (by omega)]
theorem vd.cg {pl n : Nat} (hn : n ≤ 8) (h : ∀ x, 117 ≤ x → x < 166 → g x = f x) : vd g pl n = vd f pl n := vd.eq n fun p hp => by
  rw [h (118 + 6 * p + 4) (by omega) (by omega), h (118 + 6 * p + 5) (by omega) (by omega), h (118 + 6 * p + 3) (by omega) (by omega)]
theorem rvN.cg (V : rvN f) (h8 : pN f ≤ 8) (h : ∀ x, 117 ≤ x → x < 175 → x ≠ 166 → x ≠ 169 → g x = f x) : rvN g := by
  obtain ⟨h1, h2, h3, h4, h5, h6⟩ := V
  have hv : ∀ x, 117 ≤ x → x < 166 → g x = f x := fun x q1 q2 => h x q1 (by omega) (by omega) (by omega)
  unfold rvN
  rw [tN.cg (h 174 (by omega) (by omega) (by omega) (by omega)), h 174 (by omega) (by omega) (by omega) (by omega), h 168 (by omega) (by omega) (by omega) (by omega), h 167 (by omega) (by omega) (by omega) (by omega), h 172 (by omega) (by omega) (by omega) (by omega), h 173 (by omega) (by omega) (by omega) (by omega), pN.cg (hv 117 (by omega) (by omega))]
  refine ⟨h1, h2, h3, h4, h5, fun pl hpl => ?_⟩
  rw [h (170 + pl) (by omega) (by omega) (by omega) (by omega), vd.cg h8 hv]
  exact h6 pl hpl
theorem rv.cgr (V : rv f) (h : ∀ x, x < 299 → g x = f x) : rv g := ⟨V.1.cg (fun x q => h x (by omega)), V.2.1.cg V.s24 (fun x q => h x (by omega)), V.2.2.1.cg (fun x _ q => h x (by omega)), V.2.2.2.cg V.p8 (fun x _ q _ _ => h x (by omega))⟩
end CG
/-- whether a courier delivers a parcel -/
def dcB (f : Nat → Int32) (c p : Nat) : Bool := decide (f (118 + 6 * p + 4) = nI 1 ∧ f (118 + 6 * p + 5) = nI c ∧ f (118 + 6 * p + 1) = f (97 + 5 * c + 0))
def gn (f : Nat → Int32) (c : Nat) : Nat → Int32
  | 0 => nI 0
  | n + 1 => if dcB f c n = true then gn f c n + f (118 + 6 * n + 3) else gn f c n
/-- the row behind deliveries among the first so many parcels -/
def dl (f : Nat → Int32) (c : Nat) : Nat → Nat → Int32
  | 0 => f
  | n + 1 => if dcB f c n = true then upd (upd (dl f c n) (118 + 6 * n + 4) (nI 2)) (170 + c / 2) (dl f c n (170 + c / 2) + f (118 + 6 * n + 3)) else dl f c n
section DL
variable {f g : Nat → Int32} {c : Nat}
theorem dl_1 {n : Nat} : dl f c (n + 1) = if dcB f c n = true then upd (upd (dl f c n) (118 + 6 * n + 4) (nI 2)) (170 + c / 2) (dl f c n (170 + c / 2) + f (118 + 6 * n + 3)) else dl f c n := rfl
theorem gn_1 {n : Nat} : gn f c (n + 1) = if dcB f c n = true then gn f c n + f (118 + 6 * n + 3) else gn f c n := rfl
theorem dl_o : ∀ n x, x ≠ 170 + c / 2 → (∀ p, p < n → x ≠ 118 + 6 * p + 4) → dl f c n x = f x
  | 0, _, _, _ => rfl
  | n + 1, x, h1, h2 => by
    rw [dl_1]
    by_cases q : dcB f c n = true
    · rw [if_pos q, upd_n h1, upd_n (h2 n (by omega))]
      exact dl_o n x h1 (fun p hp => h2 p (by omega))
    · rw [if_neg q]
      exact dl_o n x h1 (fun p hp => h2 p (by omega))
theorem dl_s {p : Nat} (hp : p < 8) : ∀ n, dl f c n (118 + 6 * p + 4) = if p < n ∧ dcB f c p = true then nI 2 else f (118 + 6 * p + 4)
  | 0 => by rw [if_neg (fun z => by omega)]; rfl
  | n + 1 => by
    rw [dl_1]
    by_cases q : dcB f c n = true
    · rw [if_pos q, upd_n (by omega)]
      by_cases e : p = n
      · subst e
        rw [upd_s, if_pos ⟨by omega, q⟩]
      · rw [upd_n (by omega), dl_s hp n]
        simp only [ite_k e]
    · rw [if_neg q, dl_s hp n]
      by_cases e : p = n
      · subst e
        rw [if_neg (fun z => q z.2), if_neg (fun z => q z.2)]
      · simp only [ite_k e]
theorem dl_p : ∀ n, n ≤ 8 → dl f c n (170 + c / 2) = f (170 + c / 2) + gn f c n
  | 0, _ => (Int32.add_zero _).symm
  | n + 1, hn => by
    rw [dl_1, gn_1]
    by_cases q : dcB f c n = true
    · rw [if_pos q, if_pos q, upd_s, dl_p n (by omega), Int32.add_assoc]
    · rw [if_neg q, if_neg q, dl_p n (by omega)]
theorem vd_s2 {k x pl : Nat} {v : Int32} (hc : c < 4) (hk : k < 8) (hx : 166 ≤ x) (h1 : g (118 + 6 * k + 4) = nI 1) (h2 : g (118 + 6 * k + 5) = nI c) : ∀ n, n ≤ 8 → vd (upd (upd g (118 + 6 * k + 4) (nI 2)) x v) pl n = vd g pl n + (if k < n ∧ c / 2 = pl then g (118 + 6 * k + 3) else nI 0)
  | 0, _ => by rw [if_neg (fun z => by omega)]; exact (Int32.add_zero _).symm
  | n + 1, hn => by
    have ih := vd_s2 (pl := pl) (v := v) hc hk hx h1 h2 n (by omega)
    show vd (upd (upd g (118 + 6 * k + 4) (nI 2)) x v) pl n + (if upd (upd g (118 + 6 * k + 4) (nI 2)) x v (118 + 6 * n + 4) = nI 2 ∧ (upd (upd g (118 + 6 * k + 4) (nI 2)) x v (118 + 6 * n + 5)).toNatClampNeg / 2 = pl then upd (upd g (118 + 6 * k + 4) (nI 2)) x v (118 + 6 * n + 3) else nI 0) = (vd g pl n + (if g (118 + 6 * n + 4) = nI 2 ∧ (g (118 + 6 * n + 5)).toNatClampNeg / 2 = pl then g (118 + 6 * n + 3) else nI 0)) + _
    rw [ih, upd_n (show 118 + 6 * n + 4 ≠ x by omega), upd_n (show 118 + 6 * n + 5 ≠ x by omega), upd_n (show 118 + 6 * n + 3 ≠ x by omega), upd_n (show 118 + 6 * n + 5 ≠ 118 + 6 * k + 4 by omega), upd_n (show 118 + 6 * n + 3 ≠ 118 + 6 * k + 4 by omega)]
    by_cases e : k = n
    · subst e
      rw [upd_s, h1, h2, nI_clamp (by omega), if_neg (show ¬ (k < k ∧ c / 2 = pl) from fun z => by omega), if_neg (show ¬ (nI 1 = nI 2 ∧ c / 2 = pl) from fun z => absurd z.1 (by decide))]
      by_cases q : c / 2 = pl
      · rw [if_pos ⟨rfl, q⟩, if_pos ⟨by omega, q⟩]
      · rw [if_neg (fun z => q z.2), if_neg (fun z => q z.2)]
    · rw [upd_n (show 118 + 6 * n + 4 ≠ 118 + 6 * k + 4 by omega)]
      simp only [ite_k e]
      rw [Int32.add_assoc, Int32.add_assoc, Int32.add_comm (if k < n ∧ c / 2 = pl then g (118 + 6 * k + 3) else nI 0)]
theorem dl1_rv (V : rv g) (hc : c < 4) {n : Nat} (hn : n < pN g) (h1 : g (118 + 6 * n + 4) = nI 1) (h2 : g (118 + 6 * n + 5) = nI c) : rv (upd (upd g (118 + 6 * n + 4) (nI 2)) (170 + c / 2) (g (170 + c / 2) + g (118 + 6 * n + 3))) ∧ pN (upd (upd g (118 + 6 * n + 4) (nI 2)) (170 + c / 2) (g (170 + c / 2) + g (118 + 6 * n + 3))) = pN g := by
  have h8 := V.p8
  have e : ∀ x, x ≠ 118 + 6 * n + 4 → x ≠ 170 + c / 2 → upd (upd g (118 + 6 * n + 4) (nI 2)) (170 + c / 2) (g (170 + c / 2) + g (118 + 6 * n + 3)) x = g x := fun x q1 q2 => by rw [upd_n q2, upd_n q1]
  have e117 := e 117 (by omega) (by omega)
  refine ⟨⟨V.1.cg (fun x q => e x (by omega) (by omega)), V.2.1.cg V.s24 (fun x q => e x (by omega) (by omega)), V.2.2.1.w (fun x q1 q2 q3 => e x (by have := (q3 n (by omega)).1; omega) (by omega)) (fun p hp => ?_), ?_⟩, pN.cg e117⟩
  · have e5 := e (118 + 6 * p + 5) (by omega) (by omega)
    by_cases q : p = n
    · subst q
      rw [upd_n (by omega), upd_s, e5, h2]
      exact ⟨sm_nI (by omega), fun _ => sm_nI hc⟩
    · rw [e (118 + 6 * p + 4) (by omega) (by omega), e5]
      exact (V.2.2.1.2.2 p hp).2.2.2.2
  · obtain ⟨q1, q2, q3, q4, q5, q6⟩ := V.2.2.2
    unfold rvN
    rw [tN.cg (e 174 (by omega) (by omega)), e 174 (by omega) (by omega), e 168 (by omega) (by omega), e 167 (by omega) (by omega), e 172 (by omega) (by omega), e 173 (by omega) (by omega), pN.cg e117]
    refine ⟨q1, q2, q3, q4, q5, fun pl hpl => ?_⟩
    rw [vd_s2 hc (by omega) (by omega) h1 h2 _ h8]
    by_cases q : c / 2 = pl
    · subst q
      rw [upd_s, if_pos ⟨hn, rfl⟩, q6 (c / 2) hpl]
    · rw [if_neg (fun z => q z.2), e (170 + pl) (by omega) (by omega), q6 pl hpl]
      exact (Int32.add_zero _).symm
theorem dc_e {p : Nat} (h : dcB f c p = true) : f (118 + 6 * p + 4) = nI 1 ∧ f (118 + 6 * p + 5) = nI c := by
  unfold dcB at h
  rw [decide_eq_true_eq] at h
  exact ⟨h.1, h.2.1⟩
theorem dl_rv (V : rv f) (hc : c < 4) : ∀ n, n ≤ pN f → rv (dl f c n) ∧ pN (dl f c n) = pN f
  | 0, _ => ⟨V, rfl⟩
  | n + 1, hn => by
    have h8 := V.p8
    obtain ⟨ih, ip⟩ := dl_rv V hc n (by omega)
    rw [dl_1]
    by_cases q : dcB f c n = true
    · rw [if_pos q]
      obtain ⟨d1, d2⟩ := dc_e q
      have e3 : f (118 + 6 * n + 3) = dl f c n (118 + 6 * n + 3) := (dl_o n _ (by omega) (fun p _ => by omega)).symm
      rw [e3]
      have := dl1_rv ih hc (n := n) (by omega) (by rw [dl_s (by omega), if_neg (fun z => by omega), d1]) (by rw [dl_o n _ (by omega) (fun p _ => by omega), d2])
      rw [ip] at this
      exact this
    · rw [if_neg q]
      exact ⟨ih, ip⟩
end DL
/-- keys of parcels: what is looked at first is lowest -/
def ky (f : Nat → Int32) (p : Nat) : Nat := (9 - (f (118 + 6 * p + 3)).toNatClampNeg) * 100 + (f (118 + 6 * p + 2)).toNatClampNeg * 10 + p
def lB (f : Nat → Int32) (L : Option Nat) (p : Nat) : Bool := match L with
  | none => true
  | some q => decide (ky f q < ky f p)
def cdB (f : Nat → Int32) (j : Int32) (L : Option Nat) (p : Nat) : Bool := decide (f (118 + 6 * p + 4) = nI 0 ∧ f (118 + 6 * p + 0) = j) && lB f L p
def nx (f : Nat → Int32) (j : Int32) (L : Option Nat) : Nat → Option Nat
  | 0 => none
  | n + 1 => if cdB f j L n = true then (match nx f j L n with
    | none => some n
    | some q => if ky f n < ky f q then some n else some q) else nx f j L n
def oi : Option Nat → Int32
  | none => -1
  | some q => nI q
section NX
variable {f g : Nat → Int32} {j : Int32} {L : Option Nat}
theorem nx_1 {n : Nat} : nx f j L (n + 1) = if cdB f j L n = true then (match nx f j L n with
    | none => some n
    | some q => if ky f n < ky f q then some n else some q) else nx f j L n := rfl
theorem nx_spec : ∀ n, (nx f j L n = none ∧ ∀ p, p < n → cdB f j L p = false) ∨ ∃ q, nx f j L n = some q ∧ q < n ∧ cdB f j L q = true ∧ ∀ p, p < n → cdB f j L p = true → ky f q ≤ ky f p
  | 0 => .inl ⟨rfl, fun p hp => by omega⟩
  | n + 1 => by
    rw [nx_1]
    by_cases q : cdB f j L n = true
    · rw [if_pos q]
      rcases nx_spec n with ⟨h1, h2⟩ | ⟨a, h1, h2, h3, h4⟩
      · rw [h1]
        refine .inr ⟨n, rfl, by omega, q, fun p hp hc => ?_⟩
        by_cases e : p = n
        · rw [e]; exact Nat.le_refl _
        · rw [h2 p (by omega)] at hc
          cases hc
      · rw [h1]
        show (_ ∨ ∃ b, (if ky f n < ky f a then some n else some a) = some b ∧ _)
        by_cases w : ky f n < ky f a
        · rw [if_pos w]
          refine .inr ⟨n, rfl, by omega, q, fun p hp hc => ?_⟩
          by_cases e : p = n
          · rw [e]; exact Nat.le_refl _
          · have := h4 p (by omega) hc
            omega
        · rw [if_neg w]
          refine .inr ⟨a, rfl, by omega, h3, fun p hp hc => ?_⟩
          by_cases e : p = n
          · rw [e]; omega
          · exact h4 p (by omega) hc
    · rw [if_neg q]
      rcases nx_spec n with ⟨h1, h2⟩ | ⟨a, h1, h2, h3, h4⟩
      · refine .inl ⟨h1, fun p hp => ?_⟩
        by_cases e : p = n
        · rw [e]; exact Bool.eq_false_iff.mpr q
        · exact h2 p (by omega)
      · refine .inr ⟨a, h1, by omega, h3, fun p hp hc => ?_⟩
        by_cases e : p = n
        · exact absurd (e ▸ hc) q
        · exact h4 p (by omega) hc
theorem nx_some {n q : Nat} (h : nx f j L n = some q) : q < n ∧ cdB f j L q = true ∧ ∀ p, p < n → cdB f j L p = true → ky f q ≤ ky f p := by
  rcases nx_spec (f := f) (j := j) (L := L) n with ⟨h1, h2⟩ | ⟨a, h1, h2⟩
  · rw [h1] at h; cases h
  · rw [h1] at h; cases h; exact h2
theorem nx_none {n : Nat} (h : nx f j L n = none) : ∀ p, p < n → cdB f j L p = false := by
  rcases nx_spec (f := f) (j := j) (L := L) n with ⟨h1, h2⟩ | ⟨a, h1, h2⟩
  · exact h2
  · rw [h1] at h; cases h
theorem cd_e {p : Nat} (h : cdB f j L p = true) : f (118 + 6 * p + 4) = nI 0 ∧ f (118 + 6 * p + 0) = j ∧ lB f L p = true := by
  unfold cdB at h
  rw [Bool.and_eq_true, decide_eq_true_eq] at h
  exact ⟨h.1.1, h.1.2, h.2⟩
theorem nx_cg : ∀ n, (∀ p, p < n → cdB g j L p = cdB f j L p) → ky g = ky f → nx g j L n = nx f j L n
  | 0, _, _ => rfl
  | n + 1, h, k => by
    rw [nx_1, nx_1, nx_cg n (fun p hp => h p (by omega)) k, h n (by omega), k]
theorem ky_inj {a b : Nat} (ha : a < 8) (hb : b < 8) (wa : (f (118 + 6 * a + 2)).toNatClampNeg < 10) (wb : (f (118 + 6 * b + 2)).toNatClampNeg < 10) (h : ky f a = ky f b) : a = b := by
  unfold ky at h
  omega
end NX
/-- a parcel that is picked up -/
def car (g : Nat → Int32) (p c : Nat) : Nat → Int32 := upd (upd g (118 + 6 * p + 4) (nI 1)) (118 + 6 * p + 5) (nI c)
def pk1 (f g : Nat → Int32) (c p : Nat) : Nat → Int32 := if ld g (nI c) (pN f) + g (118 + 6 * p + 2) ≤ mx f c then car g p c else g
def pkN (f : Nat → Int32) (c : Nat) (s : (Nat → Int32) × Option Nat) : Option Nat := nx s.1 (f (97 + 5 * c + 0)) s.2 (pN f)
/-- picking up, after so many looks: the row, and what was looked at last -/
def pkS (f : Nat → Int32) (c : Nat) : Nat → (Nat → Int32) × Option Nat
  | 0 => (f, none)
  | n + 1 => match pkN f c (pkS f c n) with
    | none => pkS f c n
    | some p => (pk1 f (pkS f c n).1 c p, some p)
section PK
variable {f g : Nat → Int32} {c : Nat}
theorem pkS_1 {n : Nat} : pkS f c (n + 1) = match pkN f c (pkS f c n) with
    | none => pkS f c n
    | some p => (pk1 f (pkS f c n).1 c p, some p) := rfl
theorem car_o {p x : Nat} (h1 : x ≠ 118 + 6 * p + 4) (h2 : x ≠ 118 + 6 * p + 5) : car g p c x = g x := by
  unfold car
  rw [upd_n h2, upd_n h1]
theorem car_4 {p : Nat} : car g p c (118 + 6 * p + 4) = nI 1 := by
  unfold car
  rw [upd_n (by omega), upd_s]
theorem car_5 {p : Nat} : car g p c (118 + 6 * p + 5) = nI c := by
  unfold car
  rw [upd_s]
theorem ky_car {p : Nat} : ky (car g p c) = ky g := by
  funext q
  unfold ky
  rw [car_o (by omega) (by omega), car_o (by omega) (by omega)]
theorem ky_pk1 {p : Nat} : ky (pk1 f g c p) = ky g := by
  unfold pk1
  split
  · exact ky_car
  · rfl
theorem pk1_o {p x : Nat} (h1 : x ≠ 118 + 6 * p + 4) (h2 : x ≠ 118 + 6 * p + 5) : pk1 f g c p x = g x := by
  unfold pk1
  split
  · exact car_o h1 h2
  · rfl
theorem pkN_p {n p : Nat} (h : pkN f c (pkS f c n) = some p) : p < pN f ∧ (pkS f c n).1 (118 + 6 * p + 4) = nI 0 ∧ (pkS f c n).1 (118 + 6 * p + 0) = f (97 + 5 * c + 0) ∧ lB (pkS f c n).1 (pkS f c n).2 p = true ∧ ∀ q, q < pN f → cdB (pkS f c n).1 (f (97 + 5 * c + 0)) (pkS f c n).2 q = true → ky (pkS f c n).1 p ≤ ky (pkS f c n).1 q := by
  obtain ⟨h1, h2, h3⟩ := nx_some h
  obtain ⟨q1, q2, q3⟩ := cd_e h2
  exact ⟨h1, q1, q2, q3, h3⟩
theorem pkS_o (h8 : pN f ≤ 8) {x : Nat} (hx : ∀ p, p < 8 → x ≠ 118 + 6 * p + 4 ∧ x ≠ 118 + 6 * p + 5) : ∀ n, (pkS f c n).1 x = f x
  | 0 => rfl
  | n + 1 => by
    have ih := pkS_o h8 hx n
    rw [pkS_1]
    cases q : pkN f c (pkS f c n) with
    | none => exact ih
    | some p =>
      have hp := (pkN_p q).1
      obtain ⟨z1, z2⟩ := hx p (by omega)
      show pk1 f (pkS f c n).1 c p x = f x
      rw [pk1_o z1 z2, ih]
theorem ky_pkS : ∀ n, ky (pkS f c n).1 = ky f
  | 0 => rfl
  | n + 1 => by
    have ih := ky_pkS n
    rw [pkS_1]
    cases q : pkN f c (pkS f c n) with
    | none => exact ih
    | some p => exact ky_pk1.trans ih
theorem ld_car {p : Nat} (h0 : g (118 + 6 * p + 4) = nI 0) : ∀ n, ld (car g p c) (nI c) n = ld g (nI c) n + (if p < n then g (118 + 6 * p + 2) else nI 0)
  | 0 => (Int32.add_zero _).symm
  | n + 1 => by
    have ih := ld_car h0 n
    show ld (car g p c) (nI c) n + (if car g p c (118 + 6 * n + 4) = nI 1 ∧ car g p c (118 + 6 * n + 5) = nI c then car g p c (118 + 6 * n + 2) else nI 0) = (ld g (nI c) n + (if g (118 + 6 * n + 4) = nI 1 ∧ g (118 + 6 * n + 5) = nI c then g (118 + 6 * n + 2) else nI 0)) + _
    rw [ih, car_o (show 118 + 6 * n + 2 ≠ 118 + 6 * p + 4 by omega) (show 118 + 6 * n + 2 ≠ 118 + 6 * p + 5 by omega)]
    by_cases e : p = n
    · subst e
      rw [car_4, car_5, h0, if_neg (show ¬ p < p from Nat.lt_irrefl p), if_pos (show nI 1 = nI 1 ∧ nI c = nI c from ⟨rfl, rfl⟩), if_neg (show ¬ (nI 0 = nI 1 ∧ g (118 + 6 * p + 5) = nI c) from fun z => absurd z.1 (by decide)), if_pos (show p < p + 1 by omega), show ∀ x : Int32, x + nI 0 = x from fun x => Int32.add_zero x]
    · rw [car_o (show 118 + 6 * n + 4 ≠ 118 + 6 * p + 4 by omega) (show 118 + 6 * n + 4 ≠ 118 + 6 * p + 5 by omega), car_o (show 118 + 6 * n + 5 ≠ 118 + 6 * p + 4 by omega) (show 118 + 6 * n + 5 ≠ 118 + 6 * p + 5 by omega)]
      simp only [ite_k e]
      rw [Int32.add_assoc, Int32.add_assoc, Int32.add_comm (if p < n then g (118 + 6 * p + 2) else nI 0)]
theorem car_P (V : rvP g) (hc : c < 4) {p : Nat} (hp : p < pN g) : rvP (car g p c) := V.w (fun x _ _ q => by
    have h8 := V.2.1
    obtain ⟨z1, z2⟩ := q p (by omega)
    exact car_o z1 z2) fun q hq => by
  by_cases e : q = p
  · subst e
    rw [car_4, car_5]
    exact ⟨sm_nI (by omega), fun _ => sm_nI hc⟩
  · rw [car_o (by omega) (by omega), car_o (by omega) (by omega)]
    exact (V.2.2 q hq).2.2.2.2
theorem car_rv (V : rv g) (hc : c < 4) {p : Nat} (hp : p < pN g) (h0 : g (118 + 6 * p + 4) = nI 0) : rv (car g p c) := by
  have h8 := V.p8
  have e : ∀ x, x ≠ 118 + 6 * p + 4 → x ≠ 118 + 6 * p + 5 → car g p c x = g x := fun x q1 q2 => car_o q1 q2
  refine ⟨V.1.cg (fun x q => e x (by omega) (by omega)), V.2.1.cg V.s24 (fun x q => e x (by omega) (by omega)), car_P V.2.2.1 hc hp, ?_⟩
  obtain ⟨q1, q2, q3, q4, q5, q6⟩ := V.2.2.2
  unfold rvN
  rw [tN.cg (e 174 (by omega) (by omega)), e 174 (by omega) (by omega), e 168 (by omega) (by omega), e 167 (by omega) (by omega), e 172 (by omega) (by omega), e 173 (by omega) (by omega), pN.cg (e 117 (by omega) (by omega))]
  refine ⟨q1, q2, q3, q4, q5, fun pl hpl => ?_⟩
  rw [e (170 + pl) (by omega) (by omega), q6 pl hpl]
  refine (vd.eq (pN g) fun q hq => ?_).symm
  by_cases w : q = p
  · subst w
    rw [car_4, h0, if_neg (fun z => absurd z.1 (by decide)), if_neg (fun z => absurd z.1 (by decide))]
  · rw [e (118 + 6 * q + 4) (by omega) (by omega), e (118 + 6 * q + 5) (by omega) (by omega), e (118 + 6 * q + 3) (by omega) (by omega)]
theorem pkS_P (V : rvP f) (hc : c < 4) : ∀ n, rvP (pkS f c n).1 ∧ pN (pkS f c n).1 = pN f
  | 0 => ⟨V, rfl⟩
  | n + 1 => by
    obtain ⟨ih, ip⟩ := pkS_P V hc n
    rw [pkS_1]
    cases q : pkN f c (pkS f c n) with
    | none => exact ⟨ih, ip⟩
    | some p =>
      obtain ⟨hp, h0, -⟩ := pkN_p q
      show rvP (pk1 f (pkS f c n).1 c p) ∧ pN (pk1 f (pkS f c n).1 c p) = pN f
      refine ⟨?_, (pN.cg (pk1_o (by omega) (by omega))).trans ip⟩
      unfold pk1
      split
      · exact car_P ih hc (by omega)
      · exact ih
theorem pkS_rv (V : rv f) (hc : c < 4) : ∀ n, rv (pkS f c n).1
  | 0 => V
  | n + 1 => by
    have ih := pkS_rv V hc n
    have ip := (pkS_P V.2.2.1 hc n).2
    rw [pkS_1]
    cases q : pkN f c (pkS f c n) with
    | none => exact ih
    | some p =>
      obtain ⟨hp, h0, -⟩ := pkN_p q
      show rv (pk1 f (pkS f c n).1 c p)
      unfold pk1
      split
      · exact car_rv ih hc (by omega) h0
      · exact ih
/-- what is left to look at -/
def msN (f : Nat → Int32) (L : Option Nat) : Nat := ct (fun p => lB f L p) (pN f)
theorem pk_ms : ∀ n, pkN f c (pkS f c n) = none ∨ msN f (pkS f c n).2 + n ≤ pN f
  | 0 => .inr (ct_le _)
  | n + 1 => by
    have ih := pk_ms n
    rw [pkS_1]
    cases q : pkN f c (pkS f c n) with
    | none => exact .inl q
    | some p =>
      rcases ih with ih | ih
      · rw [ih] at q; cases q
      · refine .inr ?_
        obtain ⟨h1, -, -, h4, -⟩ := pkN_p q
        have kk := ky_pkS (f := f) (c := c) n
        have hlt : msN f (some p) < msN f (pkS f c n).2 := by
          refine ct_more (fun i hi => ?_) (j := p) (fun z => ?_) ?_ (pN f) h1
          · unfold lB at hi h4 ⊢
            rw [decide_eq_true_eq] at hi
            rw [kk] at h4
            cases w : (pkS f c n).2 with
            | none => rfl
            | some a =>
              rw [w] at h4
              replace h4 : decide (ky f a < ky f p) = true := h4
              rw [decide_eq_true_eq] at h4
              show decide (ky f a < ky f i) = true
              rw [decide_eq_true_eq]
              omega
          · unfold lB at z
            rw [decide_eq_true_eq] at z
            omega
          · unfold lB at h4 ⊢
            rw [kk] at h4
            exact h4
        show msN f (some p) + (n + 1) ≤ pN f
        omega
theorem pk_end : pkN f c (pkS f c (pN f)) = none := by
  rcases pk_ms (f := f) (c := c) (pN f) with h | h
  · exact h
  · cases q : pkN f c (pkS f c (pN f)) with
    | none => rfl
    | some p =>
      obtain ⟨h1, -, -, h4, -⟩ := pkN_p q
      have kk := ky_pkS (f := f) (c := c) (pN f)
      have h5 := ct_more (p := fun _ => false) (q := fun p => lB f (pkS f c (pN f)).2 p) (fun i hi => by cases hi) (j := p) (by simp) (by
        unfold lB at h4 ⊢
        rw [kk] at h4
        exact h4) (pN f) h1
      unfold msN at h
      omega
theorem pk_st {n : Nat} (h : pkN f c (pkS f c n) = none) : ∀ k, pkS f c (n + k) = pkS f c n
  | 0 => rfl
  | k + 1 => by
    show pkS f c (n + k + 1) = _
    rw [pkS_1, pk_st h k, h]
theorem pk_fin {n : Nat} (hn : n ≤ pN f) (h : pkN f c (pkS f c n) = none) : pkS f c n = pkS f c (pN f) := by
  have := pk_st h (pN f - n)
  rw [show n + (pN f - n) = pN f by omega] at this
  exact this.symm
/-- what follows is the same before and after the picking up -/
theorem nx_pk1 {p : Nat} {j : Int32} {n : Nat} : nx (pk1 f g c p) j (some p) n = nx g j (some p) n := by
  refine nx_cg n (fun q hq => ?_) ky_pk1
  unfold cdB
  have e : lB (pk1 f g c p) (some p) q = lB g (some p) q := by unfold lB; rw [ky_pk1]
  rw [e]
  by_cases w : q = p
  · subst w
    have : lB g (some q) q = false := by unfold lB; rw [decide_eq_false_iff_not]; omega
    rw [this, Bool.and_false, Bool.and_false]
  · rw [pk1_o (by omega) (by omega), pk1_o (by omega) (by omega)]
end PK
theorem dl_P {f : Nat → Int32} {c n : Nat} (V : rvP f) (hc : c < 4) (hn : n ≤ pN f) : rvP (dl f c n) ∧ pN (dl f c n) = pN f := by
  have h8 := V.2.1
  refine ⟨V.w (fun x q1 q2 q3 => dl_o n x (by omega) (fun p hp => (q3 p (by omega)).1)) fun p hp => ?_, pN.cg (dl_o n _ (by omega) (fun p _ => by omega))⟩
  rw [dl_s (by omega), dl_o n (118 + 6 * p + 5) (by omega) (fun q _ => by omega)]
  obtain ⟨-, -, -, -, q5, q6⟩ := V.2.2 p hp
  by_cases q : p < n ∧ dcB f c p = true
  · rw [if_pos q]
    exact ⟨sm_nI (by omega), fun _ => q6 (by rw [(dc_e q.2).1]; decide)⟩
  · rw [if_neg q]
    exact ⟨q5, q6⟩
/-- the row behind a courier's deliveries and what it picks up -/
def P2 (f : Nat → Int32) (c : Nat) : Nat → Int32 := (pkS (dl f c (pN f)) c (pN (dl f c (pN f)))).1
theorem P2_rv {f : Nat → Int32} {c : Nat} (V : rv f) (hc : c < 4) : rv (P2 f c) := by
  obtain ⟨h1, h2⟩ := dl_rv V hc (pN f) (Nat.le_refl _)
  exact pkS_rv h1 hc _
