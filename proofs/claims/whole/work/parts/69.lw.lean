/-! THE LAW: the switch, the loop -/
theorem and63 (x : Int32) : ∃ k, k < 64 ∧ x &&& nI 63 = nI k := by
  refine ⟨(x &&& nI 63).toBitVec.toNat, ?_, ?_⟩
  · have : (x &&& nI 63).toBitVec.toNat ≤ 63 := by
      rw [Int32.toBitVec_and, BitVec.toNat_and]
      exact Nat.and_le_right
    omega
  · refine Int32.toBitVec_inj.mp ?_
    show _ = BitVec.ofNat 32 _
    rw [BitVec.ofNat_toNat]
    simp
def lwL (i : Int32) : ax_L := [some (.retAddr 0), some (.ref 0), some (.ref 130), some (.ref 138), some (.int i), none, none, none, none]
def lwQ (o : ax_O) (h : ax_H) : Prop := o = .inl (some (.int 1)) ∧ h.1.2.1 ≤ 601024 ∧ h.1.2.2 ≤ 7293034
section LW
variable {X : Nat × (Nat → Int32)} {m : dM} {i : Nat}
set_option maxRecDepth 20000 in
theorem ok_go {F : ax_F} {z : Option (dM ⊕ dM)} (h : OK m z) (g : ∀ v, z = some v → lwK X 0 lwQ (nI i) v → ax_Wp X 12 283 F (stt m) lwQ) (w : ∀ m', INV m' → rm m m' → ax_Wp X 12 283 (23, lwL (nI (i + 5)), []) (stt m') lwQ) : ax_Wp X 12 283 F (stt m) lwQ := by
  obtain ⟨m', e, I, r⟩ := h
  refine g _ e ?_
  show ax_Wp X (0 + 11 + 1) 283 (2778, _, []) (stt m') lwQ
  refine ax_Wp.go (f' := (23, [some (.retAddr 0), some (.ref 0), some (.ref 130), some (.ref 138), some (.int (nI i + Int32.ofInt 5)), none, none, none, none], [])) 2 rfl ?_
  refine ax_Wp.fr ?_ (w m' I r)
  show _ = ((23, lwL (nI (i + 5)), []) : ax_F)
  rw [← nI_add]
  rfl
set_option maxRecDepth 20000 in
theorem lw_sw (I : INV m) (hi : i + 4 < X.1) (hX : X.1 ≤ 2560) (w : ∀ m', INV m' → rm m m' → ax_Wp X 12 283 (23, lwL (nI (i + 5)), []) (stt m') lwQ) {k : Nat} (hk : k < 64) : ax_Wp X 12 283 (39, lwL (nI i), [.int (nI k)]) (stt m) lwQ := by
  by_cases h53 : 53 ≤ k
  · have : k = 53 ∨ k = 54 ∨ k = 55 ∨ k = 56 ∨ k = 57 ∨ k = 58 ∨ k = 59 ∨ k = 60 ∨ k = 61 ∨ k = 62 ∨ k = 63 := by omega
    have g : ∀ v, (some (.inl m) : Option (dM ⊕ dM)) = some v → lwK X 0 lwQ (nI i) v → ax_Wp X 12 283 (2778, lwL (nI i), []) (stt m) lwQ := fun v e q => by
      cases e
      exact q
    rcases this with rfl | rfl | rfl | rfl | rfl | rfl | rfl | rfl | rfl | rfl | rfl <;>
      exact ax_Wp.go (d := 11) (f' := (2778, lwL (nI i), [])) 1 rfl (ok_go ⟨m, rfl, I, .inl rfl⟩ g w)
  have : k = 0 ∨ k = 1 ∨ k = 2 ∨ k = 3 ∨ k = 4 ∨ k = 5 ∨ k = 6 ∨ k = 7 ∨ k = 8 ∨ k = 9 ∨ k = 10 ∨ k = 11 ∨ k = 12 ∨ k = 13 ∨ k = 14 ∨ k = 15 ∨ k = 16 ∨ k = 17 ∨ k = 18 ∨ k = 19 ∨ k = 20 ∨ k = 21 ∨ k = 22 ∨ k = 23 ∨ k = 24 ∨ k = 25 ∨ k = 26 ∨ k = 27 ∨ k = 28 ∨ k = 29 ∨ k = 30 ∨ k = 31 ∨ k = 32 ∨ k = 33 ∨ k = 34 ∨ k = 35 ∨ k = 36 ∨ k = 37 ∨ k = 38 ∨ k = 39 ∨ k = 40 ∨ k = 41 ∨ k = 42 ∨ k = 43 ∨ k = 44 ∨ k = 45 ∨ k = 46 ∨ k = 47 ∨ k = 48 ∨ k = 49 ∨ k = 50 ∨ k = 51 ∨ k = 52 := by omega
  rcases this with rfl | rfl | rfl | rfl | rfl | rfl | rfl | rfl | rfl | rfl | rfl | rfl | rfl | rfl | rfl | rfl | rfl | rfl | rfl | rfl | rfl | rfl | rfl | rfl | rfl | rfl | rfl | rfl | rfl | rfl | rfl | rfl | rfl | rfl | rfl | rfl | rfl | rfl | rfl | rfl | rfl | rfl | rfl | rfl | rfl | rfl | rfl | rfl | rfl | rfl | rfl | rfl | rfl
  · exact ax_Wp.go (d := 11) (f' := (264, lwL (nI i), [])) 1 rfl (ok_go (k0 (X := X) (i := i) I hi hX) (fun v e q => c_0 (d := 0) e q) w)
  · exact ax_Wp.go (d := 11) (f' := (360, lwL (nI i), [])) 1 rfl (ok_go (k1 (X := X) (i := i) I hi hX) (fun v e q => c_1 (d := 0) e q) w)
  · exact ax_Wp.go (d := 11) (f' := (423, lwL (nI i), [])) 1 rfl (ok_go (k2 (X := X) (i := i) I hi hX) (fun v e q => c_2 (d := 0) e q) w)
  · exact ax_Wp.go (d := 11) (f' := (491, lwL (nI i), [])) 1 rfl (ok_go (k3 (X := X) (i := i) I hi hX) (fun v e q => c_3 (d := 0) e q) w)
  · exact ax_Wp.go (d := 11) (f' := (554, lwL (nI i), [])) 1 rfl (ok_go (k4 (X := X) (i := i) I hi hX) (fun v e q => c_4 (d := 0) e q) w)
  · exact ax_Wp.go (d := 11) (f' := (610, lwL (nI i), [])) 1 rfl (ok_go (k5 (X := X) (i := i) I hi hX) (fun v e q => c_5 (d := 0) e q) w)
  · exact ax_Wp.go (d := 11) (f' := (702, lwL (nI i), [])) 1 rfl (ok_go (k6 (X := X) (i := i) I hi hX) (fun v e q => c_6 (d := 0) e q) w)
  · exact ax_Wp.go (d := 11) (f' := (758, lwL (nI i), [])) 1 rfl (ok_go (k7 (X := X) (i := i) I hi hX) (fun v e q => c_7 (d := 0) e q) w)
  · exact ax_Wp.go (d := 11) (f' := (826, lwL (nI i), [])) 1 rfl (ok_go (k8 (X := X) (i := i) I hi hX) (fun v e q => c_8 (d := 0) e q) w)
  · exact ax_Wp.go (d := 11) (f' := (889, lwL (nI i), [])) 1 rfl (ok_go (k9 (X := X) (i := i) I) (fun v e q => c_9 (d := 0) e q) w)
  · exact ax_Wp.go (d := 11) (f' := (933, lwL (nI i), [])) 1 rfl (ok_go (k10 (X := X) (i := i) I hi hX) (fun v e q => c_10 (d := 0) e q) w)
  · exact ax_Wp.go (d := 11) (f' := (989, lwL (nI i), [])) 1 rfl (ok_go (k11 (X := X) (i := i) I) (fun v e q => c_11 (d := 0) e q) w)
  · exact ax_Wp.go (d := 11) (f' := (1002, lwL (nI i), [])) 1 rfl (ok_go (k12 (X := X) (i := i) I) (fun v e q => c_12 (d := 0) e q) w)
  · exact ax_Wp.go (d := 11) (f' := (1015, lwL (nI i), [])) 1 rfl (ok_go (k13 (X := X) (i := i) I) (fun v e q => c_13 (d := 0) e q) w)
  · exact ax_Wp.go (d := 11) (f' := (1059, lwL (nI i), [])) 1 rfl (ok_go (k14 (X := X) (i := i) I) (fun v e q => c_14 (d := 0) e q) w)
  · exact ax_Wp.go (d := 11) (f' := (1072, lwL (nI i), [])) 1 rfl (ok_go (k15 (X := X) (i := i) I hi hX) (fun v e q => c_15 (d := 0) e q) w)
  · exact ax_Wp.go (d := 11) (f' := (1116, lwL (nI i), [])) 1 rfl (ok_go (k16 (X := X) (i := i) I) (fun v e q => c_16 (d := 0) e q) w)
  · exact ax_Wp.go (d := 11) (f' := (1160, lwL (nI i), [])) 1 rfl (ok_go (k17 (X := X) (i := i) I) (fun v e q => c_17 (d := 0) e q) w)
  · exact ax_Wp.go (d := 11) (f' := (1173, lwL (nI i), [])) 1 rfl (ok_go (k18 (X := X) (i := i) I) (fun v e q => c_18 (d := 0) e q) w)
  · exact ax_Wp.go (d := 11) (f' := (1217, lwL (nI i), [])) 1 rfl (ok_go (k19 (X := X) (i := i) I) (fun v e q => c_19 (d := 0) e q) w)
  · exact ax_Wp.go (d := 11) (f' := (1230, lwL (nI i), [])) 1 rfl (ok_go (k20 (X := X) (i := i) I) (fun v e q => c_20 (d := 0) e q) w)
  · exact ax_Wp.go (d := 11) (f' := (1243, lwL (nI i), [])) 1 rfl (ok_go (k21 (X := X) (i := i) I hi hX) (fun v e q => c_21 (d := 0) e q) w)
  · exact ax_Wp.go (d := 11) (f' := (1299, lwL (nI i), [])) 1 rfl (ok_go (k22 (X := X) (i := i) I hi hX) (fun v e q => c_22 (d := 0) e q) w)
  · exact ax_Wp.go (d := 11) (f' := (1355, lwL (nI i), [])) 1 rfl (ok_go (k23 (X := X) (i := i) I hi hX) (fun v e q => c_23 (d := 0) e q) w)
  · exact ax_Wp.go (d := 11) (f' := (1418, lwL (nI i), [])) 1 rfl (ok_go (k24 (X := X) (i := i) I hi hX) (fun v e q => c_24 (d := 0) e q) w)
  · exact ax_Wp.go (d := 11) (f' := (1474, lwL (nI i), [])) 1 rfl (ok_go (k25 (X := X) (i := i) I hi hX) (fun v e q => c_25 (d := 0) e q) w)
  · exact ax_Wp.go (d := 11) (f' := (1537, lwL (nI i), [])) 1 rfl (ok_go (k26 (X := X) (i := i) I hi hX) (fun v e q => c_26 (d := 0) e q) w)
  · exact ax_Wp.go (d := 11) (f' := (1593, lwL (nI i), [])) 1 rfl (ok_go (k27 (X := X) (i := i) I hi hX) (fun v e q => c_27 (d := 0) e q) w)
  · exact ax_Wp.go (d := 11) (f' := (1656, lwL (nI i), [])) 1 rfl (ok_go (k28 (X := X) (i := i) I hi hX) (fun v e q => c_28 (d := 0) e q) w)
  · exact ax_Wp.go (d := 11) (f' := (1712, lwL (nI i), [])) 1 rfl (ok_go (k29 (X := X) (i := i) I hi hX) (fun v e q => c_29 (d := 0) e q) w)
  · exact ax_Wp.go (d := 11) (f' := (1768, lwL (nI i), [])) 1 rfl (ok_go (k30 (X := X) (i := i) I hi hX) (fun v e q => c_30 (d := 0) e q) w)
  · exact ax_Wp.go (d := 11) (f' := (1824, lwL (nI i), [])) 1 rfl (ok_go (k31 (X := X) (i := i) I) (fun v e q => c_31 (d := 0) e q) w)
  · exact ax_Wp.go (d := 11) (f' := (1837, lwL (nI i), [])) 1 rfl (ok_go (k32 (X := X) (i := i) I hi hX) (fun v e q => c_32 (d := 0) e q) w)
  · exact ax_Wp.go (d := 11) (f' := (1900, lwL (nI i), [])) 1 rfl (ok_go (k33 (X := X) (i := i) I hi hX) (fun v e q => c_33 (d := 0) e q) w)
  · exact ax_Wp.go (d := 11) (f' := (1963, lwL (nI i), [])) 1 rfl (ok_go (k34 (X := X) (i := i) I hi hX) (fun v e q => c_34 (d := 0) e q) w)
  · exact ax_Wp.go (d := 11) (f' := (2019, lwL (nI i), [])) 1 rfl (ok_go (k35 (X := X) (i := i) I hi hX) (fun v e q => c_35 (d := 0) e q) w)
  · exact ax_Wp.go (d := 11) (f' := (2075, lwL (nI i), [])) 1 rfl (ok_go (k36 (X := X) (i := i) I hi hX) (fun v e q => c_36 (d := 0) e q) w)
  · exact ax_Wp.go (d := 11) (f' := (2131, lwL (nI i), [])) 1 rfl (ok_go (k37 (X := X) (i := i) I hi hX) (fun v e q => c_37 (d := 0) e q) w)
  · exact ax_Wp.go (d := 11) (f' := (2187, lwL (nI i), [])) 1 rfl (ok_go (k38 (X := X) (i := i) I) (fun v e q => c_38 (d := 0) e q) w)
  · exact ax_Wp.go (d := 11) (f' := (2200, lwL (nI i), [])) 1 rfl (ok_go (k39 (X := X) (i := i) I) (fun v e q => c_39 (d := 0) e q) w)
  · exact ax_Wp.go (d := 11) (f' := (2213, lwL (nI i), [])) 1 rfl (ok_go (k40 (X := X) (i := i) I) (fun v e q => c_40 (d := 0) e q) w)
  · exact ax_Wp.go (d := 11) (f' := (2226, lwL (nI i), [])) 1 rfl (ok_go (k41 (X := X) (i := i) I) (fun v e q => c_41 (d := 0) e q) w)
  · exact ax_Wp.go (d := 11) (f' := (2239, lwL (nI i), [])) 1 rfl (ok_go (k42 (X := X) (i := i) I) (fun v e q => c_42 (d := 0) e q) w)
  · exact ax_Wp.go (d := 11) (f' := (2252, lwL (nI i), [])) 1 rfl (ok_go (k43 (X := X) (i := i) I hi hX) (fun v e q => c_43 (d := 0) e q) w)
  · exact ax_Wp.go (d := 11) (f' := (2308, lwL (nI i), [])) 1 rfl (ok_go (k44 (X := X) (i := i) I hi hX) (fun v e q => c_44 (d := 0) e q) w)
  · exact ax_Wp.go (d := 11) (f' := (2364, lwL (nI i), [])) 1 rfl (ok_go (k45 (X := X) (i := i) I hi hX) (fun v e q => c_45 (d := 0) e q) w)
  · exact ax_Wp.go (d := 11) (f' := (2432, lwL (nI i), [])) 1 rfl (ok_go (k46 (X := X) (i := i) I hi hX) (fun v e q => c_46 (d := 0) e q) w)
  · exact ax_Wp.go (d := 11) (f' := (2500, lwL (nI i), [])) 1 rfl (ok_go (k47 (X := X) (i := i) I hi hX) (fun v e q => c_47 (d := 0) e q) w)
  · exact ax_Wp.go (d := 11) (f' := (2556, lwL (nI i), [])) 1 rfl (ok_go (k48 (X := X) (i := i) I hi hX) (fun v e q => c_48 (d := 0) e q) w)
  · exact ax_Wp.go (d := 11) (f' := (2624, lwL (nI i), [])) 1 rfl (ok_go (k49 (X := X) (i := i) I hi hX) (fun v e q => c_49 (d := 0) e q) w)
  · exact ax_Wp.go (d := 11) (f' := (2680, lwL (nI i), [])) 1 rfl (ok_go (k50 (X := X) (i := i) I) (fun v e q => c_50 (d := 0) e q) w)
  · exact ax_Wp.go (d := 11) (f' := (2723, lwL (nI i), [])) 1 rfl (ok_go (k51 (X := X) (i := i) I) (fun v e q => c_51 (d := 0) e q) w)
  · exact ax_Wp.go (d := 11) (f' := (2764, lwL (nI i), [])) 1 rfl (ok_go (k52 (X := X) (i := i) I) (fun v e q => c_52 (d := 0) e q) w)
theorem lw_out {m : dM} {L : ax_L} (h1 : m.1.1 ≤ 601024) (h2 : m.1.2 ≤ 7293034) : ax_Wp X 12 283 (2784, L, []) (stt m) lwQ := by
  refine ax_Wp.go (d := 11) (f' := (2785, L, [.int 1])) 1 rfl ?_
  exact ax_Wp.ret (d := 11) rfl ⟨rfl, h1, h2⟩
theorem lw_lp (hX : X.1 ≤ 2560) : ∀ n i m, INV m → X.1 < i + 5 + 5 * n → i ≤ X.1 → m.1.1 + n ≤ 601024 → m.1.2 + 6 * n ≤ 7293034 → ax_Wp X 12 283 (23, lwL (nI i), []) (stt m) lwQ := by
  intro n
  induction n with
  | zero =>
    intro i m I h1 h2 r1 r2
    refine ax_Wp.go (d := 11) (f' := (29, lwL (nI i), [.int (nI X.1 - nI 5), .int (nI i)])) 5 rfl ?_
    refine ax_Wp.br (d := 11) (c := nI X.1 - nI 5 < nI i) (f1 := (2784, lwL (nI i), [])) (f2 := (32, lwL (nI i), [])) rfl (fun _ => lw_out (by omega) (by omega)) (fun z => ?_)
    exfalso
    refine z ?_
    by_cases q : 5 ≤ X.1
    · rw [nI_sub q]
      exact (nI_ltI (by omega) (by omega)).mpr (by omega)
    · have : X.1 = 0 ∨ X.1 = 1 ∨ X.1 = 2 ∨ X.1 = 3 ∨ X.1 = 4 := by omega
      have e : i = 0 ∨ i = 1 ∨ i = 2 ∨ i = 3 ∨ i = 4 := by omega
      rcases this with x | x | x | x | x <;> rw [x] <;> rcases e with rfl | rfl | rfl | rfl | rfl <;> decide
  | succ n ih =>
    intro i m I h1 h2 r1 r2
    refine ax_Wp.go (d := 11) (f' := (29, lwL (nI i), [.int (nI X.1 - nI 5), .int (nI i)])) 5 rfl ?_
    refine ax_Wp.br (d := 11) (c := nI X.1 - nI 5 < nI i) (f1 := (2784, lwL (nI i), [])) (f2 := (32, lwL (nI i), [])) rfl (fun _ => lw_out (by omega) (by omega)) (fun z => ?_)
    have hi : i + 4 < X.1 := by
      by_cases q : 5 ≤ X.1
      · rw [nI_sub q, nI_ltI (by omega) (by omega)] at z
        omega
      · exfalso
        refine z ?_
        have : X.1 = 0 ∨ X.1 = 1 ∨ X.1 = 2 ∨ X.1 = 3 ∨ X.1 = 4 := by omega
        have e : i = 0 ∨ i = 1 ∨ i = 2 ∨ i = 3 ∨ i = 4 := by omega
        rcases this with x | x | x | x | x <;> rw [x] <;> rcases e with rfl | rfl | rfl | rfl | rfl <;> decide
    refine ax_Wp.go (d := 11) (f' := (35, lwL (nI i), [.int (nI i), .retAddr 0])) 2 rfl ?_
    have hg : (gX X (nI i)).bind (fun x => some x) = some (X.2 i) := by
      have := gx (X := X) (i := i) (j := 0) (by omega) hX
      rw [nI_add, Nat.add_zero] at this
      rw [this]
      rfl
    refine ax_Wp.rdX (d := 11) hg rfl (fun x hx => ?_)
    refine ax_Wp.go (d := 11) (f' := (39, lwL (nI i), [.int (x &&& nI 63)])) 2 rfl ?_
    obtain ⟨k, hk, ek⟩ := and63 x
    refine ax_Wp.eqx ek ?_
    refine lw_sw I hi hX (fun m' I' r => ?_) hk
    refine ih (i + 5) m' I' (by omega) (by omega) ?_ ?_
    · rcases r with r | r <;> rw [r] <;> omega
    · rcases r with r | r <;> rw [r] <;> omega
end LW
