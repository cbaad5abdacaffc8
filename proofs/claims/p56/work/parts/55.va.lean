/-! CHANGES: vans, streets -/
section VA
variable {m m1 m2 : dM} {s : gS} {f g : Nat → Int32} {X : Nat × (Nat → Int32)} {i : Nat}
def vn (f : Nat → Int32) (c : Nat) : Int32 := nI 1 - f (97 + 5 * c + 1)
theorem vn_sm (V : rv f) {c : Nat} (hc : c < 4) : sm (vn f c) 2 ∧ (if f (97 + 5 * c + 1) = nI 0 then nI 1 else nI 0) = vn f c ∧ decide (vn f c = nI 1) = !decide (f (97 + 5 * c + 1) = nI 1) := by
  obtain ⟨j, hj, e⟩ := vsm V hc
  unfold vn
  rw [e]
  have : j = 0 ∨ j = 1 := by omega
  rcases this with rfl | rfl
  · exact ⟨⟨1, by omega, rfl⟩, rfl, by decide⟩
  · exact ⟨⟨0, by omega, rfl⟩, rfl, by decide⟩
theorem rv_van (V : rv f) {c : Nat} (hc : c < 4) {v : Int32} (hv : sm v 2) : rv (upd f (97 + 5 * c + 1) v) := by
  have h24 := V.s24
  have e : ∀ x, x ≠ 97 + 5 * c + 1 → upd f (97 + 5 * c + 1) v x = f x := fun x q => upd_n q
  refine ⟨V.1.cg (fun x q => e x (by omega)), ⟨fun b hb => ?_, fun b hb d hd hn => ?_⟩, V.2.2.1.cg (fun x q _ => e x (by omega)), V.2.2.2.cg V.p8 (fun x q _ _ _ => e x (by omega))⟩
  · obtain ⟨q1, q2, q3⟩ := V.2.1.1 b hb
    rw [e (97 + 5 * b + 0) (by omega), e (97 + 5 * b + 2) (by omega), sN.cg (e 0 (by omega))]
    refine ⟨q1, ?_, ?_⟩
    · by_cases w : b = c
      · subst w
        rw [upd_s]
        exact hv
      · rw [e (97 + 5 * b + 1) (by omega)]
        exact q2
    · rcases q3 with hv | ⟨s, z1, z2, z3, z4⟩
      · exact .inl hv
      · refine .inr ⟨s, z1, z2, ?_, ?_⟩
        · rw [e (1 + 4 * s) (by omega)]; exact z3
        · rw [e (1 + 4 * s + 3) (by omega)]; exact z4
  · rw [e (97 + 5 * b + 0) (by omega), e (97 + 5 * d + 0) (by omega)]
    exact V.2.1.2 b hb d hd hn
theorem RC_van (R : RC m 1 f) (V : rv f) {c : Nat} (hc : c < 4) : RC (wI m 5 4 (rI m 5 4 ^^^ (nI 1 <<< (nI c &&& nI 31)))) 1 (upd f (97 + 5 * c + 1) (vn f c)) := by
  refine R.mkc (chg.wI chg.rf (by omega)) (fun x q => upd_n (fun z => q (by omega))) (fun b hb => ?_) V
  show bt (rI (wI m 5 4 (rI m 5 4 ^^^ (nI 1 <<< (nI c &&& nI 31)))) 5 4) b = _ ∧ rI _ 6 b = _ ∧ rI _ 7 b = _ ∧ rI _ 8 b = _ ∧ rI _ 9 b = _
  rw [rI_ws, upd_s, rI_wn (by decide), rI_wn (by decide), rI_wn (by decide), rI_wn (by decide), b_xor, b_one (by omega) (by omega), R.vb hb, upd_n (show 97 + 5 * b + 0 ≠ 97 + 5 * c + 1 by omega), upd_n (show 97 + 5 * b + 2 ≠ 97 + 5 * c + 1 by omega), upd_n (show 97 + 5 * b + 3 ≠ 97 + 5 * c + 1 by omega), upd_n (show 97 + 5 * b + 4 ≠ 97 + 5 * c + 1 by omega)]
  refine ⟨?_, R.at hb, R.od hb, R.mv hb, R.oc hb⟩
  by_cases w : b = c
  · subst w
    rw [upd_s, (vn_sm V hb).2.2, decide_eq_true (rfl : b = b)]
    cases decide (f (97 + 5 * b + 1) = nI 1) <;> rfl
  · rw [upd_n (by omega), decide_eq_false w, Bool.xor_false]
/-- what becomes of the order -/
def vo (f : Nat → Int32) (c : Nat) : Int32 := if vn f c = nI 1 ∧ f (97 + 5 * c + 2) ≠ -1 ∧ f (1 + 4 * (f (97 + 5 * c + 2)).toNatClampNeg + 2) = nI 1 then -1 else f (97 + 5 * c + 2)
def vaF (f : Nat → Int32) (c : Nat) : Nat → Int32 := upd (upd f (97 + 5 * c + 1) (vn f c)) (97 + 5 * c + 2) (vo f c)
theorem va_rv (V : rv f) {c : Nat} (hc : c < 4) : rv (vaF f c) := by
  have V1 := rv_van V hc (vn_sm V hc).1
  have h24 := V.s24
  refine rv_ord V1 hc ?_
  unfold vo
  split
  · exact .inl rfl
  · rcases (V.2.1.1 c hc).2.2 with q | ⟨t, z1, z2, z3, z4⟩
    · exact .inl q
    · refine .inr ⟨t, ?_, z2, ?_, ?_⟩
      · rw [sN.cg (upd_n (by omega))]
        exact z1
      · rw [upd_n (by omega), upd_n (by omega)]
        exact z3
      · rw [upd_n (by omega)]
        exact z4
theorem d49 (R : RC m 1 f) (V : rv f) {c : Nat} (hc : c < 4) : ∃ m', D49 m (nI c) = some (vn f c, m') ∧ chg nowC m m' ∧ RC m' 1 (vaF f c) := by
  have h24 := V.s24
  have hv := vn_sm V hc
  have R2 := RC_van R V hc
  have V2 := rv_van V hc hv.1
  have c2 : chg (fun b => b = 5) m (wI m 5 4 (rI m 5 4 ^^^ (nI 1 <<< (nI c &&& nI 31)))) := chg.wI chg.rf rfl
  unfold D49
  rw [d128 hc]
  show ∃ m', Option.bind (D3 (wI m 5 4 (rI m 5 4 ^^^ (nI 1 <<< (nI c &&& nI 31)))) (nI c)) _ = _ ∧ _
  generalize wI m 5 4 (rI m 5 4 ^^^ (nI 1 <<< (nI c &&& nI 31))) = K at R2 c2
  rw [d3 R2 V2 hc, upd_s]
  show ∃ m', Option.bind (gI K 7 4 (nI c)) _ = _ ∧ _
  rw [gI_n hc (by omega), R2.od hc, upd_n (show 97 + 5 * c + 2 ≠ 97 + 5 * c + 1 by omega)]
  have hdrop : ∃ m', D4 K (nI c) = some (if rI K 7 c = -1 then nI 0 else nI 1, m') ∧ chg nowC m m' ∧ RC m' 1 (upd (upd f (97 + 5 * c + 1) (vn f c)) (97 + 5 * c + 2) (-1)) := by
    obtain ⟨m4, e4, c4, h4⟩ := d4 (m := K) hc
    exact ⟨m4, e4, (c2.mono (fun b q => .inl (by omega))).tr (c4.mono (fun b q => .inl (by omega))), RC_ord R2 V2 hc c4 h4⟩
  have hkeep : chg nowC m K ∧ RC K 1 (upd (upd f (97 + 5 * c + 1) (vn f c)) (97 + 5 * c + 2) (f (97 + 5 * c + 2))) := by
    refine ⟨c2.mono (fun b q => .inl (by omega)), ?_⟩
    have e := upd_self (f := upd f (97 + 5 * c + 1) (vn f c)) (x := 97 + 5 * c + 2)
    rw [upd_n (show 97 + 5 * c + 2 ≠ 97 + 5 * c + 1 by omega)] at e
    rw [e]
    exact R2
  have hgB : gB (vn f c) = some (vn f c) := gB_sm hv.1
  rcases (V.2.1.1 c hc).2.2 with q | ⟨t, z1, z2, z3, z4⟩
  · have ho : vo f c = f (97 + 5 * c + 2) := by
      unfold vo
      rw [if_neg (fun z => z.2.1 q)]
    show ∃ m', Option.bind (D59 K (f (97 + 5 * c + 2))) _ = _ ∧ _
    unfold vaF
    rw [ho, q, d59b R2 V2 bad_m1]
    rw [q] at hkeep
    refine ⟨K, ?_, hkeep⟩
    show Option.bind (gB (vn f c)) _ = _
    rw [hgB]
    rfl
  · have z1' : t < sN (upd f (97 + 5 * c + 1) (vn f c)) := by rw [sN.cg (upd_n (by omega))]; exact z1
    show ∃ m', Option.bind (D59 K (f (97 + 5 * c + 2))) _ = _ ∧ _
    rw [z2, d59 R2 V2 z1']
    obtain ⟨w, ew, hw, -⟩ := d64e R2 hv.1 (show t < 24 by omega)
    show ∃ m', Option.bind (Option.bind (D64 K (nI t) (vn f c)) _) _ = _ ∧ _
    rw [ew]
    have hcn : cn (upd f (97 + 5 * c + 1) (vn f c)) t (vn f c) = ¬ (f (1 + 4 * t + 2) = nI 1 ∧ vn f c = nI 1) := by
      unfold cn
      rw [upd_n (show 1 + 4 * t + 3 ≠ 97 + 5 * c + 1 by omega), upd_n (show 1 + 4 * t + 2 ≠ 97 + 5 * c + 1 by omega), z4]
      simp
    have hvo : vo f c = if f (1 + 4 * t + 2) = nI 1 ∧ vn f c = nI 1 then -1 else f (97 + 5 * c + 2) := by
      unfold vo
      rw [z2, nI_clamp (by omega)]
      by_cases y : f (1 + 4 * t + 2) = nI 1 ∧ vn f c = nI 1
      · rw [if_pos y, if_pos ⟨y.2, by rw [ne_eq, nI_m1 (by omega)]; exact id, y.1⟩]
      · rw [if_neg y, if_neg (fun z => y ⟨z.2.2, z.1⟩)]
    show ∃ m', Option.bind (if w = nI 0 then Option.bind (D4 K (nI c)) _ else _) _ = _ ∧ _
    unfold vaF
    rw [hvo]
    by_cases y : f (1 + 4 * t + 2) = nI 1 ∧ vn f c = nI 1
    · obtain ⟨m4, e4, c4, R4⟩ := hdrop
      rw [if_pos (hw.mpr (by rw [hcn]; exact fun z => z y)), if_pos y, e4]
      refine ⟨m4, ?_, c4, R4⟩
      show Option.bind (gB (vn f c)) _ = _
      rw [hgB]
      rfl
    · rw [if_neg (fun z => (hw.mp z) (by rw [hcn]; exact y)), if_neg y]
      refine ⟨K, ?_, hkeep⟩
      show Option.bind (gB (vn f c)) _ = _
      rw [hgB]
      rfl
end VA
