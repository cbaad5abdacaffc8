/-! BUFFER, UNDO, SNAPSHOT -/
section UN
variable {m m1 m2 : dM} {s : gS} {f g : Nat → Int32} {X : Nat × (Nat → Int32)} {i : Nat}
def bfS (s : gS) (L : Nat) (cs : Nat → Int32) : gS := (s.1, s.2.1, s.2.2.1, s.2.2.2.1, s.2.2.2.2.1, L, cs)
theorem IC.bf (h : IC m s) {L : Nat} {cs : Nat → Int32} (c : chg (fun b => 42 ≤ b ∧ b ≤ 43) m m1) (hb : BC m1 L cs) : IC m1 (bfS s L cs) := by
  obtain ⟨h1, h2, h3, ⟨b1, b2, b3⟩, -⟩ := h
  refine ⟨h1.ch c (fun b z1 z2 => by omega), h2, h3.chw c.w c.2.2.1 (fun b z1 z2 => by omega) (by rw [c.1 0 (by omega)]), ⟨b1, ?_, fun e => ⟨(b3 e).1.ch c (fun b z1 z2 => by omega), (b3 e).2⟩⟩, hb⟩
  rw [c.1 0 (by omega)]
  exact b2
/-- a row taken from elsewhere -/
def cutF (g f : Nat → Int32) : Nat → Int32 := fun j => if j < 299 then g j else f j
theorem cut_e {j : Nat} (h : j < 299) : cutF g f j = g j := if_pos h
/-- a row copied in the reference -/
theorem cpy (A B : Nat) (n0 : Nat) (F : Int32 × dM → Option ((Int32 × dM) ⊕ dM)) (hF : ∀ k m2, k < 299 → chg (fun b => b = B) m m2 → F (nI k, m2) = some (.inl (nI k + nI 1, wI m2 B k (rI m A (n0 + k))))) (hE : ∀ m2, F (nI 299, m2) = some (.inr m2)) : ∃ m', lp (β := dM) 3000 F (nI 0, m) = some m' ∧ chg (fun b => b = B) m m' ∧ ∀ j, rI m' B j = if j < 299 then rI m A (n0 + j) else rI m B j := by
  refine lp_inv (fun k t => t.1 = nI k ∧ chg (fun b => b = B) m t.2 ∧ ∀ j, rI t.2 B j = if j < k then rI m A (n0 + j) else rI m B j) (fun m' => chg (fun b => b = B) m m' ∧ ∀ j, rI m' B j = if j < 299 then rI m A (n0 + j) else rI m B j) 299 (by omega) ⟨rfl, chg.rf, fun j => rfl⟩ ?_ ?_
  · rintro k ⟨t, m2⟩ hk ⟨ht, c2, r2⟩
    replace ht : t = nI k := ht
    replace c2 : chg (fun b => b = B) m m2 := c2
    replace r2 : ∀ j, rI m2 B j = if j < k then rI m A (n0 + j) else rI m B j := r2
    subst ht
    refine .inl ⟨_, hF k m2 hk c2, nI_add k 1, chg.wI c2 rfl, fun j => ?_⟩
    show rI (wI m2 B k (rI m A (n0 + k))) B j = _
    rw [rI_ws]
    by_cases e : j = k
    · subst e
      rw [upd_s, if_pos (by omega)]
    · rw [upd_n e, r2 j]
      by_cases q : j < k
      · rw [if_pos q, if_pos (by omega)]
      · rw [if_neg q, if_neg (by omega)]
  · rintro ⟨t, m2⟩ ⟨ht, c2, r2⟩
    replace ht : t = nI 299 := ht
    subst ht
    exact ⟨m2, hE m2, c2, r2⟩
end UN
