/-! LOOKS at reaching and foretelling -/
section L3
variable {m : dM} {s : gS} {X : Nat × (Nat → Int32)} {i : Nat}
/-- two indices, of which one may be none -/
theorem two_or {n : Nat} (hn : n ≤ 100000) (p q : Int32) : (∃ c b, c < 4 ∧ b < n ∧ p = nI c ∧ q = nI b) ∨ bad p 4 ∨ (∃ c, c < 4 ∧ p = nI c ∧ bad q n) := by
  rcases sm_or (n := 4) (by omega) p with ⟨c, hc, e⟩ | h
  · rcases sm_or hn q with ⟨b, hb, e2⟩ | h2
    · exact .inl ⟨c, b, hc, hb, e, e2⟩
    · exact .inr (.inr ⟨c, hc, e, h2⟩)
  · exact .inr (.inl h)
theorem wy_1 {f : Nat → Int32} {v : Int32} {a j : Nat} : (nI 0 < wy f v a j) ↔ (nI 1 ≤ wy f v a j) := by
  rcases wy_or f v a j with e | ⟨k, hk, e⟩
  · rw [e]
    decide
  · rw [e, nI_ltI (by omega) (by omega), nI_leI (by omega) (by omega)]
    omega
end L3
