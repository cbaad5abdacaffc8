/-! LOOKS, one by one, on -/
section L2
variable {m : dM} {s : gS} {X : Nat × (Nat → Int32)} {i : Nat}
theorem st_or {f : Nat → Int32} (V : rv f) : (f 172 = nI 1 ∧ ∃ p, p ≤ 60 ∧ f 173 = nI p ∧ (if f 172 = nI 1 then f 173 else -1) = nI p) ∨ (f 172 ≠ nI 1 ∧ (if f 172 = nI 1 then f 173 else -1) = -1) := by
  by_cases q : f 172 = nI 1
  · obtain ⟨p, h1, h2⟩ := V.2.2.2.2.2.2.2.1 q
    exact .inl ⟨q, p, h1, h2, by rw [if_pos q, h2]⟩
  · exact .inr ⟨q, if_neg q⟩
end L2
