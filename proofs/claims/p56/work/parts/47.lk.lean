/-! LOOKS: of the class and of the reference -/
section LK
variable {m m1 m2 : dM} {s : gS} {f : Nat → Int32}
theorem gx {X : Nat × (Nat → Int32)} {i j : Nat} (h : i + j < X.1) (hX : X.1 ≤ 2560) : gX X (nI i + nI j) = some (X.2 (i + j)) := by
  unfold gX
  rw [nI_add, nI_inb h (by omega), nI_clamp (by omega)]
  rfl
/-- the law's calls that give numbers -/
theorem IC.R (h : IC m s) : RC m 1 s.1 := h.1
theorem IC.V (h : IC m s) : rv s.1 := h.2.1
end LK
