/-! FORETELLING in the reference -/
section FM
variable {m : dM} {f g : Nat → Int32}
theorem orI {a c : Bool} {v : Option Int32} (h : a = false → v = some (bI c)) : (if bI a = nI 0 then v else some (nI 1)) = some (bI (a || c)) := by
  cases a with
  | true => rfl
  | false => rw [if_pos (show bI false = nI 0 from rfl), h rfl]; rfl
end FM
