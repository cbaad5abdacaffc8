/-! WAYS in the reference: the next street, the parcel that suits best -/
/-- nothing of the reference changed but what it throws away -/
def mdq (m m' : dM) : Prop := chg (fun b => b = 130 ∨ b = 135 ∨ b = 136 ∨ b = 137) m m' ∧ rI m' 130 2 = rI m 130 2 ∧ rI m' 130 4 = rI m 130 4 ∧ rI m' 130 6 = rI m 130 6
theorem mdq.rf {m : dM} : mdq m m := ⟨chg.rf, rfl, rfl, rfl⟩
theorem mdq.tr {m m' m'' : dM} (h : mdq m m') (k : mdq m' m'') : mdq m m'' := ⟨h.1.tr k.1, k.2.1.trans h.2.1, k.2.2.1.trans h.2.2.1, k.2.2.2.trans h.2.2.2⟩
def ix (k : Nat) : Int32 := if k = 0 then -1 else nI (k - 1)
theorem ix_k (k : Nat) : kD (ix (k + 1)) = some (ix k) := by
  cases k with
  | zero => exact kD_0
  | succ k => exact kD_n (by omega)
section WM
variable {m : dM} {f : Nat → Int32}
end WM
