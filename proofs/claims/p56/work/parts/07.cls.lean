def ax_cr (ci : Nat) : vw_C := bif Nat.ble 4 ci then (bif Nat.ble 6 ci then (bif Nat.ble 7 ci then (bif Nat.ble 8 ci then ((RX7, TX7, 8)) else ((RX7, TX7, 8))) else ((RX6, TX6, 5))) else (bif Nat.ble 5 ci then ((RX5, TX5, 10)) else ((RX4, TX4, 5)))) else (bif Nat.ble 2 ci then (bif Nat.ble 3 ci then ((RX3, TX3, 2)) else ((RX2, TX2, 5))) else (bif Nat.ble 1 ci then ((RX1, TX1, 5)) else ((RX0, TX0, 5))))
def ax_ty (ci : Nat) : Nat → FieldType := bif Nat.ble 4 ci then (bif Nat.ble 6 ci then (bif Nat.ble 7 ci then (bif Nat.ble 8 ci then (tyX7) else (tyX7)) else (tyX6)) else (bif Nat.ble 5 ci then (tyX5) else (tyX4))) else (bif Nat.ble 2 ci then (bif Nat.ble 3 ci then (tyX3) else (tyX2)) else (bif Nat.ble 1 ci then (tyX1) else (tyX0)))
/-- a new object's fields -/
def ax_df (ci : Nat) : List Value := bif Nat.ble 4 ci then (bif Nat.ble 6 ci then (bif Nat.ble 7 ci then (bif Nat.ble 8 ci then ([.null, .null, .null, .null, .null, .null, .int 0, .int 0]) else ([.null, .null, .null, .null, .null, .null, .int 0, .int 0])) else ([.null, .null, .int 0, .int 0, .int 0])) else (bif Nat.ble 5 ci then ([.null, .null, .null, .null, .null, .int 0, .int 0, .int 0, .int 0, .int 0]) else ([.null, .null, .null, .null, .int 0]))) else (bif Nat.ble 2 ci then (bif Nat.ble 3 ci then ([.null, .int 0]) else ([.null, .int 0, .int 0, .int 0, .int 0])) else (bif Nat.ble 1 ci then ([.null, .null, .null, .null, .null]) else ([.null, .null, .null, .null, .int 0])))
theorem ax_ci {ci : Nat} (h : ci < 9) : ci = 0 ∨ ci = 1 ∨ ci = 2 ∨ ci = 3 ∨ ci = 4 ∨ ci = 5 ∨ ci = 6 ∨ ci = 7 ∨ ci = 8 := by omega
theorem ax_cr_ok {ci : Nat} (h : ci < 9) : ax_cl[ci]? = some (ax_cr ci) := by rcases ax_ci h with rfl | rfl | rfl | rfl | rfl | rfl | rfl | rfl | rfl <;> rfl
theorem ax_ty_ok {ci : Nat} (h : ci < 9) : ∀ k, k < (ax_cr ci).2.2 → parseFieldDescriptor ((ax_cr ci).2.1 k).2.2.1 = some (ax_ty ci k) := by
  rcases ax_ci h with rfl | rfl | rfl | rfl | rfl | rfl | rfl | rfl | rfl
  · rw [show ax_cr 0 = (RX0, TX0, 5) from rfl, show ax_ty 0 = tyX0 from rfl]; exact tyX0_ok
  · rw [show ax_cr 1 = (RX1, TX1, 5) from rfl, show ax_ty 1 = tyX1 from rfl]; exact tyX1_ok
  · rw [show ax_cr 2 = (RX2, TX2, 5) from rfl, show ax_ty 2 = tyX2 from rfl]; exact tyX2_ok
  · rw [show ax_cr 3 = (RX3, TX3, 2) from rfl, show ax_ty 3 = tyX3 from rfl]; exact tyX3_ok
  · rw [show ax_cr 4 = (RX4, TX4, 5) from rfl, show ax_ty 4 = tyX4 from rfl]; exact tyX4_ok
  · rw [show ax_cr 5 = (RX5, TX5, 10) from rfl, show ax_ty 5 = tyX5 from rfl]; exact tyX5_ok
  · rw [show ax_cr 6 = (RX6, TX6, 5) from rfl, show ax_ty 6 = tyX6 from rfl]; exact tyX6_ok
  · rw [show ax_cr 7 = (RX7, TX7, 8) from rfl, show ax_ty 7 = tyX7 from rfl]; exact tyX7_ok
  · rw [show ax_cr 8 = (RX7, TX7, 8) from rfl, show ax_ty 8 = tyX7 from rfl]; exact tyX7_ok
theorem ax_nm_ok {ci : Nat} (h : ci < 9) : ∀ a, a < (ax_cr ci).2.2 → ∀ b, b < (ax_cr ci).2.2 → a ≠ b → ((ax_cr ci).2.1 a).2.1 ≠ ((ax_cr ci).2.1 b).2.1 := by
  rcases ax_ci h with rfl | rfl | rfl | rfl | rfl | rfl | rfl | rfl | rfl
  · rw [show ax_cr 0 = (RX0, TX0, 5) from rfl]; exact nmX0
  · rw [show ax_cr 1 = (RX1, TX1, 5) from rfl]; exact nmX1
  · rw [show ax_cr 2 = (RX2, TX2, 5) from rfl]; exact nmX2
  · rw [show ax_cr 3 = (RX3, TX3, 2) from rfl]; exact nmX3
  · rw [show ax_cr 4 = (RX4, TX4, 5) from rfl]; exact nmX4
  · rw [show ax_cr 5 = (RX5, TX5, 10) from rfl]; exact nmX5
  · rw [show ax_cr 6 = (RX6, TX6, 5) from rfl]; exact nmX6
  · rw [show ax_cr 7 = (RX7, TX7, 8) from rfl]; exact nmX7
  · rw [show ax_cr 8 = (RX7, TX7, 8) from rfl]; exact nmX7
