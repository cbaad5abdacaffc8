def RX0 : String := "CourierClash$Couriers"
def TX0 : u_T := fun k => match k with
  | 0 => ("CourierClash$Couriers", "at", "[I", true)
  | 1 => ("CourierClash$Couriers", "ordered", "[I", true)
  | 2 => ("CourierClash$Couriers", "moved", "[I", true)
  | 3 => ("CourierClash$Couriers", "outcome", "[I", true)
  | _ => ("CourierClash$Couriers", "vanBits", "I", false)
def tyX0 : Nat → FieldType := fun k => match k with
  | 0 => .array .int
  | 1 => .array .int
  | 2 => .array .int
  | 3 => .array .int
  | _ => .int
abbrev wsX00 : List Cond := u_ws RX0 TX0 5
theorem nmX0 : ∀ a, a < 5 → ∀ b, b < 5 → a ≠ b → (TX0 a).2.1 ≠ (TX0 b).2.1 := by decide +kernel
theorem tyX0_ok : ∀ k, k < 5 → parseFieldDescriptor (TX0 k).2.2.1 = some (tyX0 k) := by decide +kernel
def RX1 : String := "CourierClash$Foretelling"
def TX1 : u_T := fun k => match k with
  | 0 => ("CourierClash$Foretelling", "begin", "[I", true)
  | 1 => ("CourierClash$Foretelling", "end", "[I", true)
  | 2 => ("CourierClash$Foretelling", "load", "[I", true)
  | 3 => ("CourierClash$Foretelling", "reason", "[I", true)
  | _ => ("CourierClash$Foretelling", "reasonAfterRound", "[I", true)
def tyX1 : Nat → FieldType := fun k => match k with
  | 0 => .array .int
  | 1 => .array .int
  | 2 => .array .int
  | 3 => .array .int
  | _ => .array .int
abbrev wsX10 : List Cond := u_ws RX1 TX1 5
theorem nmX1 : ∀ a, a < 5 → ∀ b, b < 5 → a ≠ b → (TX1 a).2.1 ≠ (TX1 b).2.1 := by decide +kernel
theorem tyX1_ok : ∀ k, k < 5 → parseFieldDescriptor (TX1 k).2.2.1 = some (tyX1 k) := by decide +kernel
def RX2 : String := "CourierClash$GameText"
def TX2 : u_T := fun k => match k with
  | 0 => ("CourierClash$GameText", "codes", "[I", true)
  | 1 => ("CourierClash$GameText", "length", "I", false)
  | 2 => ("CourierClash$GameText", "kind", "I", false)
  | 3 => ("CourierClash$GameText", "courier", "I", false)
  | _ => ("CourierClash$GameText", "street", "I", false)
def tyX2 : Nat → FieldType := fun k => match k with
  | 0 => .array .int
  | 1 => .int
  | 2 => .int
  | 3 => .int
  | _ => .int
abbrev wsX20 : List Cond := u_ws RX2 TX2 5
theorem nmX2 : ∀ a, a < 5 → ∀ b, b < 5 → a ≠ b → (TX2 a).2.1 ≠ (TX2 b).2.1 := by decide +kernel
theorem tyX2_ok : ∀ k, k < 5 → parseFieldDescriptor (TX2 k).2.2.1 = some (tyX2 k) := by decide +kernel
def RX3 : String := "CourierClash$Notes"
def TX3 : u_T := fun k => match k with
  | 0 => ("CourierClash$Notes", "noted", "[J", true)
  | _ => ("CourierClash$Notes", "count", "I", false)
def tyX3 : Nat → FieldType := fun k => match k with
  | 0 => .array .long
  | _ => .int
abbrev wsX30 : List Cond := u_ws RX3 TX3 2
theorem nmX3 : ∀ a, a < 2 → ∀ b, b < 2 → a ≠ b → (TX3 a).2.1 ≠ (TX3 b).2.1 := by decide +kernel
theorem tyX3_ok : ∀ k, k < 2 → parseFieldDescriptor (TX3 k).2.2.1 = some (tyX3 k) := by decide +kernel
def RX4 : String := "CourierClash$Parcels"
def TX4 : u_T := fun k => match k with
  | 0 => ("CourierClash$Parcels", "target", "[I", true)
  | 1 => ("CourierClash$Parcels", "weight", "[I", true)
  | 2 => ("CourierClash$Parcels", "value", "[I", true)
  | 3 => ("CourierClash$Parcels", "spot", "[I", true)
  | _ => ("CourierClash$Parcels", "count", "I", false)
def tyX4 : Nat → FieldType := fun k => match k with
  | 0 => .array .int
  | 1 => .array .int
  | 2 => .array .int
  | 3 => .array .int
  | _ => .int
abbrev wsX40 : List Cond := u_ws RX4 TX4 5
theorem nmX4 : ∀ a, a < 5 → ∀ b, b < 5 → a ≠ b → (TX4 a).2.1 ≠ (TX4 b).2.1 := by decide +kernel
theorem tyX4_ok : ∀ k, k < 5 → parseFieldDescriptor (TX4 k).2.2.1 = some (tyX4 k) := by decide +kernel
def RX5 : String := "CourierClash$State"
def TX5 : u_T := fun k => match k with
  | 0 => ("CourierClash$State", "streets", "LCourierClash$Streets;", true)
  | 1 => ("CourierClash$State", "couriers", "LCourierClash$Couriers;", true)
  | 2 => ("CourierClash$State", "parcels", "LCourierClash$Parcels;", true)
  | 3 => ("CourierClash$State", "notes", "LCourierClash$Notes;", true)
  | 4 => ("CourierClash$State", "points", "[I", true)
  | 5 => ("CourierClash$State", "capacity", "I", false)
  | 6 => ("CourierClash$State", "limit", "I", false)
  | 7 => ("CourierClash$State", "turns", "I", false)
  | 8 => ("CourierClash$State", "failed", "I", false)
  | _ => ("CourierClash$State", "stopPart", "I", false)
def tyX5 : Nat → FieldType := fun k => match k with
  | 0 => .object "CourierClash$Streets"
  | 1 => .object "CourierClash$Couriers"
  | 2 => .object "CourierClash$Parcels"
  | 3 => .object "CourierClash$Notes"
  | 4 => .array .int
  | 5 => .int
  | 6 => .int
  | 7 => .int
  | 8 => .int
  | _ => .int
abbrev wsX50 : List Cond := u_ws RX5 TX5 10
theorem nmX5 : ∀ a, a < 10 → ∀ b, b < 10 → a ≠ b → (TX5 a).2.1 ≠ (TX5 b).2.1 := by decide +kernel
theorem tyX5_ok : ∀ k, k < 10 → parseFieldDescriptor (TX5 k).2.2.1 = some (tyX5 k) := by decide +kernel
def RX6 : String := "CourierClash$Streets"
def TX6 : u_T := fun k => match k with
  | 0 => ("CourierClash$Streets", "from", "[I", true)
  | 1 => ("CourierClash$Streets", "to", "[I", true)
  | 2 => ("CourierClash$Streets", "narrowBits", "I", false)
  | 3 => ("CourierClash$Streets", "openBits", "I", false)
  | _ => ("CourierClash$Streets", "count", "I", false)
def tyX6 : Nat → FieldType := fun k => match k with
  | 0 => .array .int
  | 1 => .array .int
  | 2 => .int
  | 3 => .int
  | _ => .int
abbrev wsX60 : List Cond := u_ws RX6 TX6 5
theorem nmX6 : ∀ a, a < 5 → ∀ b, b < 5 → a ≠ b → (TX6 a).2.1 ≠ (TX6 b).2.1 := by decide +kernel
theorem tyX6_ok : ∀ k, k < 5 → parseFieldDescriptor (TX6 k).2.2.1 = some (tyX6 k) := by decide +kernel
def RX7 : String := "CourierClash"
def TX7 : u_T := fun k => match k with
  | 0 => ("CourierClash", "now", "LCourierClash$State;", true)
  | 1 => ("CourierClash", "saved", "[LCourierClash$State;", true)
  | 2 => ("CourierClash", "snapshot", "LCourierClash$State;", true)
  | 3 => ("CourierClash", "foretelling", "LCourierClash$Foretelling;", true)
  | 4 => ("CourierClash", "text", "LCourierClash$GameText;", true)
  | 5 => ("CourierClash", "joined", "[I", true)
  | 6 => ("CourierClash", "savedCount", "I", false)
  | _ => ("CourierClash", "hasSnapshot", "Z", false)
def tyX7 : Nat → FieldType := fun k => match k with
  | 0 => .object "CourierClash$State"
  | 1 => .array (.object "CourierClash$State")
  | 2 => .object "CourierClash$State"
  | 3 => .object "CourierClash$Foretelling"
  | 4 => .object "CourierClash$GameText"
  | 5 => .array .int
  | 6 => .int
  | _ => .boolean
abbrev wsX70 : List Cond := u_ws RX7 TX7 8
theorem nmX7 : ∀ a, a < 8 → ∀ b, b < 8 → a ≠ b → (TX7 a).2.1 ≠ (TX7 b).2.1 := by decide +kernel
theorem tyX7_ok : ∀ k, k < 8 → parseFieldDescriptor (TX7 k).2.2.1 = some (tyX7 k) := by decide +kernel
def RX8 : String := "CourierClashModel"
def TX8 : u_T := fun k => match k with
  | _ => ("", "", "", false)
def tyX8 : Nat → FieldType := fun k => match k with
  | _ => .int
abbrev wsX80 : List Cond := u_ws RX8 TX8 0
theorem nmX8 : ∀ a, a < 0 → ∀ b, b < 0 → a ≠ b → (TX8 a).2.1 ≠ (TX8 b).2.1 := by decide +kernel
theorem tyX8_ok : ∀ k, k < 0 → parseFieldDescriptor (TX8 k).2.2.1 = some (tyX8 k) := by decide +kernel
def RL : String := "CourierClashLaw"
abbrev ax_cl : List vw_C := [(RX0, TX0, 5), (RX1, TX1, 5), (RX2, TX2, 5), (RX3, TX3, 2), (RX4, TX4, 5), (RX5, TX5, 10), (RX6, TX6, 5), (RX7, TX7, 8), (RX7, TX7, 8)]
