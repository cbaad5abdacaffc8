/-! the law's own body: its instructions, read in pieces -/
def ax_one (mi pc : Nat) : Bool := match ax_raw mi pc with | none => true | some i => (match decode (ax_code mi) pc with | .ok (j, n) => decide (j = i) && ax_okl i n | .error _ => false)
set_option maxRecDepth 100000 in
theorem ax_law0 : (List.range 40).all (fun k => ax_one 118 (0 + k)) = true := by decide +kernel
set_option maxRecDepth 100000 in
theorem ax_law1 : (List.range 40).all (fun k => ax_one 118 (40 + k)) = true := by decide +kernel
