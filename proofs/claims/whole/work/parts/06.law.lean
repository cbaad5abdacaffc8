/-! the law's own body: its instructions, read in pieces -/
def ax_one (mi pc : Nat) : Bool := match ax_raw mi pc with | none => true | some i => (match decode (ax_code mi) pc with | .ok (j, n) => decide (j = i) && ax_okl i n | .error _ => false)
set_option maxRecDepth 100000 in
theorem ax_law0 : (List.range 40).all (fun k => ax_one 283 (0 + k)) = true := by decide +kernel
set_option maxRecDepth 100000 in
theorem ax_law1 : (List.range 40).all (fun k => ax_one 283 (40 + k)) = true := by decide +kernel
set_option maxRecDepth 100000 in
theorem ax_law2 : (List.range 40).all (fun k => ax_one 283 (80 + k)) = true := by decide +kernel
set_option maxRecDepth 100000 in
theorem ax_law3 : (List.range 40).all (fun k => ax_one 283 (120 + k)) = true := by decide +kernel
set_option maxRecDepth 100000 in
theorem ax_law4 : (List.range 40).all (fun k => ax_one 283 (160 + k)) = true := by decide +kernel
set_option maxRecDepth 100000 in
theorem ax_law5 : (List.range 40).all (fun k => ax_one 283 (200 + k)) = true := by decide +kernel
set_option maxRecDepth 100000 in
theorem ax_law6 : (List.range 40).all (fun k => ax_one 283 (240 + k)) = true := by decide +kernel
set_option maxRecDepth 100000 in
theorem ax_law7 : (List.range 40).all (fun k => ax_one 283 (280 + k)) = true := by decide +kernel
set_option maxRecDepth 100000 in
theorem ax_law8 : (List.range 40).all (fun k => ax_one 283 (320 + k)) = true := by decide +kernel
set_option maxRecDepth 100000 in
theorem ax_law9 : (List.range 40).all (fun k => ax_one 283 (360 + k)) = true := by decide +kernel
set_option maxRecDepth 100000 in
theorem ax_law10 : (List.range 40).all (fun k => ax_one 283 (400 + k)) = true := by decide +kernel
set_option maxRecDepth 100000 in
theorem ax_law11 : (List.range 40).all (fun k => ax_one 283 (440 + k)) = true := by decide +kernel
set_option maxRecDepth 100000 in
theorem ax_law12 : (List.range 40).all (fun k => ax_one 283 (480 + k)) = true := by decide +kernel
set_option maxRecDepth 100000 in
theorem ax_law13 : (List.range 40).all (fun k => ax_one 283 (520 + k)) = true := by decide +kernel
set_option maxRecDepth 100000 in
theorem ax_law14 : (List.range 40).all (fun k => ax_one 283 (560 + k)) = true := by decide +kernel
set_option maxRecDepth 100000 in
theorem ax_law15 : (List.range 40).all (fun k => ax_one 283 (600 + k)) = true := by decide +kernel
set_option maxRecDepth 100000 in
theorem ax_law16 : (List.range 40).all (fun k => ax_one 283 (640 + k)) = true := by decide +kernel
set_option maxRecDepth 100000 in
theorem ax_law17 : (List.range 40).all (fun k => ax_one 283 (680 + k)) = true := by decide +kernel
set_option maxRecDepth 100000 in
theorem ax_law18 : (List.range 40).all (fun k => ax_one 283 (720 + k)) = true := by decide +kernel
set_option maxRecDepth 100000 in
theorem ax_law19 : (List.range 40).all (fun k => ax_one 283 (760 + k)) = true := by decide +kernel
set_option maxRecDepth 100000 in
theorem ax_law20 : (List.range 40).all (fun k => ax_one 283 (800 + k)) = true := by decide +kernel
set_option maxRecDepth 100000 in
theorem ax_law21 : (List.range 40).all (fun k => ax_one 283 (840 + k)) = true := by decide +kernel
set_option maxRecDepth 100000 in
theorem ax_law22 : (List.range 40).all (fun k => ax_one 283 (880 + k)) = true := by decide +kernel
set_option maxRecDepth 100000 in
theorem ax_law23 : (List.range 40).all (fun k => ax_one 283 (920 + k)) = true := by decide +kernel
set_option maxRecDepth 100000 in
theorem ax_law24 : (List.range 40).all (fun k => ax_one 283 (960 + k)) = true := by decide +kernel
set_option maxRecDepth 100000 in
theorem ax_law25 : (List.range 40).all (fun k => ax_one 283 (1000 + k)) = true := by decide +kernel
set_option maxRecDepth 100000 in
theorem ax_law26 : (List.range 40).all (fun k => ax_one 283 (1040 + k)) = true := by decide +kernel
set_option maxRecDepth 100000 in
theorem ax_law27 : (List.range 40).all (fun k => ax_one 283 (1080 + k)) = true := by decide +kernel
set_option maxRecDepth 100000 in
theorem ax_law28 : (List.range 40).all (fun k => ax_one 283 (1120 + k)) = true := by decide +kernel
set_option maxRecDepth 100000 in
theorem ax_law29 : (List.range 40).all (fun k => ax_one 283 (1160 + k)) = true := by decide +kernel
set_option maxRecDepth 100000 in
theorem ax_law30 : (List.range 40).all (fun k => ax_one 283 (1200 + k)) = true := by decide +kernel
set_option maxRecDepth 100000 in
theorem ax_law31 : (List.range 40).all (fun k => ax_one 283 (1240 + k)) = true := by decide +kernel
set_option maxRecDepth 100000 in
theorem ax_law32 : (List.range 40).all (fun k => ax_one 283 (1280 + k)) = true := by decide +kernel
set_option maxRecDepth 100000 in
theorem ax_law33 : (List.range 40).all (fun k => ax_one 283 (1320 + k)) = true := by decide +kernel
set_option maxRecDepth 100000 in
theorem ax_law34 : (List.range 40).all (fun k => ax_one 283 (1360 + k)) = true := by decide +kernel
set_option maxRecDepth 100000 in
theorem ax_law35 : (List.range 40).all (fun k => ax_one 283 (1400 + k)) = true := by decide +kernel
set_option maxRecDepth 100000 in
theorem ax_law36 : (List.range 40).all (fun k => ax_one 283 (1440 + k)) = true := by decide +kernel
set_option maxRecDepth 100000 in
theorem ax_law37 : (List.range 40).all (fun k => ax_one 283 (1480 + k)) = true := by decide +kernel
set_option maxRecDepth 100000 in
theorem ax_law38 : (List.range 40).all (fun k => ax_one 283 (1520 + k)) = true := by decide +kernel
set_option maxRecDepth 100000 in
theorem ax_law39 : (List.range 40).all (fun k => ax_one 283 (1560 + k)) = true := by decide +kernel
set_option maxRecDepth 100000 in
theorem ax_law40 : (List.range 40).all (fun k => ax_one 283 (1600 + k)) = true := by decide +kernel
set_option maxRecDepth 100000 in
theorem ax_law41 : (List.range 40).all (fun k => ax_one 283 (1640 + k)) = true := by decide +kernel
set_option maxRecDepth 100000 in
theorem ax_law42 : (List.range 40).all (fun k => ax_one 283 (1680 + k)) = true := by decide +kernel
set_option maxRecDepth 100000 in
theorem ax_law43 : (List.range 40).all (fun k => ax_one 283 (1720 + k)) = true := by decide +kernel
set_option maxRecDepth 100000 in
theorem ax_law44 : (List.range 40).all (fun k => ax_one 283 (1760 + k)) = true := by decide +kernel
set_option maxRecDepth 100000 in
theorem ax_law45 : (List.range 40).all (fun k => ax_one 283 (1800 + k)) = true := by decide +kernel
set_option maxRecDepth 100000 in
theorem ax_law46 : (List.range 40).all (fun k => ax_one 283 (1840 + k)) = true := by decide +kernel
set_option maxRecDepth 100000 in
theorem ax_law47 : (List.range 40).all (fun k => ax_one 283 (1880 + k)) = true := by decide +kernel
set_option maxRecDepth 100000 in
theorem ax_law48 : (List.range 40).all (fun k => ax_one 283 (1920 + k)) = true := by decide +kernel
set_option maxRecDepth 100000 in
theorem ax_law49 : (List.range 40).all (fun k => ax_one 283 (1960 + k)) = true := by decide +kernel
set_option maxRecDepth 100000 in
theorem ax_law50 : (List.range 40).all (fun k => ax_one 283 (2000 + k)) = true := by decide +kernel
set_option maxRecDepth 100000 in
theorem ax_law51 : (List.range 40).all (fun k => ax_one 283 (2040 + k)) = true := by decide +kernel
set_option maxRecDepth 100000 in
theorem ax_law52 : (List.range 40).all (fun k => ax_one 283 (2080 + k)) = true := by decide +kernel
set_option maxRecDepth 100000 in
theorem ax_law53 : (List.range 40).all (fun k => ax_one 283 (2120 + k)) = true := by decide +kernel
set_option maxRecDepth 100000 in
theorem ax_law54 : (List.range 40).all (fun k => ax_one 283 (2160 + k)) = true := by decide +kernel
set_option maxRecDepth 100000 in
theorem ax_law55 : (List.range 40).all (fun k => ax_one 283 (2200 + k)) = true := by decide +kernel
set_option maxRecDepth 100000 in
theorem ax_law56 : (List.range 40).all (fun k => ax_one 283 (2240 + k)) = true := by decide +kernel
set_option maxRecDepth 100000 in
theorem ax_law57 : (List.range 40).all (fun k => ax_one 283 (2280 + k)) = true := by decide +kernel
set_option maxRecDepth 100000 in
theorem ax_law58 : (List.range 40).all (fun k => ax_one 283 (2320 + k)) = true := by decide +kernel
set_option maxRecDepth 100000 in
theorem ax_law59 : (List.range 40).all (fun k => ax_one 283 (2360 + k)) = true := by decide +kernel
set_option maxRecDepth 100000 in
theorem ax_law60 : (List.range 40).all (fun k => ax_one 283 (2400 + k)) = true := by decide +kernel
set_option maxRecDepth 100000 in
theorem ax_law61 : (List.range 40).all (fun k => ax_one 283 (2440 + k)) = true := by decide +kernel
set_option maxRecDepth 100000 in
theorem ax_law62 : (List.range 40).all (fun k => ax_one 283 (2480 + k)) = true := by decide +kernel
set_option maxRecDepth 100000 in
theorem ax_law63 : (List.range 40).all (fun k => ax_one 283 (2520 + k)) = true := by decide +kernel
set_option maxRecDepth 100000 in
theorem ax_law64 : (List.range 40).all (fun k => ax_one 283 (2560 + k)) = true := by decide +kernel
set_option maxRecDepth 100000 in
theorem ax_law65 : (List.range 40).all (fun k => ax_one 283 (2600 + k)) = true := by decide +kernel
set_option maxRecDepth 100000 in
theorem ax_law66 : (List.range 40).all (fun k => ax_one 283 (2640 + k)) = true := by decide +kernel
set_option maxRecDepth 100000 in
theorem ax_law67 : (List.range 40).all (fun k => ax_one 283 (2680 + k)) = true := by decide +kernel
set_option maxRecDepth 100000 in
theorem ax_law68 : (List.range 40).all (fun k => ax_one 283 (2720 + k)) = true := by decide +kernel
set_option maxRecDepth 100000 in
theorem ax_law69 : (List.range 40).all (fun k => ax_one 283 (2760 + k)) = true := by decide +kernel
