/-! THE HEAP OF A RUN, told by memories: M of ints and N of longs by cell and place, r the order of the saved states -/
def ax_sh (a : Nat) (f : Nat → Int32) (g : Nat → Int64) (r : Nat → Nat) : ax_C := bif Nat.ble 65 a then (bif Nat.ble 98 a then (bif Nat.ble 114 a then (bif Nat.ble 122 a then (bif Nat.ble 126 a then (bif Nat.ble 128 a then (bif Nat.ble 129 a then (bif Nat.ble 130 a then (.inl (0, (12, .inl f))) else (.inl (0, (2, .inl f)))) else (.inl (1, (61, .inr (.inl g))))) else (bif Nat.ble 127 a then (.inr (3, [.ref 128, .int (f 1)])) else (.inl (0, (8, .inl f))))) else (bif Nat.ble 124 a then (bif Nat.ble 125 a then (.inl (0, (8, .inl f))) else (.inl (0, (8, .inl f)))) else (bif Nat.ble 123 a then (.inl (0, (8, .inl f))) else (.inr (4, [.ref 123, .ref 124, .ref 125, .ref 126, .int (f 4)]))))) else (bif Nat.ble 118 a then (bif Nat.ble 120 a then (bif Nat.ble 121 a then (.inl (0, (4, .inl f))) else (.inl (0, (4, .inl f)))) else (bif Nat.ble 119 a then (.inl (0, (4, .inl f))) else (.inl (0, (4, .inl f))))) else (bif Nat.ble 116 a then (bif Nat.ble 117 a then (.inr (0, [.ref 118, .ref 119, .ref 120, .ref 121, .int (f 4)])) else (.inl (0, (24, .inl f)))) else (bif Nat.ble 115 a then (.inl (0, (24, .inl f))) else (.inr (6, [.ref 115, .ref 116, .int (f 2), .int (f 3), .int (f 4)])))))) else (bif Nat.ble 106 a then (bif Nat.ble 110 a then (bif Nat.ble 112 a then (bif Nat.ble 113 a then (.inr (5, [.ref 114, .ref 117, .ref 122, .ref 127, .ref 129, .int (f 5), .int (f 6), .int (f 7), .int (f 8), .int (f 9)])) else (.inl (0, (2, .inl f)))) else (bif Nat.ble 111 a then (.inl (1, (61, .inr (.inl g)))) else (.inr (3, [.ref 111, .int (f 1)])))) else (bif Nat.ble 108 a then (bif Nat.ble 109 a then (.inl (0, (8, .inl f))) else (.inl (0, (8, .inl f)))) else (bif Nat.ble 107 a then (.inl (0, (8, .inl f))) else (.inl (0, (8, .inl f)))))) else (bif Nat.ble 102 a then (bif Nat.ble 104 a then (bif Nat.ble 105 a then (.inr (4, [.ref 106, .ref 107, .ref 108, .ref 109, .int (f 4)])) else (.inl (0, (4, .inl f)))) else (bif Nat.ble 103 a then (.inl (0, (4, .inl f))) else (.inl (0, (4, .inl f))))) else (bif Nat.ble 100 a then (bif Nat.ble 101 a then (.inl (0, (4, .inl f))) else (.inr (0, [.ref 101, .ref 102, .ref 103, .ref 104, .int (f 4)]))) else (bif Nat.ble 99 a then (.inl (0, (24, .inl f))) else (.inl (0, (24, .inl f)))))))) else (bif Nat.ble 81 a then (bif Nat.ble 89 a then (bif Nat.ble 93 a then (bif Nat.ble 95 a then (bif Nat.ble 96 a then (bif Nat.ble 97 a then (.inr (6, [.ref 98, .ref 99, .int (f 2), .int (f 3), .int (f 4)])) else (.inr (5, [.ref 97, .ref 100, .ref 105, .ref 110, .ref 112, .int (f 5), .int (f 6), .int (f 7), .int (f 8), .int (f 9)]))) else (.inl (0, (2, .inl f)))) else (bif Nat.ble 94 a then (.inl (1, (61, .inr (.inl g)))) else (.inr (3, [.ref 94, .int (f 1)])))) else (bif Nat.ble 91 a then (bif Nat.ble 92 a then (.inl (0, (8, .inl f))) else (.inl (0, (8, .inl f)))) else (bif Nat.ble 90 a then (.inl (0, (8, .inl f))) else (.inl (0, (8, .inl f)))))) else (bif Nat.ble 85 a then (bif Nat.ble 87 a then (bif Nat.ble 88 a then (.inr (4, [.ref 89, .ref 90, .ref 91, .ref 92, .int (f 4)])) else (.inl (0, (4, .inl f)))) else (bif Nat.ble 86 a then (.inl (0, (4, .inl f))) else (.inl (0, (4, .inl f))))) else (bif Nat.ble 83 a then (bif Nat.ble 84 a then (.inl (0, (4, .inl f))) else (.inr (0, [.ref 84, .ref 85, .ref 86, .ref 87, .int (f 4)]))) else (bif Nat.ble 82 a then (.inl (0, (24, .inl f))) else (.inl (0, (24, .inl f))))))) else (bif Nat.ble 73 a then (bif Nat.ble 77 a then (bif Nat.ble 79 a then (bif Nat.ble 80 a then (.inr (6, [.ref 81, .ref 82, .int (f 2), .int (f 3), .int (f 4)])) else (.inr (5, [.ref 80, .ref 83, .ref 88, .ref 93, .ref 95, .int (f 5), .int (f 6), .int (f 7), .int (f 8), .int (f 9)]))) else (bif Nat.ble 78 a then (.inl (0, (2, .inl f))) else (.inl (1, (61, .inr (.inl g)))))) else (bif Nat.ble 75 a then (bif Nat.ble 76 a then (.inr (3, [.ref 77, .int (f 1)])) else (.inl (0, (8, .inl f)))) else (bif Nat.ble 74 a then (.inl (0, (8, .inl f))) else (.inl (0, (8, .inl f)))))) else (bif Nat.ble 69 a then (bif Nat.ble 71 a then (bif Nat.ble 72 a then (.inl (0, (8, .inl f))) else (.inr (4, [.ref 72, .ref 73, .ref 74, .ref 75, .int (f 4)]))) else (bif Nat.ble 70 a then (.inl (0, (4, .inl f))) else (.inl (0, (4, .inl f))))) else (bif Nat.ble 67 a then (bif Nat.ble 68 a then (.inl (0, (4, .inl f))) else (.inl (0, (4, .inl f)))) else (bif Nat.ble 66 a then (.inr (0, [.ref 67, .ref 68, .ref 69, .ref 70, .int (f 4)])) else (.inl (0, (24, .inl f))))))))) else (bif Nat.ble 32 a then (bif Nat.ble 48 a then (bif Nat.ble 56 a then (bif Nat.ble 60 a then (bif Nat.ble 62 a then (bif Nat.ble 63 a then (bif Nat.ble 64 a then (.inl (0, (24, .inl f))) else (.inr (6, [.ref 64, .ref 65, .int (f 2), .int (f 3), .int (f 4)]))) else (.inr (5, [.ref 63, .ref 66, .ref 71, .ref 76, .ref 78, .int (f 5), .int (f 6), .int (f 7), .int (f 8), .int (f 9)]))) else (bif Nat.ble 61 a then (.inl (0, (2, .inl f))) else (.inl (1, (61, .inr (.inl g)))))) else (bif Nat.ble 58 a then (bif Nat.ble 59 a then (.inr (3, [.ref 60, .int (f 1)])) else (.inl (0, (8, .inl f)))) else (bif Nat.ble 57 a then (.inl (0, (8, .inl f))) else (.inl (0, (8, .inl f)))))) else (bif Nat.ble 52 a then (bif Nat.ble 54 a then (bif Nat.ble 55 a then (.inl (0, (8, .inl f))) else (.inr (4, [.ref 55, .ref 56, .ref 57, .ref 58, .int (f 4)]))) else (bif Nat.ble 53 a then (.inl (0, (4, .inl f))) else (.inl (0, (4, .inl f))))) else (bif Nat.ble 50 a then (bif Nat.ble 51 a then (.inl (0, (4, .inl f))) else (.inl (0, (4, .inl f)))) else (bif Nat.ble 49 a then (.inr (0, [.ref 50, .ref 51, .ref 52, .ref 53, .int (f 4)])) else (.inl (0, (24, .inl f))))))) else (bif Nat.ble 40 a then (bif Nat.ble 44 a then (bif Nat.ble 46 a then (bif Nat.ble 47 a then (.inl (0, (24, .inl f))) else (.inr (6, [.ref 47, .ref 48, .int (f 2), .int (f 3), .int (f 4)]))) else (bif Nat.ble 45 a then (.inr (5, [.ref 46, .ref 49, .ref 54, .ref 59, .ref 61, .int (f 5), .int (f 6), .int (f 7), .int (f 8), .int (f 9)])) else (.inl (0, (10, .inl f))))) else (bif Nat.ble 42 a then (bif Nat.ble 43 a then (.inl (0, (60, .inl f))) else (.inr (2, [.ref 43, .int (f 1), .int (f 2), .int (f 3), .int (f 4)]))) else (bif Nat.ble 41 a then (.inl (0, (4, .inl f))) else (.inl (0, (4, .inl f)))))) else (bif Nat.ble 36 a then (bif Nat.ble 38 a then (bif Nat.ble 39 a then (.inl (0, (4, .inl f))) else (.inl (0, (4, .inl f)))) else (bif Nat.ble 37 a then (.inl (0, (4, .inl f))) else (.inr (1, [.ref 37, .ref 38, .ref 39, .ref 40, .ref 41])))) else (bif Nat.ble 34 a then (bif Nat.ble 35 a then (.inl (0, (2, .inl f))) else (.inl (1, (61, .inr (.inl g))))) else (bif Nat.ble 33 a then (.inr (3, [.ref 34, .int (f 1)])) else (.inl (0, (8, .inl f)))))))) else (bif Nat.ble 16 a then (bif Nat.ble 24 a then (bif Nat.ble 28 a then (bif Nat.ble 30 a then (bif Nat.ble 31 a then (.inl (0, (8, .inl f))) else (.inl (0, (8, .inl f)))) else (bif Nat.ble 29 a then (.inl (0, (8, .inl f))) else (.inr (4, [.ref 29, .ref 30, .ref 31, .ref 32, .int (f 4)])))) else (bif Nat.ble 26 a then (bif Nat.ble 27 a then (.inl (0, (4, .inl f))) else (.inl (0, (4, .inl f)))) else (bif Nat.ble 25 a then (.inl (0, (4, .inl f))) else (.inl (0, (4, .inl f)))))) else (bif Nat.ble 20 a then (bif Nat.ble 22 a then (bif Nat.ble 23 a then (.inr (0, [.ref 24, .ref 25, .ref 26, .ref 27, .int (f 4)])) else (.inl (0, (24, .inl f)))) else (bif Nat.ble 21 a then (.inl (0, (24, .inl f))) else (.inr (6, [.ref 21, .ref 22, .int (f 2), .int (f 3), .int (f 4)])))) else (bif Nat.ble 18 a then (bif Nat.ble 19 a then (.inr (5, [.ref 20, .ref 23, .ref 28, .ref 33, .ref 35, .int (f 5), .int (f 6), .int (f 7), .int (f 8), .int (f 9)])) else (.inl (2, (5, .inr (.inr (.inr (.inr (fun k => bif Nat.blt k 5 then some (r k) else none)))))))) else (bif Nat.ble 17 a then (.inl (0, (2, .inl f))) else (.inl (1, (61, .inr (.inl g)))))))) else (bif Nat.ble 8 a then (bif Nat.ble 12 a then (bif Nat.ble 14 a then (bif Nat.ble 15 a then (.inr (3, [.ref 16, .int (f 1)])) else (.inl (0, (8, .inl f)))) else (bif Nat.ble 13 a then (.inl (0, (8, .inl f))) else (.inl (0, (8, .inl f))))) else (bif Nat.ble 10 a then (bif Nat.ble 11 a then (.inl (0, (8, .inl f))) else (.inr (4, [.ref 11, .ref 12, .ref 13, .ref 14, .int (f 4)]))) else (bif Nat.ble 9 a then (.inl (0, (4, .inl f))) else (.inl (0, (4, .inl f)))))) else (bif Nat.ble 4 a then (bif Nat.ble 6 a then (bif Nat.ble 7 a then (.inl (0, (4, .inl f))) else (.inl (0, (4, .inl f)))) else (bif Nat.ble 5 a then (.inr (0, [.ref 6, .ref 7, .ref 8, .ref 9, .int (f 4)])) else (.inl (0, (24, .inl f))))) else (bif Nat.ble 2 a then (bif Nat.ble 3 a then (.inl (0, (24, .inl f))) else (.inr (6, [.ref 3, .ref 4, .int (f 2), .int (f 3), .int (f 4)]))) else (bif Nat.ble 1 a then (.inr (5, [.ref 2, .ref 5, .ref 10, .ref 15, .ref 17, .int (f 5), .int (f 6), .int (f 7), .int (f 8), .int (f 9)])) else (.inr (7, [.ref 1, .ref 18, .ref 19, .ref 36, .ref 42, .ref 44, .int (f 6), .int (f 7)]))))))))
abbrev ax_M : Type := Nat → Nat → Int32
abbrev ax_N : Type := Nat → Nat → Int64
def ax_st (k : Nat × Nat) (M : ax_M) (N : ax_N) (r : Nat → Nat) : ax_H := ((131, k.1, k.2), fun a => ax_sh a (M a) (N a) r)
/-- memories with one number changed -/
def ms (M : ax_M) (a j : Nat) (x : Int32) : ax_M := fun a' => bif Nat.beq a' a then upd (M a) j x else M a'
def nl (N : ax_N) (a j : Nat) (x : Int64) : ax_N := fun a' => bif Nat.beq a' a then vp_updL (N a) j x else N a'
/-- a whole row changed -/
def mr (M : ax_M) (a : Nat) (f : Nat → Int32) : ax_M := fun a' => bif Nat.beq a' a then f else M a'
def nr (N : ax_N) (a : Nat) (f : Nat → Int64) : ax_N := fun a' => bif Nat.beq a' a then f else N a'
theorem ax_st_at {k : Nat × Nat} {M : ax_M} {N : ax_N} {r : Nat → Nat} {a : Nat} (h : Nat.blt a 131 = true) : ax_at (ax_st k M N r) a = some (ax_sh a (M a) (N a) r) := by
  show (bif Nat.blt a 131 then some (ax_sh a (M a) (N a) r) else none) = _
  rw [h]; rfl
theorem ax_st_up {k : Nat × Nat} {M : ax_M} {N : ax_N} {r : Nat → Nat} {a : Nat} {f : Nat → Int32} {c : ax_C} (h : c = ax_sh a f (N a) r) : ax_up (ax_st k M N r) a c = ax_st k (mr M a f) N r := by
  show (((131, k.1, k.2), _) : ax_H) = ((131, k.1, k.2), _)
  congr 1
  funext j
  show (bif Nat.beq j a then c else ax_sh j (M j) (N j) r) = ax_sh j (bif Nat.beq j a then f else M j) (N j) r
  cases hb : Nat.beq j a with
  | false => rfl
  | true => cases Nat.eq_of_beq_eq_true hb; exact h
theorem ax_st_upN {k : Nat × Nat} {M : ax_M} {N : ax_N} {r : Nat → Nat} {a : Nat} {g : Nat → Int64} {c : ax_C} (h : c = ax_sh a (M a) g r) : ax_up (ax_st k M N r) a c = ax_st k M (nr N a g) r := by
  show (((131, k.1, k.2), _) : ax_H) = ((131, k.1, k.2), _)
  congr 1
  funext j
  show (bif Nat.beq j a then c else ax_sh j (M j) (N j) r) = ax_sh j (M j) (bif Nat.beq j a then g else N j) r
  cases hb : Nat.beq j a with
  | false => rfl
  | true => cases Nat.eq_of_beq_eq_true hb; exact h
section AXN
variable {X : Nat × (Nat → Int32)} {d mi pc : Nat} {L : ax_L} {S : List Value} {k : Nat × Nat} {M : ax_M} {N : ax_N} {r : Nat → Nat} {Q : ax_O → ax_H → Prop}
/-- reads and writes of arrays at a place that is known to be in them -/
theorem ax_Wp.ild {a n j : Nat} {i : Int32} (hi : ax_ins mi pc = some .iaload) (ha : Nat.blt a 131 = true) (hs : ax_sh a (M a) (N a) r = .inl (0, (n, .inl (M a)))) (hj : i = nI j) (hn : j < n) (hb : Nat.ble n 100000 = true) (w : ax_Wp X (d + 1) mi (pc + 1, L, .int (M a j) :: S) (ax_st k M N r) Q) : ax_Wp X (d + 1) mi (pc, L, .int i :: .ref a :: S) (ax_st k M N r) Q := by
  have hn2 := Nat.le_of_ble_eq_true hb
  refine ax_Wp.st ?_ w
  show (match ax_ins mi pc with | none => none | some i2 => ax_do X mi pc L (.int i :: .ref a :: S) (ax_st k M N r) i2) = _
  rw [hi]
  simp only [ax_do, ax_st_at ha, hs]
  subst hj
  rw [show ax_inb (nI j) n = true by
    simp only [ax_inb, Bool.and_eq_true, decide_eq_true_eq, nI_clamp (show j < 2 ^ 31 by omega)]
    exact ⟨nI_pos' (by omega), Nat.ble_eq_true_of_le (by omega)⟩, nI_clamp (show j < 2 ^ 31 by omega)]
  rfl
theorem ax_Wp.lld {a n j : Nat} {i : Int32} (hi : ax_ins mi pc = some .laload) (ha : Nat.blt a 131 = true) (hs : ax_sh a (M a) (N a) r = .inl (1, (n, .inr (.inl (N a))))) (hj : i = nI j) (hn : j < n) (hb : Nat.ble n 100000 = true) (w : ax_Wp X (d + 1) mi (pc + 1, L, .long (N a j) :: S) (ax_st k M N r) Q) : ax_Wp X (d + 1) mi (pc, L, .int i :: .ref a :: S) (ax_st k M N r) Q := by
  have hn2 := Nat.le_of_ble_eq_true hb
  refine ax_Wp.st ?_ w
  show (match ax_ins mi pc with | none => none | some i2 => ax_do X mi pc L (.int i :: .ref a :: S) (ax_st k M N r) i2) = _
  rw [hi]
  simp only [ax_do, ax_st_at ha, hs]
  subst hj
  rw [show ax_inb (nI j) n = true by
    simp only [ax_inb, Bool.and_eq_true, decide_eq_true_eq, nI_clamp (show j < 2 ^ 31 by omega)]
    exact ⟨nI_pos' (by omega), Nat.ble_eq_true_of_le (by omega)⟩, nI_clamp (show j < 2 ^ 31 by omega)]
  rfl
theorem ax_Wp.ist {a n j : Nat} {i x : Int32} (hi : ax_ins mi pc = some .iastore) (ha : Nat.blt a 131 = true) (hs : ∀ f : Nat → Int32, ax_sh a f (N a) r = .inl (0, (n, .inl f))) (hj : i = nI j) (hn : j < n) (hb : Nat.ble n 100000 = true) (w : ax_Wp X (d + 1) mi (pc + 1, L, S) (ax_st k (ms M a j x) N r) Q) : ax_Wp X (d + 1) mi (pc, L, .int x :: .int i :: .ref a :: S) (ax_st k M N r) Q := by
  have hn2 := Nat.le_of_ble_eq_true hb
  refine ax_Wp.st ?_ w
  show (match ax_ins mi pc with | none => none | some i2 => ax_do X mi pc L (.int x :: .int i :: .ref a :: S) (ax_st k M N r) i2) = _
  rw [hi]
  simp only [ax_do, ax_st_at ha, hs]
  subst hj
  rw [show ax_inb (nI j) n = true by
    simp only [ax_inb, Bool.and_eq_true, decide_eq_true_eq, nI_clamp (show j < 2 ^ 31 by omega)]
    exact ⟨nI_pos' (by omega), Nat.ble_eq_true_of_le (by omega)⟩, nI_clamp (show j < 2 ^ 31 by omega), ax_st_up (f := upd (M a) j x) (hs _).symm]
  rfl
theorem ax_Wp.lst {a n j : Nat} {i : Int32} {x : Int64} (hi : ax_ins mi pc = some .lastore) (ha : Nat.blt a 131 = true) (hs : ∀ g : Nat → Int64, ax_sh a (M a) g r = .inl (1, (n, .inr (.inl g)))) (hj : i = nI j) (hn : j < n) (hb : Nat.ble n 100000 = true) (w : ax_Wp X (d + 1) mi (pc + 1, L, S) (ax_st k M (nl N a j x) r) Q) : ax_Wp X (d + 1) mi (pc, L, .long x :: .int i :: .ref a :: S) (ax_st k M N r) Q := by
  have hn2 := Nat.le_of_ble_eq_true hb
  refine ax_Wp.st ?_ w
  show (match ax_ins mi pc with | none => none | some i2 => ax_do X mi pc L (.long x :: .int i :: .ref a :: S) (ax_st k M N r) i2) = _
  rw [hi]
  simp only [ax_do, ax_st_at ha, hs]
  subst hj
  rw [show ax_inb (nI j) n = true by
    simp only [ax_inb, Bool.and_eq_true, decide_eq_true_eq, nI_clamp (show j < 2 ^ 31 by omega)]
    exact ⟨nI_pos' (by omega), Nat.ble_eq_true_of_le (by omega)⟩, nI_clamp (show j < 2 ^ 31 by omega), ax_st_upN (g := vp_updL (N a) j x) (hs _).symm]
  rfl
/-- a field of ints written -/
theorem ax_Wp.ptf {a j ci : Nat} {x : Int32} {h1 : ax_H} (e : ax_step X mi (pc, L, .int x :: .ref a :: S) (ax_st k M N r) = some (.inl ((pc + 3, L, S), h1))) {c : ax_C} (e1 : h1 = ax_up (ax_st k M N r) a c) (hs : c = ax_sh a (upd (M a) j x) (N a) r) (w : ax_Wp X (d + 1) mi (pc + 3, L, S) (ax_st k (ms M a j x) N r) Q) : ax_Wp X (d + 1) mi (pc, L, .int x :: .ref a :: S) (ax_st k M N r) Q := by
  refine ax_Wp.st e ?_
  rw [e1, ax_st_up hs]
  exact w
end AXN
