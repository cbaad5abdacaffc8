/-! THE REFERENCE'S SMALL METHODS -/
def b01 (b : Bool) : Int32 := bif b then 1 else 0
theorem ax_fitb (b : Bool) : ax_fit .boolean (.int (b01 b)) = true := by cases b <;> rfl
theorem b01_t {b : Bool} (h : b = true) : b01 b = 1 := by rw [h]; rfl
theorem b01_f {b : Bool} (h : b = false) : b01 b = 0 := by rw [h]; rfl
theorem b01_1 {b : Bool} : b01 b = 1 ↔ b = true := by cases b <;> decide
theorem b01_0 {b : Bool} : b01 b = 0 ↔ b = false := by cases b <;> decide
theorem ax_Wp.fr {X : Nat × (Nat → Int32)} {d mi : Nat} {f f' : ax_F} {h : ax_H} {Q : ax_O → ax_H → Prop} (e : f = f') (w : ax_Wp X d mi f' h Q) : ax_Wp X d mi f h Q := e ▸ w
theorem ax_Wp.fh {X : Nat × (Nat → Int32)} {d mi : Nat} {f f' : ax_F} {h h' : ax_H} {Q : ax_O → ax_H → Prop} (e : f = f') (e2 : h = h') (w : ax_Wp X d mi f' h' Q) : ax_Wp X d mi f h Q := e ▸ e2 ▸ w
/-- the load of a courier, among the first so many parcels -/
def sp_load (f : Nat → Int32) (c : Int32) : Nat → Int32
  | 0 => 0
  | n + 1 => sp_load f c n + (if f (118 + 6 * n + 4) = 1 ∧ f (118 + 6 * n + 5) = c then f (118 + 6 * n + 2) else 0)
section M1
variable {X : Nat × (Nat → Int32)} {d : Nat} {k : Nat × Nat} {M : ax_M} {N : ax_N} {r : Nat → Nat}
theorem ax_Wp.ptl {mi pc a j : Nat} {x : Int64} {L : ax_L} {S : List Value} {Q : ax_O → ax_H → Prop} {h1 : ax_H} (e : ax_step X mi (pc, L, .long x :: .ref a :: S) (ax_st k M N r) = some (.inl ((pc + 3, L, S), h1))) {c : ax_C} (e1 : h1 = ax_up (ax_st k M N r) a c) (hs : c = ax_sh a (M a) (vp_updL (N a) j x) r) (w : ax_Wp X (d + 1) mi (pc + 3, L, S) (ax_st k M (nl N a j x) r) Q) : ax_Wp X (d + 1) mi (pc, L, .long x :: .ref a :: S) (ax_st k M N r) Q := by
  refine ax_Wp.st e ?_
  rw [e1, ax_st_upN hs]
  exact w
theorem ev_142  : ax_Ev X (d + 1) 142 [.ref 130] (ax_st k M N r) (.inl (some (.int (M 130 7)))) (ax_st k M N r) := by
  show ax_Wp X (d + 0 + 1) 142 (0, [some (.ref 130)], []) (ax_st k M N r) _
  refine ax_Wp.go (f' := (4, [some (.ref 130)], [.int (M 130 7)])) 2 rfl ?_
  exact ax_Wp.retc rfl rfl ⟨rfl, rfl⟩
theorem ev_143 {p : Int32} : ax_Ev X (d + 1) 143 [.ref 130, .int p] (ax_st k M N r) (.inl (some (.int 0))) (ax_st k (ms M 130 7 p) N r) := by
  show ax_Wp X (d + 0 + 1) 143 (0, [some (.ref 130), some (.int p)], []) (ax_st k M N r) _
  refine ax_Wp.go (f' := (2, [some (.ref 130), some (.int p)], [.int p, .ref 130])) 2 rfl ?_
  refine ax_Wp.ptf (j := 7) (ci := 0) rfl rfl rfl ?_
  refine ax_Wp.go (f' := (6, [some (.ref 130), some (.int p)], [.int 0])) 1 rfl ?_
  exact ax_Wp.retc rfl rfl ⟨rfl, rfl⟩
theorem ax_lt0 {a b : Int32} : a < b ↔ ¬ b ≤ a := Int32.not_le.symm
theorem ev_144 {v lo hi : Int32} : ax_Ev X (d + 1) 144 [.int v, .int lo, .int hi] (ax_st k M N r) (.inl (some (.int (b01 (decide (lo ≤ v) && decide (v ≤ hi)))))) (ax_st k M N r) := by
  show ax_Wp X (d + 0 + 1) 144 (0, [some (.int v), some (.int lo), some (.int hi)], []) (ax_st k M N r) _
  refine ax_Wp.go (f' := (2, [some (.int v), some (.int lo), some (.int hi)], [.int lo, .int v])) 2 rfl ?_
  refine ax_Wp.br (c := v < lo) rfl (fun q1 => ?_) (fun q1 => ?_)
  · refine ax_Wp.go (f' := (15, [some (.int v), some (.int lo), some (.int hi)], [.int 0])) 1 rfl ?_
    exact ax_Wp.retc rfl rfl ⟨by simp only [ax_lt0, Decidable.not_not] at q1; simp [q1, b01], rfl⟩
  · refine ax_Wp.go (f' := (7, [some (.int v), some (.int lo), some (.int hi)], [.int hi, .int v])) 2 rfl ?_
    refine ax_Wp.br (c := hi < v) rfl (fun q2 => ?_) (fun q2 => ?_)
    · refine ax_Wp.go (f' := (15, [some (.int v), some (.int lo), some (.int hi)], [.int 0])) 1 rfl ?_
      exact ax_Wp.retc rfl rfl ⟨by simp only [ax_lt0, Decidable.not_not] at q1 q2; simp [q1, q2, b01], rfl⟩
    · refine ax_Wp.go (f' := (15, [some (.int v), some (.int lo), some (.int hi)], [.int 1])) 2 rfl ?_
      exact ax_Wp.retc rfl rfl ⟨by simp only [ax_lt0, Decidable.not_not] at q1 q2; simp [q1, q2, b01], rfl⟩
theorem ev_145 {v : Int32} : ax_Ev X (d + 2) 145 [.int v] (ax_st k M N r) (.inl (some (.int (b01 (decide (0 ≤ v) && decide (v ≤ 9)))))) (ax_st k M N r) := by
  show ax_Wp X (d + 1 + 1) 145 (0, [some (.int v)], []) (ax_st k M N r) _
  refine ax_Wp.go (f' := (4, [some (.int v)], [.int 9, .int 0, .int v])) 3 rfl ?_
  refine ax_Wp.callE (f' := (7, [some (.int v)], [])) rfl rfl (ev_144 (d := d + 0)) rfl ?_
  exact ax_Wp.retc rfl (ax_fitb _) ⟨rfl, rfl⟩
theorem ev_146 {v : Int32} : ax_Ev X (d + 2) 146 [.int v] (ax_st k M N r) (.inl (some (.int (b01 (decide (0 ≤ v) && decide (v ≤ 3)))))) (ax_st k M N r) := by
  show ax_Wp X (d + 1 + 1) 146 (0, [some (.int v)], []) (ax_st k M N r) _
  refine ax_Wp.go (f' := (3, [some (.int v)], [.int 3, .int 0, .int v])) 3 rfl ?_
  refine ax_Wp.callE (f' := (6, [some (.int v)], [])) rfl rfl (ev_144 (d := d + 0)) rfl ?_
  exact ax_Wp.retc rfl (ax_fitb _) ⟨rfl, rfl⟩
theorem ev_147 {v : Int32} : ax_Ev X (d + 2) 147 [.ref 130, .int v] (ax_st k M N r) (.inl (some (.int (b01 (decide (0 ≤ v) && decide (v ≤ M 131 0 - 1)))))) (ax_st k M N r) := by
  show ax_Wp X (d + 1 + 1) 147 (0, [some (.ref 130), some (.int v)], []) (ax_st k M N r) _
  refine ax_Wp.go (f' := (10, [some (.ref 130), some (.int v)], [.int ((M 131 0) - 1), .int 0, .int v])) 8 rfl ?_
  refine ax_Wp.callE (f' := (13, [some (.ref 130), some (.int v)], [])) rfl rfl (ev_144 (d := d + 0)) rfl ?_
  exact ax_Wp.retc rfl (ax_fitb _) ⟨rfl, rfl⟩
theorem ev_148 {v : Int32} : ax_Ev X (d + 2) 148 [.ref 130, .int v] (ax_st k M N r) (.inl (some (.int (b01 (decide (0 ≤ v) && decide (v ≤ M 131 117 - 1)))))) (ax_st k M N r) := by
  show ax_Wp X (d + 1 + 1) 148 (0, [some (.ref 130), some (.int v)], []) (ax_st k M N r) _
  refine ax_Wp.go (f' := (11, [some (.ref 130), some (.int v)], [.int ((M 131 117) - 1), .int 0, .int v])) 8 rfl ?_
  refine ax_Wp.callE (f' := (14, [some (.ref 130), some (.int v)], [])) rfl rfl (ev_144 (d := d + 0)) rfl ?_
  exact ax_Wp.retc rfl (ax_fitb _) ⟨rfl, rfl⟩
theorem ev_150 {c w : Nat} (hc : c < 4) (hw : w < 5) : ax_Ev X (d + 1) 150 [.ref 130, .int (nI c), .int (nI w)] (ax_st k M N r) (.inl (some (.int (M 131 (97 + 5 * c + w))))) (ax_st k M N r) := by
  show ax_Wp X (d + 0 + 1) 150 (0, [some (.ref 130), some (.int (nI c)), some (.int (nI w))], []) (ax_st k M N r) _
  refine ax_Wp.go (f' := (12, [some (.ref 130), some (.int (nI c)), some (.int (nI w))], [.int ((97 + (5 * (nI c))) + (nI w)), .ref 131])) 9 rfl ?_
  refine ax_Wp.ild (j := (97 + (5 * c)) + w) rfl rfl rfl (by simp [nI]) (by omega) rfl ?_
  exact ax_Wp.retc rfl rfl ⟨rfl, rfl⟩
theorem ev_151 {c w : Nat} {v : Int32} (hc : c < 4) (hw : w < 5) : ax_Ev X (d + 1) 151 [.ref 130, .int (nI c), .int (nI w), .int v] (ax_st k M N r) (.inl none) (ax_st k (ms M 131 (97 + 5 * c + w) v) N r) := by
  show ax_Wp X (d + 0 + 1) 151 (0, [some (.ref 130), some (.int (nI c)), some (.int (nI w)), some (.int v)], []) (ax_st k M N r) _
  refine ax_Wp.go (f' := (13, [some (.ref 130), some (.int (nI c)), some (.int (nI w)), some (.int v)], [.int v, .int ((97 + (5 * (nI c))) + (nI w)), .ref 131])) 10 rfl ?_
  refine ax_Wp.ist (j := (97 + (5 * c)) + w) rfl rfl (fun _ => rfl) (by simp [nI]) (by omega) rfl ?_
  exact ax_Wp.ret rfl ⟨rfl, rfl⟩
theorem ev_152 {p w : Nat} (hp : p < 8) (hw : w < 6) : ax_Ev X (d + 1) 152 [.ref 130, .int (nI p), .int (nI w)] (ax_st k M N r) (.inl (some (.int (M 131 (118 + 6 * p + w))))) (ax_st k M N r) := by
  show ax_Wp X (d + 0 + 1) 152 (0, [some (.ref 130), some (.int (nI p)), some (.int (nI w))], []) (ax_st k M N r) _
  refine ax_Wp.go (f' := (13, [some (.ref 130), some (.int (nI p)), some (.int (nI w))], [.int ((118 + (6 * (nI p))) + (nI w)), .ref 131])) 9 rfl ?_
  refine ax_Wp.ild (j := (118 + (6 * p)) + w) rfl rfl rfl (by simp [nI]) (by omega) rfl ?_
  exact ax_Wp.retc rfl rfl ⟨rfl, rfl⟩
theorem ev_153 {p w : Nat} {v : Int32} (hp : p < 8) (hw : w < 6) : ax_Ev X (d + 1) 153 [.ref 130, .int (nI p), .int (nI w), .int v] (ax_st k M N r) (.inl none) (ax_st k (ms M 131 (118 + 6 * p + w) v) N r) := by
  show ax_Wp X (d + 0 + 1) 153 (0, [some (.ref 130), some (.int (nI p)), some (.int (nI w)), some (.int v)], []) (ax_st k M N r) _
  refine ax_Wp.go (f' := (14, [some (.ref 130), some (.int (nI p)), some (.int (nI w)), some (.int v)], [.int v, .int ((118 + (6 * (nI p))) + (nI w)), .ref 131])) 10 rfl ?_
  refine ax_Wp.ist (j := (118 + (6 * p)) + w) rfl rfl (fun _ => rfl) (by simp [nI]) (by omega) rfl ?_
  exact ax_Wp.ret rfl ⟨rfl, rfl⟩
theorem ev_154 {s : Nat} (hs : s < 24) : ax_Ev X (d + 1) 154 [.ref 130, .int (nI s)] (ax_st k M N r) (.inl (some (.int (M 131 (1 + 4 * s))))) (ax_st k M N r) := by
  show ax_Wp X (d + 0 + 1) 154 (0, [some (.ref 130), some (.int (nI s))], []) (ax_st k M N r) _
  refine ax_Wp.go (f' := (9, [some (.ref 130), some (.int (nI s))], [.int (1 + (4 * (nI s))), .ref 131])) 7 rfl ?_
  refine ax_Wp.ild (j := 1 + (4 * s)) rfl rfl rfl (by simp [nI]) (by omega) rfl ?_
  exact ax_Wp.retc rfl rfl ⟨rfl, rfl⟩
theorem ev_155 {s : Nat} (hs : s < 24) : ax_Ev X (d + 1) 155 [.ref 130, .int (nI s)] (ax_st k M N r) (.inl (some (.int (M 131 (1 + 4 * s + 1))))) (ax_st k M N r) := by
  show ax_Wp X (d + 0 + 1) 155 (0, [some (.ref 130), some (.int (nI s))], []) (ax_st k M N r) _
  refine ax_Wp.go (f' := (11, [some (.ref 130), some (.int (nI s))], [.int ((1 + (4 * (nI s))) + 1), .ref 131])) 9 rfl ?_
  refine ax_Wp.ild (j := (1 + (4 * s)) + 1) rfl rfl rfl (by simp [nI]) (by omega) rfl ?_
  exact ax_Wp.retc rfl rfl ⟨rfl, rfl⟩
theorem ev_156 {s : Nat} (hs : s < 24) : ax_Ev X (d + 1) 156 [.ref 130, .int (nI s)] (ax_st k M N r) (.inl (some (.int (b01 (decide (M 131 (1 + 4 * s + 2) = 1)))))) (ax_st k M N r) := by
  show ax_Wp X (d + 0 + 1) 156 (0, [some (.ref 130), some (.int (nI s))], []) (ax_st k M N r) _
  refine ax_Wp.go (f' := (11, [some (.ref 130), some (.int (nI s))], [.int ((1 + (4 * (nI s))) + 2), .ref 131])) 9 rfl ?_
  refine ax_Wp.ild (j := (1 + (4 * s)) + 2) rfl rfl rfl (by simp [nI]) (by omega) rfl ?_
  refine ax_Wp.go (f' := (13, [some (.ref 130), some (.int (nI s))], [.int 1, .int (M 131 ((1 + (4 * s)) + 2))])) 1 rfl ?_
  refine ax_Wp.br (c := (M 131 ((1 + (4 * s)) + 2)) = 1) rfl (fun q1 => ?_) (fun q1 => ?_)
  · refine ax_Wp.go (f' := (21, [some (.ref 130), some (.int (nI s))], [.int 1])) 2 rfl ?_
    exact ax_Wp.retc rfl rfl ⟨by simp [q1, b01], rfl⟩
  · refine ax_Wp.go (f' := (21, [some (.ref 130), some (.int (nI s))], [.int 0])) 1 rfl ?_
    exact ax_Wp.retc rfl rfl ⟨by simp [q1, b01], rfl⟩
theorem ev_157 {s : Nat} (hs : s < 24) : ax_Ev X (d + 1) 157 [.ref 130, .int (nI s)] (ax_st k M N r) (.inl (some (.int (b01 (decide (M 131 (1 + 4 * s + 3) = 1)))))) (ax_st k M N r) := by
  show ax_Wp X (d + 0 + 1) 157 (0, [some (.ref 130), some (.int (nI s))], []) (ax_st k M N r) _
  refine ax_Wp.go (f' := (11, [some (.ref 130), some (.int (nI s))], [.int ((1 + (4 * (nI s))) + 3), .ref 131])) 9 rfl ?_
  refine ax_Wp.ild (j := (1 + (4 * s)) + 3) rfl rfl rfl (by simp [nI]) (by omega) rfl ?_
  refine ax_Wp.go (f' := (13, [some (.ref 130), some (.int (nI s))], [.int 1, .int (M 131 ((1 + (4 * s)) + 3))])) 1 rfl ?_
  refine ax_Wp.br (c := (M 131 ((1 + (4 * s)) + 3)) = 1) rfl (fun q1 => ?_) (fun q1 => ?_)
  · refine ax_Wp.go (f' := (21, [some (.ref 130), some (.int (nI s))], [.int 1])) 2 rfl ?_
    exact ax_Wp.retc rfl rfl ⟨by simp [q1, b01], rfl⟩
  · refine ax_Wp.go (f' := (21, [some (.ref 130), some (.int (nI s))], [.int 0])) 1 rfl ?_
    exact ax_Wp.retc rfl rfl ⟨by simp [q1, b01], rfl⟩
theorem ev_159 {c v w : Int32} : ax_Ev X (d + 1) 159 [.ref 130, .int c, .int v, .int w] (ax_st k M N r) (.inl (some (.int (if v = 1 then 2 * w else w)))) (ax_st k M N r) := by
  show ax_Wp X (d + 0 + 1) 159 (0, [some (.ref 130), some (.int c), some (.int v), some (.int w)], []) (ax_st k M N r) _
  refine ax_Wp.go (f' := (2, [some (.ref 130), some (.int c), some (.int v), some (.int w)], [.int 1, .int v])) 2 rfl ?_
  refine ax_Wp.br (c := v = 1) rfl (fun q1 => ?_) (fun q1 => ?_)
  · refine ax_Wp.go (f' := (12, [some (.ref 130), some (.int c), some (.int v), some (.int w)], [.int (2 * w)])) 4 rfl ?_
    exact ax_Wp.retc rfl rfl ⟨by simp [q1, b01], rfl⟩
  · refine ax_Wp.go (f' := (12, [some (.ref 130), some (.int c), some (.int v), some (.int w)], [.int w])) 1 rfl ?_
    exact ax_Wp.retc rfl rfl ⟨by simp [q1, b01], rfl⟩
theorem ev_160 {c : Nat} (hc : c < 4) : ax_Ev X (d + 2) 160 [.ref 130, .int (nI c)] (ax_st k M N r) (.inl (some (.int (if M 131 (97 + 5 * c + 1) = 1 then 2 * M 131 166 else M 131 166)))) (ax_st k M N r) := by
  show ax_Wp X (d + 1 + 1) 160 (0, [some (.ref 130), some (.int (nI c))], []) (ax_st k M N r) _
  refine ax_Wp.go (f' := (5, [some (.ref 130), some (.int (nI c))], [.int 1, .int (nI c), .ref 130, .int (nI c), .ref 130])) 5 rfl ?_
  refine ax_Wp.callE (f' := (8, [some (.ref 130), some (.int (nI c))], [.int (nI c), .ref 130])) rfl rfl (ev_150 (d := d + 0) (c := c) (w := 1) (by omega) (by omega)) rfl ?_
  refine ax_Wp.go (f' := (16, [some (.ref 130), some (.int (nI c))], [.int (M 131 166), .int (M 131 (97 + 5 * c + 1)), .int (nI c), .ref 130])) 4 rfl ?_
  refine ax_Wp.callE (f' := (19, [some (.ref 130), some (.int (nI c))], [])) rfl rfl (ev_159 (d := d + 0)) rfl ?_
  exact ax_Wp.retc rfl rfl ⟨rfl, rfl⟩
theorem ev_158 {c : Int32} {nP : Nat} (hP : M 131 117 = nI nP) (hP8 : nP ≤ 8) : ax_Ev X (d + 2) 158 [.ref 130, .int c] (ax_st k M N r) (.inl (some (.int (sp_load (M 131) c nP)))) (ax_st k M N r) := by
  show ax_Wp X (d + 1 + 1) 158 (0, [some (.ref 130), some (.int c), none, none], []) (ax_st k M N r) _
  refine ax_Wp.go (f' := (4, [some (.ref 130), some (.int c), some (.int 0), some (.int 0)], [])) 4 rfl ?_
  refine ax_Wp.loop (St := fun i => ((4, [some (.ref 130), some (.int c), some (.int (sp_load (M 131) c i)), some (.int (nI i))], []), (ax_st k M N r))) nP (fun i hii kki => ?_) ?_ 0 (by omega)
  · show ax_Wp X (_ + 1) 158 (4, [some (.ref 130), some (.int c), some (.int (sp_load (M 131) c i)), some (.int (nI i))], []) (ax_st k M N r) _
    refine ax_Wp.go (f' := (12, [some (.ref 130), some (.int c), some (.int (sp_load (M 131) c i)), some (.int (nI i))], [.int (M 131 117), .int (nI i)])) 5 rfl ?_
    refine ax_Wp.br (c := (M 131 117) ≤ (nI i)) rfl (fun q1 => ?_) (fun q1 => ?_)
    · exact absurd q1 (by rw [hP]; exact nI_ge hii (by omega))
    · refine ax_Wp.go (f' := (19, [some (.ref 130), some (.int c), some (.int (sp_load (M 131) c i)), some (.int (nI i))], [.int 4, .int (nI i), .ref 130, .int (sp_load (M 131) c i)])) 4 rfl ?_
      refine ax_Wp.callE (f' := (22, [some (.ref 130), some (.int c), some (.int (sp_load (M 131) c i)), some (.int (nI i))], [.int (sp_load (M 131) c i)])) rfl rfl (ev_152 (d := d + 0) (p := i) (w := 4) (by omega) (by omega)) rfl ?_
      refine ax_Wp.go (f' := (23, [some (.ref 130), some (.int c), some (.int (sp_load (M 131) c i)), some (.int (nI i))], [.int 1, .int (M 131 (118 + 6 * i + 4)), .int (sp_load (M 131) c i)])) 1 rfl ?_
      refine ax_Wp.br (c := (M 131 (118 + 6 * i + 4)) = 1) rfl (fun q2 => ?_) (fun q2 => ?_)
      · refine ax_Wp.go (f' := (29, [some (.ref 130), some (.int c), some (.int (sp_load (M 131) c i)), some (.int (nI i))], [.int 5, .int (nI i), .ref 130, .int (sp_load (M 131) c i)])) 3 rfl ?_
        refine ax_Wp.callE (f' := (32, [some (.ref 130), some (.int c), some (.int (sp_load (M 131) c i)), some (.int (nI i))], [.int (sp_load (M 131) c i)])) rfl rfl (ev_152 (d := d + 0) (p := i) (w := 5) (by omega) (by omega)) rfl ?_
        refine ax_Wp.go (f' := (33, [some (.ref 130), some (.int c), some (.int (sp_load (M 131) c i)), some (.int (nI i))], [.int c, .int (M 131 (118 + 6 * i + 5)), .int (sp_load (M 131) c i)])) 1 rfl ?_
        refine ax_Wp.br (c := (M 131 (118 + 6 * i + 5)) = c) rfl (fun q3 => ?_) (fun q3 => ?_)
        · refine ax_Wp.go (f' := (39, [some (.ref 130), some (.int c), some (.int (sp_load (M 131) c i)), some (.int (nI i))], [.int 2, .int (nI i), .ref 130, .int (sp_load (M 131) c i)])) 3 rfl ?_
          refine ax_Wp.callE (f' := (42, [some (.ref 130), some (.int c), some (.int (sp_load (M 131) c i)), some (.int (nI i))], [.int (sp_load (M 131) c i)])) rfl rfl (ev_152 (d := d + 0) (p := i) (w := 2) (by omega) (by omega)) rfl ?_
          refine ax_Wp.go (f' := (4, [some (.ref 130), some (.int c), some (.int ((sp_load (M 131) c i) + (M 131 (118 + 6 * i + 2)))), some (.int ((nI i) + 1))], [])) 5 rfl ?_
          exact ax_Wp.fr (by simp [sp_load, nI_succ, q1, q2, q3]) kki
        · refine ax_Wp.go (f' := (4, [some (.ref 130), some (.int c), some (.int ((sp_load (M 131) c i) + 0)), some (.int ((nI i) + 1))], [])) 5 rfl ?_
          exact ax_Wp.fr (by simp [sp_load, nI_succ, q1, q2, q3]) kki
      · refine ax_Wp.go (f' := (4, [some (.ref 130), some (.int c), some (.int ((sp_load (M 131) c i) + 0)), some (.int ((nI i) + 1))], [])) 5 rfl ?_
        exact ax_Wp.fr (by simp [sp_load, nI_succ, q1, q2]) kki
  · show ax_Wp X (_ + 1) 158 (4, [some (.ref 130), some (.int c), some (.int (sp_load (M 131) c nP)), some (.int (nI nP))], []) (ax_st k M N r) _
    refine ax_Wp.go (f' := (12, [some (.ref 130), some (.int c), some (.int (sp_load (M 131) c nP)), some (.int (nI nP))], [.int (M 131 117), .int (nI nP)])) 5 rfl ?_
    refine ax_Wp.br (c := (M 131 117) ≤ (nI nP)) rfl (fun q4 => ?_) (fun q4 => ?_)
    · refine ax_Wp.go (f' := (55, [some (.ref 130), some (.int c), some (.int (sp_load (M 131) c nP)), some (.int (nI nP))], [.int (sp_load (M 131) c nP)])) 1 rfl ?_
      exact ax_Wp.retc rfl rfl ⟨rfl, rfl⟩
    · exact absurd (by rw [hP]; exact Int32.le_refl _) q4
end M1
