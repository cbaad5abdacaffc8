def ax_lq (q : Nat) : Prop := (List.range 40).all (fun k => ax_one 118 (40 * q + k)) = true
theorem ax_lq_ok : ∀ q, q < 2 → ax_lq q
  | 0, _ => ax_law0
  | 1, _ => ax_law1
  | q + 2, h => absurd h (by omega)
theorem ax_chk_ok {mi : Nat} (h : mi < 118) : ax_chk mi = true := by
  rcases Nat.lt_or_ge mi 60 with h1 | h1
  · exact ax_allr ax_chk0 h1
  · have := ax_allr ax_chk1 (k := mi - 60) (by omega); rwa [show 60 + (mi - 60) = mi by omega] at this
theorem ax_one_ok {mi pc : Nat} (h : mi < 119) (hp : pc < ax_len mi) : ax_one mi pc = true := by
  rcases Nat.lt_or_ge mi 118 with h1 | h1
  · exact ax_allr (ax_chk_ok h1) hp
  · have e : mi = 118 := by omega
    subst e
    have hp2 : pc < 80 := Nat.lt_of_lt_of_le hp (Nat.le_of_ble_eq_true rfl)
    have := ax_allr (ax_lq_ok (pc / 40) (by omega)) (k := pc % 40) (Nat.mod_lt _ (by omega))
    rwa [Nat.div_add_mod pc 40] at this
theorem ax_bif {α : Type} {b : Bool} {x y : Option α} {z : α} (h : (bif b then x else y) = some z) (hx : x = none) : b = false ∧ y = some z := by
  cases b with
  | false => exact ⟨rfl, h⟩
  | true => rw [hx] at h; cases h
theorem ax_bifR {α : Type} {b : Bool} {x : Option α} {z : α} (h : (bif b then x else none) = some z) : b = true ∧ x = some z := by
  cases b with
  | true => exact ⟨rfl, h⟩
  | false => cases h
theorem ax_ins_lt {mi pc : Nat} {i : Instr} (h : ax_ins mi pc = some i) : mi < 119 ∧ pc < ax_len mi ∧ ax_raw mi pc = some i := by
  unfold ax_ins at h
  obtain ⟨h1, h2⟩ := ax_bif h rfl
  obtain ⟨h3, h4⟩ := ax_bif h2 rfl
  refine ⟨?_, ?_, h4⟩
  · rcases Nat.lt_or_ge mi 119 with q | q
    · exact q
    · rw [Nat.ble_eq_true_of_le q] at h1; cases h1
  · rcases Nat.lt_or_ge pc (ax_len mi) with q | q
    · exact q
    · rw [Nat.ble_eq_true_of_le q] at h3; cases h3
theorem ax_dec {mi pc : Nat} {i : Instr} (h : ax_ins mi pc = some i) : ∃ n, decode (ax_code mi) pc = .ok (i, n) ∧ ax_okl i n = true := by
  obtain ⟨h1, h2, h3⟩ := ax_ins_lt h
  have h4 := ax_one_ok h1 h2
  simp only [ax_one, h3] at h4
  split at h4
  · rename_i j n hd
    simp only [Bool.and_eq_true, decide_eq_true_eq] at h4
    exact ⟨n, by rw [hd, h4.1], h4.2⟩
  · cases h4
/-- words that hold on behind a call -/
def ax_mv (w : Cond) : Bool := goodWord w || (match w with | .methodLinkNest _ _ _ _ => true | .castable _ _ => true | .declares _ => true | _ => false)
def ax_wd (p : Nat) (w : Cond) : Bool := decide (lw_tbl[p]? = some w) && ax_mv w
def ax_In (w : Cond) : Prop := w ∈ lw_tbl ∧ ax_mv w = true
theorem ax_wd_in {p : Nat} {w : Cond} (h : ax_wd p w = true) : ax_In w := by
  simp only [ax_wd, Bool.and_eq_true, decide_eq_true_eq] at h
  exact ⟨List.mem_of_getElem? h.1, h.2⟩
def ax_fchk (o ix : Nat) : Bool := match ax_fld o ix with
  | none => true
  | some (ci, k, p) => Nat.blt ci 9 && Nat.blt k (ax_cr ci).2.2 && ax_wd p (.fieldLink (ax_R o) ix ((ax_cr ci).2.1 k).1 ((ax_cr ci).2.1 k).2.1 ((ax_cr ci).2.1 k).2.2.1) && decide (((ax_cr ci).2.1 k).1 = (ax_cr ci).1)
set_option maxRecDepth 100000 in
theorem ax_fchk0 : (List.range 10).all (fun o => (List.range 512).all (ax_fchk o)) = true := by decide +kernel
theorem ax_two {α : Type} {f : Nat → Nat → Option α} {o ix : Nat} {z : α} {g : Option α} (hf : f o ix = bif Nat.ble 512 ix then none else bif Nat.ble 10 o then none else g) (h : f o ix = some z) : o < 10 ∧ ix < 512 := by
  rw [hf] at h
  obtain ⟨h1, h2⟩ := ax_bif h rfl
  obtain ⟨h3, -⟩ := ax_bif h2 rfl
  refine ⟨?_, ?_⟩
  · rcases Nat.lt_or_ge o 10 with q | q
    · exact q
    · rw [Nat.ble_eq_true_of_le q] at h3; cases h3
  · rcases Nat.lt_or_ge ix 512 with q | q
    · exact q
    · rw [Nat.ble_eq_true_of_le q] at h1; cases h1
theorem ax_blt {a b : Nat} (h : Nat.blt a b = true) : a < b := by
  have := Nat.le_of_ble_eq_true h
  omega
theorem ax_fld_ok {o ix ci k p : Nat} (h : ax_fld o ix = some (ci, k, p)) : ci < 9 ∧ k < (ax_cr ci).2.2 ∧ ax_In (.fieldLink (ax_R o) ix ((ax_cr ci).2.1 k).1 ((ax_cr ci).2.1 k).2.1 ((ax_cr ci).2.1 k).2.2.1) ∧ ((ax_cr ci).2.1 k).1 = (ax_cr ci).1 := by
  obtain ⟨h1, h2⟩ := ax_two (f := ax_fld) rfl h
  have h3 := ax_allr (ax_allr ax_fchk0 h1) h2
  simp only [ax_fchk, h, Bool.and_eq_true, decide_eq_true_eq] at h3
  exact ⟨ax_blt h3.1.1.1, ax_blt h3.1.1.2, ax_wd_in h3.1.2, h3.2⟩
def ax_nchk (o ix : Nat) : Bool := match ax_num o ix with
  | some (.int v, p) => ax_wd p (.constant (ax_R o) ix v)
  | some (.long v, p) => ax_wd p (.constantLong (ax_R o) ix v)
  | some (.float v, p) => ax_wd p (.constantFloat (ax_R o) ix v)
  | some (.double v, p) => ax_wd p (.constantDouble (ax_R o) ix v)
  | _ => true
set_option maxRecDepth 100000 in
theorem ax_nchk0 : (List.range 10).all (fun o => (List.range 512).all (ax_nchk o)) = true := by decide +kernel
theorem ax_num_i {o ix p : Nat} {v : Int32} (h : ax_num o ix = some (.int v, p)) : ax_In (.constant (ax_R o) ix v) := by
  obtain ⟨h1, h2⟩ := ax_two (f := ax_num) rfl h
  have h3 := ax_allr (ax_allr ax_nchk0 h1) h2
  simp only [ax_nchk, h] at h3
  exact ax_wd_in h3
theorem ax_num_l {o ix p : Nat} {v : Int64} (h : ax_num o ix = some (.long v, p)) : ax_In (.constantLong (ax_R o) ix v) := by
  obtain ⟨h1, h2⟩ := ax_two (f := ax_num) rfl h
  have h3 := ax_allr (ax_allr ax_nchk0 h1) h2
  simp only [ax_nchk, h] at h3
  exact ax_wd_in h3
theorem ax_num_f {o ix p : Nat} {v : UInt32} (h : ax_num o ix = some (.float v, p)) : ax_In (.constantFloat (ax_R o) ix v) := by
  obtain ⟨h1, h2⟩ := ax_two (f := ax_num) rfl h
  have h3 := ax_allr (ax_allr ax_nchk0 h1) h2
  simp only [ax_nchk, h] at h3
  exact ax_wd_in h3
theorem ax_num_d {o ix p : Nat} {v : UInt64} (h : ax_num o ix = some (.double v, p)) : ax_In (.constantDouble (ax_R o) ix v) := by
  obtain ⟨h1, h2⟩ := ax_two (f := ax_num) rfl h
  have h3 := ax_allr (ax_allr ax_nchk0 h1) h2
  simp only [ax_nchk, h] at h3
  exact ax_wd_in h3
/-- classes by their entries -/
def ax_ip (ci : Nat) : Cond := .instantiable (ax_cr ci).1 (ax_cr ci).2.2
def ax_cchk (o ix : Nat) : Bool := match ax_ncl o ix with
  | some (.inl ci, p) => Nat.blt ci 9 && ax_wd p (.classLink (ax_R o) ix (ax_cr ci).1)
  | some (.inr k, p) => Nat.blt k 3 && ax_wd p (.classLink (ax_R o) ix (ax_exc k))
  | none => true
set_option maxRecDepth 100000 in
theorem ax_cchk0 : (List.range 10).all (fun o => (List.range 512).all (ax_cchk o)) = true := by decide +kernel
theorem ax_ncl_ok {o ix ci p : Nat} (h : ax_ncl o ix = some (.inl ci, p)) : ci < 9 ∧ ax_In (.classLink (ax_R o) ix (ax_cr ci).1) := by
  obtain ⟨h1, h2⟩ := ax_two (f := ax_ncl) rfl h
  have h3 := ax_allr (ax_allr ax_cchk0 h1) h2
  simp only [ax_cchk, h, Bool.and_eq_true] at h3
  exact ⟨ax_blt h3.1, ax_wd_in h3.2⟩
theorem ax_ncl_ex {o ix k p : Nat} (h : ax_ncl o ix = some (.inr k, p)) : k < 3 ∧ ax_In (.classLink (ax_R o) ix (ax_exc k)) := by
  obtain ⟨h1, h2⟩ := ax_two (f := ax_ncl) rfl h
  have h3 := ax_allr (ax_allr ax_cchk0 h1) h2
  simp only [ax_cchk, h, Bool.and_eq_true] at h3
  exact ⟨ax_blt h3.1, ax_wd_in h3.2⟩
def ax_mem (w : Cond) : Bool := decide (w ∈ lw_tbl) && ax_mv w
theorem ax_mem_in {w : Cond} (h : ax_mem w = true) : ax_In w := by
  simp only [ax_mem, Bool.and_eq_true, decide_eq_true_eq] at h
  exact h
set_option maxRecDepth 100000 in
theorem ax_cls0 : (List.range 9).all (fun ci => ax_mem (ax_ip ci) && ax_mem (.initialized (ax_cr ci).1) && (u_ws (ax_cr ci).1 (ax_cr ci).2.1 (ax_cr ci).2.2).all ax_mem) = true := by decide +kernel
theorem ax_cls_ok {ci : Nat} (h : ci < 9) : ax_In (.instantiable (ax_cr ci).1 (ax_cr ci).2.2) ∧ ax_In (.initialized (ax_cr ci).1) ∧ ∀ w ∈ u_ws (ax_cr ci).1 (ax_cr ci).2.1 (ax_cr ci).2.2, ax_In w := by
  have h3 := ax_allr ax_cls0 h
  simp only [Bool.and_eq_true] at h3
  exact ⟨ax_mem_in h3.1.1, ax_mem_in h3.1.2, fun w hw => ax_mem_in (List.all_eq_true.mp h3.2 w hw)⟩
set_option maxRecDepth 100000 in
theorem ax_misc : (ax_mem (.arrayClass .int) && ax_mem (.arrayClass .long) && ax_mem (.instanceMethod objectInit) && ax_mem (.code objectInit ⟨#[0xb1]⟩ 1 none) && ax_mem (.native arraycopyName) && ax_mem (.static arraycopyName) && ax_mem (.initialized "java/lang/System")) = true := by decide +kernel
/-- methods -/
def ax_kind (k : Nat) (o ix m p : Nat) : Bool :=
  let y := ax_y m
  let q := ax_pl m
  bif Nat.beq k 0 then ax_wd p (.methodLink (ax_R o) ix y) && ax_wd q.2.2.1 (.instanceMethod y) && ax_wd q.2.2.2 (.selects y.cls y y) && (ax_hh m).isEmpty && Nat.beq (ax_na m) (ax_np m + 1)
  else bif Nat.beq k 1 then ax_wd p (.methodLink (ax_R o) ix y) && ax_wd q.2.2.1 (.static y) && (ax_hh m).isEmpty && Nat.beq (ax_na m) (ax_np m)
  else bif Nat.beq k 2 then ax_wd p (.methodLink (ax_R o) ix y) && ax_wd q.2.2.1 (.instanceMethod y) && (ax_hh m).isEmpty && decide (y.name = "<init>") && decide (ax_ret m = none) && Nat.beq (ax_na m) (ax_np m + 1)
  else bif Nat.beq k 3 then ax_wd p (.methodLinkNest (ax_R o) ix y "CourierClash") && ax_wd q.2.2.1 (.static y) && (ax_hh m).isEmpty && Nat.beq (ax_na m) (ax_np m)
  else bif Nat.beq k 4 then ax_wd p (.methodLinkNest (ax_R o) ix y "CourierClash") && ax_wd q.2.2.1 (.instanceMethod y) && (ax_hh m).isEmpty && decide (y.name = "<init>") && decide (ax_ret m = none) && Nat.beq (ax_na m) (ax_np m + 1)
  else bif Nat.beq k 6 then ax_wd p (.methodLink (ax_R o) ix objectInit)
  else bif Nat.beq k 7 then ax_wd p (.methodLink (ax_R o) ix arraycopyName)
  else bif Nat.beq k 8 then ax_wd p (.methodLink (ax_R o) ix y) && ax_wd q.2.2.1 (.static y) && !(ax_hh m).isEmpty && Nat.beq (ax_na m) (ax_np m)
  else false
def ax_ichk (o ix : Nat) : Bool := match ax_inv o ix with
  | none => true
  | some (k, m, p) => Nat.blt m 118 && ax_kind k o ix m p
set_option maxRecDepth 100000 in
theorem ax_ic0_0 : (List.range 64).all (fun i => ax_ichk 0 (64 * 0 + i)) = true := by decide +kernel
set_option maxRecDepth 100000 in
theorem ax_ic0_1 : (List.range 64).all (fun i => ax_ichk 0 (64 * 1 + i)) = true := by decide +kernel
set_option maxRecDepth 100000 in
theorem ax_ic0_2 : (List.range 64).all (fun i => ax_ichk 0 (64 * 2 + i)) = true := by decide +kernel
set_option maxRecDepth 100000 in
theorem ax_ic0_3 : (List.range 64).all (fun i => ax_ichk 0 (64 * 3 + i)) = true := by decide +kernel
set_option maxRecDepth 100000 in
theorem ax_ic0_4 : (List.range 64).all (fun i => ax_ichk 0 (64 * 4 + i)) = true := by decide +kernel
set_option maxRecDepth 100000 in
theorem ax_ic0_5 : (List.range 64).all (fun i => ax_ichk 0 (64 * 5 + i)) = true := by decide +kernel
set_option maxRecDepth 100000 in
theorem ax_ic0_6 : (List.range 64).all (fun i => ax_ichk 0 (64 * 6 + i)) = true := by decide +kernel
set_option maxRecDepth 100000 in
theorem ax_ic0_7 : (List.range 64).all (fun i => ax_ichk 0 (64 * 7 + i)) = true := by decide +kernel
set_option maxRecDepth 100000 in
theorem ax_ic1_0 : (List.range 64).all (fun i => ax_ichk 1 (64 * 0 + i)) = true := by decide +kernel
set_option maxRecDepth 100000 in
theorem ax_ic1_1 : (List.range 64).all (fun i => ax_ichk 1 (64 * 1 + i)) = true := by decide +kernel
set_option maxRecDepth 100000 in
theorem ax_ic1_2 : (List.range 64).all (fun i => ax_ichk 1 (64 * 2 + i)) = true := by decide +kernel
set_option maxRecDepth 100000 in
theorem ax_ic1_3 : (List.range 64).all (fun i => ax_ichk 1 (64 * 3 + i)) = true := by decide +kernel
set_option maxRecDepth 100000 in
theorem ax_ic1_4 : (List.range 64).all (fun i => ax_ichk 1 (64 * 4 + i)) = true := by decide +kernel
set_option maxRecDepth 100000 in
theorem ax_ic1_5 : (List.range 64).all (fun i => ax_ichk 1 (64 * 5 + i)) = true := by decide +kernel
set_option maxRecDepth 100000 in
theorem ax_ic1_6 : (List.range 64).all (fun i => ax_ichk 1 (64 * 6 + i)) = true := by decide +kernel
set_option maxRecDepth 100000 in
theorem ax_ic1_7 : (List.range 64).all (fun i => ax_ichk 1 (64 * 7 + i)) = true := by decide +kernel
set_option maxRecDepth 100000 in
theorem ax_ic2_0 : (List.range 64).all (fun i => ax_ichk 2 (64 * 0 + i)) = true := by decide +kernel
set_option maxRecDepth 100000 in
theorem ax_ic2_1 : (List.range 64).all (fun i => ax_ichk 2 (64 * 1 + i)) = true := by decide +kernel
set_option maxRecDepth 100000 in
theorem ax_ic2_2 : (List.range 64).all (fun i => ax_ichk 2 (64 * 2 + i)) = true := by decide +kernel
set_option maxRecDepth 100000 in
theorem ax_ic2_3 : (List.range 64).all (fun i => ax_ichk 2 (64 * 3 + i)) = true := by decide +kernel
set_option maxRecDepth 100000 in
theorem ax_ic2_4 : (List.range 64).all (fun i => ax_ichk 2 (64 * 4 + i)) = true := by decide +kernel
set_option maxRecDepth 100000 in
theorem ax_ic2_5 : (List.range 64).all (fun i => ax_ichk 2 (64 * 5 + i)) = true := by decide +kernel
set_option maxRecDepth 100000 in
theorem ax_ic2_6 : (List.range 64).all (fun i => ax_ichk 2 (64 * 6 + i)) = true := by decide +kernel
set_option maxRecDepth 100000 in
theorem ax_ic2_7 : (List.range 64).all (fun i => ax_ichk 2 (64 * 7 + i)) = true := by decide +kernel
set_option maxRecDepth 100000 in
theorem ax_ic3_0 : (List.range 64).all (fun i => ax_ichk 3 (64 * 0 + i)) = true := by decide +kernel
set_option maxRecDepth 100000 in
theorem ax_ic3_1 : (List.range 64).all (fun i => ax_ichk 3 (64 * 1 + i)) = true := by decide +kernel
set_option maxRecDepth 100000 in
theorem ax_ic3_2 : (List.range 64).all (fun i => ax_ichk 3 (64 * 2 + i)) = true := by decide +kernel
set_option maxRecDepth 100000 in
theorem ax_ic3_3 : (List.range 64).all (fun i => ax_ichk 3 (64 * 3 + i)) = true := by decide +kernel
set_option maxRecDepth 100000 in
theorem ax_ic3_4 : (List.range 64).all (fun i => ax_ichk 3 (64 * 4 + i)) = true := by decide +kernel
set_option maxRecDepth 100000 in
theorem ax_ic3_5 : (List.range 64).all (fun i => ax_ichk 3 (64 * 5 + i)) = true := by decide +kernel
set_option maxRecDepth 100000 in
theorem ax_ic3_6 : (List.range 64).all (fun i => ax_ichk 3 (64 * 6 + i)) = true := by decide +kernel
set_option maxRecDepth 100000 in
theorem ax_ic3_7 : (List.range 64).all (fun i => ax_ichk 3 (64 * 7 + i)) = true := by decide +kernel
set_option maxRecDepth 100000 in
theorem ax_ic4_0 : (List.range 64).all (fun i => ax_ichk 4 (64 * 0 + i)) = true := by decide +kernel
set_option maxRecDepth 100000 in
theorem ax_ic4_1 : (List.range 64).all (fun i => ax_ichk 4 (64 * 1 + i)) = true := by decide +kernel
set_option maxRecDepth 100000 in
theorem ax_ic4_2 : (List.range 64).all (fun i => ax_ichk 4 (64 * 2 + i)) = true := by decide +kernel
set_option maxRecDepth 100000 in
theorem ax_ic4_3 : (List.range 64).all (fun i => ax_ichk 4 (64 * 3 + i)) = true := by decide +kernel
set_option maxRecDepth 100000 in
theorem ax_ic4_4 : (List.range 64).all (fun i => ax_ichk 4 (64 * 4 + i)) = true := by decide +kernel
set_option maxRecDepth 100000 in
theorem ax_ic4_5 : (List.range 64).all (fun i => ax_ichk 4 (64 * 5 + i)) = true := by decide +kernel
set_option maxRecDepth 100000 in
theorem ax_ic4_6 : (List.range 64).all (fun i => ax_ichk 4 (64 * 6 + i)) = true := by decide +kernel
set_option maxRecDepth 100000 in
theorem ax_ic4_7 : (List.range 64).all (fun i => ax_ichk 4 (64 * 7 + i)) = true := by decide +kernel
set_option maxRecDepth 100000 in
theorem ax_ic5_0 : (List.range 64).all (fun i => ax_ichk 5 (64 * 0 + i)) = true := by decide +kernel
set_option maxRecDepth 100000 in
theorem ax_ic5_1 : (List.range 64).all (fun i => ax_ichk 5 (64 * 1 + i)) = true := by decide +kernel
set_option maxRecDepth 100000 in
theorem ax_ic5_2 : (List.range 64).all (fun i => ax_ichk 5 (64 * 2 + i)) = true := by decide +kernel
set_option maxRecDepth 100000 in
theorem ax_ic5_3 : (List.range 64).all (fun i => ax_ichk 5 (64 * 3 + i)) = true := by decide +kernel
set_option maxRecDepth 100000 in
theorem ax_ic5_4 : (List.range 64).all (fun i => ax_ichk 5 (64 * 4 + i)) = true := by decide +kernel
set_option maxRecDepth 100000 in
theorem ax_ic5_5 : (List.range 64).all (fun i => ax_ichk 5 (64 * 5 + i)) = true := by decide +kernel
set_option maxRecDepth 100000 in
theorem ax_ic5_6 : (List.range 64).all (fun i => ax_ichk 5 (64 * 6 + i)) = true := by decide +kernel
set_option maxRecDepth 100000 in
theorem ax_ic5_7 : (List.range 64).all (fun i => ax_ichk 5 (64 * 7 + i)) = true := by decide +kernel
set_option maxRecDepth 100000 in
theorem ax_ic6_0 : (List.range 64).all (fun i => ax_ichk 6 (64 * 0 + i)) = true := by decide +kernel
set_option maxRecDepth 100000 in
theorem ax_ic6_1 : (List.range 64).all (fun i => ax_ichk 6 (64 * 1 + i)) = true := by decide +kernel
set_option maxRecDepth 100000 in
theorem ax_ic6_2 : (List.range 64).all (fun i => ax_ichk 6 (64 * 2 + i)) = true := by decide +kernel
set_option maxRecDepth 100000 in
theorem ax_ic6_3 : (List.range 64).all (fun i => ax_ichk 6 (64 * 3 + i)) = true := by decide +kernel
set_option maxRecDepth 100000 in
theorem ax_ic6_4 : (List.range 64).all (fun i => ax_ichk 6 (64 * 4 + i)) = true := by decide +kernel
set_option maxRecDepth 100000 in
theorem ax_ic6_5 : (List.range 64).all (fun i => ax_ichk 6 (64 * 5 + i)) = true := by decide +kernel
set_option maxRecDepth 100000 in
theorem ax_ic6_6 : (List.range 64).all (fun i => ax_ichk 6 (64 * 6 + i)) = true := by decide +kernel
set_option maxRecDepth 100000 in
theorem ax_ic6_7 : (List.range 64).all (fun i => ax_ichk 6 (64 * 7 + i)) = true := by decide +kernel
set_option maxRecDepth 100000 in
theorem ax_ic7_0 : (List.range 64).all (fun i => ax_ichk 7 (64 * 0 + i)) = true := by decide +kernel
set_option maxRecDepth 100000 in
theorem ax_ic7_1 : (List.range 64).all (fun i => ax_ichk 7 (64 * 1 + i)) = true := by decide +kernel
set_option maxRecDepth 100000 in
theorem ax_ic7_2 : (List.range 64).all (fun i => ax_ichk 7 (64 * 2 + i)) = true := by decide +kernel
set_option maxRecDepth 100000 in
theorem ax_ic7_3 : (List.range 64).all (fun i => ax_ichk 7 (64 * 3 + i)) = true := by decide +kernel
set_option maxRecDepth 100000 in
theorem ax_ic7_4 : (List.range 64).all (fun i => ax_ichk 7 (64 * 4 + i)) = true := by decide +kernel
set_option maxRecDepth 100000 in
theorem ax_ic7_5 : (List.range 64).all (fun i => ax_ichk 7 (64 * 5 + i)) = true := by decide +kernel
set_option maxRecDepth 100000 in
theorem ax_ic7_6 : (List.range 64).all (fun i => ax_ichk 7 (64 * 6 + i)) = true := by decide +kernel
set_option maxRecDepth 100000 in
theorem ax_ic7_7 : (List.range 64).all (fun i => ax_ichk 7 (64 * 7 + i)) = true := by decide +kernel
set_option maxRecDepth 100000 in
theorem ax_ic8_0 : (List.range 64).all (fun i => ax_ichk 8 (64 * 0 + i)) = true := by decide +kernel
set_option maxRecDepth 100000 in
theorem ax_ic8_1 : (List.range 64).all (fun i => ax_ichk 8 (64 * 1 + i)) = true := by decide +kernel
set_option maxRecDepth 100000 in
theorem ax_ic8_2 : (List.range 64).all (fun i => ax_ichk 8 (64 * 2 + i)) = true := by decide +kernel
set_option maxRecDepth 100000 in
theorem ax_ic8_3 : (List.range 64).all (fun i => ax_ichk 8 (64 * 3 + i)) = true := by decide +kernel
set_option maxRecDepth 100000 in
theorem ax_ic8_4 : (List.range 64).all (fun i => ax_ichk 8 (64 * 4 + i)) = true := by decide +kernel
set_option maxRecDepth 100000 in
theorem ax_ic8_5 : (List.range 64).all (fun i => ax_ichk 8 (64 * 5 + i)) = true := by decide +kernel
set_option maxRecDepth 100000 in
theorem ax_ic8_6 : (List.range 64).all (fun i => ax_ichk 8 (64 * 6 + i)) = true := by decide +kernel
set_option maxRecDepth 100000 in
theorem ax_ic8_7 : (List.range 64).all (fun i => ax_ichk 8 (64 * 7 + i)) = true := by decide +kernel
set_option maxRecDepth 100000 in
theorem ax_ic9_0 : (List.range 64).all (fun i => ax_ichk 9 (64 * 0 + i)) = true := by decide +kernel
set_option maxRecDepth 100000 in
theorem ax_ic9_1 : (List.range 64).all (fun i => ax_ichk 9 (64 * 1 + i)) = true := by decide +kernel
set_option maxRecDepth 100000 in
theorem ax_ic9_2 : (List.range 64).all (fun i => ax_ichk 9 (64 * 2 + i)) = true := by decide +kernel
set_option maxRecDepth 100000 in
theorem ax_ic9_3 : (List.range 64).all (fun i => ax_ichk 9 (64 * 3 + i)) = true := by decide +kernel
set_option maxRecDepth 100000 in
theorem ax_ic9_4 : (List.range 64).all (fun i => ax_ichk 9 (64 * 4 + i)) = true := by decide +kernel
set_option maxRecDepth 100000 in
theorem ax_ic9_5 : (List.range 64).all (fun i => ax_ichk 9 (64 * 5 + i)) = true := by decide +kernel
set_option maxRecDepth 100000 in
theorem ax_ic9_6 : (List.range 64).all (fun i => ax_ichk 9 (64 * 6 + i)) = true := by decide +kernel
set_option maxRecDepth 100000 in
theorem ax_ic9_7 : (List.range 64).all (fun i => ax_ichk 9 (64 * 7 + i)) = true := by decide +kernel
theorem ax_ch {f : Nat → Bool} (h0 : (List.range 64).all (fun i => f (64 * 0 + i)) = true) (h1 : (List.range 64).all (fun i => f (64 * 1 + i)) = true) (h2 : (List.range 64).all (fun i => f (64 * 2 + i)) = true) (h3 : (List.range 64).all (fun i => f (64 * 3 + i)) = true) (h4 : (List.range 64).all (fun i => f (64 * 4 + i)) = true) (h5 : (List.range 64).all (fun i => f (64 * 5 + i)) = true) (h6 : (List.range 64).all (fun i => f (64 * 6 + i)) = true) (h7 : (List.range 64).all (fun i => f (64 * 7 + i)) = true) {ix : Nat} (h : ix < 512) : f ix = true := by
  have key : ∀ q, q < 8 → (List.range 64).all (fun i => f (64 * q + i)) = true := by
    intro q hq
    rcases (show q = 0 ∨ q = 1 ∨ q = 2 ∨ q = 3 ∨ q = 4 ∨ q = 5 ∨ q = 6 ∨ q = 7 by omega) with rfl | rfl | rfl | rfl | rfl | rfl | rfl | rfl <;> assumption
  have := ax_allr (key (ix / 64) (by omega)) (k := ix % 64) (Nat.mod_lt _ (by omega))
  rwa [Nat.div_add_mod ix 64] at this
theorem ax_ichk_ok {o ix : Nat} (h1 : o < 10) (h2 : ix < 512) : ax_ichk o ix = true := by
  rcases (show o = 0 ∨ o = 1 ∨ o = 2 ∨ o = 3 ∨ o = 4 ∨ o = 5 ∨ o = 6 ∨ o = 7 ∨ o = 8 ∨ o = 9 by omega) with rfl | rfl | rfl | rfl | rfl | rfl | rfl | rfl | rfl | rfl
  · exact ax_ch (f := ax_ichk 0) ax_ic0_0 ax_ic0_1 ax_ic0_2 ax_ic0_3 ax_ic0_4 ax_ic0_5 ax_ic0_6 ax_ic0_7 h2
  · exact ax_ch (f := ax_ichk 1) ax_ic1_0 ax_ic1_1 ax_ic1_2 ax_ic1_3 ax_ic1_4 ax_ic1_5 ax_ic1_6 ax_ic1_7 h2
  · exact ax_ch (f := ax_ichk 2) ax_ic2_0 ax_ic2_1 ax_ic2_2 ax_ic2_3 ax_ic2_4 ax_ic2_5 ax_ic2_6 ax_ic2_7 h2
  · exact ax_ch (f := ax_ichk 3) ax_ic3_0 ax_ic3_1 ax_ic3_2 ax_ic3_3 ax_ic3_4 ax_ic3_5 ax_ic3_6 ax_ic3_7 h2
  · exact ax_ch (f := ax_ichk 4) ax_ic4_0 ax_ic4_1 ax_ic4_2 ax_ic4_3 ax_ic4_4 ax_ic4_5 ax_ic4_6 ax_ic4_7 h2
  · exact ax_ch (f := ax_ichk 5) ax_ic5_0 ax_ic5_1 ax_ic5_2 ax_ic5_3 ax_ic5_4 ax_ic5_5 ax_ic5_6 ax_ic5_7 h2
  · exact ax_ch (f := ax_ichk 6) ax_ic6_0 ax_ic6_1 ax_ic6_2 ax_ic6_3 ax_ic6_4 ax_ic6_5 ax_ic6_6 ax_ic6_7 h2
  · exact ax_ch (f := ax_ichk 7) ax_ic7_0 ax_ic7_1 ax_ic7_2 ax_ic7_3 ax_ic7_4 ax_ic7_5 ax_ic7_6 ax_ic7_7 h2
  · exact ax_ch (f := ax_ichk 8) ax_ic8_0 ax_ic8_1 ax_ic8_2 ax_ic8_3 ax_ic8_4 ax_ic8_5 ax_ic8_6 ax_ic8_7 h2
  · exact ax_ch (f := ax_ichk 9) ax_ic9_0 ax_ic9_1 ax_ic9_2 ax_ic9_3 ax_ic9_4 ax_ic9_5 ax_ic9_6 ax_ic9_7 h2
theorem ax_inv_ok {o ix k m p : Nat} (h : ax_inv o ix = some (k, m, p)) : m < 118 ∧ ax_kind k o ix m p = true := by
  obtain ⟨h1, h2⟩ := ax_two (f := ax_inv) rfl h
  have h3 := ax_ichk_ok h1 h2
  simp only [ax_ichk, h, Bool.and_eq_true] at h3
  exact ⟨ax_blt h3.1, h3.2⟩
def ax_mchk (m : Nat) : Bool :=
  let y := ax_y m
  ax_wd (ax_pl m).2.1 (.initialized y.cls) && plainName y.cls && decide (y.cls ≠ "java/lang/invoke/MethodHandle") && decide (y.cls ≠ "java/lang/invoke/VarHandle") && decide ((parseMethodDescriptor y.desc).map (fun d => d.parameters.length) = some (ax_np m)) && decide (y.cls = ax_R (ax_own m)) && Nat.ble (ax_maxL m) 17 && (!ax_isInit m || decide (y.name = "<init>")) && (Nat.beq (ax_own m) 9 || decide ((ax_cr (ax_own m)).1 = y.cls))
set_option maxRecDepth 100000 in
theorem ax_mchk0 : (List.range 118).all ax_mchk = true := by decide +kernel
