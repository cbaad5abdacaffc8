/-! throws, words of methods, and that the counts of cells only grow -/
def ax_ic (k : Nat) : Nat := bif Nat.beq k 0 then 374 else bif Nat.beq k 1 then 57 else 77
def ax_sup : List String := ["java/lang/RuntimeException", "java/lang/Exception"]
set_option maxRecDepth 100000 in
theorem ax_ex0 : (List.range 3).all (fun k => (vx_atS RX7 (ax_ic k) (ax_exc k) ax_sup).all ax_mem && ax_mem (.initialized (ax_exc k)) && Bundle.fit (ax_exc k) && (vx_atS RX7 (ax_ic k) (ax_exc k) ax_sup).all vx_ot) = true := by decide +kernel
theorem ax_ex_ok {k : Nat} (h : k < 3) : (∀ w ∈ vx_atS RX7 (ax_ic k) (ax_exc k) ax_sup, ax_In w) ∧ ax_In (.initialized (ax_exc k)) ∧ Bundle.fit (ax_exc k) = true ∧ ∀ w ∈ vx_atS RX7 (ax_ic k) (ax_exc k) ax_sup, vx_ot w = true := by
  have h3 := ax_allr ax_ex0 h
  simp only [Bool.and_eq_true] at h3
  obtain ⟨⟨⟨a1, a2⟩, a3⟩, a4⟩ := h3
  exact ⟨fun w hw => ax_mem_in (List.all_eq_true.mp a1 w hw), ax_mem_in a2, a3, fun w hw => List.all_eq_true.mp a4 w hw⟩
def ax_tchk (mi pc : Nat) : Bool := match ax_thr mi pc with
  | none => true
  | some (k, si, ic, w) => Nat.beq (ax_own mi) 7 && Nat.blt k 3 && Nat.beq ic (ax_ic k) && decide (ax_ins mi (pc + 3) = some .dup) && (match ax_strs[si]? with
    | none => false
    | some (o, is, _) => decide (o = RX7) && (bif w then decide (ax_ins mi (pc + 4) = some (.ldc_w is)) && decide (ax_ins mi (pc + 7) = some (.invokespecial ic)) && decide (ax_ins mi (pc + 10) = some .athrow)
        else decide (ax_ins mi (pc + 4) = some (.ldc is)) && decide (ax_ins mi (pc + 6) = some (.invokespecial ic)) && decide (ax_ins mi (pc + 9) = some .athrow)))
set_option maxRecDepth 100000 in
theorem ax_tchk0 : (List.range 119).all (fun mi => (List.range (ax_len mi)).all (ax_tchk mi)) = true := by decide +kernel
theorem ax_decn {mi pc : Nat} {i : Instr} (h : ax_ins mi pc = some i) (k : Nat) (hk : ∀ n, ax_okl i n = (n == k)) : decode (ax_code mi) pc = .ok (i, k) := by
  obtain ⟨n, hd, hn⟩ := ax_dec h
  cases ax_len1 hn k (hk n)
  exact hd
section AXT
variable {p : Program} {l : Launch} {e : Env} {R : Room} {s : State} {m : MethodId} {args : Array Value} {below : List Frame} {meth : Method} {c : Code} {H : Heap} {locs : List Loc} {cells slots : Nat} {Q : State → Prop}
variable {z : ax_S} {mi mc ms : Nat} {A : Nat → Prop} {X : Nat × (Nat → Int32)} {b : Nat} {D : va_G} {tA : Nat → ClassId} {ad : Nat → Nat} {ls : Array Slot} {L : ax_L} {S rest : List Value} {h h' : ax_H} {pc : Nat} {o : ax_O}
theorem ax_throw {ix k pl : Nat} {q : Nat × Nat × Bool} {Qc : Array Value → State → Outcome → State → Prop} {XC : String → State → State → Prop} (C : ax_Cx p l s m meth c mi A X b D tA) (r : ax_Rp tA ad b D A s (ax_maxL mi) h L H locs ls) (hi : ax_ins mi pc = some (.new ix)) (e0 : ax_ncl (ax_own mi) ix = some (.inr k, pl)) (e1 : ax_thr mi pc = some (k, q)) (hfr : 6 ≤ R.frames) (hlo : 36 * 6 ≤ R.locals) (hhh : (ax_hh mi).isEmpty = true)
    (hmc : cells + 1 ≤ mc) (hms : slots + 6 ≤ ms) (hRc : cells + 1 ≤ R.cells) (hRs : slots + 6 ≤ R.slots)
    (hXC : ∀ t : State, va_P D ax_cl (ax_wl tA ad b h) t.heap → va_F A s t → XC (ax_exc k) s t) : W p l e R s m args below meth c H locs cells slots (vx_MQ below Qc XC args s mc ms A) (F0 m pc ls []) := by
  obtain ⟨hx, hb, hml, hown, hr, hlocks, hnm, htab, htr, E, hK, hA, hU, hN, hX⟩ := C
  obtain ⟨hP, hD, hS, hl⟩ := r
  obtain ⟨si, ic, w⟩ := q
  obtain ⟨i1, i2, -⟩ := ax_ins_lt hi
  have hc := ax_allr (ax_allr ax_tchk0 i1) i2
  simp only [ax_tchk, e1, Bool.and_eq_true, decide_eq_true_eq] at hc
  obtain ⟨⟨⟨⟨c1, c2⟩, c3⟩, c4⟩, c5⟩ := hc
  have c1' := Nat.eq_of_beq_eq_true c1
  have c2' := ax_blt c2
  cases Nat.eq_of_beq_eq_true c3
  cases hst : ax_strs[si]? with
  | none => rw [hst] at c5; cases c5
  | some st =>
  obtain ⟨o1, is, tx⟩ := st
  rw [hst] at c5
  simp only [Bool.and_eq_true, decide_eq_true_eq] at c5
  obtain ⟨c6, c7⟩ := c5
  subst c6
  obtain ⟨g1, g2, g3, g4⟩ := ax_ex_ok c2'
  obtain ⟨n1, n2⟩ := ax_ncl_ex e0
  have hown7 : s.vm.findClass RX7 = some m.cls := by rw [c1'] at hown; exact hown
  rw [c1'] at n2
  obtain ⟨sa, hstr⟩ := E.2.1 _ (List.mem_of_getElem? hst)
  have hout : ∀ (pc2 : Nat), ∀ x ∈ c.exceptionTable.toList, covers x pc2 = false := by
    intro pc2 x hx
    rw [htab (fun hz => by rw [hz] at c1'; exact absurd c1' (by decide)), List.isEmpty_iff.mp hhh] at hx
    cases hx
  have hx2 : ∀ t : State, s.vm.Alike t.vm → H.size ≤ t.heap.size → (∀ q : Nat, q < H.size → t.heap[q]? = H[q]?) → XC (ax_exc k) s t := by
    intro t _ z1 z2
    refine hXC t (hP.kept (fun k q hk => z2 q.1 ((hP k q hk).lt))) ⟨Nat.le_trans hS.1 z1, fun q q1 q2 => ?_⟩
    rw [z2 q (Nat.lt_of_lt_of_le q1 hS.1)]
    exact hS.2.1 q q1 q2
  have hgood : ∀ w ∈ Cond.classLink RX7 ix (ax_exc k) :: Cond.initialized (ax_exc k) :: vx_atS RX7 (ax_ic k) (ax_exc k) ax_sup, vx_ot w = true := by
    intro w hw
    rcases List.mem_cons.mp hw with rfl | hw
    · rfl
    rcases List.mem_cons.mp hw with rfl | hw
    · rfl
    · exact g4 w hw
  have hnames : ∀ n ∈ ax_sup, Bundle.fit n = true := by
    intro n hn
    simp only [ax_sup, List.mem_cons, List.not_mem_nil, or_false] at hn
    rcases hn with rfl | rfl <;> decide +kernel
  have d0 := ax_decn hi 3 (fun _ => rfl)
  have d3 := ax_decn c4 1 (fun _ => rfl)
  have hsz : ls.size = c.maxLocals := by rw [hml]; exact hl.2.1
  have hF : ax_sup.length + 3 < R.frames := by show 2 + 3 < _; omega
  have hL : (([] : List Value).map fun v => v.category).sum + (13 * (ax_sup.length + 1) + 43) ≤ R.locals := by show 0 + (13 * (2 + 1) + 43) ≤ _; omega
  cases w with
  | true =>
    simp only [cond_true, Bool.and_eq_true, decide_eq_true_eq] at c7
    obtain ⟨⟨c8, c9⟩, c10⟩ := c7
    exact vx_throwSW hx hb htr hown7 g3 hnames (E.use n2) (E.use g2) hstr (fun w hw => E.use (g1 w hw)) hgood hU hN hS hsz d0 d3 (ax_decn c8 3 (fun _ => rfl)) (ax_decn c9 3 (fun _ => rfl)) (ax_decn c10 1 (fun _ => rfl)) (hout _) hF hL hRc hRs hlocks hx2 hS.2.2 hmc hms
  | false =>
    simp only [cond_false, Bool.and_eq_true, decide_eq_true_eq] at c7
    obtain ⟨⟨c8, c9⟩, c10⟩ := c7
    exact vx_throwS hx hb htr hown7 g3 hnames (E.use n2) (E.use g2) hstr (fun w hw => E.use (g1 w hw)) hgood hU hN hS hsz d0 d3 (ax_decn c8 2 (fun _ => rfl)) (ax_decn c9 3 (fun _ => rfl)) (ax_decn c10 1 (fun _ => rfl)) (hout _) hF hL hRc hRs hlocks hx2 hS.2.2 hmc hms
end AXT

theorem ax_cw_in {m : Nat} (h : m < 118) : ax_cw m ∈ lw_tbl := by
  rcases Nat.lt_or_ge m 59 with q2 | q2
  · rcases Nat.lt_or_ge m 29 with q4 | q4
    · rcases Nat.lt_or_ge m 14 with q6 | q6
      · rcases Nat.lt_or_ge m 7 with q8 | q8
        · rcases Nat.lt_or_ge m 3 with q10 | q10
          · rcases Nat.lt_or_ge m 1 with q12 | q12
            · exact List.mem_of_getElem? (by rw [show m = 0 by omega]; exact ax_w0)
            · rcases Nat.lt_or_ge m 2 with q14 | q14
              · exact List.mem_of_getElem? (by rw [show m = 1 by omega]; exact ax_w1)
              · exact List.mem_of_getElem? (by rw [show m = 2 by omega]; exact ax_w2)
          · rcases Nat.lt_or_ge m 5 with q12 | q12
            · rcases Nat.lt_or_ge m 4 with q14 | q14
              · exact List.mem_of_getElem? (by rw [show m = 3 by omega]; exact ax_w3)
              · exact List.mem_of_getElem? (by rw [show m = 4 by omega]; exact ax_w4)
            · rcases Nat.lt_or_ge m 6 with q14 | q14
              · exact List.mem_of_getElem? (by rw [show m = 5 by omega]; exact ax_w5)
              · exact List.mem_of_getElem? (by rw [show m = 6 by omega]; exact ax_w6)
        · rcases Nat.lt_or_ge m 10 with q10 | q10
          · rcases Nat.lt_or_ge m 8 with q12 | q12
            · exact List.mem_of_getElem? (by rw [show m = 7 by omega]; exact ax_w7)
            · rcases Nat.lt_or_ge m 9 with q14 | q14
              · exact List.mem_of_getElem? (by rw [show m = 8 by omega]; exact ax_w8)
              · exact List.mem_of_getElem? (by rw [show m = 9 by omega]; exact ax_w9)
          · rcases Nat.lt_or_ge m 12 with q12 | q12
            · rcases Nat.lt_or_ge m 11 with q14 | q14
              · exact List.mem_of_getElem? (by rw [show m = 10 by omega]; exact ax_w10)
              · exact List.mem_of_getElem? (by rw [show m = 11 by omega]; exact ax_w11)
            · rcases Nat.lt_or_ge m 13 with q14 | q14
              · exact List.mem_of_getElem? (by rw [show m = 12 by omega]; exact ax_w12)
              · exact List.mem_of_getElem? (by rw [show m = 13 by omega]; exact ax_w13)
      · rcases Nat.lt_or_ge m 21 with q8 | q8
        · rcases Nat.lt_or_ge m 17 with q10 | q10
          · rcases Nat.lt_or_ge m 15 with q12 | q12
            · exact List.mem_of_getElem? (by rw [show m = 14 by omega]; exact ax_w14)
            · rcases Nat.lt_or_ge m 16 with q14 | q14
              · exact List.mem_of_getElem? (by rw [show m = 15 by omega]; exact ax_w15)
              · exact List.mem_of_getElem? (by rw [show m = 16 by omega]; exact ax_w16)
          · rcases Nat.lt_or_ge m 19 with q12 | q12
            · rcases Nat.lt_or_ge m 18 with q14 | q14
              · exact List.mem_of_getElem? (by rw [show m = 17 by omega]; exact ax_w17)
              · exact List.mem_of_getElem? (by rw [show m = 18 by omega]; exact ax_w18)
            · rcases Nat.lt_or_ge m 20 with q14 | q14
              · exact List.mem_of_getElem? (by rw [show m = 19 by omega]; exact ax_w19)
              · exact List.mem_of_getElem? (by rw [show m = 20 by omega]; exact ax_w20)
        · rcases Nat.lt_or_ge m 25 with q10 | q10
          · rcases Nat.lt_or_ge m 23 with q12 | q12
            · rcases Nat.lt_or_ge m 22 with q14 | q14
              · exact List.mem_of_getElem? (by rw [show m = 21 by omega]; exact ax_w21)
              · exact List.mem_of_getElem? (by rw [show m = 22 by omega]; exact ax_w22)
            · rcases Nat.lt_or_ge m 24 with q14 | q14
              · exact List.mem_of_getElem? (by rw [show m = 23 by omega]; exact ax_w23)
              · exact List.mem_of_getElem? (by rw [show m = 24 by omega]; exact ax_w24)
          · rcases Nat.lt_or_ge m 27 with q12 | q12
            · rcases Nat.lt_or_ge m 26 with q14 | q14
              · exact List.mem_of_getElem? (by rw [show m = 25 by omega]; exact ax_w25)
              · exact List.mem_of_getElem? (by rw [show m = 26 by omega]; exact ax_w26)
            · rcases Nat.lt_or_ge m 28 with q14 | q14
              · exact List.mem_of_getElem? (by rw [show m = 27 by omega]; exact ax_w27)
              · exact List.mem_of_getElem? (by rw [show m = 28 by omega]; exact ax_w28)
    · rcases Nat.lt_or_ge m 44 with q6 | q6
      · rcases Nat.lt_or_ge m 36 with q8 | q8
        · rcases Nat.lt_or_ge m 32 with q10 | q10
          · rcases Nat.lt_or_ge m 30 with q12 | q12
            · exact List.mem_of_getElem? (by rw [show m = 29 by omega]; exact ax_w29)
            · rcases Nat.lt_or_ge m 31 with q14 | q14
              · exact List.mem_of_getElem? (by rw [show m = 30 by omega]; exact ax_w30)
              · exact List.mem_of_getElem? (by rw [show m = 31 by omega]; exact ax_w31)
          · rcases Nat.lt_or_ge m 34 with q12 | q12
            · rcases Nat.lt_or_ge m 33 with q14 | q14
              · exact List.mem_of_getElem? (by rw [show m = 32 by omega]; exact ax_w32)
              · exact List.mem_of_getElem? (by rw [show m = 33 by omega]; exact ax_w33)
            · rcases Nat.lt_or_ge m 35 with q14 | q14
              · exact List.mem_of_getElem? (by rw [show m = 34 by omega]; exact ax_w34)
              · exact List.mem_of_getElem? (by rw [show m = 35 by omega]; exact ax_w35)
        · rcases Nat.lt_or_ge m 40 with q10 | q10
          · rcases Nat.lt_or_ge m 38 with q12 | q12
            · rcases Nat.lt_or_ge m 37 with q14 | q14
              · exact List.mem_of_getElem? (by rw [show m = 36 by omega]; exact ax_w36)
              · exact List.mem_of_getElem? (by rw [show m = 37 by omega]; exact ax_w37)
            · rcases Nat.lt_or_ge m 39 with q14 | q14
              · exact List.mem_of_getElem? (by rw [show m = 38 by omega]; exact ax_w38)
              · exact List.mem_of_getElem? (by rw [show m = 39 by omega]; exact ax_w39)
          · rcases Nat.lt_or_ge m 42 with q12 | q12
            · rcases Nat.lt_or_ge m 41 with q14 | q14
              · exact List.mem_of_getElem? (by rw [show m = 40 by omega]; exact ax_w40)
              · exact List.mem_of_getElem? (by rw [show m = 41 by omega]; exact ax_w41)
            · rcases Nat.lt_or_ge m 43 with q14 | q14
              · exact List.mem_of_getElem? (by rw [show m = 42 by omega]; exact ax_w42)
              · exact List.mem_of_getElem? (by rw [show m = 43 by omega]; exact ax_w43)
      · rcases Nat.lt_or_ge m 51 with q8 | q8
        · rcases Nat.lt_or_ge m 47 with q10 | q10
          · rcases Nat.lt_or_ge m 45 with q12 | q12
            · exact List.mem_of_getElem? (by rw [show m = 44 by omega]; exact ax_w44)
            · rcases Nat.lt_or_ge m 46 with q14 | q14
              · exact List.mem_of_getElem? (by rw [show m = 45 by omega]; exact ax_w45)
              · exact List.mem_of_getElem? (by rw [show m = 46 by omega]; exact ax_w46)
          · rcases Nat.lt_or_ge m 49 with q12 | q12
            · rcases Nat.lt_or_ge m 48 with q14 | q14
              · exact List.mem_of_getElem? (by rw [show m = 47 by omega]; exact ax_w47)
              · exact List.mem_of_getElem? (by rw [show m = 48 by omega]; exact ax_w48)
            · rcases Nat.lt_or_ge m 50 with q14 | q14
              · exact List.mem_of_getElem? (by rw [show m = 49 by omega]; exact ax_w49)
              · exact List.mem_of_getElem? (by rw [show m = 50 by omega]; exact ax_w50)
        · rcases Nat.lt_or_ge m 55 with q10 | q10
          · rcases Nat.lt_or_ge m 53 with q12 | q12
            · rcases Nat.lt_or_ge m 52 with q14 | q14
              · exact List.mem_of_getElem? (by rw [show m = 51 by omega]; exact ax_w51)
              · exact List.mem_of_getElem? (by rw [show m = 52 by omega]; exact ax_w52)
            · rcases Nat.lt_or_ge m 54 with q14 | q14
              · exact List.mem_of_getElem? (by rw [show m = 53 by omega]; exact ax_w53)
              · exact List.mem_of_getElem? (by rw [show m = 54 by omega]; exact ax_w54)
          · rcases Nat.lt_or_ge m 57 with q12 | q12
            · rcases Nat.lt_or_ge m 56 with q14 | q14
              · exact List.mem_of_getElem? (by rw [show m = 55 by omega]; exact ax_w55)
              · exact List.mem_of_getElem? (by rw [show m = 56 by omega]; exact ax_w56)
            · rcases Nat.lt_or_ge m 58 with q14 | q14
              · exact List.mem_of_getElem? (by rw [show m = 57 by omega]; exact ax_w57)
              · exact List.mem_of_getElem? (by rw [show m = 58 by omega]; exact ax_w58)
  · rcases Nat.lt_or_ge m 88 with q4 | q4
    · rcases Nat.lt_or_ge m 73 with q6 | q6
      · rcases Nat.lt_or_ge m 66 with q8 | q8
        · rcases Nat.lt_or_ge m 62 with q10 | q10
          · rcases Nat.lt_or_ge m 60 with q12 | q12
            · exact List.mem_of_getElem? (by rw [show m = 59 by omega]; exact ax_w59)
            · rcases Nat.lt_or_ge m 61 with q14 | q14
              · exact List.mem_of_getElem? (by rw [show m = 60 by omega]; exact ax_w60)
              · exact List.mem_of_getElem? (by rw [show m = 61 by omega]; exact ax_w61)
          · rcases Nat.lt_or_ge m 64 with q12 | q12
            · rcases Nat.lt_or_ge m 63 with q14 | q14
              · exact List.mem_of_getElem? (by rw [show m = 62 by omega]; exact ax_w62)
              · exact List.mem_of_getElem? (by rw [show m = 63 by omega]; exact ax_w63)
            · rcases Nat.lt_or_ge m 65 with q14 | q14
              · exact List.mem_of_getElem? (by rw [show m = 64 by omega]; exact ax_w64)
              · exact List.mem_of_getElem? (by rw [show m = 65 by omega]; exact ax_w65)
        · rcases Nat.lt_or_ge m 69 with q10 | q10
          · rcases Nat.lt_or_ge m 67 with q12 | q12
            · exact List.mem_of_getElem? (by rw [show m = 66 by omega]; exact ax_w66)
            · rcases Nat.lt_or_ge m 68 with q14 | q14
              · exact List.mem_of_getElem? (by rw [show m = 67 by omega]; exact ax_w67)
              · exact List.mem_of_getElem? (by rw [show m = 68 by omega]; exact ax_w68)
          · rcases Nat.lt_or_ge m 71 with q12 | q12
            · rcases Nat.lt_or_ge m 70 with q14 | q14
              · exact List.mem_of_getElem? (by rw [show m = 69 by omega]; exact ax_w69)
              · exact List.mem_of_getElem? (by rw [show m = 70 by omega]; exact ax_w70)
            · rcases Nat.lt_or_ge m 72 with q14 | q14
              · exact List.mem_of_getElem? (by rw [show m = 71 by omega]; exact ax_w71)
              · exact List.mem_of_getElem? (by rw [show m = 72 by omega]; exact ax_w72)
      · rcases Nat.lt_or_ge m 80 with q8 | q8
        · rcases Nat.lt_or_ge m 76 with q10 | q10
          · rcases Nat.lt_or_ge m 74 with q12 | q12
            · exact List.mem_of_getElem? (by rw [show m = 73 by omega]; exact ax_w73)
            · rcases Nat.lt_or_ge m 75 with q14 | q14
              · exact List.mem_of_getElem? (by rw [show m = 74 by omega]; exact ax_w74)
              · exact List.mem_of_getElem? (by rw [show m = 75 by omega]; exact ax_w75)
          · rcases Nat.lt_or_ge m 78 with q12 | q12
            · rcases Nat.lt_or_ge m 77 with q14 | q14
              · exact List.mem_of_getElem? (by rw [show m = 76 by omega]; exact ax_w76)
              · exact List.mem_of_getElem? (by rw [show m = 77 by omega]; exact ax_w77)
            · rcases Nat.lt_or_ge m 79 with q14 | q14
              · exact List.mem_of_getElem? (by rw [show m = 78 by omega]; exact ax_w78)
              · exact List.mem_of_getElem? (by rw [show m = 79 by omega]; exact ax_w79)
        · rcases Nat.lt_or_ge m 84 with q10 | q10
          · rcases Nat.lt_or_ge m 82 with q12 | q12
            · rcases Nat.lt_or_ge m 81 with q14 | q14
              · exact List.mem_of_getElem? (by rw [show m = 80 by omega]; exact ax_w80)
              · exact List.mem_of_getElem? (by rw [show m = 81 by omega]; exact ax_w81)
            · rcases Nat.lt_or_ge m 83 with q14 | q14
              · exact List.mem_of_getElem? (by rw [show m = 82 by omega]; exact ax_w82)
              · exact List.mem_of_getElem? (by rw [show m = 83 by omega]; exact ax_w83)
          · rcases Nat.lt_or_ge m 86 with q12 | q12
            · rcases Nat.lt_or_ge m 85 with q14 | q14
              · exact List.mem_of_getElem? (by rw [show m = 84 by omega]; exact ax_w84)
              · exact List.mem_of_getElem? (by rw [show m = 85 by omega]; exact ax_w85)
            · rcases Nat.lt_or_ge m 87 with q14 | q14
              · exact List.mem_of_getElem? (by rw [show m = 86 by omega]; exact ax_w86)
              · exact List.mem_of_getElem? (by rw [show m = 87 by omega]; exact ax_w87)
    · rcases Nat.lt_or_ge m 103 with q6 | q6
      · rcases Nat.lt_or_ge m 95 with q8 | q8
        · rcases Nat.lt_or_ge m 91 with q10 | q10
          · rcases Nat.lt_or_ge m 89 with q12 | q12
            · exact List.mem_of_getElem? (by rw [show m = 88 by omega]; exact ax_w88)
            · rcases Nat.lt_or_ge m 90 with q14 | q14
              · exact List.mem_of_getElem? (by rw [show m = 89 by omega]; exact ax_w89)
              · exact List.mem_of_getElem? (by rw [show m = 90 by omega]; exact ax_w90)
          · rcases Nat.lt_or_ge m 93 with q12 | q12
            · rcases Nat.lt_or_ge m 92 with q14 | q14
              · exact List.mem_of_getElem? (by rw [show m = 91 by omega]; exact ax_w91)
              · exact List.mem_of_getElem? (by rw [show m = 92 by omega]; exact ax_w92)
            · rcases Nat.lt_or_ge m 94 with q14 | q14
              · exact List.mem_of_getElem? (by rw [show m = 93 by omega]; exact ax_w93)
              · exact List.mem_of_getElem? (by rw [show m = 94 by omega]; exact ax_w94)
        · rcases Nat.lt_or_ge m 99 with q10 | q10
          · rcases Nat.lt_or_ge m 97 with q12 | q12
            · rcases Nat.lt_or_ge m 96 with q14 | q14
              · exact List.mem_of_getElem? (by rw [show m = 95 by omega]; exact ax_w95)
              · exact List.mem_of_getElem? (by rw [show m = 96 by omega]; exact ax_w96)
            · rcases Nat.lt_or_ge m 98 with q14 | q14
              · exact List.mem_of_getElem? (by rw [show m = 97 by omega]; exact ax_w97)
              · exact List.mem_of_getElem? (by rw [show m = 98 by omega]; exact ax_w98)
          · rcases Nat.lt_or_ge m 101 with q12 | q12
            · rcases Nat.lt_or_ge m 100 with q14 | q14
              · exact List.mem_of_getElem? (by rw [show m = 99 by omega]; exact ax_w99)
              · exact List.mem_of_getElem? (by rw [show m = 100 by omega]; exact ax_w100)
            · rcases Nat.lt_or_ge m 102 with q14 | q14
              · exact List.mem_of_getElem? (by rw [show m = 101 by omega]; exact ax_w101)
              · exact List.mem_of_getElem? (by rw [show m = 102 by omega]; exact ax_w102)
      · rcases Nat.lt_or_ge m 110 with q8 | q8
        · rcases Nat.lt_or_ge m 106 with q10 | q10
          · rcases Nat.lt_or_ge m 104 with q12 | q12
            · exact List.mem_of_getElem? (by rw [show m = 103 by omega]; exact ax_w103)
            · rcases Nat.lt_or_ge m 105 with q14 | q14
              · exact List.mem_of_getElem? (by rw [show m = 104 by omega]; exact ax_w104)
              · exact List.mem_of_getElem? (by rw [show m = 105 by omega]; exact ax_w105)
          · rcases Nat.lt_or_ge m 108 with q12 | q12
            · rcases Nat.lt_or_ge m 107 with q14 | q14
              · exact List.mem_of_getElem? (by rw [show m = 106 by omega]; exact ax_w106)
              · exact List.mem_of_getElem? (by rw [show m = 107 by omega]; exact ax_w107)
            · rcases Nat.lt_or_ge m 109 with q14 | q14
              · exact List.mem_of_getElem? (by rw [show m = 108 by omega]; exact ax_w108)
              · exact List.mem_of_getElem? (by rw [show m = 109 by omega]; exact ax_w109)
        · rcases Nat.lt_or_ge m 114 with q10 | q10
          · rcases Nat.lt_or_ge m 112 with q12 | q12
            · rcases Nat.lt_or_ge m 111 with q14 | q14
              · exact List.mem_of_getElem? (by rw [show m = 110 by omega]; exact ax_w110)
              · exact List.mem_of_getElem? (by rw [show m = 111 by omega]; exact ax_w111)
            · rcases Nat.lt_or_ge m 113 with q14 | q14
              · exact List.mem_of_getElem? (by rw [show m = 112 by omega]; exact ax_w112)
              · exact List.mem_of_getElem? (by rw [show m = 113 by omega]; exact ax_w113)
          · rcases Nat.lt_or_ge m 116 with q12 | q12
            · rcases Nat.lt_or_ge m 115 with q14 | q14
              · exact List.mem_of_getElem? (by rw [show m = 114 by omega]; exact ax_w114)
              · exact List.mem_of_getElem? (by rw [show m = 115 by omega]; exact ax_w115)
            · rcases Nat.lt_or_ge m 117 with q14 | q14
              · exact List.mem_of_getElem? (by rw [show m = 116 by omega]; exact ax_w116)
              · exact List.mem_of_getElem? (by rw [show m = 117 by omega]; exact ax_w117)
theorem ax_cw_In {m : Nat} (h : m < 118) : ax_In (ax_cw m) := ⟨ax_cw_in h, by unfold ax_cw; cases (ax_hh m).isEmpty <;> rfl⟩
