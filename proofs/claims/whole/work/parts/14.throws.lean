/-! throws, words of methods, and that the counts of cells only grow -/
def ax_ic (k : Nat) : Nat := bif Nat.beq k 0 then 374 else bif Nat.beq k 1 then 57 else 77
def ax_sup : List String := ["java/lang/RuntimeException", "java/lang/Exception"]
set_option maxRecDepth 100000 in
theorem ax_ex0 : (List.range 3).all (fun k => (vx_atS RX7 (ax_ic k) (ax_exc k) ax_sup).all ax_mem && ax_mem (.initialized (ax_exc k)) && Bundle.fit (ax_exc k) && (vx_atS RX7 (ax_ic k) (ax_exc k) ax_sup).all vx_ot) = true := by decide +kernel
theorem ax_ex_ok {k : Nat} (h : k < 3) : (∀ w ∈ vx_atS RX7 (ax_ic k) (ax_exc k) ax_sup, ax_In w) ∧ ax_In (.initialized (ax_exc k)) ∧ Bundle.fit (ax_exc k) = true ∧ ∀ w ∈ vx_atS RX7 (ax_ic k) (ax_exc k) ax_sup, vx_ot w = true := by
  have h3 := ax_allr ax_ex0 h
  simp only [Bool.and_eq_true] at h3
  obtain ⟨⟨⟨a1, a2⟩, a3⟩, a4⟩ := h3
  exact ⟨fun w hw => ax_mem_in (List.all_eq_true.mp a1 w hw), ax_mem_in a2, a3, fun w hw => List.all_eq_true.mp a4 w hw⟩
def ax_tchk (mi pc : Nat) : Bool := match ax_thr mi pc with
  | none => true
  | some (k, si, ic, w) => Nat.beq (ax_own mi) 7 && Nat.blt k 3 && Nat.beq ic (ax_ic k) && decide (ax_ins mi (pc + 3) = some .dup) && (match ax_strs[si]? with
    | none => false
    | some (o, is, _) => decide (o = RX7) && (bif w then decide (ax_ins mi (pc + 4) = some (.ldc_w is)) && decide (ax_ins mi (pc + 7) = some (.invokespecial ic)) && decide (ax_ins mi (pc + 10) = some .athrow)
        else decide (ax_ins mi (pc + 4) = some (.ldc is)) && decide (ax_ins mi (pc + 6) = some (.invokespecial ic)) && decide (ax_ins mi (pc + 9) = some .athrow)))
set_option maxRecDepth 100000 in
theorem ax_tchk0 : (List.range 284).all (fun mi => (List.range (ax_len mi)).all (ax_tchk mi)) = true := by decide +kernel
theorem ax_decn {mi pc : Nat} {i : Instr} (h : ax_ins mi pc = some i) (k : Nat) (hk : ∀ n, ax_okl i n = (n == k)) : decode (ax_code mi) pc = .ok (i, k) := by
  obtain ⟨n, hd, hn⟩ := ax_dec h
  cases ax_len1 hn k (hk n)
  exact hd
section AXT
variable {p : Program} {l : Launch} {e : Env} {R : Room} {s : State} {m : MethodId} {args : Array Value} {below : List Frame} {meth : Method} {c : Code} {H : Heap} {locs : List Loc} {cells slots : Nat} {Q : State → Prop}
variable {z : ax_S} {mi mc ms : Nat} {A : Nat → Prop} {X : Nat × (Nat → Int32)} {b : Nat} {D : va_G} {tA : Nat → ClassId} {ad : Nat → Nat} {ls : Array Slot} {L : ax_L} {S rest : List Value} {h h' : ax_H} {pc : Nat} {o : ax_O}
theorem ax_throw {ix k pl : Nat} {q : Nat × Nat × Bool} {Qc : Array Value → State → Outcome → State → Prop} {XC : String → State → State → Prop} (C : ax_Cx p l s m meth c mi A X b D tA) (r : ax_Rp tA ad b D A s (ax_maxL mi) h L H locs ls) (hi : ax_ins mi pc = some (.new ix)) (e0 : ax_ncl (ax_own mi) ix = some (.inr k, pl)) (e1 : ax_thr mi pc = some (k, q)) (hfr : 6 ≤ R.frames) (hlo : 36 * 6 ≤ R.locals) (hhh : (ax_hh mi).isEmpty = true)
    (hmc : cells + 1 ≤ mc) (hms : slots + 6 ≤ ms) (hRc : cells + 1 ≤ R.cells) (hRs : slots + 6 ≤ R.slots)
    (hXC : ∀ t : State, va_P D ax_cl (ax_wl tA ad b h) t.heap → va_F A s t → XC (ax_exc k) s t) : W p l e R s m args below meth c H locs cells slots (vx_MQ below Qc XC args s mc ms A) (F0 m pc ls []) := by
  obtain ⟨hx, hb, hml, hown, hr, hlocks, hnm, htab, htr, E, hK, hA, hU, hN, hX⟩ := C
  obtain ⟨hP, hD, hS, hl⟩ := r
  obtain ⟨si, ic, w⟩ := q
  obtain ⟨i1, i2, -⟩ := ax_ins_lt hi
  have hc := ax_allr (ax_allr ax_tchk0 i1) i2
  simp only [ax_tchk, e1, Bool.and_eq_true, decide_eq_true_eq] at hc
  obtain ⟨⟨⟨⟨c1, c2⟩, c3⟩, c4⟩, c5⟩ := hc
  have c1' := Nat.eq_of_beq_eq_true c1
  have c2' := ax_blt c2
  cases Nat.eq_of_beq_eq_true c3
  cases hst : ax_strs[si]? with
  | none => rw [hst] at c5; cases c5
  | some st =>
  obtain ⟨o1, is, tx⟩ := st
  rw [hst] at c5
  simp only [Bool.and_eq_true, decide_eq_true_eq] at c5
  obtain ⟨c6, c7⟩ := c5
  subst c6
  obtain ⟨g1, g2, g3, g4⟩ := ax_ex_ok c2'
  obtain ⟨n1, n2⟩ := ax_ncl_ex e0
  have hown7 : s.vm.findClass RX7 = some m.cls := by rw [c1'] at hown; exact hown
  rw [c1'] at n2
  obtain ⟨sa, hstr⟩ := E.2.1 _ (List.mem_of_getElem? hst)
  have hout : ∀ (pc2 : Nat), ∀ x ∈ c.exceptionTable.toList, covers x pc2 = false := by
    intro pc2 x hx
    rw [htab (fun hz => by rw [hz] at c1'; exact absurd c1' (by decide)), List.isEmpty_iff.mp hhh] at hx
    cases hx
  have hx2 : ∀ t : State, s.vm.Alike t.vm → H.size ≤ t.heap.size → (∀ q : Nat, q < H.size → t.heap[q]? = H[q]?) → XC (ax_exc k) s t := by
    intro t _ z1 z2
    refine hXC t (hP.kept (fun k q hk => z2 q.1 ((hP k q hk).lt))) ⟨Nat.le_trans hS.1 z1, fun q q1 q2 => ?_⟩
    rw [z2 q (Nat.lt_of_lt_of_le q1 hS.1)]
    exact hS.2.1 q q1 q2
  have hgood : ∀ w ∈ Cond.classLink RX7 ix (ax_exc k) :: Cond.initialized (ax_exc k) :: vx_atS RX7 (ax_ic k) (ax_exc k) ax_sup, vx_ot w = true := by
    intro w hw
    rcases List.mem_cons.mp hw with rfl | hw
    · rfl
    rcases List.mem_cons.mp hw with rfl | hw
    · rfl
    · exact g4 w hw
  have hnames : ∀ n ∈ ax_sup, Bundle.fit n = true := by
    intro n hn
    simp only [ax_sup, List.mem_cons, List.not_mem_nil, or_false] at hn
    rcases hn with rfl | rfl <;> decide +kernel
  have d0 := ax_decn hi 3 (fun _ => rfl)
  have d3 := ax_decn c4 1 (fun _ => rfl)
  have hsz : ls.size = c.maxLocals := by rw [hml]; exact hl.2.1
  have hF : ax_sup.length + 3 < R.frames := by show 2 + 3 < _; omega
  have hL : (([] : List Value).map fun v => v.category).sum + (13 * (ax_sup.length + 1) + 43) ≤ R.locals := by show 0 + (13 * (2 + 1) + 43) ≤ _; omega
  cases w with
  | true =>
    simp only [cond_true, Bool.and_eq_true, decide_eq_true_eq] at c7
    obtain ⟨⟨c8, c9⟩, c10⟩ := c7
    exact vx_throwSW hx hb htr hown7 g3 hnames (E.use n2) (E.use g2) hstr (fun w hw => E.use (g1 w hw)) hgood hU hN hS hsz d0 d3 (ax_decn c8 3 (fun _ => rfl)) (ax_decn c9 3 (fun _ => rfl)) (ax_decn c10 1 (fun _ => rfl)) (hout _) hF hL hRc hRs hlocks hx2 hS.2.2 hmc hms
  | false =>
    simp only [cond_false, Bool.and_eq_true, decide_eq_true_eq] at c7
    obtain ⟨⟨c8, c9⟩, c10⟩ := c7
    exact vx_throwS hx hb htr hown7 g3 hnames (E.use n2) (E.use g2) hstr (fun w hw => E.use (g1 w hw)) hgood hU hN hS hsz d0 d3 (ax_decn c8 2 (fun _ => rfl)) (ax_decn c9 3 (fun _ => rfl)) (ax_decn c10 1 (fun _ => rfl)) (hout _) hF hL hRc hRs hlocks hx2 hS.2.2 hmc hms
end AXT

theorem ax_cw_in {m : Nat} (h : m < 283) : ax_cw m ∈ lw_tbl := by
  rcases Nat.lt_or_ge m 141 with q2 | q2
  · rcases Nat.lt_or_ge m 70 with q4 | q4
    · rcases Nat.lt_or_ge m 35 with q6 | q6
      · rcases Nat.lt_or_ge m 17 with q8 | q8
        · rcases Nat.lt_or_ge m 8 with q10 | q10
          · rcases Nat.lt_or_ge m 4 with q12 | q12
            · rcases Nat.lt_or_ge m 2 with q14 | q14
              · rcases Nat.lt_or_ge m 1 with q16 | q16
                · exact List.mem_of_getElem? (by rw [show m = 0 by omega]; exact ax_w0)
                · exact List.mem_of_getElem? (by rw [show m = 1 by omega]; exact ax_w1)
              · rcases Nat.lt_or_ge m 3 with q16 | q16
                · exact List.mem_of_getElem? (by rw [show m = 2 by omega]; exact ax_w2)
                · exact List.mem_of_getElem? (by rw [show m = 3 by omega]; exact ax_w3)
            · rcases Nat.lt_or_ge m 6 with q14 | q14
              · rcases Nat.lt_or_ge m 5 with q16 | q16
                · exact List.mem_of_getElem? (by rw [show m = 4 by omega]; exact ax_w4)
                · exact List.mem_of_getElem? (by rw [show m = 5 by omega]; exact ax_w5)
              · rcases Nat.lt_or_ge m 7 with q16 | q16
                · exact List.mem_of_getElem? (by rw [show m = 6 by omega]; exact ax_w6)
                · exact List.mem_of_getElem? (by rw [show m = 7 by omega]; exact ax_w7)
          · rcases Nat.lt_or_ge m 12 with q12 | q12
            · rcases Nat.lt_or_ge m 10 with q14 | q14
              · rcases Nat.lt_or_ge m 9 with q16 | q16
                · exact List.mem_of_getElem? (by rw [show m = 8 by omega]; exact ax_w8)
                · exact List.mem_of_getElem? (by rw [show m = 9 by omega]; exact ax_w9)
              · rcases Nat.lt_or_ge m 11 with q16 | q16
                · exact List.mem_of_getElem? (by rw [show m = 10 by omega]; exact ax_w10)
                · exact List.mem_of_getElem? (by rw [show m = 11 by omega]; exact ax_w11)
            · rcases Nat.lt_or_ge m 14 with q14 | q14
              · rcases Nat.lt_or_ge m 13 with q16 | q16
                · exact List.mem_of_getElem? (by rw [show m = 12 by omega]; exact ax_w12)
                · exact List.mem_of_getElem? (by rw [show m = 13 by omega]; exact ax_w13)
              · rcases Nat.lt_or_ge m 15 with q16 | q16
                · exact List.mem_of_getElem? (by rw [show m = 14 by omega]; exact ax_w14)
                · rcases Nat.lt_or_ge m 16 with q18 | q18
                  · exact List.mem_of_getElem? (by rw [show m = 15 by omega]; exact ax_w15)
                  · exact List.mem_of_getElem? (by rw [show m = 16 by omega]; exact ax_w16)
        · rcases Nat.lt_or_ge m 26 with q10 | q10
          · rcases Nat.lt_or_ge m 21 with q12 | q12
            · rcases Nat.lt_or_ge m 19 with q14 | q14
              · rcases Nat.lt_or_ge m 18 with q16 | q16
                · exact List.mem_of_getElem? (by rw [show m = 17 by omega]; exact ax_w17)
                · exact List.mem_of_getElem? (by rw [show m = 18 by omega]; exact ax_w18)
              · rcases Nat.lt_or_ge m 20 with q16 | q16
                · exact List.mem_of_getElem? (by rw [show m = 19 by omega]; exact ax_w19)
                · exact List.mem_of_getElem? (by rw [show m = 20 by omega]; exact ax_w20)
            · rcases Nat.lt_or_ge m 23 with q14 | q14
              · rcases Nat.lt_or_ge m 22 with q16 | q16
                · exact List.mem_of_getElem? (by rw [show m = 21 by omega]; exact ax_w21)
                · exact List.mem_of_getElem? (by rw [show m = 22 by omega]; exact ax_w22)
              · rcases Nat.lt_or_ge m 24 with q16 | q16
                · exact List.mem_of_getElem? (by rw [show m = 23 by omega]; exact ax_w23)
                · rcases Nat.lt_or_ge m 25 with q18 | q18
                  · exact List.mem_of_getElem? (by rw [show m = 24 by omega]; exact ax_w24)
                  · exact List.mem_of_getElem? (by rw [show m = 25 by omega]; exact ax_w25)
          · rcases Nat.lt_or_ge m 30 with q12 | q12
            · rcases Nat.lt_or_ge m 28 with q14 | q14
              · rcases Nat.lt_or_ge m 27 with q16 | q16
                · exact List.mem_of_getElem? (by rw [show m = 26 by omega]; exact ax_w26)
                · exact List.mem_of_getElem? (by rw [show m = 27 by omega]; exact ax_w27)
              · rcases Nat.lt_or_ge m 29 with q16 | q16
                · exact List.mem_of_getElem? (by rw [show m = 28 by omega]; exact ax_w28)
                · exact List.mem_of_getElem? (by rw [show m = 29 by omega]; exact ax_w29)
            · rcases Nat.lt_or_ge m 32 with q14 | q14
              · rcases Nat.lt_or_ge m 31 with q16 | q16
                · exact List.mem_of_getElem? (by rw [show m = 30 by omega]; exact ax_w30)
                · exact List.mem_of_getElem? (by rw [show m = 31 by omega]; exact ax_w31)
              · rcases Nat.lt_or_ge m 33 with q16 | q16
                · exact List.mem_of_getElem? (by rw [show m = 32 by omega]; exact ax_w32)
                · rcases Nat.lt_or_ge m 34 with q18 | q18
                  · exact List.mem_of_getElem? (by rw [show m = 33 by omega]; exact ax_w33)
                  · exact List.mem_of_getElem? (by rw [show m = 34 by omega]; exact ax_w34)
      · rcases Nat.lt_or_ge m 52 with q8 | q8
        · rcases Nat.lt_or_ge m 43 with q10 | q10
          · rcases Nat.lt_or_ge m 39 with q12 | q12
            · rcases Nat.lt_or_ge m 37 with q14 | q14
              · rcases Nat.lt_or_ge m 36 with q16 | q16
                · exact List.mem_of_getElem? (by rw [show m = 35 by omega]; exact ax_w35)
                · exact List.mem_of_getElem? (by rw [show m = 36 by omega]; exact ax_w36)
              · rcases Nat.lt_or_ge m 38 with q16 | q16
                · exact List.mem_of_getElem? (by rw [show m = 37 by omega]; exact ax_w37)
                · exact List.mem_of_getElem? (by rw [show m = 38 by omega]; exact ax_w38)
            · rcases Nat.lt_or_ge m 41 with q14 | q14
              · rcases Nat.lt_or_ge m 40 with q16 | q16
                · exact List.mem_of_getElem? (by rw [show m = 39 by omega]; exact ax_w39)
                · exact List.mem_of_getElem? (by rw [show m = 40 by omega]; exact ax_w40)
              · rcases Nat.lt_or_ge m 42 with q16 | q16
                · exact List.mem_of_getElem? (by rw [show m = 41 by omega]; exact ax_w41)
                · exact List.mem_of_getElem? (by rw [show m = 42 by omega]; exact ax_w42)
          · rcases Nat.lt_or_ge m 47 with q12 | q12
            · rcases Nat.lt_or_ge m 45 with q14 | q14
              · rcases Nat.lt_or_ge m 44 with q16 | q16
                · exact List.mem_of_getElem? (by rw [show m = 43 by omega]; exact ax_w43)
                · exact List.mem_of_getElem? (by rw [show m = 44 by omega]; exact ax_w44)
              · rcases Nat.lt_or_ge m 46 with q16 | q16
                · exact List.mem_of_getElem? (by rw [show m = 45 by omega]; exact ax_w45)
                · exact List.mem_of_getElem? (by rw [show m = 46 by omega]; exact ax_w46)
            · rcases Nat.lt_or_ge m 49 with q14 | q14
              · rcases Nat.lt_or_ge m 48 with q16 | q16
                · exact List.mem_of_getElem? (by rw [show m = 47 by omega]; exact ax_w47)
                · exact List.mem_of_getElem? (by rw [show m = 48 by omega]; exact ax_w48)
              · rcases Nat.lt_or_ge m 50 with q16 | q16
                · exact List.mem_of_getElem? (by rw [show m = 49 by omega]; exact ax_w49)
                · rcases Nat.lt_or_ge m 51 with q18 | q18
                  · exact List.mem_of_getElem? (by rw [show m = 50 by omega]; exact ax_w50)
                  · exact List.mem_of_getElem? (by rw [show m = 51 by omega]; exact ax_w51)
        · rcases Nat.lt_or_ge m 61 with q10 | q10
          · rcases Nat.lt_or_ge m 56 with q12 | q12
            · rcases Nat.lt_or_ge m 54 with q14 | q14
              · rcases Nat.lt_or_ge m 53 with q16 | q16
                · exact List.mem_of_getElem? (by rw [show m = 52 by omega]; exact ax_w52)
                · exact List.mem_of_getElem? (by rw [show m = 53 by omega]; exact ax_w53)
              · rcases Nat.lt_or_ge m 55 with q16 | q16
                · exact List.mem_of_getElem? (by rw [show m = 54 by omega]; exact ax_w54)
                · exact List.mem_of_getElem? (by rw [show m = 55 by omega]; exact ax_w55)
            · rcases Nat.lt_or_ge m 58 with q14 | q14
              · rcases Nat.lt_or_ge m 57 with q16 | q16
                · exact List.mem_of_getElem? (by rw [show m = 56 by omega]; exact ax_w56)
                · exact List.mem_of_getElem? (by rw [show m = 57 by omega]; exact ax_w57)
              · rcases Nat.lt_or_ge m 59 with q16 | q16
                · exact List.mem_of_getElem? (by rw [show m = 58 by omega]; exact ax_w58)
                · rcases Nat.lt_or_ge m 60 with q18 | q18
                  · exact List.mem_of_getElem? (by rw [show m = 59 by omega]; exact ax_w59)
                  · exact List.mem_of_getElem? (by rw [show m = 60 by omega]; exact ax_w60)
          · rcases Nat.lt_or_ge m 65 with q12 | q12
            · rcases Nat.lt_or_ge m 63 with q14 | q14
              · rcases Nat.lt_or_ge m 62 with q16 | q16
                · exact List.mem_of_getElem? (by rw [show m = 61 by omega]; exact ax_w61)
                · exact List.mem_of_getElem? (by rw [show m = 62 by omega]; exact ax_w62)
              · rcases Nat.lt_or_ge m 64 with q16 | q16
                · exact List.mem_of_getElem? (by rw [show m = 63 by omega]; exact ax_w63)
                · exact List.mem_of_getElem? (by rw [show m = 64 by omega]; exact ax_w64)
            · rcases Nat.lt_or_ge m 67 with q14 | q14
              · rcases Nat.lt_or_ge m 66 with q16 | q16
                · exact List.mem_of_getElem? (by rw [show m = 65 by omega]; exact ax_w65)
                · exact List.mem_of_getElem? (by rw [show m = 66 by omega]; exact ax_w66)
              · rcases Nat.lt_or_ge m 68 with q16 | q16
                · exact List.mem_of_getElem? (by rw [show m = 67 by omega]; exact ax_w67)
                · rcases Nat.lt_or_ge m 69 with q18 | q18
                  · exact List.mem_of_getElem? (by rw [show m = 68 by omega]; exact ax_w68)
                  · exact List.mem_of_getElem? (by rw [show m = 69 by omega]; exact ax_w69)
    · rcases Nat.lt_or_ge m 105 with q6 | q6
      · rcases Nat.lt_or_ge m 87 with q8 | q8
        · rcases Nat.lt_or_ge m 78 with q10 | q10
          · rcases Nat.lt_or_ge m 74 with q12 | q12
            · rcases Nat.lt_or_ge m 72 with q14 | q14
              · rcases Nat.lt_or_ge m 71 with q16 | q16
                · exact List.mem_of_getElem? (by rw [show m = 70 by omega]; exact ax_w70)
                · exact List.mem_of_getElem? (by rw [show m = 71 by omega]; exact ax_w71)
              · rcases Nat.lt_or_ge m 73 with q16 | q16
                · exact List.mem_of_getElem? (by rw [show m = 72 by omega]; exact ax_w72)
                · exact List.mem_of_getElem? (by rw [show m = 73 by omega]; exact ax_w73)
            · rcases Nat.lt_or_ge m 76 with q14 | q14
              · rcases Nat.lt_or_ge m 75 with q16 | q16
                · exact List.mem_of_getElem? (by rw [show m = 74 by omega]; exact ax_w74)
                · exact List.mem_of_getElem? (by rw [show m = 75 by omega]; exact ax_w75)
              · rcases Nat.lt_or_ge m 77 with q16 | q16
                · exact List.mem_of_getElem? (by rw [show m = 76 by omega]; exact ax_w76)
                · exact List.mem_of_getElem? (by rw [show m = 77 by omega]; exact ax_w77)
          · rcases Nat.lt_or_ge m 82 with q12 | q12
            · rcases Nat.lt_or_ge m 80 with q14 | q14
              · rcases Nat.lt_or_ge m 79 with q16 | q16
                · exact List.mem_of_getElem? (by rw [show m = 78 by omega]; exact ax_w78)
                · exact List.mem_of_getElem? (by rw [show m = 79 by omega]; exact ax_w79)
              · rcases Nat.lt_or_ge m 81 with q16 | q16
                · exact List.mem_of_getElem? (by rw [show m = 80 by omega]; exact ax_w80)
                · exact List.mem_of_getElem? (by rw [show m = 81 by omega]; exact ax_w81)
            · rcases Nat.lt_or_ge m 84 with q14 | q14
              · rcases Nat.lt_or_ge m 83 with q16 | q16
                · exact List.mem_of_getElem? (by rw [show m = 82 by omega]; exact ax_w82)
                · exact List.mem_of_getElem? (by rw [show m = 83 by omega]; exact ax_w83)
              · rcases Nat.lt_or_ge m 85 with q16 | q16
                · exact List.mem_of_getElem? (by rw [show m = 84 by omega]; exact ax_w84)
                · rcases Nat.lt_or_ge m 86 with q18 | q18
                  · exact List.mem_of_getElem? (by rw [show m = 85 by omega]; exact ax_w85)
                  · exact List.mem_of_getElem? (by rw [show m = 86 by omega]; exact ax_w86)
        · rcases Nat.lt_or_ge m 96 with q10 | q10
          · rcases Nat.lt_or_ge m 91 with q12 | q12
            · rcases Nat.lt_or_ge m 89 with q14 | q14
              · rcases Nat.lt_or_ge m 88 with q16 | q16
                · exact List.mem_of_getElem? (by rw [show m = 87 by omega]; exact ax_w87)
                · exact List.mem_of_getElem? (by rw [show m = 88 by omega]; exact ax_w88)
              · rcases Nat.lt_or_ge m 90 with q16 | q16
                · exact List.mem_of_getElem? (by rw [show m = 89 by omega]; exact ax_w89)
                · exact List.mem_of_getElem? (by rw [show m = 90 by omega]; exact ax_w90)
            · rcases Nat.lt_or_ge m 93 with q14 | q14
              · rcases Nat.lt_or_ge m 92 with q16 | q16
                · exact List.mem_of_getElem? (by rw [show m = 91 by omega]; exact ax_w91)
                · exact List.mem_of_getElem? (by rw [show m = 92 by omega]; exact ax_w92)
              · rcases Nat.lt_or_ge m 94 with q16 | q16
                · exact List.mem_of_getElem? (by rw [show m = 93 by omega]; exact ax_w93)
                · rcases Nat.lt_or_ge m 95 with q18 | q18
                  · exact List.mem_of_getElem? (by rw [show m = 94 by omega]; exact ax_w94)
                  · exact List.mem_of_getElem? (by rw [show m = 95 by omega]; exact ax_w95)
          · rcases Nat.lt_or_ge m 100 with q12 | q12
            · rcases Nat.lt_or_ge m 98 with q14 | q14
              · rcases Nat.lt_or_ge m 97 with q16 | q16
                · exact List.mem_of_getElem? (by rw [show m = 96 by omega]; exact ax_w96)
                · exact List.mem_of_getElem? (by rw [show m = 97 by omega]; exact ax_w97)
              · rcases Nat.lt_or_ge m 99 with q16 | q16
                · exact List.mem_of_getElem? (by rw [show m = 98 by omega]; exact ax_w98)
                · exact List.mem_of_getElem? (by rw [show m = 99 by omega]; exact ax_w99)
            · rcases Nat.lt_or_ge m 102 with q14 | q14
              · rcases Nat.lt_or_ge m 101 with q16 | q16
                · exact List.mem_of_getElem? (by rw [show m = 100 by omega]; exact ax_w100)
                · exact List.mem_of_getElem? (by rw [show m = 101 by omega]; exact ax_w101)
              · rcases Nat.lt_or_ge m 103 with q16 | q16
                · exact List.mem_of_getElem? (by rw [show m = 102 by omega]; exact ax_w102)
                · rcases Nat.lt_or_ge m 104 with q18 | q18
                  · exact List.mem_of_getElem? (by rw [show m = 103 by omega]; exact ax_w103)
                  · exact List.mem_of_getElem? (by rw [show m = 104 by omega]; exact ax_w104)
      · rcases Nat.lt_or_ge m 123 with q8 | q8
        · rcases Nat.lt_or_ge m 114 with q10 | q10
          · rcases Nat.lt_or_ge m 109 with q12 | q12
            · rcases Nat.lt_or_ge m 107 with q14 | q14
              · rcases Nat.lt_or_ge m 106 with q16 | q16
                · exact List.mem_of_getElem? (by rw [show m = 105 by omega]; exact ax_w105)
                · exact List.mem_of_getElem? (by rw [show m = 106 by omega]; exact ax_w106)
              · rcases Nat.lt_or_ge m 108 with q16 | q16
                · exact List.mem_of_getElem? (by rw [show m = 107 by omega]; exact ax_w107)
                · exact List.mem_of_getElem? (by rw [show m = 108 by omega]; exact ax_w108)
            · rcases Nat.lt_or_ge m 111 with q14 | q14
              · rcases Nat.lt_or_ge m 110 with q16 | q16
                · exact List.mem_of_getElem? (by rw [show m = 109 by omega]; exact ax_w109)
                · exact List.mem_of_getElem? (by rw [show m = 110 by omega]; exact ax_w110)
              · rcases Nat.lt_or_ge m 112 with q16 | q16
                · exact List.mem_of_getElem? (by rw [show m = 111 by omega]; exact ax_w111)
                · rcases Nat.lt_or_ge m 113 with q18 | q18
                  · exact List.mem_of_getElem? (by rw [show m = 112 by omega]; exact ax_w112)
                  · exact List.mem_of_getElem? (by rw [show m = 113 by omega]; exact ax_w113)
          · rcases Nat.lt_or_ge m 118 with q12 | q12
            · rcases Nat.lt_or_ge m 116 with q14 | q14
              · rcases Nat.lt_or_ge m 115 with q16 | q16
                · exact List.mem_of_getElem? (by rw [show m = 114 by omega]; exact ax_w114)
                · exact List.mem_of_getElem? (by rw [show m = 115 by omega]; exact ax_w115)
              · rcases Nat.lt_or_ge m 117 with q16 | q16
                · exact List.mem_of_getElem? (by rw [show m = 116 by omega]; exact ax_w116)
                · exact List.mem_of_getElem? (by rw [show m = 117 by omega]; exact ax_w117)
            · rcases Nat.lt_or_ge m 120 with q14 | q14
              · rcases Nat.lt_or_ge m 119 with q16 | q16
                · exact List.mem_of_getElem? (by rw [show m = 118 by omega]; exact ax_w118)
                · exact List.mem_of_getElem? (by rw [show m = 119 by omega]; exact ax_w119)
              · rcases Nat.lt_or_ge m 121 with q16 | q16
                · exact List.mem_of_getElem? (by rw [show m = 120 by omega]; exact ax_w120)
                · rcases Nat.lt_or_ge m 122 with q18 | q18
                  · exact List.mem_of_getElem? (by rw [show m = 121 by omega]; exact ax_w121)
                  · exact List.mem_of_getElem? (by rw [show m = 122 by omega]; exact ax_w122)
        · rcases Nat.lt_or_ge m 132 with q10 | q10
          · rcases Nat.lt_or_ge m 127 with q12 | q12
            · rcases Nat.lt_or_ge m 125 with q14 | q14
              · rcases Nat.lt_or_ge m 124 with q16 | q16
                · exact List.mem_of_getElem? (by rw [show m = 123 by omega]; exact ax_w123)
                · exact List.mem_of_getElem? (by rw [show m = 124 by omega]; exact ax_w124)
              · rcases Nat.lt_or_ge m 126 with q16 | q16
                · exact List.mem_of_getElem? (by rw [show m = 125 by omega]; exact ax_w125)
                · exact List.mem_of_getElem? (by rw [show m = 126 by omega]; exact ax_w126)
            · rcases Nat.lt_or_ge m 129 with q14 | q14
              · rcases Nat.lt_or_ge m 128 with q16 | q16
                · exact List.mem_of_getElem? (by rw [show m = 127 by omega]; exact ax_w127)
                · exact List.mem_of_getElem? (by rw [show m = 128 by omega]; exact ax_w128)
              · rcases Nat.lt_or_ge m 130 with q16 | q16
                · exact List.mem_of_getElem? (by rw [show m = 129 by omega]; exact ax_w129)
                · rcases Nat.lt_or_ge m 131 with q18 | q18
                  · exact List.mem_of_getElem? (by rw [show m = 130 by omega]; exact ax_w130)
                  · exact List.mem_of_getElem? (by rw [show m = 131 by omega]; exact ax_w131)
          · rcases Nat.lt_or_ge m 136 with q12 | q12
            · rcases Nat.lt_or_ge m 134 with q14 | q14
              · rcases Nat.lt_or_ge m 133 with q16 | q16
                · exact List.mem_of_getElem? (by rw [show m = 132 by omega]; exact ax_w132)
                · exact List.mem_of_getElem? (by rw [show m = 133 by omega]; exact ax_w133)
              · rcases Nat.lt_or_ge m 135 with q16 | q16
                · exact List.mem_of_getElem? (by rw [show m = 134 by omega]; exact ax_w134)
                · exact List.mem_of_getElem? (by rw [show m = 135 by omega]; exact ax_w135)
            · rcases Nat.lt_or_ge m 138 with q14 | q14
              · rcases Nat.lt_or_ge m 137 with q16 | q16
                · exact List.mem_of_getElem? (by rw [show m = 136 by omega]; exact ax_w136)
                · exact List.mem_of_getElem? (by rw [show m = 137 by omega]; exact ax_w137)
              · rcases Nat.lt_or_ge m 139 with q16 | q16
                · exact List.mem_of_getElem? (by rw [show m = 138 by omega]; exact ax_w138)
                · rcases Nat.lt_or_ge m 140 with q18 | q18
                  · exact List.mem_of_getElem? (by rw [show m = 139 by omega]; exact ax_w139)
                  · exact List.mem_of_getElem? (by rw [show m = 140 by omega]; exact ax_w140)
  · rcases Nat.lt_or_ge m 212 with q4 | q4
    · rcases Nat.lt_or_ge m 176 with q6 | q6
      · rcases Nat.lt_or_ge m 158 with q8 | q8
        · rcases Nat.lt_or_ge m 149 with q10 | q10
          · rcases Nat.lt_or_ge m 145 with q12 | q12
            · rcases Nat.lt_or_ge m 143 with q14 | q14
              · rcases Nat.lt_or_ge m 142 with q16 | q16
                · exact List.mem_of_getElem? (by rw [show m = 141 by omega]; exact ax_w141)
                · exact List.mem_of_getElem? (by rw [show m = 142 by omega]; exact ax_w142)
              · rcases Nat.lt_or_ge m 144 with q16 | q16
                · exact List.mem_of_getElem? (by rw [show m = 143 by omega]; exact ax_w143)
                · exact List.mem_of_getElem? (by rw [show m = 144 by omega]; exact ax_w144)
            · rcases Nat.lt_or_ge m 147 with q14 | q14
              · rcases Nat.lt_or_ge m 146 with q16 | q16
                · exact List.mem_of_getElem? (by rw [show m = 145 by omega]; exact ax_w145)
                · exact List.mem_of_getElem? (by rw [show m = 146 by omega]; exact ax_w146)
              · rcases Nat.lt_or_ge m 148 with q16 | q16
                · exact List.mem_of_getElem? (by rw [show m = 147 by omega]; exact ax_w147)
                · exact List.mem_of_getElem? (by rw [show m = 148 by omega]; exact ax_w148)
          · rcases Nat.lt_or_ge m 153 with q12 | q12
            · rcases Nat.lt_or_ge m 151 with q14 | q14
              · rcases Nat.lt_or_ge m 150 with q16 | q16
                · exact List.mem_of_getElem? (by rw [show m = 149 by omega]; exact ax_w149)
                · exact List.mem_of_getElem? (by rw [show m = 150 by omega]; exact ax_w150)
              · rcases Nat.lt_or_ge m 152 with q16 | q16
                · exact List.mem_of_getElem? (by rw [show m = 151 by omega]; exact ax_w151)
                · exact List.mem_of_getElem? (by rw [show m = 152 by omega]; exact ax_w152)
            · rcases Nat.lt_or_ge m 155 with q14 | q14
              · rcases Nat.lt_or_ge m 154 with q16 | q16
                · exact List.mem_of_getElem? (by rw [show m = 153 by omega]; exact ax_w153)
                · exact List.mem_of_getElem? (by rw [show m = 154 by omega]; exact ax_w154)
              · rcases Nat.lt_or_ge m 156 with q16 | q16
                · exact List.mem_of_getElem? (by rw [show m = 155 by omega]; exact ax_w155)
                · rcases Nat.lt_or_ge m 157 with q18 | q18
                  · exact List.mem_of_getElem? (by rw [show m = 156 by omega]; exact ax_w156)
                  · exact List.mem_of_getElem? (by rw [show m = 157 by omega]; exact ax_w157)
        · rcases Nat.lt_or_ge m 167 with q10 | q10
          · rcases Nat.lt_or_ge m 162 with q12 | q12
            · rcases Nat.lt_or_ge m 160 with q14 | q14
              · rcases Nat.lt_or_ge m 159 with q16 | q16
                · exact List.mem_of_getElem? (by rw [show m = 158 by omega]; exact ax_w158)
                · exact List.mem_of_getElem? (by rw [show m = 159 by omega]; exact ax_w159)
              · rcases Nat.lt_or_ge m 161 with q16 | q16
                · exact List.mem_of_getElem? (by rw [show m = 160 by omega]; exact ax_w160)
                · exact List.mem_of_getElem? (by rw [show m = 161 by omega]; exact ax_w161)
            · rcases Nat.lt_or_ge m 164 with q14 | q14
              · rcases Nat.lt_or_ge m 163 with q16 | q16
                · exact List.mem_of_getElem? (by rw [show m = 162 by omega]; exact ax_w162)
                · exact List.mem_of_getElem? (by rw [show m = 163 by omega]; exact ax_w163)
              · rcases Nat.lt_or_ge m 165 with q16 | q16
                · exact List.mem_of_getElem? (by rw [show m = 164 by omega]; exact ax_w164)
                · rcases Nat.lt_or_ge m 166 with q18 | q18
                  · exact List.mem_of_getElem? (by rw [show m = 165 by omega]; exact ax_w165)
                  · exact List.mem_of_getElem? (by rw [show m = 166 by omega]; exact ax_w166)
          · rcases Nat.lt_or_ge m 171 with q12 | q12
            · rcases Nat.lt_or_ge m 169 with q14 | q14
              · rcases Nat.lt_or_ge m 168 with q16 | q16
                · exact List.mem_of_getElem? (by rw [show m = 167 by omega]; exact ax_w167)
                · exact List.mem_of_getElem? (by rw [show m = 168 by omega]; exact ax_w168)
              · rcases Nat.lt_or_ge m 170 with q16 | q16
                · exact List.mem_of_getElem? (by rw [show m = 169 by omega]; exact ax_w169)
                · exact List.mem_of_getElem? (by rw [show m = 170 by omega]; exact ax_w170)
            · rcases Nat.lt_or_ge m 173 with q14 | q14
              · rcases Nat.lt_or_ge m 172 with q16 | q16
                · exact List.mem_of_getElem? (by rw [show m = 171 by omega]; exact ax_w171)
                · exact List.mem_of_getElem? (by rw [show m = 172 by omega]; exact ax_w172)
              · rcases Nat.lt_or_ge m 174 with q16 | q16
                · exact List.mem_of_getElem? (by rw [show m = 173 by omega]; exact ax_w173)
                · rcases Nat.lt_or_ge m 175 with q18 | q18
                  · exact List.mem_of_getElem? (by rw [show m = 174 by omega]; exact ax_w174)
                  · exact List.mem_of_getElem? (by rw [show m = 175 by omega]; exact ax_w175)
      · rcases Nat.lt_or_ge m 194 with q8 | q8
        · rcases Nat.lt_or_ge m 185 with q10 | q10
          · rcases Nat.lt_or_ge m 180 with q12 | q12
            · rcases Nat.lt_or_ge m 178 with q14 | q14
              · rcases Nat.lt_or_ge m 177 with q16 | q16
                · exact List.mem_of_getElem? (by rw [show m = 176 by omega]; exact ax_w176)
                · exact List.mem_of_getElem? (by rw [show m = 177 by omega]; exact ax_w177)
              · rcases Nat.lt_or_ge m 179 with q16 | q16
                · exact List.mem_of_getElem? (by rw [show m = 178 by omega]; exact ax_w178)
                · exact List.mem_of_getElem? (by rw [show m = 179 by omega]; exact ax_w179)
            · rcases Nat.lt_or_ge m 182 with q14 | q14
              · rcases Nat.lt_or_ge m 181 with q16 | q16
                · exact List.mem_of_getElem? (by rw [show m = 180 by omega]; exact ax_w180)
                · exact List.mem_of_getElem? (by rw [show m = 181 by omega]; exact ax_w181)
              · rcases Nat.lt_or_ge m 183 with q16 | q16
                · exact List.mem_of_getElem? (by rw [show m = 182 by omega]; exact ax_w182)
                · rcases Nat.lt_or_ge m 184 with q18 | q18
                  · exact List.mem_of_getElem? (by rw [show m = 183 by omega]; exact ax_w183)
                  · exact List.mem_of_getElem? (by rw [show m = 184 by omega]; exact ax_w184)
          · rcases Nat.lt_or_ge m 189 with q12 | q12
            · rcases Nat.lt_or_ge m 187 with q14 | q14
              · rcases Nat.lt_or_ge m 186 with q16 | q16
                · exact List.mem_of_getElem? (by rw [show m = 185 by omega]; exact ax_w185)
                · exact List.mem_of_getElem? (by rw [show m = 186 by omega]; exact ax_w186)
              · rcases Nat.lt_or_ge m 188 with q16 | q16
                · exact List.mem_of_getElem? (by rw [show m = 187 by omega]; exact ax_w187)
                · exact List.mem_of_getElem? (by rw [show m = 188 by omega]; exact ax_w188)
            · rcases Nat.lt_or_ge m 191 with q14 | q14
              · rcases Nat.lt_or_ge m 190 with q16 | q16
                · exact List.mem_of_getElem? (by rw [show m = 189 by omega]; exact ax_w189)
                · exact List.mem_of_getElem? (by rw [show m = 190 by omega]; exact ax_w190)
              · rcases Nat.lt_or_ge m 192 with q16 | q16
                · exact List.mem_of_getElem? (by rw [show m = 191 by omega]; exact ax_w191)
                · rcases Nat.lt_or_ge m 193 with q18 | q18
                  · exact List.mem_of_getElem? (by rw [show m = 192 by omega]; exact ax_w192)
                  · exact List.mem_of_getElem? (by rw [show m = 193 by omega]; exact ax_w193)
        · rcases Nat.lt_or_ge m 203 with q10 | q10
          · rcases Nat.lt_or_ge m 198 with q12 | q12
            · rcases Nat.lt_or_ge m 196 with q14 | q14
              · rcases Nat.lt_or_ge m 195 with q16 | q16
                · exact List.mem_of_getElem? (by rw [show m = 194 by omega]; exact ax_w194)
                · exact List.mem_of_getElem? (by rw [show m = 195 by omega]; exact ax_w195)
              · rcases Nat.lt_or_ge m 197 with q16 | q16
                · exact List.mem_of_getElem? (by rw [show m = 196 by omega]; exact ax_w196)
                · exact List.mem_of_getElem? (by rw [show m = 197 by omega]; exact ax_w197)
            · rcases Nat.lt_or_ge m 200 with q14 | q14
              · rcases Nat.lt_or_ge m 199 with q16 | q16
                · exact List.mem_of_getElem? (by rw [show m = 198 by omega]; exact ax_w198)
                · exact List.mem_of_getElem? (by rw [show m = 199 by omega]; exact ax_w199)
              · rcases Nat.lt_or_ge m 201 with q16 | q16
                · exact List.mem_of_getElem? (by rw [show m = 200 by omega]; exact ax_w200)
                · rcases Nat.lt_or_ge m 202 with q18 | q18
                  · exact List.mem_of_getElem? (by rw [show m = 201 by omega]; exact ax_w201)
                  · exact List.mem_of_getElem? (by rw [show m = 202 by omega]; exact ax_w202)
          · rcases Nat.lt_or_ge m 207 with q12 | q12
            · rcases Nat.lt_or_ge m 205 with q14 | q14
              · rcases Nat.lt_or_ge m 204 with q16 | q16
                · exact List.mem_of_getElem? (by rw [show m = 203 by omega]; exact ax_w203)
                · exact List.mem_of_getElem? (by rw [show m = 204 by omega]; exact ax_w204)
              · rcases Nat.lt_or_ge m 206 with q16 | q16
                · exact List.mem_of_getElem? (by rw [show m = 205 by omega]; exact ax_w205)
                · exact List.mem_of_getElem? (by rw [show m = 206 by omega]; exact ax_w206)
            · rcases Nat.lt_or_ge m 209 with q14 | q14
              · rcases Nat.lt_or_ge m 208 with q16 | q16
                · exact List.mem_of_getElem? (by rw [show m = 207 by omega]; exact ax_w207)
                · exact List.mem_of_getElem? (by rw [show m = 208 by omega]; exact ax_w208)
              · rcases Nat.lt_or_ge m 210 with q16 | q16
                · exact List.mem_of_getElem? (by rw [show m = 209 by omega]; exact ax_w209)
                · rcases Nat.lt_or_ge m 211 with q18 | q18
                  · exact List.mem_of_getElem? (by rw [show m = 210 by omega]; exact ax_w210)
                  · exact List.mem_of_getElem? (by rw [show m = 211 by omega]; exact ax_w211)
    · rcases Nat.lt_or_ge m 247 with q6 | q6
      · rcases Nat.lt_or_ge m 229 with q8 | q8
        · rcases Nat.lt_or_ge m 220 with q10 | q10
          · rcases Nat.lt_or_ge m 216 with q12 | q12
            · rcases Nat.lt_or_ge m 214 with q14 | q14
              · rcases Nat.lt_or_ge m 213 with q16 | q16
                · exact List.mem_of_getElem? (by rw [show m = 212 by omega]; exact ax_w212)
                · exact List.mem_of_getElem? (by rw [show m = 213 by omega]; exact ax_w213)
              · rcases Nat.lt_or_ge m 215 with q16 | q16
                · exact List.mem_of_getElem? (by rw [show m = 214 by omega]; exact ax_w214)
                · exact List.mem_of_getElem? (by rw [show m = 215 by omega]; exact ax_w215)
            · rcases Nat.lt_or_ge m 218 with q14 | q14
              · rcases Nat.lt_or_ge m 217 with q16 | q16
                · exact List.mem_of_getElem? (by rw [show m = 216 by omega]; exact ax_w216)
                · exact List.mem_of_getElem? (by rw [show m = 217 by omega]; exact ax_w217)
              · rcases Nat.lt_or_ge m 219 with q16 | q16
                · exact List.mem_of_getElem? (by rw [show m = 218 by omega]; exact ax_w218)
                · exact List.mem_of_getElem? (by rw [show m = 219 by omega]; exact ax_w219)
          · rcases Nat.lt_or_ge m 224 with q12 | q12
            · rcases Nat.lt_or_ge m 222 with q14 | q14
              · rcases Nat.lt_or_ge m 221 with q16 | q16
                · exact List.mem_of_getElem? (by rw [show m = 220 by omega]; exact ax_w220)
                · exact List.mem_of_getElem? (by rw [show m = 221 by omega]; exact ax_w221)
              · rcases Nat.lt_or_ge m 223 with q16 | q16
                · exact List.mem_of_getElem? (by rw [show m = 222 by omega]; exact ax_w222)
                · exact List.mem_of_getElem? (by rw [show m = 223 by omega]; exact ax_w223)
            · rcases Nat.lt_or_ge m 226 with q14 | q14
              · rcases Nat.lt_or_ge m 225 with q16 | q16
                · exact List.mem_of_getElem? (by rw [show m = 224 by omega]; exact ax_w224)
                · exact List.mem_of_getElem? (by rw [show m = 225 by omega]; exact ax_w225)
              · rcases Nat.lt_or_ge m 227 with q16 | q16
                · exact List.mem_of_getElem? (by rw [show m = 226 by omega]; exact ax_w226)
                · rcases Nat.lt_or_ge m 228 with q18 | q18
                  · exact List.mem_of_getElem? (by rw [show m = 227 by omega]; exact ax_w227)
                  · exact List.mem_of_getElem? (by rw [show m = 228 by omega]; exact ax_w228)
        · rcases Nat.lt_or_ge m 238 with q10 | q10
          · rcases Nat.lt_or_ge m 233 with q12 | q12
            · rcases Nat.lt_or_ge m 231 with q14 | q14
              · rcases Nat.lt_or_ge m 230 with q16 | q16
                · exact List.mem_of_getElem? (by rw [show m = 229 by omega]; exact ax_w229)
                · exact List.mem_of_getElem? (by rw [show m = 230 by omega]; exact ax_w230)
              · rcases Nat.lt_or_ge m 232 with q16 | q16
                · exact List.mem_of_getElem? (by rw [show m = 231 by omega]; exact ax_w231)
                · exact List.mem_of_getElem? (by rw [show m = 232 by omega]; exact ax_w232)
            · rcases Nat.lt_or_ge m 235 with q14 | q14
              · rcases Nat.lt_or_ge m 234 with q16 | q16
                · exact List.mem_of_getElem? (by rw [show m = 233 by omega]; exact ax_w233)
                · exact List.mem_of_getElem? (by rw [show m = 234 by omega]; exact ax_w234)
              · rcases Nat.lt_or_ge m 236 with q16 | q16
                · exact List.mem_of_getElem? (by rw [show m = 235 by omega]; exact ax_w235)
                · rcases Nat.lt_or_ge m 237 with q18 | q18
                  · exact List.mem_of_getElem? (by rw [show m = 236 by omega]; exact ax_w236)
                  · exact List.mem_of_getElem? (by rw [show m = 237 by omega]; exact ax_w237)
          · rcases Nat.lt_or_ge m 242 with q12 | q12
            · rcases Nat.lt_or_ge m 240 with q14 | q14
              · rcases Nat.lt_or_ge m 239 with q16 | q16
                · exact List.mem_of_getElem? (by rw [show m = 238 by omega]; exact ax_w238)
                · exact List.mem_of_getElem? (by rw [show m = 239 by omega]; exact ax_w239)
              · rcases Nat.lt_or_ge m 241 with q16 | q16
                · exact List.mem_of_getElem? (by rw [show m = 240 by omega]; exact ax_w240)
                · exact List.mem_of_getElem? (by rw [show m = 241 by omega]; exact ax_w241)
            · rcases Nat.lt_or_ge m 244 with q14 | q14
              · rcases Nat.lt_or_ge m 243 with q16 | q16
                · exact List.mem_of_getElem? (by rw [show m = 242 by omega]; exact ax_w242)
                · exact List.mem_of_getElem? (by rw [show m = 243 by omega]; exact ax_w243)
              · rcases Nat.lt_or_ge m 245 with q16 | q16
                · exact List.mem_of_getElem? (by rw [show m = 244 by omega]; exact ax_w244)
                · rcases Nat.lt_or_ge m 246 with q18 | q18
                  · exact List.mem_of_getElem? (by rw [show m = 245 by omega]; exact ax_w245)
                  · exact List.mem_of_getElem? (by rw [show m = 246 by omega]; exact ax_w246)
      · rcases Nat.lt_or_ge m 265 with q8 | q8
        · rcases Nat.lt_or_ge m 256 with q10 | q10
          · rcases Nat.lt_or_ge m 251 with q12 | q12
            · rcases Nat.lt_or_ge m 249 with q14 | q14
              · rcases Nat.lt_or_ge m 248 with q16 | q16
                · exact List.mem_of_getElem? (by rw [show m = 247 by omega]; exact ax_w247)
                · exact List.mem_of_getElem? (by rw [show m = 248 by omega]; exact ax_w248)
              · rcases Nat.lt_or_ge m 250 with q16 | q16
                · exact List.mem_of_getElem? (by rw [show m = 249 by omega]; exact ax_w249)
                · exact List.mem_of_getElem? (by rw [show m = 250 by omega]; exact ax_w250)
            · rcases Nat.lt_or_ge m 253 with q14 | q14
              · rcases Nat.lt_or_ge m 252 with q16 | q16
                · exact List.mem_of_getElem? (by rw [show m = 251 by omega]; exact ax_w251)
                · exact List.mem_of_getElem? (by rw [show m = 252 by omega]; exact ax_w252)
              · rcases Nat.lt_or_ge m 254 with q16 | q16
                · exact List.mem_of_getElem? (by rw [show m = 253 by omega]; exact ax_w253)
                · rcases Nat.lt_or_ge m 255 with q18 | q18
                  · exact List.mem_of_getElem? (by rw [show m = 254 by omega]; exact ax_w254)
                  · exact List.mem_of_getElem? (by rw [show m = 255 by omega]; exact ax_w255)
          · rcases Nat.lt_or_ge m 260 with q12 | q12
            · rcases Nat.lt_or_ge m 258 with q14 | q14
              · rcases Nat.lt_or_ge m 257 with q16 | q16
                · exact List.mem_of_getElem? (by rw [show m = 256 by omega]; exact ax_w256)
                · exact List.mem_of_getElem? (by rw [show m = 257 by omega]; exact ax_w257)
              · rcases Nat.lt_or_ge m 259 with q16 | q16
                · exact List.mem_of_getElem? (by rw [show m = 258 by omega]; exact ax_w258)
                · exact List.mem_of_getElem? (by rw [show m = 259 by omega]; exact ax_w259)
            · rcases Nat.lt_or_ge m 262 with q14 | q14
              · rcases Nat.lt_or_ge m 261 with q16 | q16
                · exact List.mem_of_getElem? (by rw [show m = 260 by omega]; exact ax_w260)
                · exact List.mem_of_getElem? (by rw [show m = 261 by omega]; exact ax_w261)
              · rcases Nat.lt_or_ge m 263 with q16 | q16
                · exact List.mem_of_getElem? (by rw [show m = 262 by omega]; exact ax_w262)
                · rcases Nat.lt_or_ge m 264 with q18 | q18
                  · exact List.mem_of_getElem? (by rw [show m = 263 by omega]; exact ax_w263)
                  · exact List.mem_of_getElem? (by rw [show m = 264 by omega]; exact ax_w264)
        · rcases Nat.lt_or_ge m 274 with q10 | q10
          · rcases Nat.lt_or_ge m 269 with q12 | q12
            · rcases Nat.lt_or_ge m 267 with q14 | q14
              · rcases Nat.lt_or_ge m 266 with q16 | q16
                · exact List.mem_of_getElem? (by rw [show m = 265 by omega]; exact ax_w265)
                · exact List.mem_of_getElem? (by rw [show m = 266 by omega]; exact ax_w266)
              · rcases Nat.lt_or_ge m 268 with q16 | q16
                · exact List.mem_of_getElem? (by rw [show m = 267 by omega]; exact ax_w267)
                · exact List.mem_of_getElem? (by rw [show m = 268 by omega]; exact ax_w268)
            · rcases Nat.lt_or_ge m 271 with q14 | q14
              · rcases Nat.lt_or_ge m 270 with q16 | q16
                · exact List.mem_of_getElem? (by rw [show m = 269 by omega]; exact ax_w269)
                · exact List.mem_of_getElem? (by rw [show m = 270 by omega]; exact ax_w270)
              · rcases Nat.lt_or_ge m 272 with q16 | q16
                · exact List.mem_of_getElem? (by rw [show m = 271 by omega]; exact ax_w271)
                · rcases Nat.lt_or_ge m 273 with q18 | q18
                  · exact List.mem_of_getElem? (by rw [show m = 272 by omega]; exact ax_w272)
                  · exact List.mem_of_getElem? (by rw [show m = 273 by omega]; exact ax_w273)
          · rcases Nat.lt_or_ge m 278 with q12 | q12
            · rcases Nat.lt_or_ge m 276 with q14 | q14
              · rcases Nat.lt_or_ge m 275 with q16 | q16
                · exact List.mem_of_getElem? (by rw [show m = 274 by omega]; exact ax_w274)
                · exact List.mem_of_getElem? (by rw [show m = 275 by omega]; exact ax_w275)
              · rcases Nat.lt_or_ge m 277 with q16 | q16
                · exact List.mem_of_getElem? (by rw [show m = 276 by omega]; exact ax_w276)
                · exact List.mem_of_getElem? (by rw [show m = 277 by omega]; exact ax_w277)
            · rcases Nat.lt_or_ge m 280 with q14 | q14
              · rcases Nat.lt_or_ge m 279 with q16 | q16
                · exact List.mem_of_getElem? (by rw [show m = 278 by omega]; exact ax_w278)
                · exact List.mem_of_getElem? (by rw [show m = 279 by omega]; exact ax_w279)
              · rcases Nat.lt_or_ge m 281 with q16 | q16
                · exact List.mem_of_getElem? (by rw [show m = 280 by omega]; exact ax_w280)
                · rcases Nat.lt_or_ge m 282 with q18 | q18
                  · exact List.mem_of_getElem? (by rw [show m = 281 by omega]; exact ax_w281)
                  · exact List.mem_of_getElem? (by rw [show m = 282 by omega]; exact ax_w282)
theorem ax_cw_In {m : Nat} (h : m < 283) : ax_In (ax_cw m) := ⟨ax_cw_in h, by unfold ax_cw; cases (ax_hh m).isEmpty <;> rfl⟩
