/-! TEXTS: a part is played -/
def prE (f : Nat → Int32) (kd co st : Nat) : Prop := (kd = 111 → st < sN f ∧ why f co st = 0) ∧ (kd = 116 → st < sN f) ∧ (kd = 114 → ov f = 0)
def prF (f : Nat → Int32) (kd co st : Nat) : Nat → Int32 := if kd = 111 then upd f (97 + 5 * co + 2) (nI st) else if kd = 115 then upd f (97 + 5 * co + 2) (-1) else if kd = 116 then tgF f st else TF f
/-- which kinds there are -/
def prK (kd co : Nat) : Prop := (kd = 111 ∧ co < 4) ∨ (kd = 115 ∧ co < 4) ∨ kd = 116 ∨ kd = 114
section PZ
variable {m m1 m2 M : dM} {s : gS} {f g : Nat → Int32} {X : Nat × (Nat → Int32)} {i L k e kd co st : Nat} {cs : Nat → Int32}
theorem Prt.K (h : Prt cs L k e kd co st) : prK kd co := by
  obtain ⟨-, -, h⟩ := h
  unfold prK
  rcases h with ⟨h, h2, -⟩ | ⟨h, h2, -⟩ | ⟨h, -⟩ | ⟨h, -⟩
  · exact .inl ⟨h, h2⟩
  · exact .inr (.inl ⟨h, h2⟩)
  · exact .inr (.inr (.inl h))
  · exact .inr (.inr (.inr h))
theorem prF_o : prF f 111 co st = upd f (97 + 5 * co + 2) (nI st) := rfl
theorem prF_s : prF f 115 co st = upd f (97 + 5 * co + 2) (-1) := rfl
theorem prF_t : prF f 116 co st = tgF f st := rfl
theorem prF_r : prF f 114 co st = TF f := rfl
theorem prF_rv (V : rv f) (hk : prK kd co) (he : prE f kd co st) : rv (prF f kd co st) := by
  rcases hk with ⟨rfl, hc⟩ | ⟨rfl, hc⟩ | rfl | rfl
  · rw [prF_o]
    obtain ⟨h1, h2⟩ := he.1 rfl
    obtain ⟨-, q2, q3⟩ := why0 h2
    exact rv_ord V hc (.inr ⟨st, h1, rfl, q2, q3⟩)
  · rw [prF_s]
    exact rv_ord V hc (.inl rfl)
  · rw [prF_t]
    exact tg_rv V (he.2.1 rfl)
  · rw [prF_r]
    exact TF_rv V (he.2.2 rfl)
/-- a street that is, or none -/
theorem stq_or (h24 : sN f ≤ 24) (hs : st < 24) : st < sN f ∨ (¬ st < sN f ∧ bad (nI st) (sN f)) := by
  rcases sm_or (n := sN f) (by omega) (nI st) with ⟨t, ht, e⟩ | hb
  · have := (nI_eq (by omega) (by omega)).mp e
    exact .inl (by omega)
  · by_cases q : st < sN f
    · exact .inl q
    · exact .inr ⟨q, hb⟩
theorem d133 (R : RC m 1 f) (V : rv f) (hk : prK kd co) (hs : kd = 111 ∨ kd = 116 → st < 24) (h2 : rI m 42 2 = nI kd) (h3 : kd = 111 ∨ kd = 115 → rI m 42 3 = nI co) (h4 : kd = 111 ∨ kd = 116 → rI m 42 4 = nI st) : (prE f kd co st → ∃ m', D133 m = some (nI 1, m') ∧ chg nowC m m' ∧ RC m' 1 (prF f kd co st)) ∧ (¬ prE f kd co st → D133 m = some (nI 0, m)) := by
  have h24 := V.s24
  unfold D133
  rw [h2]
  rcases hk with ⟨rfl, hc⟩ | ⟨rfl, hc⟩ | rfl | rfl
  · rw [if_pos rfl, h3 (.inl rfl), h4 (.inl rfl)]
    rcases stq_or h24 (hs (.inl rfl)) with hb | ⟨hb, hb'⟩
    · rw [d59 R V hb, Option.bind_some, if_neg (by decide), d51 R V hc hb, Option.bind_some]
      have hle := why_le (f := f) (c := co) (s := st)
      by_cases q : why f co st = 0
      · rw [if_pos (by rw [q]), d50 R V hc hb, Option.bind_some]
        refine ⟨fun _ => ⟨_, rfl, chg.wI chg.rf (.inl (by omega)), ?_⟩, fun z => absurd ⟨fun _ => ⟨hb, q⟩, fun z => by omega, fun z => by omega⟩ z⟩
        rw [prF_o]
        exact RC_ord R V hc (chg.wI chg.rf rfl) rI_ws
      · rw [if_neg (fun z => q ((nI_eq (by omega) (by omega)).mp z))]
        exact ⟨fun z => absurd (z.1 rfl).2 q, fun _ => rfl⟩
    · rw [d59b R V hb', Option.bind_some, if_pos rfl]
      exact ⟨fun z => absurd (z.1 rfl).1 hb, fun _ => rfl⟩
  · rw [if_neg (by decide), if_pos rfl, h3 (.inr rfl)]
    obtain ⟨m', e4, c4, r4⟩ := d4 (m := m) hc
    rw [e4, Option.bind_some]
    refine ⟨fun _ => ⟨m', rfl, c4.mono (fun b q => .inl (by omega)), ?_⟩, fun z => absurd ⟨fun z => by omega, fun z => by omega, fun z => by omega⟩ z⟩
    rw [prF_s]
    exact RC_ord R V hc c4 r4
  · rw [if_neg (by decide), if_neg (by decide), if_pos rfl, h4 (.inr rfl)]
    rcases stq_or h24 (hs (.inr rfl)) with hb | ⟨hb, hb'⟩
    · rw [d59 R V hb, Option.bind_some, if_neg (by decide)]
      obtain ⟨m', e5, c5, R5⟩ := d47 R V hb
      rw [e5, Option.bind_some]
      refine ⟨fun _ => ⟨m', rfl, c5, ?_⟩, fun z => absurd ⟨fun z => by omega, fun _ => hb, fun z => by omega⟩ z⟩
      rw [prF_t]
      exact R5
    · rw [d59b R V hb', Option.bind_some, if_pos rfl]
      exact ⟨fun z => absurd (z.2.1 rfl) hb, fun _ => rfl⟩
  · rw [if_neg (by decide), if_neg (by decide), if_neg (by decide), d44 R V, Option.bind_some]
    by_cases q : ov f = 0
    · rw [if_pos (by rw [q])]
      obtain ⟨m', e5, c5, R5⟩ := d52 R V q
      generalize mvn f 4 = y at e5
      rw [e5, Option.bind_some]
      refine ⟨fun _ => ⟨m', rfl, c5.mono (fun b q => q), ?_⟩, fun z => absurd ⟨fun z => by omega, fun z => by omega, fun _ => q⟩ z⟩
      rw [prF_r]
      exact R5
    · have hle := ov_le (f := f)
      rw [if_neg (fun z => q ((nI_eq (by omega) (by omega)).mp z))]
      exact ⟨fun z => absurd (z.2.2 rfl) q, fun _ => rfl⟩
theorem FN_1 {v1 u w : Int32} : FN v1 u w M (nI 1) = Option.bind ((if v1 = (nI 115) then some (nI 1) else if v1 = (nI 114) then (D168 M).bind fun (x16 : Int32) => if x16 = (nI 0) then some (nI 1) else some (nI 0) else (D147 M w).bind fun (x17 : Int32) => if x17 = (nI 0) then some (nI 0) else if v1 = (nI 116) then some (nI 1) else (D169 M u w).bind fun (x18 : Int32) => if x18 = (nI 0) then some (nI 1) else some (nI 0)) : Option (Int32)) fun (v15 : Int32) => Option.bind ((if v15 = (nI 0) then some M else Option.bind ((if v1 = (nI 116) then (D177 M w).bind fun (r21 : Int32 × dM) => if r21.1 = (nI 0) then some (nI 0, r21.2) else some (nI 1, r21.2) else some (nI 0, M)) : Option (Int32 × dM)) fun (v20 : Int32 × dM) => Option.bind ((if v1 = (nI 114) then (D176 v20.2).bind fun (r23 : Int32 × dM) => some (r23.1, r23.2) else some (nI 0, v20.2)) : Option (Int32 × dM)) fun (v22 : Int32 × dM) => if v1 = (nI 111) then Option.bind ((if v1 = (nI 111) then some w else some (-1)) : Option (Int32)) fun (v24 : Int32) => (D151 v22.2 u (nI 2) v24).bind fun (r25 : dM) => some r25 else if v1 = (nI 115) then Option.bind ((if v1 = (nI 111) then some w else some (-1)) : Option (Int32)) fun (v26 : Int32) => (D151 v22.2 u (nI 2) v26).bind fun (r27 : dM) => some r27 else some v22.2) : Option (dM)) fun (v19 : dM) => (gB v15).bind fun (b28 : Int32) => some (b28, v19) := if_neg (by decide)
theorem fnx (hf : rI M 131 = f) (V : rv f) (hk : prK kd co) (hs : kd = 111 ∨ kd = 116 → st < 24) {u w : Int32} (h3 : kd = 111 ∨ kd = 115 → u = nI co) (h4 : kd = 111 ∨ kd = 116 → w = nI st) : (prE f kd co st → ∃ m', FN (nI kd) u w M (nI 1) = some (nI 1, m') ∧ chg rowM M m' ∧ rI m' 131 = prF f kd co st) ∧ (¬ prE f kd co st → FN (nI kd) u w M (nI 1) = some (nI 0, M)) := by
  have h24 := V.s24
  rw [FN_1]
  rcases hk with ⟨rfl, hc⟩ | ⟨rfl, hc⟩ | rfl | rfl
  · rw [h3 (.inl rfl), h4 (.inl rfl), if_neg (by decide), if_neg (by decide)]
    rcases stq_or h24 (hs (.inl rfl)) with hb | ⟨hb, hb'⟩
    · rw [d147 hf V.s0 V.s24 hb, Option.bind_some, if_neg (by decide), if_neg (by decide), d169 hf V hc hb, Option.bind_some]
      have hle := why_le (f := f) (c := co) (s := st)
      by_cases q : why f co st = 0
      · rw [if_pos (by rw [q]), Option.bind_some, if_neg (by decide), if_neg (by decide), Option.bind_some, if_neg (by decide), Option.bind_some, if_pos rfl, if_pos rfl, Option.bind_some, d151 hc (by omega)]
        refine ⟨fun _ => ⟨_, rfl, chg.wI chg.rf (.inl rfl), ?_⟩, fun z => absurd ⟨fun _ => ⟨hb, q⟩, fun z => by omega, fun z => by omega⟩ z⟩
        rw [prF_o, rI_ws, hf]
      · rw [if_neg (fun z => q ((nI_eq (by omega) (by omega)).mp z)), Option.bind_some, if_pos rfl]
        exact ⟨fun z => absurd (z.1 rfl).2 q, fun _ => rfl⟩
    · rw [d147b hf V.s0 V.s24 hb', Option.bind_some, if_pos rfl, Option.bind_some, if_pos rfl]
      exact ⟨fun z => absurd (z.1 rfl).1 hb, fun _ => rfl⟩
  · rw [h3 (.inr rfl), if_pos rfl, Option.bind_some, if_neg (by decide), if_neg (by decide), Option.bind_some, if_neg (by decide), Option.bind_some, if_neg (by decide), if_pos rfl, if_neg (by decide), Option.bind_some, d151 hc (by omega)]
    refine ⟨fun _ => ⟨_, rfl, chg.wI chg.rf (.inl rfl), ?_⟩, fun z => absurd ⟨fun z => by omega, fun z => by omega, fun z => by omega⟩ z⟩
    rw [prF_s, rI_ws, hf]
  · rw [h4 (.inr rfl), if_neg (by decide), if_neg (by decide)]
    rcases stq_or h24 (hs (.inr rfl)) with hb | ⟨hb, hb'⟩
    · rw [d147 hf V.s0 V.s24 hb, Option.bind_some, if_neg (by decide), if_pos rfl, Option.bind_some, if_neg (by decide), if_pos rfl]
      obtain ⟨m', e5, c5, r5⟩ := d177 hf V hb
      rw [e5, Option.bind_some]
      have e6 : (if tgB f st = nI 0 then some (nI 0, m') else some (nI 1, m')) = some (if tgB f st = nI 0 then nI 0 else nI 1, m') := by
        split <;> rfl
      dsimp only
      rw [e6, Option.bind_some, if_neg (by decide), Option.bind_some, if_neg (by decide), if_neg (by decide), Option.bind_some]
      exact ⟨fun _ => ⟨m', rfl, c5.mono (fun b q => .inl q), r5⟩, fun z => absurd ⟨fun z => by omega, fun _ => hb, fun z => by omega⟩ z⟩
    · rw [d147b hf V.s0 V.s24 hb', Option.bind_some, if_pos rfl, Option.bind_some, if_pos rfl]
      exact ⟨fun z => absurd (z.2.1 rfl) hb, fun _ => rfl⟩
  · rw [if_neg (by decide), if_pos rfl, d168 hf V, Option.bind_some]
    by_cases q : ov f = 0
    · obtain ⟨m', e5, c5, r5⟩ := d176 hf V q
      generalize mvn f 4 = y at e5
      rw [if_pos (by rw [q]), Option.bind_some, if_neg (by decide), if_neg (by decide), Option.bind_some, if_pos rfl]
      dsimp only
      rw [e5, Option.bind_some, Option.bind_some, if_neg (by decide), if_neg (by decide), Option.bind_some]
      exact ⟨fun _ => ⟨m', rfl, c5.mono (fun b q => by unfold SU at q; unfold rowM; omega), r5⟩, fun z => absurd ⟨fun z => by omega, fun z => by omega, fun _ => q⟩ z⟩
    · have hle := ov_le (f := f)
      rw [if_neg (fun z => q ((nI_eq (by omega) (by omega)).mp z)), Option.bind_some, if_pos rfl]
      exact ⟨fun z => absurd (z.2.2 rfl) q, fun _ => rfl⟩
end PZ
