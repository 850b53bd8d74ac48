theorem ob_c6 {f_state : Int32} {f_fault : Int32} {f_beats : Int32} {f_aligned : Int32} {f_changes : Int32} {fn_ringBeats : Nat → Int32} {fn_ringStates : Nat → Int32} {fn_ringFaults : Nat → Int32} {r1 : Int32} {x12 : Nat → Int32} {x13 : Nat → Int32} {x14 : Nat → Int32} {x15 : Int32} {x16 : Int32} {x17 : Int32} {x18 : Int32} (h : RG_X6_oneBeat_6 f_state f_fault f_beats f_aligned f_changes fn_ringBeats fn_ringStates fn_ringFaults r1 x12 x13 x14 x15 x16 x17 x18) : x18 = f_changes ∨ x18 = f_changes + 1 := by
  by_cases q : r1 ≤ 0
  · exact Or.inl (h.1 q).2.2.2.2.2.2
  · have h := h.2 q
    by_cases q2 : f_state = 4
    · exact Or.inl (h.1 q2).2.2.2.2.2.2
    · obtain ⟨o5, o6, o7, o8, o9, o10, hb, h⟩ := h.2 q2
      exact Or.inr (h.2.2.2.2.2.2.trans (ob_bec hb))
theorem ob_c282 {f_beats : Int32} {x12 : Nat → Int32} {x13 : Nat → Int32} {x14 : Nat → Int32} {x15 : Int32} {x16 : Int32} {x17 : Int32} {x18 : Int32} {o78 : Int64} {o79 : Int32} {x103 : Nat → Int32} {x104 : Nat → Int32} {x105 : Nat → Int32} {x106 : Int32} {x107 : Int32} {x108 : Int32} {x109 : Int32} {x110 : Int32} (h : RG_X6_oneBeat_282 f_beats x12 x13 x14 x15 x16 x17 x18 o78 o79 x103 x104 x105 x106 x107 x108 x109 x110) : x110 = x18 ∨ x110 = x18 + 1 := by
  by_cases q : x15 = 1
  · obtain ⟨v94, -, h⟩ := h.1 q
    by_cases q2 : v94 = 64
    · obtain ⟨o5, o6, o7, o8, o9, o10, hb, h⟩ := h.1 q2
      exact Or.inr (h.2.2.2.2.2.2.2.trans (ob_bec hb))
    · exact Or.inl (h.2 q2).2.2.2.2.2.2.2
  · have h := h.2 q
    by_cases q2 : x15 = 3
    · obtain ⟨r84, -, h⟩ := h.1 q2
      by_cases q3 : (64 : Int64) ≤ r84
      · exact Or.inl (h.1 q3).2.2.2.2.2.2.2
      · obtain ⟨o5, o6, o7, o8, o9, o10, hb, h⟩ := h.2 q3
        exact Or.inr (h.2.2.2.2.2.2.2.trans (ob_bec hb))
    · exact Or.inl (h.2 q2).2.2.2.2.2.2.2
theorem ob_ch2 {f_lost : Int32} {f_state : Int32} {f_fault : Int32} {f_currentD : Int64} {f_currentQ : Int64} {f_pace : Int64} {f_angle : Int32} {f_heat : Int64} {f_beats : Int32} {f_aligned : Int32} {f_changes : Int32} {f_behind : Int64} {fn_rules : Nat → Int32} {fn_kps : Nat → Int32} {fn_kis : Nat → Int32} {fn_sums : Nat → Int64} {fn_onTimes : Nat → Int32} {fn_ringBeats : Nat → Int32} {fn_ringStates : Nat → Int32} {fn_ringFaults : Nat → Int32} {fn_found : Nat → Int32} {u_0_state : Int32} {u_0_fault : Int32} {u_0_currentD : Int64} {u_0_currentQ : Int64} {u_0_pace : Int64} {u_0_angle : Int32} {u_0_over : Int32} {u_0_voltD : Int64} {u_0_voltQ : Int64} {u_0_heat : Int64} {u_0_beats : Int32} {u_0_aligned : Int32} {u_0_changes : Int32} {u_0_foundOver : Int32} {u_0_behind : Int64} {u_4_fn : Nat → Int64} {u_5_fn : Nat → Int32} {u_6_fn : Nat → Int32} {u_7_fn : Nat → Int32} {u_8_fn : Nat → Int32} {u_9_fn : Nat → Int32} (h0 : 0 ≤ f_changes.toInt) (h1 : f_changes.toInt < 899999990) (h : R_X6_oneBeat f_lost f_state f_fault f_currentD f_currentQ f_pace f_angle f_heat f_beats f_aligned f_changes f_behind fn_rules fn_kps fn_kis fn_sums fn_onTimes fn_ringBeats fn_ringStates fn_ringFaults fn_found u_0_state u_0_fault u_0_currentD u_0_currentQ u_0_pace u_0_angle u_0_over u_0_voltD u_0_voltQ u_0_heat u_0_beats u_0_aligned u_0_changes u_0_foundOver u_0_behind u_4_fn u_5_fn u_6_fn u_7_fn u_8_fn u_9_fn) : 0 ≤ u_0_changes.toInt ∧ u_0_changes.toInt ≤ f_changes.toInt + 2 := by
  obtain ⟨r1, -, x12, x13, x14, x15, x16, x17, x18, hA, x22, -, x38, x39, x40, x41, -, x44, -, r46, -, r48, -, o50, o51, -, x56, -, g58, -, x62, -, g64, -, x68, -, g70, -, x74, -, o76, o77, o78, o79, -, v81, -, x103, x104, x105, x106, x107, x108, x109, x110, hB, v112, -, h⟩ := h
  have ha := ob_c6 hA
  have hb := ob_c282 hB
  have e : u_0_changes = x110 := h.2.2.2.2.2.2.2.2.2.2.2.2.1
  have k1 := ob_add1 h0 (by omega) ha
  have k2 := ob_add1 k1.1 (by omega) hb
  rw [e]; omega
