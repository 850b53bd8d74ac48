def R_X6_in (p0 : Int64) (p1 : Int64) (p2 : Int64) (r : Int32) : Prop := (p0 < p1 → (r = (0 : Int32))) ∧ (¬ (p0 < p1) → ((p2 < p0 → (r = (0 : Int32))) ∧ (¬ (p2 < p0) → (r = (1 : Int32)))))
theorem b_X6_in_r {p0 : Int64} {p1 : Int64} {p2 : Int64} {r : Int32}  (h : R_X6_in p0 p1 p2 r) : r = 0 ∨ r = 1 := by
  unfold R_X6_in at h
  by_cases q : p0 < p1
  · have h := h.1 q
    exact Or.inl h
  · have h := h.2 q
    by_cases q : p2 < p0
    · have h := h.1 q
      exact Or.inl h
    · have h := h.2 q
      exact Or.inr h
set_option maxHeartbeats 4000000 in
set_option maxRecDepth 100000 in
theorem c_X6_in (l : Launch) (dC : Nat → ClassId) (dI : Nat → Nat → Nat) (p0 : Int64) (p1 : Int64) (p2 : Int64) (sz : Nat)  : Met l yX6_in wsX6_in ({ frames := 0, cells := 0, slots := 0, locals := 0 }) (va_Pc [.long p0, .long p1, .long p2] (mw_pre (dC, dI) vwCl [] [] sz)) (va_Qi (fun (r : Int32) (u : Unit) => R_X6_in p0 p1 p2 r) (fun u t => mw_at (dC, dI) vwCl [] [] (va_A [] sz) t) (va_A [] sz)) 0 0 (va_A [] sz) := by
  refine Met.ofW (cc := cX6_in) (maxL := 6) (ret := (some .boolean)) (by decide) rfl ?_
  intro p e s m args below meth c s₁ B hml hv
  obtain ⟨rfl, hsz, hP, hK, hD0, hN⟩ := hv
  have hx := B.exec
  have hb := B.bytes
  have hr := B.returns
  have hts := atoms_spec (ws := wsX6_in) B.pre
  have hown : s.vm.findClass RX6 = some m.cls := findClass_of_methodNamed B.named
  have hlocks := B.notSynchronized
  subst hsz
  have hD := hD0.self (sz := s.heap.size)
  generalize hAe : va_A [] s.heap.size = A at hD ⊢
  have hA : ∀ q : Nat, s.heap.size ≤ q → A q := fun q h => by rw [← hAe]; exact Or.inr h
  have hS : va_S A s.heap s.heap [] := va_S.rf
  have hP : va_P (dC, dI) vwCl [] s.heap := hP
  have hl := lv_entry ([.long p0, .long p1, .long p2]) (n := 6) (Nat.le_of_ble_eq_true rfl)
  rw [lg_entry_eq]
  generalize (lg_sl ([.long p0, .long p1, .long p2]) ++ List.replicate (6 - (lg_sl ([.long p0, .long p1, .long p2])).length) Slot.unset).toArray = ls at hl ⊢
  have hl : lv_has ls 6 [(0, .long p0), (2, .long p1), (4, .long p2)] := hl
  refine lv_lload_n hx hb dX6_in_0 rfl (lv_at hl 0 rfl) ?_
  refine lv_lload_n hx hb dX6_in_1 rfl (lv_at hl 1 rfl) ?_
  refine W.lcmp hx hb dX6_in_2 ?_
  refine lv_if_lt (tgt := 17) hx hb dX6_in_3 (by decide) (fun c1 => ?_) (fun c1 => ?_)
  · have c1 : p0 < p1 := (lg_cmp_lt _ _).mp c1
    refine lv_iconst (v := 0) hx hb dX6_in_17 (by decide) ?_
    have hP9 := hP.sub (ws' := []) [] rfl
    have hD9 := hD.sub (ws' := []) [] (by decide) rfl
    have hK9 := hK.sub (tys' := []) [] rfl
    exact W.zret (v := (0 : Int32)) hx hb hr (by first | rfl | decide) (fun t ht hW => ⟨⟨(0 : Int32), (), rfl, ⟨fun _ => rfl, fun hh => absurd c1 hh⟩, (by rw [ht]; exact hP9), va_K.moved hW.alike hK9, hD9⟩, hS.F ht⟩) hS.2.2 dX6_in_18
  · have c1 : ¬ (p0 < p1) := mw_flt c1
    refine lv_lload_n hx hb dX6_in_6 rfl (lv_at hl 0 rfl) ?_
    refine lv_lload hx hb dX6_in_7 (lv_at hl 2 rfl) ?_
    refine W.lcmp hx hb dX6_in_9 ?_
    refine lv_if_gt (tgt := 17) hx hb dX6_in_10 (by decide) (fun c2 => ?_) (fun c2 => ?_)
    · have c2 : p2 < p0 := (lg_cmp_gt _ _).mp c2
      refine lv_iconst (v := 0) hx hb dX6_in_17 (by decide) ?_
      have hP9 := hP.sub (ws' := []) [] rfl
      have hD9 := hD.sub (ws' := []) [] (by decide) rfl
      have hK9 := hK.sub (tys' := []) [] rfl
      exact W.zret (v := (0 : Int32)) hx hb hr (by first | rfl | decide) (fun t ht hW => ⟨⟨(0 : Int32), (), rfl, ⟨fun hh => absurd hh c1, fun _ => ⟨fun _ => rfl, fun hh => absurd c2 hh⟩⟩, (by rw [ht]; exact hP9), va_K.moved hW.alike hK9, hD9⟩, hS.F ht⟩) hS.2.2 dX6_in_18
    · have c2 : ¬ (p2 < p0) := mw_fgt c2
      refine lv_iconst (v := 1) hx hb dX6_in_13 (by decide) ?_
      refine lv_goto (tgt := 18) hx hb dX6_in_14 (by decide) ?_
      have hP9 := hP.sub (ws' := []) [] rfl
      have hD9 := hD.sub (ws' := []) [] (by decide) rfl
      have hK9 := hK.sub (tys' := []) [] rfl
      exact W.zret (v := (1 : Int32)) hx hb hr (by first | rfl | decide) (fun t ht hW => ⟨⟨(1 : Int32), (), rfl, ⟨fun hh => absurd hh c1, fun _ => ⟨fun hh => absurd hh c2, fun _ => rfl⟩⟩, (by rw [ht]; exact hP9), va_K.moved hW.alike hK9, hD9⟩, hS.F ht⟩) hS.2.2 dX6_in_18
def R_X6_clamp (p0 : Int64) (p1 : Int64) (r : Int64) : Prop := (p0 ≤ p1 → (((-p1) ≤ p0 → (r = p0)) ∧ (¬ ((-p1) ≤ p0) → (r = (-p1))))) ∧ (¬ (p0 ≤ p1) → (r = p1))
set_option maxHeartbeats 4000000 in
set_option maxRecDepth 100000 in
theorem c_X6_clamp (l : Launch) (dC : Nat → ClassId) (dI : Nat → Nat → Nat) (p0 : Int64) (p1 : Int64) (sz : Nat)  : Met l yX6_clamp wsX6_clamp ({ frames := 0, cells := 0, slots := 0, locals := 0 }) (va_Pc [.long p0, .long p1] (mw_pre (dC, dI) vwCl [] [] sz)) (va_Ql (fun (r : Int64) (u : Unit) => R_X6_clamp p0 p1 r) (fun u t => mw_at (dC, dI) vwCl [] [] (va_A [] sz) t) (va_A [] sz)) 0 0 (va_A [] sz) := by
  refine Met.ofW (cc := cX6_clamp) (maxL := 4) (ret := (some .long)) (by decide) rfl ?_
  intro p e s m args below meth c s₁ B hml hv
  obtain ⟨rfl, hsz, hP, hK, hD0, hN⟩ := hv
  have hx := B.exec
  have hb := B.bytes
  have hr := B.returns
  have hts := atoms_spec (ws := wsX6_clamp) B.pre
  have hown : s.vm.findClass RX6 = some m.cls := findClass_of_methodNamed B.named
  have hlocks := B.notSynchronized
  subst hsz
  have hD := hD0.self (sz := s.heap.size)
  generalize hAe : va_A [] s.heap.size = A at hD ⊢
  have hA : ∀ q : Nat, s.heap.size ≤ q → A q := fun q h => by rw [← hAe]; exact Or.inr h
  have hS : va_S A s.heap s.heap [] := va_S.rf
  have hP : va_P (dC, dI) vwCl [] s.heap := hP
  have hl := lv_entry ([.long p0, .long p1]) (n := 4) (Nat.le_of_ble_eq_true rfl)
  rw [lg_entry_eq]
  generalize (lg_sl ([.long p0, .long p1]) ++ List.replicate (4 - (lg_sl ([.long p0, .long p1])).length) Slot.unset).toArray = ls at hl ⊢
  have hl : lv_has ls 4 [(0, .long p0), (2, .long p1)] := hl
  refine lv_lload_n hx hb dX6_clamp_0 rfl (lv_at hl 0 rfl) ?_
  refine lv_lload_n hx hb dX6_clamp_1 rfl (lv_at hl 1 rfl) ?_
  refine W.lcmp hx hb dX6_clamp_2 ?_
  refine lv_if_le (tgt := 10) hx hb dX6_clamp_3 (by decide) (fun c1 => ?_) (fun c1 => ?_)
  · have c1 : p0 ≤ p1 := (lg_cmp_le _ _).mp c1
    refine lv_lload_n hx hb dX6_clamp_10 rfl (lv_at hl 0 rfl) ?_
    refine lv_lload_n hx hb dX6_clamp_11 rfl (lv_at hl 1 rfl) ?_
    refine lv_lneg hx hb dX6_clamp_12 ?_
    refine W.lcmp hx hb dX6_clamp_13 ?_
    refine lv_if_ge (tgt := 22) hx hb dX6_clamp_14 (by decide) (fun c2 => ?_) (fun c2 => ?_)
    · have c2 : (-p1) ≤ p0 := (lg_cmp_ge _ _).mp c2
      refine lv_lload_n hx hb dX6_clamp_22 rfl (lv_at hl 0 rfl) ?_
      have hP9 := hP.sub (ws' := []) [] rfl
      have hD9 := hD.sub (ws' := []) [] (by decide) rfl
      have hK9 := hK.sub (tys' := []) [] rfl
      exact W.lret (v := p0) hx hb hr (fun t ht hW => ⟨⟨p0, (), rfl, ⟨fun _ => ⟨fun _ => rfl, fun hh => absurd c2 hh⟩, fun hh => absurd c1 hh⟩, (by rw [ht]; exact hP9), va_K.moved hW.alike hK9, hD9⟩, hS.F ht⟩) hS.2.2 dX6_clamp_23
    · have c2 : ¬ ((-p1) ≤ p0) := mw_fge c2
      refine lv_lload_n hx hb dX6_clamp_17 rfl (lv_at hl 1 rfl) ?_
      refine lv_lneg hx hb dX6_clamp_18 ?_
      refine lv_goto (tgt := 23) hx hb dX6_clamp_19 (by decide) ?_
      have hP9 := hP.sub (ws' := []) [] rfl
      have hD9 := hD.sub (ws' := []) [] (by decide) rfl
      have hK9 := hK.sub (tys' := []) [] rfl
      exact W.lret (v := (-p1)) hx hb hr (fun t ht hW => ⟨⟨(-p1), (), rfl, ⟨fun _ => ⟨fun hh => absurd hh c2, fun _ => rfl⟩, fun hh => absurd c1 hh⟩, (by rw [ht]; exact hP9), va_K.moved hW.alike hK9, hD9⟩, hS.F ht⟩) hS.2.2 dX6_clamp_23
  · have c1 : ¬ (p0 ≤ p1) := mw_fle c1
    refine lv_lload_n hx hb dX6_clamp_6 rfl (lv_at hl 1 rfl) ?_
    refine lv_goto (tgt := 23) hx hb dX6_clamp_7 (by decide) ?_
    have hP9 := hP.sub (ws' := []) [] rfl
    have hD9 := hD.sub (ws' := []) [] (by decide) rfl
    have hK9 := hK.sub (tys' := []) [] rfl
    exact W.lret (v := p1) hx hb hr (fun t ht hW => ⟨⟨p1, (), rfl, ⟨fun hh => absurd hh c1, fun _ => rfl⟩, (by rw [ht]; exact hP9), va_K.moved hW.alike hK9, hD9⟩, hS.F ht⟩) hS.2.2 dX6_clamp_23
def R_X6_size (p0 : Int64) (r : Int64) : Prop := ((0 : Int64) ≤ p0 → (r = p0)) ∧ (¬ ((0 : Int64) ≤ p0) → (r = (-p0)))
set_option maxHeartbeats 4000000 in
set_option maxRecDepth 100000 in
theorem c_X6_size (l : Launch) (dC : Nat → ClassId) (dI : Nat → Nat → Nat) (p0 : Int64) (sz : Nat)  : Met l yX6_size wsX6_size ({ frames := 0, cells := 0, slots := 0, locals := 0 }) (va_Pc [.long p0] (mw_pre (dC, dI) vwCl [] [] sz)) (va_Ql (fun (r : Int64) (u : Unit) => R_X6_size p0 r) (fun u t => mw_at (dC, dI) vwCl [] [] (va_A [] sz) t) (va_A [] sz)) 0 0 (va_A [] sz) := by
  refine Met.ofW (cc := cX6_size) (maxL := 2) (ret := (some .long)) (by decide) rfl ?_
  intro p e s m args below meth c s₁ B hml hv
  obtain ⟨rfl, hsz, hP, hK, hD0, hN⟩ := hv
  have hx := B.exec
  have hb := B.bytes
  have hr := B.returns
  have hts := atoms_spec (ws := wsX6_size) B.pre
  have hown : s.vm.findClass RX6 = some m.cls := findClass_of_methodNamed B.named
  have hlocks := B.notSynchronized
  subst hsz
  have hD := hD0.self (sz := s.heap.size)
  generalize hAe : va_A [] s.heap.size = A at hD ⊢
  have hA : ∀ q : Nat, s.heap.size ≤ q → A q := fun q h => by rw [← hAe]; exact Or.inr h
  have hS : va_S A s.heap s.heap [] := va_S.rf
  have hP : va_P (dC, dI) vwCl [] s.heap := hP
  have hl := lv_entry ([.long p0]) (n := 2) (Nat.le_of_ble_eq_true rfl)
  rw [lg_entry_eq]
  generalize (lg_sl ([.long p0]) ++ List.replicate (2 - (lg_sl ([.long p0])).length) Slot.unset).toArray = ls at hl ⊢
  have hl : lv_has ls 2 [(0, .long p0)] := hl
  refine lv_lload_n hx hb dX6_size_0 rfl (lv_at hl 0 rfl) ?_
  refine lv_lconst (v := 0) hx hb dX6_size_1 (by decide) ?_
  refine W.lcmp hx hb dX6_size_2 ?_
  refine lv_if_ge (tgt := 11) hx hb dX6_size_3 (by decide) (fun c1 => ?_) (fun c1 => ?_)
  · have c1 : (0 : Int64) ≤ p0 := (lg_cmp_ge _ _).mp c1
    refine lv_lload_n hx hb dX6_size_11 rfl (lv_at hl 0 rfl) ?_
    have hP9 := hP.sub (ws' := []) [] rfl
    have hD9 := hD.sub (ws' := []) [] (by decide) rfl
    have hK9 := hK.sub (tys' := []) [] rfl
    exact W.lret (v := p0) hx hb hr (fun t ht hW => ⟨⟨p0, (), rfl, ⟨fun _ => rfl, fun hh => absurd c1 hh⟩, (by rw [ht]; exact hP9), va_K.moved hW.alike hK9, hD9⟩, hS.F ht⟩) hS.2.2 dX6_size_12
  · have c1 : ¬ ((0 : Int64) ≤ p0) := mw_fge c1
    refine lv_lload_n hx hb dX6_size_6 rfl (lv_at hl 0 rfl) ?_
    refine lv_lneg hx hb dX6_size_7 ?_
    refine lv_goto (tgt := 12) hx hb dX6_size_8 (by decide) ?_
    have hP9 := hP.sub (ws' := []) [] rfl
    have hD9 := hD.sub (ws' := []) [] (by decide) rfl
    have hK9 := hK.sub (tys' := []) [] rfl
    exact W.lret (v := (-p0)) hx hb hr (fun t ht hW => ⟨⟨(-p0), (), rfl, ⟨fun hh => absurd hh c1, fun _ => rfl⟩, (by rw [ht]; exact hP9), va_K.moved hW.alike hK9, hD9⟩, hS.F ht⟩) hS.2.2 dX6_size_12
def R_X6_sineOf (p0 : Int32) (r : Int64) : Prop := ∃ v1 : Int64, v1 = ((p0 - p0 / (32768 : Int32) * (32768 : Int32)).toInt64) ∧ (∃ v2 : Int64, v2 = (v1 * ((32768 : Int64) - v1)) ∧ (∃ v3 : Int64, v3 = (((131068 : Int64) * v2) / ((1342177280 : Int64) - v2)) ∧ (((32768 : Int32) ≤ p0 → (r = (-v3))) ∧ (¬ ((32768 : Int32) ≤ p0) → (r = v3)))))
set_option maxHeartbeats 4000000 in
set_option maxRecDepth 100000 in
theorem c_X6_sineOf (l : Launch) (dC : Nat → ClassId) (dI : Nat → Nat → Nat) (p0 : Int32) (sz : Nat)  : Met l yX6_sineOf wsX6_sineOf ({ frames := 0, cells := 0, slots := 0, locals := 0 }) (va_Pc [.int p0] (mw_pre (dC, dI) vwCl [] [] sz)) (va_Ql (fun (r : Int64) (u : Unit) => R_X6_sineOf p0 r) (fun u t => mw_at (dC, dI) vwCl [] [] (va_A [] sz) t) (va_A [] sz)) 0 0 (va_A [] sz) := by
  refine Met.ofW (cc := cX6_sineOf) (maxL := 7) (ret := (some .long)) (by decide) rfl ?_
  intro p e s m args below meth c s₁ B hml hv
  obtain ⟨rfl, hsz, hP, hK, hD0, hN⟩ := hv
  have hx := B.exec
  have hb := B.bytes
  have hr := B.returns
  have hts := atoms_spec (ws := wsX6_sineOf) B.pre
  have hown : s.vm.findClass RX6 = some m.cls := findClass_of_methodNamed B.named
  have hlocks := B.notSynchronized
  subst hsz
  have hD := hD0.self (sz := s.heap.size)
  generalize hAe : va_A [] s.heap.size = A at hD ⊢
  have hA : ∀ q : Nat, s.heap.size ≤ q → A q := fun q h => by rw [← hAe]; exact Or.inr h
  have hS : va_S A s.heap s.heap [] := va_S.rf
  have hP : va_P (dC, dI) vwCl [] s.heap := hP
  have hl := lv_entry ([.int p0]) (n := 7) (Nat.le_of_ble_eq_true rfl)
  rw [lg_entry_eq]
  generalize (lg_sl ([.int p0]) ++ List.replicate (7 - (lg_sl ([.int p0])).length) Slot.unset).toArray = ls at hl ⊢
  have hl : lv_has ls 7 [(0, .int p0)] := hl
  have hw0 := hts (.constant RX6 39 (32768)) (by decide +kernel)
  have hw1 := hts (.constantLong RX6 40 (32768)) (by decide +kernel)
  have hw2 := hts (.constantLong RX6 42 (131068)) (by decide +kernel)
  have hw3 := hts (.constantLong RX6 44 (1342177280)) (by decide +kernel)
  refine lv_iload_n hx hb dX6_sineOf_0 rfl (lv_at hl 0 rfl) ?_
  refine lv_ldc hx hb hown hw0 dX6_sineOf_1 ?_
  refine lv_irem hx hb dX6_sineOf_3 (by decide) ?_
  refine lv_i2l hx hb dX6_sineOf_4 rfl ?_
  refine lv_topl (fun v1 ev1 => ?_)
  refine lv_lstore_n (lv' := [(1, .long v1), (0, .int p0)]) hx hb dX6_sineOf_5 rfl hl (by decide) rfl (fun ls hl => ?_)
  refine lv_lload_n hx hb dX6_sineOf_6 rfl (lv_at hl 0 rfl) ?_
  refine lv_ldc2 hx hb hown hw1 dX6_sineOf_7 ?_
  refine lv_lload_n hx hb dX6_sineOf_10 rfl (lv_at hl 0 rfl) ?_
  refine lv_lsub hx hb dX6_sineOf_11 ?_
  refine lv_lmul hx hb dX6_sineOf_12 ?_
  refine lv_topl (fun v2 ev2 => ?_)
  refine lv_lstore_n (lv' := [(3, .long v2), (1, .long v1), (0, .int p0)]) hx hb dX6_sineOf_13 rfl hl (by decide) rfl (fun ls hl => ?_)
  refine lv_ldc2 hx hb hown hw2 dX6_sineOf_14 ?_
  refine lv_lload_n hx hb dX6_sineOf_17 rfl (lv_at hl 0 rfl) ?_
  refine lv_lmul hx hb dX6_sineOf_18 ?_
  refine lv_ldc2 hx hb hown hw3 dX6_sineOf_19 ?_
  refine lv_lload_n hx hb dX6_sineOf_22 rfl (lv_at hl 0 rfl) ?_
  refine lv_lsub hx hb dX6_sineOf_23 ?_
  refine lv_ldiv hx hb dX6_sineOf_24 (ar_sdiv ev1 ev2) ?_
  refine lv_topl (fun v3 ev3 => ?_)
  refine lv_lstore (lv' := [(5, .long v3), (3, .long v2), (1, .long v1), (0, .int p0)]) hx hb dX6_sineOf_25 hl (by decide) rfl (fun ls hl => ?_)
  refine lv_iload_n hx hb dX6_sineOf_27 rfl (lv_at hl 3 rfl) ?_
  refine lv_ldc hx hb hown hw0 dX6_sineOf_28 ?_
  refine lv_icmp_ge (tgt := 38) hx hb dX6_sineOf_30 (by decide) (fun c4 => ?_) (fun c4 => ?_)
  · refine lv_lload hx hb dX6_sineOf_38 (lv_at hl 0 rfl) ?_
    refine lv_lneg hx hb dX6_sineOf_40 ?_
    have hP9 := hP.sub (ws' := []) [] rfl
    have hD9 := hD.sub (ws' := []) [] (by decide) rfl
    have hK9 := hK.sub (tys' := []) [] rfl
    exact W.lret (v := (-v3)) hx hb hr (fun t ht hW => ⟨⟨(-v3), (), rfl, ⟨v1, ev1, ⟨v2, ev2, ⟨v3, ev3, ⟨fun _ => rfl, fun hh => absurd c4 hh⟩⟩⟩⟩, (by rw [ht]; exact hP9), va_K.moved hW.alike hK9, hD9⟩, hS.F ht⟩) hS.2.2 dX6_sineOf_41
  · refine lv_lload hx hb dX6_sineOf_33 (lv_at hl 0 rfl) ?_
    refine lv_goto (tgt := 41) hx hb dX6_sineOf_35 (by decide) ?_
    have hP9 := hP.sub (ws' := []) [] rfl
    have hD9 := hD.sub (ws' := []) [] (by decide) rfl
    have hK9 := hK.sub (tys' := []) [] rfl
    exact W.lret (v := v3) hx hb hr (fun t ht hW => ⟨⟨v3, (), rfl, ⟨v1, ev1, ⟨v2, ev2, ⟨v3, ev3, ⟨fun hh => absurd hh c4, fun _ => rfl⟩⟩⟩⟩, (by rw [ht]; exact hP9), va_K.moved hW.alike hK9, hD9⟩, hS.F ht⟩) hS.2.2 dX6_sineOf_41
def R_X6_cosineOf (p0 : Int32) (r : Int64) : Prop := ∃ (r1 : Int64), R_X6_sineOf ((p0 + (16384 : Int32)) - (p0 + (16384 : Int32)) / (65536 : Int32) * (65536 : Int32)) r1 ∧ (r = r1)
set_option maxHeartbeats 4000000 in
set_option maxRecDepth 100000 in
theorem c_X6_cosineOf (l : Launch) (dC : Nat → ClassId) (dI : Nat → Nat → Nat) (p0 : Int32) (sz : Nat)  : Met l yX6_cosineOf wsX6_cosineOf ({ frames := 1, cells := 0, slots := 0, locals := 26 }) (va_Pc [.int p0] (mw_pre (dC, dI) vwCl [] [] sz)) (va_Ql (fun (r : Int64) (u : Unit) => R_X6_cosineOf p0 r) (fun u t => mw_at (dC, dI) vwCl [] [] (va_A [] sz) t) (va_A [] sz)) 0 0 (va_A [] sz) := by
  refine Met.ofW (cc := cX6_cosineOf) (maxL := 1) (ret := (some .long)) (by decide) rfl ?_
  intro p e s m args below meth c s₁ B hml hv
  obtain ⟨rfl, hsz, hP, hK, hD0, hN⟩ := hv
  have hx := B.exec
  have hb := B.bytes
  have hr := B.returns
  have hts := atoms_spec (ws := wsX6_cosineOf) B.pre
  have hown : s.vm.findClass RX6 = some m.cls := findClass_of_methodNamed B.named
  have hlocks := B.notSynchronized
  subst hsz
  have hD := hD0.self (sz := s.heap.size)
  generalize hAe : va_A [] s.heap.size = A at hD ⊢
  have hA : ∀ q : Nat, s.heap.size ≤ q → A q := fun q h => by rw [← hAe]; exact Or.inr h
  have hS : va_S A s.heap s.heap [] := va_S.rf
  have hP : va_P (dC, dI) vwCl [] s.heap := hP
  have hl := lv_entry ([.int p0]) (n := 1) (Nat.le_of_ble_eq_true rfl)
  rw [lg_entry_eq]
  generalize (lg_sl ([.int p0]) ++ List.replicate (1 - (lg_sl ([.int p0])).length) Slot.unset).toArray = ls at hl ⊢
  have hl : lv_has ls 1 [(0, .int p0)] := hl
  have hw0 := hts (.constant RX6 46 (65536)) (by decide +kernel)
  refine lv_iload_n hx hb dX6_cosineOf_0 rfl (lv_at hl 0 rfl) ?_
  refine lv_sipush (v := 16384) hx hb dX6_cosineOf_1 (by decide) ?_
  refine lv_iadd hx hb dX6_cosineOf_4 ?_
  refine lv_ldc hx hb hown hw0 dX6_cosineOf_5 ?_
  refine lv_irem hx hb dX6_cosineOf_7 (by decide) ?_
  refine mw_calll (wc := []) (wr := []) (w1 := fun (u : Unit) => []) (tyc := fun (u : Unit) => []) hP hD hS hA [] [] rfl rfl (by decide) (by decide) (va_runS (As := [.int ((p0 + (16384 : Int32)) - (p0 + (16384 : Int32)) / (65536 : Int32) * (65536 : Int32))]) (rest := []) ⟨hx, hb, hml, hown, hts⟩ (c_X6_sineOf l dC dI ((p0 + (16384 : Int32)) - (p0 + (16384 : Int32)) / (65536 : Int32) * (65536 : Int32)) s.heap.size ) (va_cwS 1 hts gX6_cosineOf_X6_sineOf rfl rfl rfl (by decide +kernel) ⟨(Nat.le_of_ble_eq_true rfl), (Nat.le_of_ble_eq_true rfl)⟩) (mw_preS (hP.sub (ws' := []) [] rfl) (hD.sub (ws' := []) [] (by decide) rfl) (hK.sub (tys' := []) [] rfl) hN) rfl rfl hl.1 rfl (lv_room (Nat.le_of_ble_eq_true rfl)) dX6_cosineOf_8 ⟨(Nat.le_of_ble_eq_true rfl), (Nat.le_of_ble_eq_true rfl)⟩) (fun r1 u H locs hw_2 hP hD hS hK1 => ?_)
  have hw_2 : R_X6_sineOf ((p0 + (16384 : Int32)) - (p0 + (16384 : Int32)) / (65536 : Int32) * (65536 : Int32)) r1 := hw_2
  have hP : va_P (dC, dI) vwCl [] H := hP
  have hD : va_D A [] := hD
  have hP9 := hP.sub (ws' := []) [] rfl
  have hD9 := hD.sub (ws' := []) [] (by decide) rfl
  have hK9 := hK.sub (tys' := []) [] rfl
  exact W.lret (v := r1) hx hb hr (fun t ht hW => ⟨⟨r1, (), rfl, ⟨r1, hw_2, rfl⟩, (by rw [ht]; exact hP9), va_K.moved hW.alike hK9, hD9⟩, hS.F ht⟩) hS.2.2 dX6_cosineOf_11
def R_X6_isAngle (p0 : Int32) (r : Int32) : Prop := ∃ (r1 : Int32), R_X6_in (p0.toInt64) (0 : Int64) (65535 : Int64) r1 ∧ (r = r1)
theorem b_X6_isAngle_r {p0 : Int32} {r : Int32}  (h : R_X6_isAngle p0 r) : r = 0 ∨ r = 1 := by
  unfold R_X6_isAngle at h
  obtain ⟨r1, h_r1, h⟩ := h
  rw [h]; exact (b_X6_in_r h_r1)
set_option maxHeartbeats 4000000 in
set_option maxRecDepth 100000 in
theorem c_X6_isAngle (l : Launch) (dC : Nat → ClassId) (dI : Nat → Nat → Nat) (p0 : Int32) (sz : Nat)  : Met l yX6_isAngle wsX6_isAngle ({ frames := 1, cells := 0, slots := 0, locals := 25 }) (va_Pc [.int p0] (mw_pre (dC, dI) vwCl [] [] sz)) (va_Qi (fun (r : Int32) (u : Unit) => R_X6_isAngle p0 r) (fun u t => mw_at (dC, dI) vwCl [] [] (va_A [] sz) t) (va_A [] sz)) 0 0 (va_A [] sz) := by
  refine Met.ofW (cc := cX6_isAngle) (maxL := 1) (ret := (some .boolean)) (by decide) rfl ?_
  intro p e s m args below meth c s₁ B hml hv
  obtain ⟨rfl, hsz, hP, hK, hD0, hN⟩ := hv
  have hx := B.exec
  have hb := B.bytes
  have hr := B.returns
  have hts := atoms_spec (ws := wsX6_isAngle) B.pre
  have hown : s.vm.findClass RX6 = some m.cls := findClass_of_methodNamed B.named
  have hlocks := B.notSynchronized
  subst hsz
  have hD := hD0.self (sz := s.heap.size)
  generalize hAe : va_A [] s.heap.size = A at hD ⊢
  have hA : ∀ q : Nat, s.heap.size ≤ q → A q := fun q h => by rw [← hAe]; exact Or.inr h
  have hS : va_S A s.heap s.heap [] := va_S.rf
  have hP : va_P (dC, dI) vwCl [] s.heap := hP
  have hl := lv_entry ([.int p0]) (n := 1) (Nat.le_of_ble_eq_true rfl)
  rw [lg_entry_eq]
  generalize (lg_sl ([.int p0]) ++ List.replicate (1 - (lg_sl ([.int p0])).length) Slot.unset).toArray = ls at hl ⊢
  have hl : lv_has ls 1 [(0, .int p0)] := hl
  have hw0 := hts (.constantLong RX6 51 (65535)) (by decide +kernel)
  refine lv_iload_n hx hb dX6_isAngle_0 rfl (lv_at hl 0 rfl) ?_
  refine lv_i2l hx hb dX6_isAngle_1 rfl ?_
  refine lv_lconst (v := 0) hx hb dX6_isAngle_2 (by decide) ?_
  refine lv_ldc2 hx hb hown hw0 dX6_isAngle_3 ?_
  refine mw_calli (wc := []) (wr := []) (w1 := fun (u : Unit) => []) (tyc := fun (u : Unit) => []) hP hD hS hA [] [] rfl rfl (by decide) (by decide) (va_runS (As := [.long (p0.toInt64), .long (0 : Int64), .long (65535 : Int64)]) (rest := []) ⟨hx, hb, hml, hown, hts⟩ (c_X6_in l dC dI (p0.toInt64) (0 : Int64) (65535 : Int64) s.heap.size ) (va_cwS 3 hts gX6_isAngle_X6_in rfl rfl rfl (by decide +kernel) ⟨(Nat.le_of_ble_eq_true rfl), (Nat.le_of_ble_eq_true rfl)⟩) (mw_preS (hP.sub (ws' := []) [] rfl) (hD.sub (ws' := []) [] (by decide) rfl) (hK.sub (tys' := []) [] rfl) hN) rfl rfl hl.1 rfl (lv_room (Nat.le_of_ble_eq_true rfl)) dX6_isAngle_6 ⟨(Nat.le_of_ble_eq_true rfl), (Nat.le_of_ble_eq_true rfl)⟩) (fun r1 u H locs hw_2 hP hD hS hK1 => ?_)
  have hw_2 : R_X6_in (p0.toInt64) (0 : Int64) (65535 : Int64) r1 := hw_2
  have hP : va_P (dC, dI) vwCl [] H := hP
  have hD : va_D A [] := hD
  have hP9 := hP.sub (ws' := []) [] rfl
  have hD9 := hD.sub (ws' := []) [] (by decide) rfl
  have hK9 := hK.sub (tys' := []) [] rfl
  exact W.zret (v := r1) hx hb hr (mw_nb (b_X6_in_r hw_2)) (fun t ht hW => ⟨⟨r1, (), rfl, ⟨r1, hw_2, rfl⟩, (by rw [ht]; exact hP9), va_K.moved hW.alike hK9, hD9⟩, hS.F ht⟩) hS.2.2 dX6_isAngle_9
def R_X6_isCurrent (p0 : Int32) (r : Int32) : Prop := ∃ (r1 : Int32), R_X6_in (p0.toInt64) (-32000 : Int64) (32000 : Int64) r1 ∧ (r = r1)
theorem b_X6_isCurrent_r {p0 : Int32} {r : Int32}  (h : R_X6_isCurrent p0 r) : r = 0 ∨ r = 1 := by
  unfold R_X6_isCurrent at h
  obtain ⟨r1, h_r1, h⟩ := h
  rw [h]; exact (b_X6_in_r h_r1)
set_option maxHeartbeats 4000000 in
set_option maxRecDepth 100000 in
theorem c_X6_isCurrent (l : Launch) (dC : Nat → ClassId) (dI : Nat → Nat → Nat) (p0 : Int32) (sz : Nat)  : Met l yX6_isCurrent wsX6_isCurrent ({ frames := 1, cells := 0, slots := 0, locals := 25 }) (va_Pc [.int p0] (mw_pre (dC, dI) vwCl [] [] sz)) (va_Qi (fun (r : Int32) (u : Unit) => R_X6_isCurrent p0 r) (fun u t => mw_at (dC, dI) vwCl [] [] (va_A [] sz) t) (va_A [] sz)) 0 0 (va_A [] sz) := by
  refine Met.ofW (cc := cX6_isCurrent) (maxL := 1) (ret := (some .boolean)) (by decide) rfl ?_
  intro p e s m args below meth c s₁ B hml hv
  obtain ⟨rfl, hsz, hP, hK, hD0, hN⟩ := hv
  have hx := B.exec
  have hb := B.bytes
  have hr := B.returns
  have hts := atoms_spec (ws := wsX6_isCurrent) B.pre
  have hown : s.vm.findClass RX6 = some m.cls := findClass_of_methodNamed B.named
  have hlocks := B.notSynchronized
  subst hsz
  have hD := hD0.self (sz := s.heap.size)
  generalize hAe : va_A [] s.heap.size = A at hD ⊢
  have hA : ∀ q : Nat, s.heap.size ≤ q → A q := fun q h => by rw [← hAe]; exact Or.inr h
  have hS : va_S A s.heap s.heap [] := va_S.rf
  have hP : va_P (dC, dI) vwCl [] s.heap := hP
  have hl := lv_entry ([.int p0]) (n := 1) (Nat.le_of_ble_eq_true rfl)
  rw [lg_entry_eq]
  generalize (lg_sl ([.int p0]) ++ List.replicate (1 - (lg_sl ([.int p0])).length) Slot.unset).toArray = ls at hl ⊢
  have hl : lv_has ls 1 [(0, .int p0)] := hl
  have hw0 := hts (.constantLong RX6 57 (-32000)) (by decide +kernel)
  have hw1 := hts (.constantLong RX6 59 (32000)) (by decide +kernel)
  refine lv_iload_n hx hb dX6_isCurrent_0 rfl (lv_at hl 0 rfl) ?_
  refine lv_i2l hx hb dX6_isCurrent_1 rfl ?_
  refine lv_ldc2 hx hb hown hw0 dX6_isCurrent_2 ?_
  refine lv_ldc2 hx hb hown hw1 dX6_isCurrent_5 ?_
  refine mw_calli (wc := []) (wr := []) (w1 := fun (u : Unit) => []) (tyc := fun (u : Unit) => []) hP hD hS hA [] [] rfl rfl (by decide) (by decide) (va_runS (As := [.long (p0.toInt64), .long (-32000 : Int64), .long (32000 : Int64)]) (rest := []) ⟨hx, hb, hml, hown, hts⟩ (c_X6_in l dC dI (p0.toInt64) (-32000 : Int64) (32000 : Int64) s.heap.size ) (va_cwS 3 hts gX6_isCurrent_X6_in rfl rfl rfl (by decide +kernel) ⟨(Nat.le_of_ble_eq_true rfl), (Nat.le_of_ble_eq_true rfl)⟩) (mw_preS (hP.sub (ws' := []) [] rfl) (hD.sub (ws' := []) [] (by decide) rfl) (hK.sub (tys' := []) [] rfl) hN) rfl rfl hl.1 rfl (lv_room (Nat.le_of_ble_eq_true rfl)) dX6_isCurrent_8 ⟨(Nat.le_of_ble_eq_true rfl), (Nat.le_of_ble_eq_true rfl)⟩) (fun r1 u H locs hw_2 hP hD hS hK1 => ?_)
  have hw_2 : R_X6_in (p0.toInt64) (-32000 : Int64) (32000 : Int64) r1 := hw_2
  have hP : va_P (dC, dI) vwCl [] H := hP
  have hD : va_D A [] := hD
  have hP9 := hP.sub (ws' := []) [] rfl
  have hD9 := hD.sub (ws' := []) [] (by decide) rfl
  have hK9 := hK.sub (tys' := []) [] rfl
  exact W.zret (v := r1) hx hb hr (mw_nb (b_X6_in_r hw_2)) (fun t ht hW => ⟨⟨r1, (), rfl, ⟨r1, hw_2, rfl⟩, (by rw [ht]; exact hP9), va_K.moved hW.alike hK9, hD9⟩, hS.F ht⟩) hS.2.2 dX6_isCurrent_11
def R_X6_backAlpha (p0 : Int64) (p1 : Int64) (p2 : Int32) (r : Int64) : Prop := ∃ (r1 : Int64), R_X6_cosineOf p2 r1 ∧ (∃ (r3 : Int64), R_X6_sineOf p2 r3 ∧ (r = (((p0 * r1) - (p1 * r3)) >>> (15 : Int64))))
set_option maxHeartbeats 4000000 in
set_option maxRecDepth 100000 in
theorem c_X6_backAlpha (l : Launch) (dC : Nat → ClassId) (dI : Nat → Nat → Nat) (p0 : Int64) (p1 : Int64) (p2 : Int32) (sz : Nat)  : Met l yX6_backAlpha wsX6_backAlpha ({ frames := 2, cells := 0, slots := 0, locals := 46 }) (va_Pc [.long p0, .long p1, .int p2] (mw_pre (dC, dI) vwCl [] [] sz)) (va_Ql (fun (r : Int64) (u : Unit) => R_X6_backAlpha p0 p1 p2 r) (fun u t => mw_at (dC, dI) vwCl [] [] (va_A [] sz) t) (va_A [] sz)) 0 0 (va_A [] sz) := by
  refine Met.ofW (cc := cX6_backAlpha) (maxL := 5) (ret := (some .long)) (by decide) rfl ?_
  intro p e s m args below meth c s₁ B hml hv
  obtain ⟨rfl, hsz, hP, hK, hD0, hN⟩ := hv
  have hx := B.exec
  have hb := B.bytes
  have hr := B.returns
  have hts := atoms_spec (ws := wsX6_backAlpha) B.pre
  have hown : s.vm.findClass RX6 = some m.cls := findClass_of_methodNamed B.named
  have hlocks := B.notSynchronized
  subst hsz
  have hD := hD0.self (sz := s.heap.size)
  generalize hAe : va_A [] s.heap.size = A at hD ⊢
  have hA : ∀ q : Nat, s.heap.size ≤ q → A q := fun q h => by rw [← hAe]; exact Or.inr h
  have hS : va_S A s.heap s.heap [] := va_S.rf
  have hP : va_P (dC, dI) vwCl [] s.heap := hP
  have hl := lv_entry ([.long p0, .long p1, .int p2]) (n := 5) (Nat.le_of_ble_eq_true rfl)
  rw [lg_entry_eq]
  generalize (lg_sl ([.long p0, .long p1, .int p2]) ++ List.replicate (5 - (lg_sl ([.long p0, .long p1, .int p2])).length) Slot.unset).toArray = ls at hl ⊢
  have hl : lv_has ls 5 [(0, .long p0), (2, .long p1), (4, .int p2)] := hl
  refine lv_lload_n hx hb dX6_backAlpha_0 rfl (lv_at hl 0 rfl) ?_
  refine lv_iload hx hb dX6_backAlpha_1 (lv_at hl 2 rfl) ?_
  refine mw_calll (wc := []) (wr := []) (w1 := fun (u : Unit) => []) (tyc := fun (u : Unit) => []) hP hD hS hA [] [] rfl rfl (by decide) (by decide) (va_runS (As := [.int p2]) (rest := [.long p0]) ⟨hx, hb, hml, hown, hts⟩ (c_X6_cosineOf l dC dI p2 s.heap.size ) (va_cwS 1 hts gX6_backAlpha_X6_cosineOf rfl rfl rfl (by decide +kernel) ⟨(Nat.le_of_ble_eq_true rfl), (Nat.le_of_ble_eq_true rfl)⟩) (mw_preS (hP.sub (ws' := []) [] rfl) (hD.sub (ws' := []) [] (by decide) rfl) (hK.sub (tys' := []) [] rfl) hN) rfl rfl hl.1 rfl (lv_room (Nat.le_of_ble_eq_true rfl)) dX6_backAlpha_3 ⟨(Nat.le_of_ble_eq_true rfl), (Nat.le_of_ble_eq_true rfl)⟩) (fun r1 u H locs hw_2 hP hD hS hK1 => ?_)
  have hw_2 : R_X6_cosineOf p2 r1 := hw_2
  have hP : va_P (dC, dI) vwCl [] H := hP
  have hD : va_D A [] := hD
  refine lv_lmul hx hb dX6_backAlpha_6 ?_
  refine lv_lload_n hx hb dX6_backAlpha_7 rfl (lv_at hl 1 rfl) ?_
  refine lv_iload hx hb dX6_backAlpha_8 (lv_at hl 2 rfl) ?_
  refine mw_calll (wc := []) (wr := []) (w1 := fun (u : Unit) => []) (tyc := fun (u : Unit) => []) hP hD hS hA [] [] rfl rfl (by decide) (by decide) (va_runS (As := [.int p2]) (rest := [.long p1, .long (p0 * r1)]) ⟨hx, hb, hml, hown, hts⟩ (c_X6_sineOf l dC dI p2 H.size ) (va_cwS 1 hts gX6_backAlpha_X6_sineOf rfl rfl rfl (by decide +kernel) ⟨(Nat.le_of_ble_eq_true rfl), (Nat.le_of_ble_eq_true rfl)⟩) (mw_preS (hP.sub (ws' := []) [] rfl) (hD.sub (ws' := []) [] (by decide) rfl) (hK.sub (tys' := []) [] rfl) hN) rfl rfl hl.1 rfl (lv_room (Nat.le_of_ble_eq_true rfl)) dX6_backAlpha_10 ⟨(Nat.le_of_ble_eq_true rfl), (Nat.le_of_ble_eq_true rfl)⟩) (fun r3 u H locs hw_4 hP hD hS hK1 => ?_)
  have hw_4 : R_X6_sineOf p2 r3 := hw_4
  have hP : va_P (dC, dI) vwCl [] H := hP
  have hD : va_D A [] := hD
  refine lv_lmul hx hb dX6_backAlpha_13 ?_
  refine lv_lsub hx hb dX6_backAlpha_14 ?_
  refine lv_bipush (v := 15) hx hb dX6_backAlpha_15 (by decide) ?_
  refine lv_lshr hx hb dX6_backAlpha_17 (mw_sh _ _ 15 (by decide)) ?_
  have hP9 := hP.sub (ws' := []) [] rfl
  have hD9 := hD.sub (ws' := []) [] (by decide) rfl
  have hK9 := hK.sub (tys' := []) [] rfl
  exact W.lret (v := (((p0 * r1) - (p1 * r3)) >>> (15 : Int64))) hx hb hr (fun t ht hW => ⟨⟨(((p0 * r1) - (p1 * r3)) >>> (15 : Int64)), (), rfl, ⟨r1, hw_2, ⟨r3, hw_4, rfl⟩⟩, (by rw [ht]; exact hP9), va_K.moved hW.alike hK9, hD9⟩, hS.F ht⟩) hS.2.2 dX6_backAlpha_18
def R_X6_backBeta (p0 : Int64) (p1 : Int64) (p2 : Int32) (r : Int64) : Prop := ∃ (r1 : Int64), R_X6_sineOf p2 r1 ∧ (∃ (r3 : Int64), R_X6_cosineOf p2 r3 ∧ (r = (((p0 * r1) + (p1 * r3)) >>> (15 : Int64))))
set_option maxHeartbeats 4000000 in
set_option maxRecDepth 100000 in
theorem c_X6_backBeta (l : Launch) (dC : Nat → ClassId) (dI : Nat → Nat → Nat) (p0 : Int64) (p1 : Int64) (p2 : Int32) (sz : Nat)  : Met l yX6_backBeta wsX6_backBeta ({ frames := 2, cells := 0, slots := 0, locals := 46 }) (va_Pc [.long p0, .long p1, .int p2] (mw_pre (dC, dI) vwCl [] [] sz)) (va_Ql (fun (r : Int64) (u : Unit) => R_X6_backBeta p0 p1 p2 r) (fun u t => mw_at (dC, dI) vwCl [] [] (va_A [] sz) t) (va_A [] sz)) 0 0 (va_A [] sz) := by
  refine Met.ofW (cc := cX6_backBeta) (maxL := 5) (ret := (some .long)) (by decide) rfl ?_
  intro p e s m args below meth c s₁ B hml hv
  obtain ⟨rfl, hsz, hP, hK, hD0, hN⟩ := hv
  have hx := B.exec
  have hb := B.bytes
  have hr := B.returns
  have hts := atoms_spec (ws := wsX6_backBeta) B.pre
  have hown : s.vm.findClass RX6 = some m.cls := findClass_of_methodNamed B.named
  have hlocks := B.notSynchronized
  subst hsz
  have hD := hD0.self (sz := s.heap.size)
  generalize hAe : va_A [] s.heap.size = A at hD ⊢
  have hA : ∀ q : Nat, s.heap.size ≤ q → A q := fun q h => by rw [← hAe]; exact Or.inr h
  have hS : va_S A s.heap s.heap [] := va_S.rf
  have hP : va_P (dC, dI) vwCl [] s.heap := hP
  have hl := lv_entry ([.long p0, .long p1, .int p2]) (n := 5) (Nat.le_of_ble_eq_true rfl)
  rw [lg_entry_eq]
  generalize (lg_sl ([.long p0, .long p1, .int p2]) ++ List.replicate (5 - (lg_sl ([.long p0, .long p1, .int p2])).length) Slot.unset).toArray = ls at hl ⊢
  have hl : lv_has ls 5 [(0, .long p0), (2, .long p1), (4, .int p2)] := hl
  refine lv_lload_n hx hb dX6_backBeta_0 rfl (lv_at hl 0 rfl) ?_
  refine lv_iload hx hb dX6_backBeta_1 (lv_at hl 2 rfl) ?_
  refine mw_calll (wc := []) (wr := []) (w1 := fun (u : Unit) => []) (tyc := fun (u : Unit) => []) hP hD hS hA [] [] rfl rfl (by decide) (by decide) (va_runS (As := [.int p2]) (rest := [.long p0]) ⟨hx, hb, hml, hown, hts⟩ (c_X6_sineOf l dC dI p2 s.heap.size ) (va_cwS 1 hts gX6_backBeta_X6_sineOf rfl rfl rfl (by decide +kernel) ⟨(Nat.le_of_ble_eq_true rfl), (Nat.le_of_ble_eq_true rfl)⟩) (mw_preS (hP.sub (ws' := []) [] rfl) (hD.sub (ws' := []) [] (by decide) rfl) (hK.sub (tys' := []) [] rfl) hN) rfl rfl hl.1 rfl (lv_room (Nat.le_of_ble_eq_true rfl)) dX6_backBeta_3 ⟨(Nat.le_of_ble_eq_true rfl), (Nat.le_of_ble_eq_true rfl)⟩) (fun r1 u H locs hw_2 hP hD hS hK1 => ?_)
  have hw_2 : R_X6_sineOf p2 r1 := hw_2
  have hP : va_P (dC, dI) vwCl [] H := hP
  have hD : va_D A [] := hD
  refine lv_lmul hx hb dX6_backBeta_6 ?_
  refine lv_lload_n hx hb dX6_backBeta_7 rfl (lv_at hl 1 rfl) ?_
  refine lv_iload hx hb dX6_backBeta_8 (lv_at hl 2 rfl) ?_
  refine mw_calll (wc := []) (wr := []) (w1 := fun (u : Unit) => []) (tyc := fun (u : Unit) => []) hP hD hS hA [] [] rfl rfl (by decide) (by decide) (va_runS (As := [.int p2]) (rest := [.long p1, .long (p0 * r1)]) ⟨hx, hb, hml, hown, hts⟩ (c_X6_cosineOf l dC dI p2 H.size ) (va_cwS 1 hts gX6_backBeta_X6_cosineOf rfl rfl rfl (by decide +kernel) ⟨(Nat.le_of_ble_eq_true rfl), (Nat.le_of_ble_eq_true rfl)⟩) (mw_preS (hP.sub (ws' := []) [] rfl) (hD.sub (ws' := []) [] (by decide) rfl) (hK.sub (tys' := []) [] rfl) hN) rfl rfl hl.1 rfl (lv_room (Nat.le_of_ble_eq_true rfl)) dX6_backBeta_10 ⟨(Nat.le_of_ble_eq_true rfl), (Nat.le_of_ble_eq_true rfl)⟩) (fun r3 u H locs hw_4 hP hD hS hK1 => ?_)
  have hw_4 : R_X6_cosineOf p2 r3 := hw_4
  have hP : va_P (dC, dI) vwCl [] H := hP
  have hD : va_D A [] := hD
  refine lv_lmul hx hb dX6_backBeta_13 ?_
  refine lv_ladd hx hb dX6_backBeta_14 ?_
  refine lv_bipush (v := 15) hx hb dX6_backBeta_15 (by decide) ?_
  refine lv_lshr hx hb dX6_backBeta_17 (mw_sh _ _ 15 (by decide)) ?_
  have hP9 := hP.sub (ws' := []) [] rfl
  have hD9 := hD.sub (ws' := []) [] (by decide) rfl
  have hK9 := hK.sub (tys' := []) [] rfl
  exact W.lret (v := (((p0 * r1) + (p1 * r3)) >>> (15 : Int64))) hx hb hr (fun t ht hW => ⟨⟨(((p0 * r1) + (p1 * r3)) >>> (15 : Int64)), (), rfl, ⟨r1, hw_2, ⟨r3, hw_4, rfl⟩⟩, (by rw [ht]; exact hP9), va_K.moved hW.alike hK9, hD9⟩, hS.F ht⟩) hS.2.2 dX6_backBeta_18
def RG_X6_stepOf_27 (p2 : Int64) (p4 : Int64) (v1 : Int64) (r2 : Int32) (x11 : Int32) : Prop := (r2 = (0 : Int32) → (((0 : Int64) ≤ p4 → ((p4 ≤ (0 : Int64) → (x11 = (0 : Int32))) ∧ (¬ (p4 ≤ (0 : Int64)) → (((-p2) ≤ v1 → (x11 = (0 : Int32))) ∧ (¬ ((-p2) ≤ v1) → (x11 = (1 : Int32))))))) ∧ (¬ ((0 : Int64) ≤ p4) → ((p2 < v1 → (x11 = (1 : Int32))) ∧ (¬ (p2 < v1) → ((p4 ≤ (0 : Int64) → (x11 = (0 : Int32))) ∧ (¬ (p4 ≤ (0 : Int64)) → (((-p2) ≤ v1 → (x11 = (0 : Int32))) ∧ (¬ ((-p2) ≤ v1) → (x11 = (1 : Int32))))))))))) ∧ (¬ (r2 = (0 : Int32)) → (x11 = (1 : Int32)))
theorem b_RG_X6_stepOf_27_x11 {p2 : Int64} {p4 : Int64} {v1 : Int64} {r2 : Int32} {x11 : Int32} (hb_r2 : r2 = 0 ∨ r2 = 1) (h : RG_X6_stepOf_27 p2 p4 v1 r2 x11) : x11 = 0 ∨ x11 = 1 := by
  unfold RG_X6_stepOf_27 at h
  by_cases q : r2 = (0 : Int32)
  · have h := h.1 q
    by_cases q : (0 : Int64) ≤ p4
    · have h := h.1 q
      by_cases q : p4 ≤ (0 : Int64)
      · have h := h.1 q
        exact Or.inl h
      · have h := h.2 q
        by_cases q : (-p2) ≤ v1
        · have h := h.1 q
          exact Or.inl h
        · have h := h.2 q
          exact Or.inr h
    · have h := h.2 q
      by_cases q : p2 < v1
      · have h := h.1 q
        exact Or.inr h
      · have h := h.2 q
        by_cases q : p4 ≤ (0 : Int64)
        · have h := h.1 q
          exact Or.inl h
        · have h := h.2 q
          by_cases q : (-p2) ≤ v1
          · have h := h.1 q
            exact Or.inl h
          · have h := h.2 q
            exact Or.inr h
  · have h := h.2 q
    exact Or.inr h
def RG_X6_stepOf_71 (p1 : Int64) (p3 : Int64) (p4 : Int64) (x11 : Int32) (x14 : Int64) : Prop := (x11 = (0 : Int32) → (x14 = p3)) ∧ (¬ (x11 = (0 : Int32)) → (x14 = (p3 + (p1 * p4))))
def R_X6_stepOf (p0 : Int64) (p1 : Int64) (p2 : Int64) (p3 : Int64) (p4 : Int64) (r : Int64) (u_0_behind : Int64) : Prop := ∃ v1 : Int64, v1 = ((((p0 * p4) + p3) + (p1 * p4)) >>> (8 : Int64)) ∧ (∃ (r2 : Int32), R_X6_in v1 (-p2) p2 r2 ∧ (∃ (x11 : Int32), RG_X6_stepOf_27 p2 p4 v1 r2 x11 ∧ (∃ (x14 : Int64), RG_X6_stepOf_71 p1 p3 p4 x11 x14 ∧ (∃ (r16 : Int64), R_X6_clamp v1 p2 r16 ∧ (r = r16 ∧ u_0_behind = x14)))))
set_option maxHeartbeats 4000000 in
set_option maxRecDepth 100000 in
theorem c_X6_stepOf (l : Launch) (dC : Nat → ClassId) (dI : Nat → Nat → Nat) (h0 : Nat) (a_rules : Nat) (a_kps : Nat) (a_kis : Nat) (a_sums : Nat) (f_lost : Int32) (f_state : Int32) (f_fault : Int32) (f_currentD : Int64) (f_currentQ : Int64) (f_pace : Int64) (f_angle : Int32) (a_onTimes : Nat) (f_over : Int32) (f_voltD : Int64) (f_voltQ : Int64) (f_heat : Int64) (f_beats : Int32) (f_aligned : Int32) (a_ringBeats : Nat) (a_ringStates : Nat) (a_ringFaults : Nat) (f_changes : Int32) (a_found : Nat) (f_foundOver : Int32) (f_behind : Int64) (p0 : Int64) (p1 : Int64) (p2 : Int64) (p3 : Int64) (p4 : Int64) (sz : Nat)  : Met l yX6_stepOf wsX6_stepOf ({ frames := 1, cells := 0, slots := 0, locals := 25 }) (va_Pc [.ref h0, .long p0, .long p1, .long p2, .long p3, .long p4] (mw_pre (dC, dI) vwCl [(h0, .inr (5, [.ref a_rules, .ref a_kps, .ref a_kis, .ref a_sums, .int f_lost, .int f_state, .int f_fault, .long f_currentD, .long f_currentQ, .long f_pace, .int f_angle, .ref a_onTimes, .int f_over, .long f_voltD, .long f_voltQ, .long f_heat, .int f_beats, .int f_aligned, .ref a_ringBeats, .ref a_ringStates, .ref a_ringFaults, .int f_changes, .ref a_found, .int f_foundOver, .long f_behind]))] [] sz)) (va_Ql (fun (r : Int64) (u : Int64) => R_X6_stepOf p0 p1 p2 p3 p4 r u) (fun u t => mw_at (dC, dI) vwCl [(h0, .inr (5, [.ref a_rules, .ref a_kps, .ref a_kis, .ref a_sums, .int f_lost, .int f_state, .int f_fault, .long f_currentD, .long f_currentQ, .long f_pace, .int f_angle, .ref a_onTimes, .int f_over, .long f_voltD, .long f_voltQ, .long f_heat, .int f_beats, .int f_aligned, .ref a_ringBeats, .ref a_ringStates, .ref a_ringFaults, .int f_changes, .ref a_found, .int f_foundOver, .long u]))] [] (va_A [(h0, .inr (5, [.ref a_rules, .ref a_kps, .ref a_kis, .ref a_sums, .int f_lost, .int f_state, .int f_fault, .long f_currentD, .long f_currentQ, .long f_pace, .int f_angle, .ref a_onTimes, .int f_over, .long f_voltD, .long f_voltQ, .long f_heat, .int f_beats, .int f_aligned, .ref a_ringBeats, .ref a_ringStates, .ref a_ringFaults, .int f_changes, .ref a_found, .int f_foundOver, .long f_behind]))] sz) t) (va_A [(h0, .inr (5, [.ref a_rules, .ref a_kps, .ref a_kis, .ref a_sums, .int f_lost, .int f_state, .int f_fault, .long f_currentD, .long f_currentQ, .long f_pace, .int f_angle, .ref a_onTimes, .int f_over, .long f_voltD, .long f_voltQ, .long f_heat, .int f_beats, .int f_aligned, .ref a_ringBeats, .ref a_ringStates, .ref a_ringFaults, .int f_changes, .ref a_found, .int f_foundOver, .long f_behind]))] sz)) 0 0 (va_A [(h0, .inr (5, [.ref a_rules, .ref a_kps, .ref a_kis, .ref a_sums, .int f_lost, .int f_state, .int f_fault, .long f_currentD, .long f_currentQ, .long f_pace, .int f_angle, .ref a_onTimes, .int f_over, .long f_voltD, .long f_voltQ, .long f_heat, .int f_beats, .int f_aligned, .ref a_ringBeats, .ref a_ringStates, .ref a_ringFaults, .int f_changes, .ref a_found, .int f_foundOver, .long f_behind]))] sz) := by
  refine Met.ofW (cc := cX6_stepOf) (maxL := 14) (ret := (some .long)) (by decide) rfl ?_
  intro p e s m args below meth c s₁ B hml hv
  obtain ⟨rfl, hsz, hP, hK, hD0, hN⟩ := hv
  have hx := B.exec
  have hb := B.bytes
  have hr := B.returns
  have hts := atoms_spec (ws := wsX6_stepOf) B.pre
  have hown : s.vm.findClass RX6 = some m.cls := findClass_of_methodNamed B.named
  have hlocks := B.notSynchronized
  subst hsz
  have hD := hD0.self (sz := s.heap.size)
  generalize hAe : va_A [(h0, .inr (5, [.ref a_rules, .ref a_kps, .ref a_kis, .ref a_sums, .int f_lost, .int f_state, .int f_fault, .long f_currentD, .long f_currentQ, .long f_pace, .int f_angle, .ref a_onTimes, .int f_over, .long f_voltD, .long f_voltQ, .long f_heat, .int f_beats, .int f_aligned, .ref a_ringBeats, .ref a_ringStates, .ref a_ringFaults, .int f_changes, .ref a_found, .int f_foundOver, .long f_behind]))] s.heap.size = A at hD ⊢
  have hA : ∀ q : Nat, s.heap.size ≤ q → A q := fun q h => by rw [← hAe]; exact Or.inr h
  have hS : va_S A s.heap s.heap [] := va_S.rf
  have hP : va_P (dC, dI) vwCl [(h0, .inr (5, [.ref a_rules, .ref a_kps, .ref a_kis, .ref a_sums, .int f_lost, .int f_state, .int f_fault, .long f_currentD, .long f_currentQ, .long f_pace, .int f_angle, .ref a_onTimes, .int f_over, .long f_voltD, .long f_voltQ, .long f_heat, .int f_beats, .int f_aligned, .ref a_ringBeats, .ref a_ringStates, .ref a_ringFaults, .int f_changes, .ref a_found, .int f_foundOver, .long f_behind]))] s.heap := hP
  have hl := lv_entry ([.ref h0, .long p0, .long p1, .long p2, .long p3, .long p4]) (n := 14) (Nat.le_of_ble_eq_true rfl)
  rw [lg_entry_eq]
  generalize (lg_sl ([.ref h0, .long p0, .long p1, .long p2, .long p3, .long p4]) ++ List.replicate (14 - (lg_sl ([.ref h0, .long p0, .long p1, .long p2, .long p3, .long p4])).length) Slot.unset).toArray = ls at hl ⊢
  have hl : lv_has ls 14 [(0, .ref h0), (1, .long p0), (3, .long p1), (5, .long p2), (7, .long p3), (9, .long p4)] := hl
  have hw0 := hts (.fieldLink RX6 108 "TurnedFieldsModel" "behind" "J") (by decide +kernel)
  have hinX6 : ∀ w ∈ wsX60, w ∈ wsX6_stepOf := by decide +kernel
  refine lv_lload_n hx hb dX6_stepOf_0 rfl (lv_at hl 1 rfl) ?_
  refine lv_lload hx hb dX6_stepOf_1 (lv_at hl 5 rfl) ?_
  refine lv_lmul hx hb dX6_stepOf_3 ?_
  refine lv_lload hx hb dX6_stepOf_4 (lv_at hl 4 rfl) ?_
  refine lv_ladd hx hb dX6_stepOf_6 ?_
  refine lv_lload_n hx hb dX6_stepOf_7 rfl (lv_at hl 2 rfl) ?_
  refine lv_lload hx hb dX6_stepOf_8 (lv_at hl 5 rfl) ?_
  refine lv_lmul hx hb dX6_stepOf_10 ?_
  refine lv_ladd hx hb dX6_stepOf_11 ?_
  refine lv_bipush (v := 8) hx hb dX6_stepOf_12 (by decide) ?_
  refine lv_lshr hx hb dX6_stepOf_14 (mw_sh _ _ 8 (by decide)) ?_
  refine lv_topl (fun v1 ev1 => ?_)
  refine lv_lstore (lv' := [(11, .long v1), (0, .ref h0), (1, .long p0), (3, .long p1), (5, .long p2), (7, .long p3), (9, .long p4)]) hx hb dX6_stepOf_15 hl (by decide) rfl (fun ls hl => ?_)
  refine lv_lload hx hb dX6_stepOf_17 (lv_at hl 0 rfl) ?_
  refine lv_lload hx hb dX6_stepOf_19 (lv_at hl 4 rfl) ?_
  refine lv_lneg hx hb dX6_stepOf_21 ?_
  refine lv_lload hx hb dX6_stepOf_22 (lv_at hl 4 rfl) ?_
  refine mw_calli (wc := []) (wr := [(h0, .inr (5, [.ref a_rules, .ref a_kps, .ref a_kis, .ref a_sums, .int f_lost, .int f_state, .int f_fault, .long f_currentD, .long f_currentQ, .long f_pace, .int f_angle, .ref a_onTimes, .int f_over, .long f_voltD, .long f_voltQ, .long f_heat, .int f_beats, .int f_aligned, .ref a_ringBeats, .ref a_ringStates, .ref a_ringFaults, .int f_changes, .ref a_found, .int f_foundOver, .long f_behind]))]) (w1 := fun (u : Unit) => []) (tyc := fun (u : Unit) => []) hP hD hS hA [] [0] rfl rfl (by decide) (by decide) (va_runS (As := [.long v1, .long (-p2), .long p2]) (rest := []) ⟨hx, hb, hml, hown, hts⟩ (c_X6_in l dC dI v1 (-p2) p2 s.heap.size ) (va_cwS 3 hts gX6_stepOf_X6_in rfl rfl rfl (by decide +kernel) ⟨(Nat.le_of_ble_eq_true rfl), (Nat.le_of_ble_eq_true rfl)⟩) (mw_preS (hP.sub (ws' := []) [] rfl) (hD.sub (ws' := []) [] (by decide) rfl) (hK.sub (tys' := []) [] rfl) hN) rfl rfl hl.1 rfl (lv_room (Nat.le_of_ble_eq_true rfl)) dX6_stepOf_24 ⟨(Nat.le_of_ble_eq_true rfl), (Nat.le_of_ble_eq_true rfl)⟩) (fun r2 u H locs hw_3 hP hD hS hK1 => ?_)
  have hw_3 : R_X6_in v1 (-p2) p2 r2 := hw_3
  have hP : va_P (dC, dI) vwCl [(h0, .inr (5, [.ref a_rules, .ref a_kps, .ref a_kis, .ref a_sums, .int f_lost, .int f_state, .int f_fault, .long f_currentD, .long f_currentQ, .long f_pace, .int f_angle, .ref a_onTimes, .int f_over, .long f_voltD, .long f_voltQ, .long f_heat, .int f_beats, .int f_aligned, .ref a_ringBeats, .ref a_ringStates, .ref a_ringFaults, .int f_changes, .ref a_found, .int f_foundOver, .long f_behind]))] H := hP
  have hD : va_D A [(h0, .inr (5, [.ref a_rules, .ref a_kps, .ref a_kis, .ref a_sums, .int f_lost, .int f_state, .int f_fault, .long f_currentD, .long f_currentQ, .long f_pace, .int f_angle, .ref a_onTimes, .int f_over, .long f_voltD, .long f_voltQ, .long f_heat, .int f_beats, .int f_aligned, .ref a_ringBeats, .ref a_ringStates, .ref a_ringFaults, .int f_changes, .ref a_found, .int f_foundOver, .long f_behind]))] := hD
  refine mw_jn (X := Int32) (D := (dC, dI)) (cl := vwCl) (A := A) (H0 := s.heap) (nL := 14) (fun x => [(h0, .inr (5, [.ref a_rules, .ref a_kps, .ref a_kis, .ref a_sums, .int f_lost, .int f_state, .int f_fault, .long f_currentD, .long f_currentQ, .long f_pace, .int f_angle, .ref a_onTimes, .int f_over, .long f_voltD, .long f_voltQ, .long f_heat, .int f_beats, .int f_aligned, .ref a_ringBeats, .ref a_ringStates, .ref a_ringFaults, .int f_changes, .ref a_found, .int f_foundOver, .long f_behind]))]) (fun x => [(0, .ref h0), (3, .long p1), (5, .long p2), (7, .long p3), (9, .long p4), (11, .long v1)]) (fun x => [.int x]) 66 (fun x => RG_X6_stepOf_27 p2 p4 v1 r2 x) (fun x hx_ H locs ls hP hD hS hl => ?_) (fun J => ?_)
  · obtain ⟨x11, rfl⟩ : ∃ z, z = x := ⟨_, rfl⟩
    have hj12 : RG_X6_stepOf_27 p2 p4 v1 r2 x11 := hx_
    have hP : va_P (dC, dI) vwCl [(h0, .inr (5, [.ref a_rules, .ref a_kps, .ref a_kis, .ref a_sums, .int f_lost, .int f_state, .int f_fault, .long f_currentD, .long f_currentQ, .long f_pace, .int f_angle, .ref a_onTimes, .int f_over, .long f_voltD, .long f_voltQ, .long f_heat, .int f_beats, .int f_aligned, .ref a_ringBeats, .ref a_ringStates, .ref a_ringFaults, .int f_changes, .ref a_found, .int f_foundOver, .long f_behind]))] H := hP
    have hD : va_D A [(h0, .inr (5, [.ref a_rules, .ref a_kps, .ref a_kis, .ref a_sums, .int f_lost, .int f_state, .int f_fault, .long f_currentD, .long f_currentQ, .long f_pace, .int f_angle, .ref a_onTimes, .int f_over, .long f_voltD, .long f_voltQ, .long f_heat, .int f_beats, .int f_aligned, .ref a_ringBeats, .ref a_ringStates, .ref a_ringFaults, .int f_changes, .ref a_found, .int f_foundOver, .long f_behind]))] := hD
    have hl : lv_has ls 14 [(0, .ref h0), (3, .long p1), (5, .long p2), (7, .long p3), (9, .long p4), (11, .long v1)] := hl
    refine lv_istore (lv' := [(13, .int x11), (0, .ref h0), (3, .long p1), (5, .long p2), (7, .long p3), (9, .long p4), (11, .long v1)]) hx hb dX6_stepOf_66 hl (by decide) rfl (fun ls hl => ?_)
    refine lv_aload_n hx hb dX6_stepOf_68 rfl (lv_at hl 1 rfl) ?_
    refine lv_iload hx hb dX6_stepOf_69 (lv_at hl 0 rfl) ?_
    refine mw_jn (X := Int64) (D := (dC, dI)) (cl := vwCl) (A := A) (H0 := s.heap) (nL := 14) (fun x => [(h0, .inr (5, [.ref a_rules, .ref a_kps, .ref a_kis, .ref a_sums, .int f_lost, .int f_state, .int f_fault, .long f_currentD, .long f_currentQ, .long f_pace, .int f_angle, .ref a_onTimes, .int f_over, .long f_voltD, .long f_voltQ, .long f_heat, .int f_beats, .int f_aligned, .ref a_ringBeats, .ref a_ringStates, .ref a_ringFaults, .int f_changes, .ref a_found, .int f_foundOver, .long f_behind]))]) (fun x => [(5, .long p2), (11, .long v1)]) (fun x => [.long x, .ref h0]) 86 (fun x => RG_X6_stepOf_71 p1 p3 p4 x11 x) (fun x hx_ H locs ls hP hD hS hl => ?_) (fun J => ?_)
    · obtain ⟨x14, rfl⟩ : ∃ z, z = x := ⟨_, rfl⟩
      have hj15 : RG_X6_stepOf_71 p1 p3 p4 x11 x14 := hx_
      have hP : va_P (dC, dI) vwCl [(h0, .inr (5, [.ref a_rules, .ref a_kps, .ref a_kis, .ref a_sums, .int f_lost, .int f_state, .int f_fault, .long f_currentD, .long f_currentQ, .long f_pace, .int f_angle, .ref a_onTimes, .int f_over, .long f_voltD, .long f_voltQ, .long f_heat, .int f_beats, .int f_aligned, .ref a_ringBeats, .ref a_ringStates, .ref a_ringFaults, .int f_changes, .ref a_found, .int f_foundOver, .long f_behind]))] H := hP
      have hD : va_D A [(h0, .inr (5, [.ref a_rules, .ref a_kps, .ref a_kis, .ref a_sums, .int f_lost, .int f_state, .int f_fault, .long f_currentD, .long f_currentQ, .long f_pace, .int f_angle, .ref a_onTimes, .int f_over, .long f_voltD, .long f_voltQ, .long f_heat, .int f_beats, .int f_aligned, .ref a_ringBeats, .ref a_ringStates, .ref a_ringFaults, .int f_changes, .ref a_found, .int f_foundOver, .long f_behind]))] := hD
      have hl : lv_has ls 14 [(5, .long p2), (11, .long v1)] := hl
      refine va_put (D := (dC, dI)) (ci := 5) (v := .long x14) (ty := .long) (C := RX6) (T := TX6) (N := 25) hx hb hts hinX6 tyX6 tyX6_ok nmX6 hown hK hP hD hS 0 rfl rfl 24 (by decide) hw0 (fun _ h9 => h9) rfl (by decide +kernel) rfl rfl (Nat.le_of_ble_eq_true rfl) dX6_stepOf_86 (fun H locs hP hD hS => ?_)
      have hP : va_P (dC, dI) vwCl [(h0, .inr (5, [.ref a_rules, .ref a_kps, .ref a_kis, .ref a_sums, .int f_lost, .int f_state, .int f_fault, .long f_currentD, .long f_currentQ, .long f_pace, .int f_angle, .ref a_onTimes, .int f_over, .long f_voltD, .long f_voltQ, .long f_heat, .int f_beats, .int f_aligned, .ref a_ringBeats, .ref a_ringStates, .ref a_ringFaults, .int f_changes, .ref a_found, .int f_foundOver, .long x14]))] H := hP
      have hD : va_D A [(h0, .inr (5, [.ref a_rules, .ref a_kps, .ref a_kis, .ref a_sums, .int f_lost, .int f_state, .int f_fault, .long f_currentD, .long f_currentQ, .long f_pace, .int f_angle, .ref a_onTimes, .int f_over, .long f_voltD, .long f_voltQ, .long f_heat, .int f_beats, .int f_aligned, .ref a_ringBeats, .ref a_ringStates, .ref a_ringFaults, .int f_changes, .ref a_found, .int f_foundOver, .long x14]))] := hD
      refine lv_lload hx hb dX6_stepOf_89 (lv_at hl 1 rfl) ?_
      refine lv_lload hx hb dX6_stepOf_91 (lv_at hl 0 rfl) ?_
      refine mw_calll (wc := []) (wr := [(h0, .inr (5, [.ref a_rules, .ref a_kps, .ref a_kis, .ref a_sums, .int f_lost, .int f_state, .int f_fault, .long f_currentD, .long f_currentQ, .long f_pace, .int f_angle, .ref a_onTimes, .int f_over, .long f_voltD, .long f_voltQ, .long f_heat, .int f_beats, .int f_aligned, .ref a_ringBeats, .ref a_ringStates, .ref a_ringFaults, .int f_changes, .ref a_found, .int f_foundOver, .long x14]))]) (w1 := fun (u : Unit) => []) (tyc := fun (u : Unit) => []) hP hD hS hA [] [0] rfl rfl (by decide) (by decide) (va_runS (As := [.long v1, .long p2]) (rest := []) ⟨hx, hb, hml, hown, hts⟩ (c_X6_clamp l dC dI v1 p2 H.size ) (va_cwS 2 hts gX6_stepOf_X6_clamp rfl rfl rfl (by decide +kernel) ⟨(Nat.le_of_ble_eq_true rfl), (Nat.le_of_ble_eq_true rfl)⟩) (mw_preS (hP.sub (ws' := []) [] rfl) (hD.sub (ws' := []) [] (by decide) rfl) (hK.sub (tys' := []) [] rfl) hN) rfl rfl hl.1 rfl (lv_room (Nat.le_of_ble_eq_true rfl)) dX6_stepOf_93 ⟨(Nat.le_of_ble_eq_true rfl), (Nat.le_of_ble_eq_true rfl)⟩) (fun r16 u H locs hw_17 hP hD hS hK1 => ?_)
      have hw_17 : R_X6_clamp v1 p2 r16 := hw_17
      have hP : va_P (dC, dI) vwCl [(h0, .inr (5, [.ref a_rules, .ref a_kps, .ref a_kis, .ref a_sums, .int f_lost, .int f_state, .int f_fault, .long f_currentD, .long f_currentQ, .long f_pace, .int f_angle, .ref a_onTimes, .int f_over, .long f_voltD, .long f_voltQ, .long f_heat, .int f_beats, .int f_aligned, .ref a_ringBeats, .ref a_ringStates, .ref a_ringFaults, .int f_changes, .ref a_found, .int f_foundOver, .long x14]))] H := hP
      have hD : va_D A [(h0, .inr (5, [.ref a_rules, .ref a_kps, .ref a_kis, .ref a_sums, .int f_lost, .int f_state, .int f_fault, .long f_currentD, .long f_currentQ, .long f_pace, .int f_angle, .ref a_onTimes, .int f_over, .long f_voltD, .long f_voltQ, .long f_heat, .int f_beats, .int f_aligned, .ref a_ringBeats, .ref a_ringStates, .ref a_ringFaults, .int f_changes, .ref a_found, .int f_foundOver, .long x14]))] := hD
      have hP9 := hP.sub (ws' := [(h0, .inr (5, [.ref a_rules, .ref a_kps, .ref a_kis, .ref a_sums, .int f_lost, .int f_state, .int f_fault, .long f_currentD, .long f_currentQ, .long f_pace, .int f_angle, .ref a_onTimes, .int f_over, .long f_voltD, .long f_voltQ, .long f_heat, .int f_beats, .int f_aligned, .ref a_ringBeats, .ref a_ringStates, .ref a_ringFaults, .int f_changes, .ref a_found, .int f_foundOver, .long x14]))]) [0] rfl
      have hD9 := hD.sub (ws' := [(h0, .inr (5, [.ref a_rules, .ref a_kps, .ref a_kis, .ref a_sums, .int f_lost, .int f_state, .int f_fault, .long f_currentD, .long f_currentQ, .long f_pace, .int f_angle, .ref a_onTimes, .int f_over, .long f_voltD, .long f_voltQ, .long f_heat, .int f_beats, .int f_aligned, .ref a_ringBeats, .ref a_ringStates, .ref a_ringFaults, .int f_changes, .ref a_found, .int f_foundOver, .long x14]))]) [0] (by decide) rfl
      have hK9 := hK.sub (tys' := []) [] rfl
      exact W.lret (v := r16) hx hb hr (fun t ht hW => ⟨⟨r16, x14, rfl, ⟨v1, ev1, ⟨r2, hw_3, ⟨x11, hj12, ⟨x14, hj15, ⟨r16, hw_17, ⟨rfl, rfl⟩⟩⟩⟩⟩⟩, (by rw [ht]; exact hP9), va_K.moved hW.alike hK9, hD9⟩, hS.F ht⟩) hS.2.2 dX6_stepOf_96
    · refine lv_if_eq (tgt := 84) hx hb dX6_stepOf_71 (by decide) (fun c13 => ?_) (fun c13 => ?_)
      · have c13 : x11 = (0 : Int32) := c13
        refine lv_lload hx hb dX6_stepOf_84 (lv_at hl 4 rfl) ?_
        exact J p3 ⟨fun _ => rfl, fun hh => absurd c13 hh⟩ _ _ _ hP hD hS (lv_sub hl [3, 6] rfl)
      · have c13 : ¬ (x11 = (0 : Int32)) := c13
        refine lv_lload hx hb dX6_stepOf_74 (lv_at hl 4 rfl) ?_
        refine lv_lload_n hx hb dX6_stepOf_76 rfl (lv_at hl 2 rfl) ?_
        refine lv_lload hx hb dX6_stepOf_77 (lv_at hl 5 rfl) ?_
        refine lv_lmul hx hb dX6_stepOf_79 ?_
        refine lv_ladd hx hb dX6_stepOf_80 ?_
        refine lv_goto (tgt := 86) hx hb dX6_stepOf_81 (by decide) ?_
        exact J (p3 + (p1 * p4)) ⟨fun hh => absurd hh c13, fun _ => rfl⟩ _ _ _ hP hD hS (lv_sub hl [3, 6] rfl)
  · refine lv_if_ne (tgt := 61) hx hb dX6_stepOf_27 (by decide) (fun c4 => ?_) (fun c4 => ?_)
    · have c4 : ¬ (r2 = (0 : Int32)) := c4
      refine lv_iconst (v := 1) hx hb dX6_stepOf_61 (by decide) ?_
      refine lv_goto (tgt := 66) hx hb dX6_stepOf_62 (by decide) ?_
      exact J (1 : Int32) ⟨fun hh => absurd hh c4, fun _ => rfl⟩ _ _ _ hP hD hS (lv_sub hl [1, 3, 4, 5, 6, 0] rfl)
    · have c4 : r2 = (0 : Int32) := c4
      refine lv_lload hx hb dX6_stepOf_30 (lv_at hl 6 rfl) ?_
      refine lv_lconst (v := 0) hx hb dX6_stepOf_32 (by decide) ?_
      refine W.lcmp hx hb dX6_stepOf_33 ?_
      refine lv_if_ge (tgt := 45) hx hb dX6_stepOf_34 (by decide) (fun c5 => ?_) (fun c5 => ?_)
      · have c5 : (0 : Int64) ≤ p4 := (lg_cmp_ge _ _).mp c5
        refine lv_lload hx hb dX6_stepOf_45 (lv_at hl 6 rfl) ?_
        refine lv_lconst (v := 0) hx hb dX6_stepOf_47 (by decide) ?_
        refine W.lcmp hx hb dX6_stepOf_48 ?_
        refine lv_if_le (tgt := 65) hx hb dX6_stepOf_49 (by decide) (fun c6 => ?_) (fun c6 => ?_)
        · have c6 : p4 ≤ (0 : Int64) := (lg_cmp_le _ _).mp c6
          refine lv_iconst (v := 0) hx hb dX6_stepOf_65 (by decide) ?_
          exact J (0 : Int32) ⟨fun _ => ⟨fun _ => ⟨fun _ => rfl, fun hh => absurd c6 hh⟩, fun hh => absurd c5 hh⟩, fun hh => absurd c4 hh⟩ _ _ _ hP hD hS (lv_sub hl [1, 3, 4, 5, 6, 0] rfl)
        · have c6 : ¬ (p4 ≤ (0 : Int64)) := mw_fle c6
          refine lv_lload hx hb dX6_stepOf_52 (lv_at hl 0 rfl) ?_
          refine lv_lload hx hb dX6_stepOf_54 (lv_at hl 4 rfl) ?_
          refine lv_lneg hx hb dX6_stepOf_56 ?_
          refine W.lcmp hx hb dX6_stepOf_57 ?_
          refine lv_if_ge (tgt := 65) hx hb dX6_stepOf_58 (by decide) (fun c7 => ?_) (fun c7 => ?_)
          · have c7 : (-p2) ≤ v1 := (lg_cmp_ge _ _).mp c7
            refine lv_iconst (v := 0) hx hb dX6_stepOf_65 (by decide) ?_
            exact J (0 : Int32) ⟨fun _ => ⟨fun _ => ⟨fun hh => absurd hh c6, fun _ => ⟨fun _ => rfl, fun hh => absurd c7 hh⟩⟩, fun hh => absurd c5 hh⟩, fun hh => absurd c4 hh⟩ _ _ _ hP hD hS (lv_sub hl [1, 3, 4, 5, 6, 0] rfl)
          · have c7 : ¬ ((-p2) ≤ v1) := mw_fge c7
            refine lv_iconst (v := 1) hx hb dX6_stepOf_61 (by decide) ?_
            refine lv_goto (tgt := 66) hx hb dX6_stepOf_62 (by decide) ?_
            exact J (1 : Int32) ⟨fun _ => ⟨fun _ => ⟨fun hh => absurd hh c6, fun _ => ⟨fun hh => absurd hh c7, fun _ => rfl⟩⟩, fun hh => absurd c5 hh⟩, fun hh => absurd c4 hh⟩ _ _ _ hP hD hS (lv_sub hl [1, 3, 4, 5, 6, 0] rfl)
      · have c5 : ¬ ((0 : Int64) ≤ p4) := mw_fge c5
        refine lv_lload hx hb dX6_stepOf_37 (lv_at hl 0 rfl) ?_
        refine lv_lload hx hb dX6_stepOf_39 (lv_at hl 4 rfl) ?_
        refine W.lcmp hx hb dX6_stepOf_41 ?_
        refine lv_if_gt (tgt := 61) hx hb dX6_stepOf_42 (by decide) (fun c8 => ?_) (fun c8 => ?_)
        · have c8 : p2 < v1 := (lg_cmp_gt _ _).mp c8
          refine lv_iconst (v := 1) hx hb dX6_stepOf_61 (by decide) ?_
          refine lv_goto (tgt := 66) hx hb dX6_stepOf_62 (by decide) ?_
          exact J (1 : Int32) ⟨fun _ => ⟨fun hh => absurd hh c5, fun _ => ⟨fun _ => rfl, fun hh => absurd c8 hh⟩⟩, fun hh => absurd c4 hh⟩ _ _ _ hP hD hS (lv_sub hl [1, 3, 4, 5, 6, 0] rfl)
        · have c8 : ¬ (p2 < v1) := mw_fgt c8
          refine lv_lload hx hb dX6_stepOf_45 (lv_at hl 6 rfl) ?_
          refine lv_lconst (v := 0) hx hb dX6_stepOf_47 (by decide) ?_
          refine W.lcmp hx hb dX6_stepOf_48 ?_
          refine lv_if_le (tgt := 65) hx hb dX6_stepOf_49 (by decide) (fun c9 => ?_) (fun c9 => ?_)
          · have c9 : p4 ≤ (0 : Int64) := (lg_cmp_le _ _).mp c9
            refine lv_iconst (v := 0) hx hb dX6_stepOf_65 (by decide) ?_
            exact J (0 : Int32) ⟨fun _ => ⟨fun hh => absurd hh c5, fun _ => ⟨fun hh => absurd hh c8, fun _ => ⟨fun _ => rfl, fun hh => absurd c9 hh⟩⟩⟩, fun hh => absurd c4 hh⟩ _ _ _ hP hD hS (lv_sub hl [1, 3, 4, 5, 6, 0] rfl)
          · have c9 : ¬ (p4 ≤ (0 : Int64)) := mw_fle c9
            refine lv_lload hx hb dX6_stepOf_52 (lv_at hl 0 rfl) ?_
            refine lv_lload hx hb dX6_stepOf_54 (lv_at hl 4 rfl) ?_
            refine lv_lneg hx hb dX6_stepOf_56 ?_
            refine W.lcmp hx hb dX6_stepOf_57 ?_
            refine lv_if_ge (tgt := 65) hx hb dX6_stepOf_58 (by decide) (fun c10 => ?_) (fun c10 => ?_)
            · have c10 : (-p2) ≤ v1 := (lg_cmp_ge _ _).mp c10
              refine lv_iconst (v := 0) hx hb dX6_stepOf_65 (by decide) ?_
              exact J (0 : Int32) ⟨fun _ => ⟨fun hh => absurd hh c5, fun _ => ⟨fun hh => absurd hh c8, fun _ => ⟨fun hh => absurd hh c9, fun _ => ⟨fun _ => rfl, fun hh => absurd c10 hh⟩⟩⟩⟩, fun hh => absurd c4 hh⟩ _ _ _ hP hD hS (lv_sub hl [1, 3, 4, 5, 6, 0] rfl)
            · have c10 : ¬ ((-p2) ≤ v1) := mw_fge c10
              refine lv_iconst (v := 1) hx hb dX6_stepOf_61 (by decide) ?_
              refine lv_goto (tgt := 66) hx hb dX6_stepOf_62 (by decide) ?_
              exact J (1 : Int32) ⟨fun _ => ⟨fun hh => absurd hh c5, fun _ => ⟨fun hh => absurd hh c8, fun _ => ⟨fun hh => absurd hh c9, fun _ => ⟨fun hh => absurd hh c10, fun _ => rfl⟩⟩⟩⟩, fun hh => absurd c4 hh⟩ _ _ _ hP hD hS (lv_sub hl [1, 3, 4, 5, 6, 0] rfl)
def R_X6_led (fn_kps : Nat → Int32) (fn_kis : Nat → Int32) (fn_sums : Nat → Int64) (p0 : Int32) (p1 : Int64) (p2 : Int64) (r : Int64) (u_0_behind : Int64) (u_3_fn : Nat → Int64) : Prop := ∃ v1 : Int32, v1 = fn_kps p0.toNatClampNeg ∧ (∃ v2 : Int32, v2 = fn_kis p0.toNatClampNeg ∧ (∃ v3 : Int64, v3 = fn_sums p0.toNatClampNeg ∧ (∃ (r5 : Int64) (o4 : Int64), R_X6_stepOf (v1.toInt64) (v2.toInt64) p1 v3 p2 r5 o4 ∧ (∃ g7 : Nat → Int64, g7 = vp_updL fn_sums p0.toNatClampNeg o4 ∧ (r = r5 ∧ u_0_behind = o4 ∧ u_3_fn = g7)))))
set_option maxHeartbeats 4000000 in
set_option maxRecDepth 100000 in
theorem c_X6_led (l : Launch) (dC : Nat → ClassId) (dI : Nat → Nat → Nat) (h0 : Nat) (a_rules : Nat) (a_kps : Nat) (a_kis : Nat) (a_sums : Nat) (f_lost : Int32) (f_state : Int32) (f_fault : Int32) (f_currentD : Int64) (f_currentQ : Int64) (f_pace : Int64) (f_angle : Int32) (a_onTimes : Nat) (f_over : Int32) (f_voltD : Int64) (f_voltQ : Int64) (f_heat : Int64) (f_beats : Int32) (f_aligned : Int32) (a_ringBeats : Nat) (a_ringStates : Nat) (a_ringFaults : Nat) (f_changes : Int32) (a_found : Nat) (f_foundOver : Int32) (f_behind : Int64) (ca_kps : ClassId) (fn_kps : Nat → Int32) (ca_kis : ClassId) (fn_kis : Nat → Int32) (ca_sums : ClassId) (fn_sums : Nat → Int64) (p0 : Int32) (p1 : Int64) (p2 : Int64) (sz : Nat) (hk : vp_in p0 3) : Met l yX6_led wsX6_led ({ frames := 2, cells := 0, slots := 0, locals := 58 }) (va_Pc [.ref h0, .int p0, .long p1, .long p2] (mw_pre (dC, dI) vwCl [(h0, .inr (5, [.ref a_rules, .ref a_kps, .ref a_kis, .ref a_sums, .int f_lost, .int f_state, .int f_fault, .long f_currentD, .long f_currentQ, .long f_pace, .int f_angle, .ref a_onTimes, .int f_over, .long f_voltD, .long f_voltQ, .long f_heat, .int f_beats, .int f_aligned, .ref a_ringBeats, .ref a_ringStates, .ref a_ringFaults, .int f_changes, .ref a_found, .int f_foundOver, .long f_behind])), (a_kps, .inl (ca_kps, 3, .inl fn_kps)), (a_kis, .inl (ca_kis, 3, .inl fn_kis)), (a_sums, .inl (ca_sums, 3, .inr (.inl fn_sums)))] [(ca_kps, .int), (ca_kis, .int), (ca_sums, .long)] sz)) (va_Ql (fun (r : Int64) (u : Int64 × (Nat → Int64)) => R_X6_led fn_kps fn_kis fn_sums p0 p1 p2 r u.1 u.2) (fun u t => mw_at (dC, dI) vwCl [(h0, .inr (5, [.ref a_rules, .ref a_kps, .ref a_kis, .ref a_sums, .int f_lost, .int f_state, .int f_fault, .long f_currentD, .long f_currentQ, .long f_pace, .int f_angle, .ref a_onTimes, .int f_over, .long f_voltD, .long f_voltQ, .long f_heat, .int f_beats, .int f_aligned, .ref a_ringBeats, .ref a_ringStates, .ref a_ringFaults, .int f_changes, .ref a_found, .int f_foundOver, .long u.1])), (a_kps, .inl (ca_kps, 3, .inl fn_kps)), (a_kis, .inl (ca_kis, 3, .inl fn_kis)), (a_sums, .inl (ca_sums, 3, .inr (.inl u.2)))] [(ca_kps, .int), (ca_kis, .int), (ca_sums, .long)] (va_A [(h0, .inr (5, [.ref a_rules, .ref a_kps, .ref a_kis, .ref a_sums, .int f_lost, .int f_state, .int f_fault, .long f_currentD, .long f_currentQ, .long f_pace, .int f_angle, .ref a_onTimes, .int f_over, .long f_voltD, .long f_voltQ, .long f_heat, .int f_beats, .int f_aligned, .ref a_ringBeats, .ref a_ringStates, .ref a_ringFaults, .int f_changes, .ref a_found, .int f_foundOver, .long f_behind])), (a_kps, .inl (ca_kps, 3, .inl fn_kps)), (a_kis, .inl (ca_kis, 3, .inl fn_kis)), (a_sums, .inl (ca_sums, 3, .inr (.inl fn_sums)))] sz) t) (va_A [(h0, .inr (5, [.ref a_rules, .ref a_kps, .ref a_kis, .ref a_sums, .int f_lost, .int f_state, .int f_fault, .long f_currentD, .long f_currentQ, .long f_pace, .int f_angle, .ref a_onTimes, .int f_over, .long f_voltD, .long f_voltQ, .long f_heat, .int f_beats, .int f_aligned, .ref a_ringBeats, .ref a_ringStates, .ref a_ringFaults, .int f_changes, .ref a_found, .int f_foundOver, .long f_behind])), (a_kps, .inl (ca_kps, 3, .inl fn_kps)), (a_kis, .inl (ca_kis, 3, .inl fn_kis)), (a_sums, .inl (ca_sums, 3, .inr (.inl fn_sums)))] sz)) 0 0 (va_A [(h0, .inr (5, [.ref a_rules, .ref a_kps, .ref a_kis, .ref a_sums, .int f_lost, .int f_state, .int f_fault, .long f_currentD, .long f_currentQ, .long f_pace, .int f_angle, .ref a_onTimes, .int f_over, .long f_voltD, .long f_voltQ, .long f_heat, .int f_beats, .int f_aligned, .ref a_ringBeats, .ref a_ringStates, .ref a_ringFaults, .int f_changes, .ref a_found, .int f_foundOver, .long f_behind])), (a_kps, .inl (ca_kps, 3, .inl fn_kps)), (a_kis, .inl (ca_kis, 3, .inl fn_kis)), (a_sums, .inl (ca_sums, 3, .inr (.inl fn_sums)))] sz) := by
  refine Met.ofW (cc := cX6_led) (maxL := 8) (ret := (some .long)) (by decide) rfl ?_
  intro p e s m args below meth c s₁ B hml hv
  obtain ⟨rfl, hsz, hP, hK, hD0, hN⟩ := hv
  have hx := B.exec
  have hb := B.bytes
  have hr := B.returns
  have hts := atoms_spec (ws := wsX6_led) B.pre
  have hown : s.vm.findClass RX6 = some m.cls := findClass_of_methodNamed B.named
  have hlocks := B.notSynchronized
  subst hsz
  have hD := hD0.self (sz := s.heap.size)
  generalize hAe : va_A [(h0, .inr (5, [.ref a_rules, .ref a_kps, .ref a_kis, .ref a_sums, .int f_lost, .int f_state, .int f_fault, .long f_currentD, .long f_currentQ, .long f_pace, .int f_angle, .ref a_onTimes, .int f_over, .long f_voltD, .long f_voltQ, .long f_heat, .int f_beats, .int f_aligned, .ref a_ringBeats, .ref a_ringStates, .ref a_ringFaults, .int f_changes, .ref a_found, .int f_foundOver, .long f_behind])), (a_kps, .inl (ca_kps, 3, .inl fn_kps)), (a_kis, .inl (ca_kis, 3, .inl fn_kis)), (a_sums, .inl (ca_sums, 3, .inr (.inl fn_sums)))] s.heap.size = A at hD ⊢
  have hA : ∀ q : Nat, s.heap.size ≤ q → A q := fun q h => by rw [← hAe]; exact Or.inr h
  have hS : va_S A s.heap s.heap [] := va_S.rf
  have hP : va_P (dC, dI) vwCl [(h0, .inr (5, [.ref a_rules, .ref a_kps, .ref a_kis, .ref a_sums, .int f_lost, .int f_state, .int f_fault, .long f_currentD, .long f_currentQ, .long f_pace, .int f_angle, .ref a_onTimes, .int f_over, .long f_voltD, .long f_voltQ, .long f_heat, .int f_beats, .int f_aligned, .ref a_ringBeats, .ref a_ringStates, .ref a_ringFaults, .int f_changes, .ref a_found, .int f_foundOver, .long f_behind])), (a_kps, .inl (ca_kps, 3, .inl fn_kps)), (a_kis, .inl (ca_kis, 3, .inl fn_kis)), (a_sums, .inl (ca_sums, 3, .inr (.inl fn_sums)))] s.heap := hP
  have hl := lv_entry ([.ref h0, .int p0, .long p1, .long p2]) (n := 8) (Nat.le_of_ble_eq_true rfl)
  rw [lg_entry_eq]
  generalize (lg_sl ([.ref h0, .int p0, .long p1, .long p2]) ++ List.replicate (8 - (lg_sl ([.ref h0, .int p0, .long p1, .long p2])).length) Slot.unset).toArray = ls at hl ⊢
  have hl : lv_has ls 8 [(0, .ref h0), (1, .int p0), (2, .long p1), (4, .long p2)] := hl
  have hw0 := hts (.fieldLink RX6 13 "TurnedFieldsModel" "kps" "[I") (by decide +kernel)
  have hw1 := hts (.fieldLink RX6 16 "TurnedFieldsModel" "kis" "[I") (by decide +kernel)
  have hw2 := hts (.fieldLink RX6 19 "TurnedFieldsModel" "sums" "[J") (by decide +kernel)
  have hw3 := hts (.fieldLink RX6 108 "TurnedFieldsModel" "behind" "J") (by decide +kernel)
  have hinX6 : ∀ w ∈ wsX60, w ∈ wsX6_led := by decide +kernel
  refine lv_aload_n hx hb dX6_led_0 rfl (lv_at hl 0 rfl) ?_
  refine lv_aload_n hx hb dX6_led_1 rfl (lv_at hl 0 rfl) ?_
  refine va_get (D := (dC, dI)) (ci := 5) (v := .ref a_kps) (C := RX6) (T := TX6) (N := 25) hx hb hts hinX6 hown hK hP 0 rfl rfl 1 (by decide) hw0 (fun _ h9 => h9) rfl dX6_led_2 ?_
  refine lv_iload_n hx hb dX6_led_5 rfl (lv_at hl 1 rfl) ?_
  refine va_iald hx hb hK hP 1 0 rfl rfl (by assumption) dX6_led_6 ?_
  refine lv_topi (fun v1 ev1 => ?_)
  refine lv_i2l hx hb dX6_led_7 rfl ?_
  refine lv_aload_n hx hb dX6_led_8 rfl (lv_at hl 0 rfl) ?_
  refine va_get (D := (dC, dI)) (ci := 5) (v := .ref a_kis) (C := RX6) (T := TX6) (N := 25) hx hb hts hinX6 hown hK hP 0 rfl rfl 2 (by decide) hw1 (fun _ h9 => h9) rfl dX6_led_9 ?_
  refine lv_iload_n hx hb dX6_led_12 rfl (lv_at hl 1 rfl) ?_
  refine va_iald hx hb hK hP 2 1 rfl rfl (by assumption) dX6_led_13 ?_
  refine lv_topi (fun v2 ev2 => ?_)
  refine lv_i2l hx hb dX6_led_14 rfl ?_
  refine lv_lload_n hx hb dX6_led_15 rfl (lv_at hl 2 rfl) ?_
  refine lv_aload_n hx hb dX6_led_16 rfl (lv_at hl 0 rfl) ?_
  refine va_get (D := (dC, dI)) (ci := 5) (v := .ref a_sums) (C := RX6) (T := TX6) (N := 25) hx hb hts hinX6 hown hK hP 0 rfl rfl 3 (by decide) hw2 (fun _ h9 => h9) rfl dX6_led_17 ?_
  refine lv_iload_n hx hb dX6_led_20 rfl (lv_at hl 1 rfl) ?_
  refine va_lald hx hb hK hP 3 2 rfl rfl (by assumption) dX6_led_21 ?_
  refine lv_topl (fun v3 ev3 => ?_)
  refine lv_lload hx hb dX6_led_22 (lv_at hl 3 rfl) ?_
  refine mw_calll (wc := [(h0, .inr (5, [.ref a_rules, .ref a_kps, .ref a_kis, .ref a_sums, .int f_lost, .int f_state, .int f_fault, .long f_currentD, .long f_currentQ, .long f_pace, .int f_angle, .ref a_onTimes, .int f_over, .long f_voltD, .long f_voltQ, .long f_heat, .int f_beats, .int f_aligned, .ref a_ringBeats, .ref a_ringStates, .ref a_ringFaults, .int f_changes, .ref a_found, .int f_foundOver, .long f_behind]))]) (wr := [(a_kps, .inl (ca_kps, 3, .inl fn_kps)), (a_kis, .inl (ca_kis, 3, .inl fn_kis)), (a_sums, .inl (ca_sums, 3, .inr (.inl fn_sums)))]) (w1 := fun (u : Int64) => [(h0, .inr (5, [.ref a_rules, .ref a_kps, .ref a_kis, .ref a_sums, .int f_lost, .int f_state, .int f_fault, .long f_currentD, .long f_currentQ, .long f_pace, .int f_angle, .ref a_onTimes, .int f_over, .long f_voltD, .long f_voltQ, .long f_heat, .int f_beats, .int f_aligned, .ref a_ringBeats, .ref a_ringStates, .ref a_ringFaults, .int f_changes, .ref a_found, .int f_foundOver, .long u]))]) (tyc := fun (u : Int64) => []) hP hD hS hA [0] [1, 2, 3] rfl rfl (by decide) (by decide) (va_runV (As := [.long (v1.toInt64), .long (v2.toInt64), .long p1, .long v3, .long p2]) (rest := []) ⟨hx, hb, hml, hown, hts⟩ (c_X6_stepOf l dC dI h0 a_rules a_kps a_kis a_sums f_lost f_state f_fault f_currentD f_currentQ f_pace f_angle a_onTimes f_over f_voltD f_voltQ f_heat f_beats f_aligned a_ringBeats a_ringStates a_ringFaults f_changes a_found f_foundOver f_behind (v1.toInt64) (v2.toInt64) p1 v3 p2 s.heap.size ) (cwV 5 hts gX6_led_X6_stepOf rfl rfl rfl (by decide +kernel) ⟨(Nat.le_of_ble_eq_true rfl), (Nat.le_of_ble_eq_true rfl)⟩) (mw_preV (va_recv hK hP (ci := 5) (q0 := 0) rfl rfl) (hP.sub (ws' := [(h0, .inr (5, [.ref a_rules, .ref a_kps, .ref a_kis, .ref a_sums, .int f_lost, .int f_state, .int f_fault, .long f_currentD, .long f_currentQ, .long f_pace, .int f_angle, .ref a_onTimes, .int f_over, .long f_voltD, .long f_voltQ, .long f_heat, .int f_beats, .int f_aligned, .ref a_ringBeats, .ref a_ringStates, .ref a_ringFaults, .int f_changes, .ref a_found, .int f_foundOver, .long f_behind]))]) [0] rfl) (hD.sub (ws' := [(h0, .inr (5, [.ref a_rules, .ref a_kps, .ref a_kis, .ref a_sums, .int f_lost, .int f_state, .int f_fault, .long f_currentD, .long f_currentQ, .long f_pace, .int f_angle, .ref a_onTimes, .int f_over, .long f_voltD, .long f_voltQ, .long f_heat, .int f_beats, .int f_aligned, .ref a_ringBeats, .ref a_ringStates, .ref a_ringFaults, .int f_changes, .ref a_found, .int f_foundOver, .long f_behind]))]) [0] (by decide) rfl) (hK.sub (tys' := []) [] rfl) hN) rfl rfl hl.1 rfl (lv_room (Nat.le_of_ble_eq_true rfl)) dX6_led_24 ⟨(Nat.le_of_ble_eq_true rfl), (Nat.le_of_ble_eq_true rfl)⟩) (fun r5 u H locs hw_6 hP hD hS hK1 => ?_)
  obtain ⟨o4, rfl⟩ : ∃ z, z = u := ⟨_, rfl⟩
  have hw_6 : R_X6_stepOf (v1.toInt64) (v2.toInt64) p1 v3 p2 r5 o4 := hw_6
  have hP : va_P (dC, dI) vwCl [(a_kps, .inl (ca_kps, 3, .inl fn_kps)), (a_kis, .inl (ca_kis, 3, .inl fn_kis)), (a_sums, .inl (ca_sums, 3, .inr (.inl fn_sums))), (h0, .inr (5, [.ref a_rules, .ref a_kps, .ref a_kis, .ref a_sums, .int f_lost, .int f_state, .int f_fault, .long f_currentD, .long f_currentQ, .long f_pace, .int f_angle, .ref a_onTimes, .int f_over, .long f_voltD, .long f_voltQ, .long f_heat, .int f_beats, .int f_aligned, .ref a_ringBeats, .ref a_ringStates, .ref a_ringFaults, .int f_changes, .ref a_found, .int f_foundOver, .long o4]))] H := hP
  have hD : va_D A [(a_kps, .inl (ca_kps, 3, .inl fn_kps)), (a_kis, .inl (ca_kis, 3, .inl fn_kis)), (a_sums, .inl (ca_sums, 3, .inr (.inl fn_sums))), (h0, .inr (5, [.ref a_rules, .ref a_kps, .ref a_kis, .ref a_sums, .int f_lost, .int f_state, .int f_fault, .long f_currentD, .long f_currentQ, .long f_pace, .int f_angle, .ref a_onTimes, .int f_over, .long f_voltD, .long f_voltQ, .long f_heat, .int f_beats, .int f_aligned, .ref a_ringBeats, .ref a_ringStates, .ref a_ringFaults, .int f_changes, .ref a_found, .int f_foundOver, .long o4]))] := hD
  refine lv_lstore (lv' := [(6, .long r5), (0, .ref h0), (1, .int p0), (2, .long p1), (4, .long p2)]) hx hb dX6_led_27 hl (by decide) rfl (fun ls hl => ?_)
  refine lv_aload_n hx hb dX6_led_29 rfl (lv_at hl 1 rfl) ?_
  refine va_get (D := (dC, dI)) (ci := 5) (v := .ref a_sums) (C := RX6) (T := TX6) (N := 25) hx hb hts hinX6 hown hK hP 3 rfl rfl 3 (by decide) hw2 (fun _ h9 => h9) rfl dX6_led_30 ?_
  refine lv_iload_n hx hb dX6_led_33 rfl (lv_at hl 2 rfl) ?_
  refine lv_aload_n hx hb dX6_led_34 rfl (lv_at hl 1 rfl) ?_
  refine va_get (D := (dC, dI)) (ci := 5) (v := .long o4) (C := RX6) (T := TX6) (N := 25) hx hb hts hinX6 hown hK hP 3 rfl rfl 24 (by decide) hw3 (fun _ h9 => h9) rfl dX6_led_35 ?_
  refine va_last hx hb hK hP hD hS 2 2 rfl rfl (by assumption) dX6_led_38 (fun H locs hP hD hS => ?_)
  obtain ⟨g7, eg7⟩ : ∃ g : Nat → Int64, g = vp_updL fn_sums p0.toNatClampNeg o4 := ⟨_, rfl⟩
  have hP : va_P (dC, dI) vwCl [(a_kps, .inl (ca_kps, 3, .inl fn_kps)), (a_kis, .inl (ca_kis, 3, .inl fn_kis)), (a_sums, .inl (ca_sums, 3, .inr (.inl g7))), (h0, .inr (5, [.ref a_rules, .ref a_kps, .ref a_kis, .ref a_sums, .int f_lost, .int f_state, .int f_fault, .long f_currentD, .long f_currentQ, .long f_pace, .int f_angle, .ref a_onTimes, .int f_over, .long f_voltD, .long f_voltQ, .long f_heat, .int f_beats, .int f_aligned, .ref a_ringBeats, .ref a_ringStates, .ref a_ringFaults, .int f_changes, .ref a_found, .int f_foundOver, .long o4]))] H := by rw [eg7]; exact hP
  have hD : va_D A [(a_kps, .inl (ca_kps, 3, .inl fn_kps)), (a_kis, .inl (ca_kis, 3, .inl fn_kis)), (a_sums, .inl (ca_sums, 3, .inr (.inl g7))), (h0, .inr (5, [.ref a_rules, .ref a_kps, .ref a_kis, .ref a_sums, .int f_lost, .int f_state, .int f_fault, .long f_currentD, .long f_currentQ, .long f_pace, .int f_angle, .ref a_onTimes, .int f_over, .long f_voltD, .long f_voltQ, .long f_heat, .int f_beats, .int f_aligned, .ref a_ringBeats, .ref a_ringStates, .ref a_ringFaults, .int f_changes, .ref a_found, .int f_foundOver, .long o4]))] := by rw [eg7]; exact hD
  refine lv_lload hx hb dX6_led_39 (lv_at hl 0 rfl) ?_
  have hP9 := hP.sub (ws' := [(h0, .inr (5, [.ref a_rules, .ref a_kps, .ref a_kis, .ref a_sums, .int f_lost, .int f_state, .int f_fault, .long f_currentD, .long f_currentQ, .long f_pace, .int f_angle, .ref a_onTimes, .int f_over, .long f_voltD, .long f_voltQ, .long f_heat, .int f_beats, .int f_aligned, .ref a_ringBeats, .ref a_ringStates, .ref a_ringFaults, .int f_changes, .ref a_found, .int f_foundOver, .long o4])), (a_kps, .inl (ca_kps, 3, .inl fn_kps)), (a_kis, .inl (ca_kis, 3, .inl fn_kis)), (a_sums, .inl (ca_sums, 3, .inr (.inl g7)))]) [3, 0, 1, 2] rfl
  have hD9 := hD.sub (ws' := [(h0, .inr (5, [.ref a_rules, .ref a_kps, .ref a_kis, .ref a_sums, .int f_lost, .int f_state, .int f_fault, .long f_currentD, .long f_currentQ, .long f_pace, .int f_angle, .ref a_onTimes, .int f_over, .long f_voltD, .long f_voltQ, .long f_heat, .int f_beats, .int f_aligned, .ref a_ringBeats, .ref a_ringStates, .ref a_ringFaults, .int f_changes, .ref a_found, .int f_foundOver, .long o4])), (a_kps, .inl (ca_kps, 3, .inl fn_kps)), (a_kis, .inl (ca_kis, 3, .inl fn_kis)), (a_sums, .inl (ca_sums, 3, .inr (.inl g7)))]) [3, 0, 1, 2] (by decide) rfl
  have hK9 := hK.sub (tys' := [(ca_kps, .int), (ca_kis, .int), (ca_sums, .long)]) [0, 1, 2] rfl
  exact W.lret (v := r5) hx hb hr (fun t ht hW => ⟨⟨r5, (o4, g7), rfl, ⟨v1, ev1, ⟨v2, ev2, ⟨v3, ev3, ⟨r5, o4, hw_6, ⟨g7, eg7, ⟨rfl, rfl, rfl⟩⟩⟩⟩⟩⟩, (by rw [ht]; exact hP9), va_K.moved hW.alike hK9, hD9⟩, hS.F ht⟩) hS.2.2 dX6_led_41
def R_X6_become (f_changes : Int32) (fn_ringBeats : Nat → Int32) (fn_ringStates : Nat → Int32) (fn_ringFaults : Nat → Int32) (p0 : Int32) (p1 : Int32) (p2 : Int32) (u_0_state : Int32) (u_0_fault : Int32) (u_0_changes : Int32) (u_1_fn : Nat → Int32) (u_2_fn : Nat → Int32) (u_3_fn : Nat → Int32) : Prop := ∃ g1 : Nat → Int32, g1 = upd fn_ringBeats (f_changes - f_changes / (20 : Int32) * (20 : Int32)).toNatClampNeg p2 ∧ (∃ g2 : Nat → Int32, g2 = upd fn_ringStates (f_changes - f_changes / (20 : Int32) * (20 : Int32)).toNatClampNeg p0 ∧ (∃ g3 : Nat → Int32, g3 = upd fn_ringFaults (f_changes - f_changes / (20 : Int32) * (20 : Int32)).toNatClampNeg p1 ∧ (∃ v4 : Int32, v4 = (f_changes + (1 : Int32)) ∧ (u_0_state = p0 ∧ u_0_fault = p1 ∧ u_0_changes = v4 ∧ u_1_fn = g1 ∧ u_2_fn = g2 ∧ u_3_fn = g3))))
set_option maxHeartbeats 4000000 in
set_option maxRecDepth 100000 in
theorem c_X6_become (l : Launch) (dC : Nat → ClassId) (dI : Nat → Nat → Nat) (h0 : Nat) (a_rules : Nat) (a_kps : Nat) (a_kis : Nat) (a_sums : Nat) (f_lost : Int32) (f_state : Int32) (f_fault : Int32) (f_currentD : Int64) (f_currentQ : Int64) (f_pace : Int64) (f_angle : Int32) (a_onTimes : Nat) (f_over : Int32) (f_voltD : Int64) (f_voltQ : Int64) (f_heat : Int64) (f_beats : Int32) (f_aligned : Int32) (a_ringBeats : Nat) (a_ringStates : Nat) (a_ringFaults : Nat) (f_changes : Int32) (a_found : Nat) (f_foundOver : Int32) (f_behind : Int64) (ca_ringBeats : ClassId) (fn_ringBeats : Nat → Int32) (ca_ringStates : ClassId) (fn_ringStates : Nat → Int32) (ca_ringFaults : ClassId) (fn_ringFaults : Nat → Int32) (p0 : Int32) (p1 : Int32) (p2 : Int32) (sz : Nat) (hc0 : 0 ≤ f_changes.toInt) : Met l yX6_become wsX6_become ({ frames := 0, cells := 0, slots := 0, locals := 0 }) (va_Pc [.ref h0, .int p0, .int p1, .int p2] (mw_pre (dC, dI) vwCl [(h0, .inr (5, [.ref a_rules, .ref a_kps, .ref a_kis, .ref a_sums, .int f_lost, .int f_state, .int f_fault, .long f_currentD, .long f_currentQ, .long f_pace, .int f_angle, .ref a_onTimes, .int f_over, .long f_voltD, .long f_voltQ, .long f_heat, .int f_beats, .int f_aligned, .ref a_ringBeats, .ref a_ringStates, .ref a_ringFaults, .int f_changes, .ref a_found, .int f_foundOver, .long f_behind])), (a_ringBeats, .inl (ca_ringBeats, 20, .inl fn_ringBeats)), (a_ringStates, .inl (ca_ringStates, 20, .inl fn_ringStates)), (a_ringFaults, .inl (ca_ringFaults, 20, .inl fn_ringFaults))] [(ca_ringBeats, .int), (ca_ringStates, .int), (ca_ringFaults, .int)] sz)) (va_Qv (fun (u : Int32 × Int32 × Int32 × (Nat → Int32) × (Nat → Int32) × (Nat → Int32)) => R_X6_become f_changes fn_ringBeats fn_ringStates fn_ringFaults p0 p1 p2 u.1 u.2.1 u.2.2.1 u.2.2.2.1 u.2.2.2.2.1 u.2.2.2.2.2) (fun u t => mw_at (dC, dI) vwCl [(h0, .inr (5, [.ref a_rules, .ref a_kps, .ref a_kis, .ref a_sums, .int f_lost, .int u.1, .int u.2.1, .long f_currentD, .long f_currentQ, .long f_pace, .int f_angle, .ref a_onTimes, .int f_over, .long f_voltD, .long f_voltQ, .long f_heat, .int f_beats, .int (0 : Int32), .ref a_ringBeats, .ref a_ringStates, .ref a_ringFaults, .int u.2.2.1, .ref a_found, .int f_foundOver, .long f_behind])), (a_ringBeats, .inl (ca_ringBeats, 20, .inl u.2.2.2.1)), (a_ringStates, .inl (ca_ringStates, 20, .inl u.2.2.2.2.1)), (a_ringFaults, .inl (ca_ringFaults, 20, .inl u.2.2.2.2.2))] [(ca_ringBeats, .int), (ca_ringStates, .int), (ca_ringFaults, .int)] (va_A [(h0, .inr (5, [.ref a_rules, .ref a_kps, .ref a_kis, .ref a_sums, .int f_lost, .int f_state, .int f_fault, .long f_currentD, .long f_currentQ, .long f_pace, .int f_angle, .ref a_onTimes, .int f_over, .long f_voltD, .long f_voltQ, .long f_heat, .int f_beats, .int f_aligned, .ref a_ringBeats, .ref a_ringStates, .ref a_ringFaults, .int f_changes, .ref a_found, .int f_foundOver, .long f_behind])), (a_ringBeats, .inl (ca_ringBeats, 20, .inl fn_ringBeats)), (a_ringStates, .inl (ca_ringStates, 20, .inl fn_ringStates)), (a_ringFaults, .inl (ca_ringFaults, 20, .inl fn_ringFaults))] sz) t) (va_A [(h0, .inr (5, [.ref a_rules, .ref a_kps, .ref a_kis, .ref a_sums, .int f_lost, .int f_state, .int f_fault, .long f_currentD, .long f_currentQ, .long f_pace, .int f_angle, .ref a_onTimes, .int f_over, .long f_voltD, .long f_voltQ, .long f_heat, .int f_beats, .int f_aligned, .ref a_ringBeats, .ref a_ringStates, .ref a_ringFaults, .int f_changes, .ref a_found, .int f_foundOver, .long f_behind])), (a_ringBeats, .inl (ca_ringBeats, 20, .inl fn_ringBeats)), (a_ringStates, .inl (ca_ringStates, 20, .inl fn_ringStates)), (a_ringFaults, .inl (ca_ringFaults, 20, .inl fn_ringFaults))] sz)) 0 0 (va_A [(h0, .inr (5, [.ref a_rules, .ref a_kps, .ref a_kis, .ref a_sums, .int f_lost, .int f_state, .int f_fault, .long f_currentD, .long f_currentQ, .long f_pace, .int f_angle, .ref a_onTimes, .int f_over, .long f_voltD, .long f_voltQ, .long f_heat, .int f_beats, .int f_aligned, .ref a_ringBeats, .ref a_ringStates, .ref a_ringFaults, .int f_changes, .ref a_found, .int f_foundOver, .long f_behind])), (a_ringBeats, .inl (ca_ringBeats, 20, .inl fn_ringBeats)), (a_ringStates, .inl (ca_ringStates, 20, .inl fn_ringStates)), (a_ringFaults, .inl (ca_ringFaults, 20, .inl fn_ringFaults))] sz) := by
  refine Met.ofW (cc := cX6_become) (maxL := 4) (ret := none) (by decide) rfl ?_
  intro p e s m args below meth c s₁ B hml hv
  obtain ⟨rfl, hsz, hP, hK, hD0, hN⟩ := hv
  have hx := B.exec
  have hb := B.bytes
  have hr := B.returns
  have hts := atoms_spec (ws := wsX6_become) B.pre
  have hown : s.vm.findClass RX6 = some m.cls := findClass_of_methodNamed B.named
  have hlocks := B.notSynchronized
  subst hsz
  have hD := hD0.self (sz := s.heap.size)
  generalize hAe : va_A [(h0, .inr (5, [.ref a_rules, .ref a_kps, .ref a_kis, .ref a_sums, .int f_lost, .int f_state, .int f_fault, .long f_currentD, .long f_currentQ, .long f_pace, .int f_angle, .ref a_onTimes, .int f_over, .long f_voltD, .long f_voltQ, .long f_heat, .int f_beats, .int f_aligned, .ref a_ringBeats, .ref a_ringStates, .ref a_ringFaults, .int f_changes, .ref a_found, .int f_foundOver, .long f_behind])), (a_ringBeats, .inl (ca_ringBeats, 20, .inl fn_ringBeats)), (a_ringStates, .inl (ca_ringStates, 20, .inl fn_ringStates)), (a_ringFaults, .inl (ca_ringFaults, 20, .inl fn_ringFaults))] s.heap.size = A at hD ⊢
  have hA : ∀ q : Nat, s.heap.size ≤ q → A q := fun q h => by rw [← hAe]; exact Or.inr h
  have hS : va_S A s.heap s.heap [] := va_S.rf
  have hP : va_P (dC, dI) vwCl [(h0, .inr (5, [.ref a_rules, .ref a_kps, .ref a_kis, .ref a_sums, .int f_lost, .int f_state, .int f_fault, .long f_currentD, .long f_currentQ, .long f_pace, .int f_angle, .ref a_onTimes, .int f_over, .long f_voltD, .long f_voltQ, .long f_heat, .int f_beats, .int f_aligned, .ref a_ringBeats, .ref a_ringStates, .ref a_ringFaults, .int f_changes, .ref a_found, .int f_foundOver, .long f_behind])), (a_ringBeats, .inl (ca_ringBeats, 20, .inl fn_ringBeats)), (a_ringStates, .inl (ca_ringStates, 20, .inl fn_ringStates)), (a_ringFaults, .inl (ca_ringFaults, 20, .inl fn_ringFaults))] s.heap := hP
  have hl := lv_entry ([.ref h0, .int p0, .int p1, .int p2]) (n := 4) (Nat.le_of_ble_eq_true rfl)
  rw [lg_entry_eq]
  generalize (lg_sl ([.ref h0, .int p0, .int p1, .int p2]) ++ List.replicate (4 - (lg_sl ([.ref h0, .int p0, .int p1, .int p2])).length) Slot.unset).toArray = ls at hl ⊢
  have hl : lv_has ls 4 [(0, .ref h0), (1, .int p0), (2, .int p1), (3, .int p2)] := hl
  have hw0 := hts (.fieldLink RX6 128 "TurnedFieldsModel" "state" "I") (by decide +kernel)
  have hw1 := hts (.fieldLink RX6 132 "TurnedFieldsModel" "fault" "I") (by decide +kernel)
  have hw2 := hts (.fieldLink RX6 135 "TurnedFieldsModel" "aligned" "I") (by decide +kernel)
  have hw3 := hts (.fieldLink RX6 26 "TurnedFieldsModel" "ringBeats" "[I") (by decide +kernel)
  have hw4 := hts (.fieldLink RX6 138 "TurnedFieldsModel" "changes" "I") (by decide +kernel)
  have hw5 := hts (.fieldLink RX6 29 "TurnedFieldsModel" "ringStates" "[I") (by decide +kernel)
  have hw6 := hts (.fieldLink RX6 32 "TurnedFieldsModel" "ringFaults" "[I") (by decide +kernel)
  have hinX6 : ∀ w ∈ wsX60, w ∈ wsX6_become := by decide +kernel
  refine lv_aload_n hx hb dX6_become_0 rfl (lv_at hl 0 rfl) ?_
  refine lv_iload_n hx hb dX6_become_1 rfl (lv_at hl 1 rfl) ?_
  refine va_put (D := (dC, dI)) (ci := 5) (v := .int p0) (ty := .int) (C := RX6) (T := TX6) (N := 25) hx hb hts hinX6 tyX6 tyX6_ok nmX6 hown hK hP hD hS 0 rfl rfl 5 (by decide) hw0 (fun _ h9 => h9) rfl (by decide +kernel) rfl rfl (Nat.le_of_ble_eq_true rfl) dX6_become_2 (fun H locs hP hD hS => ?_)
  have hP : va_P (dC, dI) vwCl [(h0, .inr (5, [.ref a_rules, .ref a_kps, .ref a_kis, .ref a_sums, .int f_lost, .int p0, .int f_fault, .long f_currentD, .long f_currentQ, .long f_pace, .int f_angle, .ref a_onTimes, .int f_over, .long f_voltD, .long f_voltQ, .long f_heat, .int f_beats, .int f_aligned, .ref a_ringBeats, .ref a_ringStates, .ref a_ringFaults, .int f_changes, .ref a_found, .int f_foundOver, .long f_behind])), (a_ringBeats, .inl (ca_ringBeats, 20, .inl fn_ringBeats)), (a_ringStates, .inl (ca_ringStates, 20, .inl fn_ringStates)), (a_ringFaults, .inl (ca_ringFaults, 20, .inl fn_ringFaults))] H := hP
  have hD : va_D A [(h0, .inr (5, [.ref a_rules, .ref a_kps, .ref a_kis, .ref a_sums, .int f_lost, .int p0, .int f_fault, .long f_currentD, .long f_currentQ, .long f_pace, .int f_angle, .ref a_onTimes, .int f_over, .long f_voltD, .long f_voltQ, .long f_heat, .int f_beats, .int f_aligned, .ref a_ringBeats, .ref a_ringStates, .ref a_ringFaults, .int f_changes, .ref a_found, .int f_foundOver, .long f_behind])), (a_ringBeats, .inl (ca_ringBeats, 20, .inl fn_ringBeats)), (a_ringStates, .inl (ca_ringStates, 20, .inl fn_ringStates)), (a_ringFaults, .inl (ca_ringFaults, 20, .inl fn_ringFaults))] := hD
  refine lv_aload_n hx hb dX6_become_5 rfl (lv_at hl 0 rfl) ?_
  refine lv_iload_n hx hb dX6_become_6 rfl (lv_at hl 2 rfl) ?_
  refine va_put (D := (dC, dI)) (ci := 5) (v := .int p1) (ty := .int) (C := RX6) (T := TX6) (N := 25) hx hb hts hinX6 tyX6 tyX6_ok nmX6 hown hK hP hD hS 0 rfl rfl 6 (by decide) hw1 (fun _ h9 => h9) rfl (by decide +kernel) rfl rfl (Nat.le_of_ble_eq_true rfl) dX6_become_7 (fun H locs hP hD hS => ?_)
  have hP : va_P (dC, dI) vwCl [(h0, .inr (5, [.ref a_rules, .ref a_kps, .ref a_kis, .ref a_sums, .int f_lost, .int p0, .int p1, .long f_currentD, .long f_currentQ, .long f_pace, .int f_angle, .ref a_onTimes, .int f_over, .long f_voltD, .long f_voltQ, .long f_heat, .int f_beats, .int f_aligned, .ref a_ringBeats, .ref a_ringStates, .ref a_ringFaults, .int f_changes, .ref a_found, .int f_foundOver, .long f_behind])), (a_ringBeats, .inl (ca_ringBeats, 20, .inl fn_ringBeats)), (a_ringStates, .inl (ca_ringStates, 20, .inl fn_ringStates)), (a_ringFaults, .inl (ca_ringFaults, 20, .inl fn_ringFaults))] H := hP
  have hD : va_D A [(h0, .inr (5, [.ref a_rules, .ref a_kps, .ref a_kis, .ref a_sums, .int f_lost, .int p0, .int p1, .long f_currentD, .long f_currentQ, .long f_pace, .int f_angle, .ref a_onTimes, .int f_over, .long f_voltD, .long f_voltQ, .long f_heat, .int f_beats, .int f_aligned, .ref a_ringBeats, .ref a_ringStates, .ref a_ringFaults, .int f_changes, .ref a_found, .int f_foundOver, .long f_behind])), (a_ringBeats, .inl (ca_ringBeats, 20, .inl fn_ringBeats)), (a_ringStates, .inl (ca_ringStates, 20, .inl fn_ringStates)), (a_ringFaults, .inl (ca_ringFaults, 20, .inl fn_ringFaults))] := hD
  refine lv_aload_n hx hb dX6_become_10 rfl (lv_at hl 0 rfl) ?_
  refine lv_iconst (v := 0) hx hb dX6_become_11 (by decide) ?_
  refine va_put (D := (dC, dI)) (ci := 5) (v := .int (0 : Int32)) (ty := .int) (C := RX6) (T := TX6) (N := 25) hx hb hts hinX6 tyX6 tyX6_ok nmX6 hown hK hP hD hS 0 rfl rfl 17 (by decide) hw2 (fun _ h9 => h9) rfl (by decide +kernel) rfl rfl (Nat.le_of_ble_eq_true rfl) dX6_become_12 (fun H locs hP hD hS => ?_)
  have hP : va_P (dC, dI) vwCl [(h0, .inr (5, [.ref a_rules, .ref a_kps, .ref a_kis, .ref a_sums, .int f_lost, .int p0, .int p1, .long f_currentD, .long f_currentQ, .long f_pace, .int f_angle, .ref a_onTimes, .int f_over, .long f_voltD, .long f_voltQ, .long f_heat, .int f_beats, .int (0 : Int32), .ref a_ringBeats, .ref a_ringStates, .ref a_ringFaults, .int f_changes, .ref a_found, .int f_foundOver, .long f_behind])), (a_ringBeats, .inl (ca_ringBeats, 20, .inl fn_ringBeats)), (a_ringStates, .inl (ca_ringStates, 20, .inl fn_ringStates)), (a_ringFaults, .inl (ca_ringFaults, 20, .inl fn_ringFaults))] H := hP
  have hD : va_D A [(h0, .inr (5, [.ref a_rules, .ref a_kps, .ref a_kis, .ref a_sums, .int f_lost, .int p0, .int p1, .long f_currentD, .long f_currentQ, .long f_pace, .int f_angle, .ref a_onTimes, .int f_over, .long f_voltD, .long f_voltQ, .long f_heat, .int f_beats, .int (0 : Int32), .ref a_ringBeats, .ref a_ringStates, .ref a_ringFaults, .int f_changes, .ref a_found, .int f_foundOver, .long f_behind])), (a_ringBeats, .inl (ca_ringBeats, 20, .inl fn_ringBeats)), (a_ringStates, .inl (ca_ringStates, 20, .inl fn_ringStates)), (a_ringFaults, .inl (ca_ringFaults, 20, .inl fn_ringFaults))] := hD
  refine lv_aload_n hx hb dX6_become_15 rfl (lv_at hl 0 rfl) ?_
  refine va_get (D := (dC, dI)) (ci := 5) (v := .ref a_ringBeats) (C := RX6) (T := TX6) (N := 25) hx hb hts hinX6 hown hK hP 0 rfl rfl 18 (by decide) hw3 (fun _ h9 => h9) rfl dX6_become_16 ?_
  refine lv_aload_n hx hb dX6_become_19 rfl (lv_at hl 0 rfl) ?_
  refine va_get (D := (dC, dI)) (ci := 5) (v := .int f_changes) (C := RX6) (T := TX6) (N := 25) hx hb hts hinX6 hown hK hP 0 rfl rfl 21 (by decide) hw4 (fun _ h9 => h9) rfl dX6_become_20 ?_
  refine lv_bipush (v := 20) hx hb dX6_become_23 (by decide) ?_
  refine lv_irem hx hb dX6_become_25 (by decide) ?_
  refine lv_iload_n hx hb dX6_become_26 rfl (lv_at hl 3 rfl) ?_
  refine va_iast hx hb hK hP hD hS 1 0 rfl rfl (ar_ix20 hc0) dX6_become_27 (fun H locs hP hD hS => ?_)
  obtain ⟨g1, eg1⟩ : ∃ g : Nat → Int32, g = upd fn_ringBeats (f_changes - f_changes / (20 : Int32) * (20 : Int32)).toNatClampNeg p2 := ⟨_, rfl⟩
  have hP : va_P (dC, dI) vwCl [(h0, .inr (5, [.ref a_rules, .ref a_kps, .ref a_kis, .ref a_sums, .int f_lost, .int p0, .int p1, .long f_currentD, .long f_currentQ, .long f_pace, .int f_angle, .ref a_onTimes, .int f_over, .long f_voltD, .long f_voltQ, .long f_heat, .int f_beats, .int (0 : Int32), .ref a_ringBeats, .ref a_ringStates, .ref a_ringFaults, .int f_changes, .ref a_found, .int f_foundOver, .long f_behind])), (a_ringBeats, .inl (ca_ringBeats, 20, .inl g1)), (a_ringStates, .inl (ca_ringStates, 20, .inl fn_ringStates)), (a_ringFaults, .inl (ca_ringFaults, 20, .inl fn_ringFaults))] H := by rw [eg1]; exact hP
  have hD : va_D A [(h0, .inr (5, [.ref a_rules, .ref a_kps, .ref a_kis, .ref a_sums, .int f_lost, .int p0, .int p1, .long f_currentD, .long f_currentQ, .long f_pace, .int f_angle, .ref a_onTimes, .int f_over, .long f_voltD, .long f_voltQ, .long f_heat, .int f_beats, .int (0 : Int32), .ref a_ringBeats, .ref a_ringStates, .ref a_ringFaults, .int f_changes, .ref a_found, .int f_foundOver, .long f_behind])), (a_ringBeats, .inl (ca_ringBeats, 20, .inl g1)), (a_ringStates, .inl (ca_ringStates, 20, .inl fn_ringStates)), (a_ringFaults, .inl (ca_ringFaults, 20, .inl fn_ringFaults))] := by rw [eg1]; exact hD
  refine lv_aload_n hx hb dX6_become_28 rfl (lv_at hl 0 rfl) ?_
  refine va_get (D := (dC, dI)) (ci := 5) (v := .ref a_ringStates) (C := RX6) (T := TX6) (N := 25) hx hb hts hinX6 hown hK hP 0 rfl rfl 19 (by decide) hw5 (fun _ h9 => h9) rfl dX6_become_29 ?_
  refine lv_aload_n hx hb dX6_become_32 rfl (lv_at hl 0 rfl) ?_
  refine va_get (D := (dC, dI)) (ci := 5) (v := .int f_changes) (C := RX6) (T := TX6) (N := 25) hx hb hts hinX6 hown hK hP 0 rfl rfl 21 (by decide) hw4 (fun _ h9 => h9) rfl dX6_become_33 ?_
  refine lv_bipush (v := 20) hx hb dX6_become_36 (by decide) ?_
  refine lv_irem hx hb dX6_become_38 (by decide) ?_
  refine lv_iload_n hx hb dX6_become_39 rfl (lv_at hl 1 rfl) ?_
  refine va_iast hx hb hK hP hD hS 2 1 rfl rfl (ar_ix20 hc0) dX6_become_40 (fun H locs hP hD hS => ?_)
  obtain ⟨g2, eg2⟩ : ∃ g : Nat → Int32, g = upd fn_ringStates (f_changes - f_changes / (20 : Int32) * (20 : Int32)).toNatClampNeg p0 := ⟨_, rfl⟩
  have hP : va_P (dC, dI) vwCl [(h0, .inr (5, [.ref a_rules, .ref a_kps, .ref a_kis, .ref a_sums, .int f_lost, .int p0, .int p1, .long f_currentD, .long f_currentQ, .long f_pace, .int f_angle, .ref a_onTimes, .int f_over, .long f_voltD, .long f_voltQ, .long f_heat, .int f_beats, .int (0 : Int32), .ref a_ringBeats, .ref a_ringStates, .ref a_ringFaults, .int f_changes, .ref a_found, .int f_foundOver, .long f_behind])), (a_ringBeats, .inl (ca_ringBeats, 20, .inl g1)), (a_ringStates, .inl (ca_ringStates, 20, .inl g2)), (a_ringFaults, .inl (ca_ringFaults, 20, .inl fn_ringFaults))] H := by rw [eg2]; exact hP
  have hD : va_D A [(h0, .inr (5, [.ref a_rules, .ref a_kps, .ref a_kis, .ref a_sums, .int f_lost, .int p0, .int p1, .long f_currentD, .long f_currentQ, .long f_pace, .int f_angle, .ref a_onTimes, .int f_over, .long f_voltD, .long f_voltQ, .long f_heat, .int f_beats, .int (0 : Int32), .ref a_ringBeats, .ref a_ringStates, .ref a_ringFaults, .int f_changes, .ref a_found, .int f_foundOver, .long f_behind])), (a_ringBeats, .inl (ca_ringBeats, 20, .inl g1)), (a_ringStates, .inl (ca_ringStates, 20, .inl g2)), (a_ringFaults, .inl (ca_ringFaults, 20, .inl fn_ringFaults))] := by rw [eg2]; exact hD
  refine lv_aload_n hx hb dX6_become_41 rfl (lv_at hl 0 rfl) ?_
  refine va_get (D := (dC, dI)) (ci := 5) (v := .ref a_ringFaults) (C := RX6) (T := TX6) (N := 25) hx hb hts hinX6 hown hK hP 0 rfl rfl 20 (by decide) hw6 (fun _ h9 => h9) rfl dX6_become_42 ?_
  refine lv_aload_n hx hb dX6_become_45 rfl (lv_at hl 0 rfl) ?_
  refine va_get (D := (dC, dI)) (ci := 5) (v := .int f_changes) (C := RX6) (T := TX6) (N := 25) hx hb hts hinX6 hown hK hP 0 rfl rfl 21 (by decide) hw4 (fun _ h9 => h9) rfl dX6_become_46 ?_
  refine lv_bipush (v := 20) hx hb dX6_become_49 (by decide) ?_
  refine lv_irem hx hb dX6_become_51 (by decide) ?_
  refine lv_iload_n hx hb dX6_become_52 rfl (lv_at hl 2 rfl) ?_
  refine va_iast hx hb hK hP hD hS 3 2 rfl rfl (ar_ix20 hc0) dX6_become_53 (fun H locs hP hD hS => ?_)
  obtain ⟨g3, eg3⟩ : ∃ g : Nat → Int32, g = upd fn_ringFaults (f_changes - f_changes / (20 : Int32) * (20 : Int32)).toNatClampNeg p1 := ⟨_, rfl⟩
  have hP : va_P (dC, dI) vwCl [(h0, .inr (5, [.ref a_rules, .ref a_kps, .ref a_kis, .ref a_sums, .int f_lost, .int p0, .int p1, .long f_currentD, .long f_currentQ, .long f_pace, .int f_angle, .ref a_onTimes, .int f_over, .long f_voltD, .long f_voltQ, .long f_heat, .int f_beats, .int (0 : Int32), .ref a_ringBeats, .ref a_ringStates, .ref a_ringFaults, .int f_changes, .ref a_found, .int f_foundOver, .long f_behind])), (a_ringBeats, .inl (ca_ringBeats, 20, .inl g1)), (a_ringStates, .inl (ca_ringStates, 20, .inl g2)), (a_ringFaults, .inl (ca_ringFaults, 20, .inl g3))] H := by rw [eg3]; exact hP
  have hD : va_D A [(h0, .inr (5, [.ref a_rules, .ref a_kps, .ref a_kis, .ref a_sums, .int f_lost, .int p0, .int p1, .long f_currentD, .long f_currentQ, .long f_pace, .int f_angle, .ref a_onTimes, .int f_over, .long f_voltD, .long f_voltQ, .long f_heat, .int f_beats, .int (0 : Int32), .ref a_ringBeats, .ref a_ringStates, .ref a_ringFaults, .int f_changes, .ref a_found, .int f_foundOver, .long f_behind])), (a_ringBeats, .inl (ca_ringBeats, 20, .inl g1)), (a_ringStates, .inl (ca_ringStates, 20, .inl g2)), (a_ringFaults, .inl (ca_ringFaults, 20, .inl g3))] := by rw [eg3]; exact hD
  refine lv_aload_n hx hb dX6_become_54 rfl (lv_at hl 0 rfl) ?_
  refine lv_dup hx hb dX6_become_55 rfl ?_
  refine va_get (D := (dC, dI)) (ci := 5) (v := .int f_changes) (C := RX6) (T := TX6) (N := 25) hx hb hts hinX6 hown hK hP 0 rfl rfl 21 (by decide) hw4 (fun _ h9 => h9) rfl dX6_become_56 ?_
  refine lv_iconst (v := 1) hx hb dX6_become_59 (by decide) ?_
  refine lv_iadd hx hb dX6_become_60 ?_
  refine lv_topi (fun v4 ev4 => ?_)
  refine va_put (D := (dC, dI)) (ci := 5) (v := .int v4) (ty := .int) (C := RX6) (T := TX6) (N := 25) hx hb hts hinX6 tyX6 tyX6_ok nmX6 hown hK hP hD hS 0 rfl rfl 21 (by decide) hw4 (fun _ h9 => h9) rfl (by decide +kernel) rfl rfl (Nat.le_of_ble_eq_true rfl) dX6_become_61 (fun H locs hP hD hS => ?_)
  have hP : va_P (dC, dI) vwCl [(h0, .inr (5, [.ref a_rules, .ref a_kps, .ref a_kis, .ref a_sums, .int f_lost, .int p0, .int p1, .long f_currentD, .long f_currentQ, .long f_pace, .int f_angle, .ref a_onTimes, .int f_over, .long f_voltD, .long f_voltQ, .long f_heat, .int f_beats, .int (0 : Int32), .ref a_ringBeats, .ref a_ringStates, .ref a_ringFaults, .int v4, .ref a_found, .int f_foundOver, .long f_behind])), (a_ringBeats, .inl (ca_ringBeats, 20, .inl g1)), (a_ringStates, .inl (ca_ringStates, 20, .inl g2)), (a_ringFaults, .inl (ca_ringFaults, 20, .inl g3))] H := hP
  have hD : va_D A [(h0, .inr (5, [.ref a_rules, .ref a_kps, .ref a_kis, .ref a_sums, .int f_lost, .int p0, .int p1, .long f_currentD, .long f_currentQ, .long f_pace, .int f_angle, .ref a_onTimes, .int f_over, .long f_voltD, .long f_voltQ, .long f_heat, .int f_beats, .int (0 : Int32), .ref a_ringBeats, .ref a_ringStates, .ref a_ringFaults, .int v4, .ref a_found, .int f_foundOver, .long f_behind])), (a_ringBeats, .inl (ca_ringBeats, 20, .inl g1)), (a_ringStates, .inl (ca_ringStates, 20, .inl g2)), (a_ringFaults, .inl (ca_ringFaults, 20, .inl g3))] := hD
  have hP9 := hP.sub (ws' := [(h0, .inr (5, [.ref a_rules, .ref a_kps, .ref a_kis, .ref a_sums, .int f_lost, .int p0, .int p1, .long f_currentD, .long f_currentQ, .long f_pace, .int f_angle, .ref a_onTimes, .int f_over, .long f_voltD, .long f_voltQ, .long f_heat, .int f_beats, .int (0 : Int32), .ref a_ringBeats, .ref a_ringStates, .ref a_ringFaults, .int v4, .ref a_found, .int f_foundOver, .long f_behind])), (a_ringBeats, .inl (ca_ringBeats, 20, .inl g1)), (a_ringStates, .inl (ca_ringStates, 20, .inl g2)), (a_ringFaults, .inl (ca_ringFaults, 20, .inl g3))]) [0, 1, 2, 3] rfl
  have hD9 := hD.sub (ws' := [(h0, .inr (5, [.ref a_rules, .ref a_kps, .ref a_kis, .ref a_sums, .int f_lost, .int p0, .int p1, .long f_currentD, .long f_currentQ, .long f_pace, .int f_angle, .ref a_onTimes, .int f_over, .long f_voltD, .long f_voltQ, .long f_heat, .int f_beats, .int (0 : Int32), .ref a_ringBeats, .ref a_ringStates, .ref a_ringFaults, .int v4, .ref a_found, .int f_foundOver, .long f_behind])), (a_ringBeats, .inl (ca_ringBeats, 20, .inl g1)), (a_ringStates, .inl (ca_ringStates, 20, .inl g2)), (a_ringFaults, .inl (ca_ringFaults, 20, .inl g3))]) [0, 1, 2, 3] (by decide) rfl
  have hK9 := hK.sub (tys' := [(ca_ringBeats, .int), (ca_ringStates, .int), (ca_ringFaults, .int)]) [0, 1, 2] rfl
  exact W.vret hx hb hr (fun t ht hW => ⟨⟨(p0, p1, v4, g1, g2, g3), rfl, ⟨g1, eg1, ⟨g2, eg2, ⟨g3, eg3, ⟨v4, ev4, ⟨rfl, rfl, rfl, rfl, rfl, rfl⟩⟩⟩⟩⟩, (by rw [ht]; exact hP9), va_K.moved hW.alike hK9, hD9⟩, hS.F ht⟩) hS.2.2 dX6_become_64
def R_X6_faultNow (f_lost : Int32) (f_state : Int32) (f_currentD : Int64) (f_currentQ : Int64) (f_heat : Int64) (fn_rules : Nat → Int32) (r : Int32) : Prop := ∃ (r1 : Int64), R_X6_size f_currentD r1 ∧ (∃ v3 : Int32, v3 = fn_rules 3 ∧ (((v3.toInt64) < r1 → (r = (1 : Int32))) ∧ (¬ ((v3.toInt64) < r1) → (∃ (r5 : Int64), R_X6_size f_currentQ r5 ∧ (∃ v7 : Int32, v7 = fn_rules 3 ∧ ((r5 ≤ (v7.toInt64) → (∃ v9 : Int32, v9 = fn_rules 0 ∧ ((v9 ≤ (25000 : Int32) → ((f_lost = (0 : Int32) → ((f_heat ≤ (100000 : Int64) → (r = (0 : Int32))) ∧ (¬ (f_heat ≤ (100000 : Int64)) → (r = (4 : Int32))))) ∧ (¬ (f_lost = (0 : Int32)) → ((f_state = (2 : Int32) → (r = (3 : Int32))) ∧ (¬ (f_state = (2 : Int32)) → ((f_state = (3 : Int32) → (r = (3 : Int32))) ∧ (¬ (f_state = (3 : Int32)) → ((f_heat ≤ (100000 : Int64) → (r = (0 : Int32))) ∧ (¬ (f_heat ≤ (100000 : Int64)) → (r = (4 : Int32))))))))))) ∧ (¬ (v9 ≤ (25000 : Int32)) → (r = (2 : Int32)))))) ∧ (¬ (r5 ≤ (v7.toInt64)) → (r = (1 : Int32)))))))))
set_option maxHeartbeats 4000000 in
set_option maxRecDepth 100000 in
theorem c_X6_faultNow (l : Launch) (dC : Nat → ClassId) (dI : Nat → Nat → Nat) (h0 : Nat) (a_rules : Nat) (a_kps : Nat) (a_kis : Nat) (a_sums : Nat) (f_lost : Int32) (f_state : Int32) (f_fault : Int32) (f_currentD : Int64) (f_currentQ : Int64) (f_pace : Int64) (f_angle : Int32) (a_onTimes : Nat) (f_over : Int32) (f_voltD : Int64) (f_voltQ : Int64) (f_heat : Int64) (f_beats : Int32) (f_aligned : Int32) (a_ringBeats : Nat) (a_ringStates : Nat) (a_ringFaults : Nat) (f_changes : Int32) (a_found : Nat) (f_foundOver : Int32) (f_behind : Int64) (ca_rules : ClassId) (fn_rules : Nat → Int32) (sz : Nat)  : Met l yX6_faultNow wsX6_faultNow ({ frames := 1, cells := 0, slots := 0, locals := 21 }) (va_Pc [.ref h0] (mw_pre (dC, dI) vwCl [(h0, .inr (5, [.ref a_rules, .ref a_kps, .ref a_kis, .ref a_sums, .int f_lost, .int f_state, .int f_fault, .long f_currentD, .long f_currentQ, .long f_pace, .int f_angle, .ref a_onTimes, .int f_over, .long f_voltD, .long f_voltQ, .long f_heat, .int f_beats, .int f_aligned, .ref a_ringBeats, .ref a_ringStates, .ref a_ringFaults, .int f_changes, .ref a_found, .int f_foundOver, .long f_behind])), (a_rules, .inl (ca_rules, 6, .inl fn_rules))] [(ca_rules, .int)] sz)) (va_Qi (fun (r : Int32) (u : Unit) => R_X6_faultNow f_lost f_state f_currentD f_currentQ f_heat fn_rules r) (fun u t => mw_at (dC, dI) vwCl [(h0, .inr (5, [.ref a_rules, .ref a_kps, .ref a_kis, .ref a_sums, .int f_lost, .int f_state, .int f_fault, .long f_currentD, .long f_currentQ, .long f_pace, .int f_angle, .ref a_onTimes, .int f_over, .long f_voltD, .long f_voltQ, .long f_heat, .int f_beats, .int f_aligned, .ref a_ringBeats, .ref a_ringStates, .ref a_ringFaults, .int f_changes, .ref a_found, .int f_foundOver, .long f_behind])), (a_rules, .inl (ca_rules, 6, .inl fn_rules))] [(ca_rules, .int)] (va_A [(h0, .inr (5, [.ref a_rules, .ref a_kps, .ref a_kis, .ref a_sums, .int f_lost, .int f_state, .int f_fault, .long f_currentD, .long f_currentQ, .long f_pace, .int f_angle, .ref a_onTimes, .int f_over, .long f_voltD, .long f_voltQ, .long f_heat, .int f_beats, .int f_aligned, .ref a_ringBeats, .ref a_ringStates, .ref a_ringFaults, .int f_changes, .ref a_found, .int f_foundOver, .long f_behind])), (a_rules, .inl (ca_rules, 6, .inl fn_rules))] sz) t) (va_A [(h0, .inr (5, [.ref a_rules, .ref a_kps, .ref a_kis, .ref a_sums, .int f_lost, .int f_state, .int f_fault, .long f_currentD, .long f_currentQ, .long f_pace, .int f_angle, .ref a_onTimes, .int f_over, .long f_voltD, .long f_voltQ, .long f_heat, .int f_beats, .int f_aligned, .ref a_ringBeats, .ref a_ringStates, .ref a_ringFaults, .int f_changes, .ref a_found, .int f_foundOver, .long f_behind])), (a_rules, .inl (ca_rules, 6, .inl fn_rules))] sz)) 0 0 (va_A [(h0, .inr (5, [.ref a_rules, .ref a_kps, .ref a_kis, .ref a_sums, .int f_lost, .int f_state, .int f_fault, .long f_currentD, .long f_currentQ, .long f_pace, .int f_angle, .ref a_onTimes, .int f_over, .long f_voltD, .long f_voltQ, .long f_heat, .int f_beats, .int f_aligned, .ref a_ringBeats, .ref a_ringStates, .ref a_ringFaults, .int f_changes, .ref a_found, .int f_foundOver, .long f_behind])), (a_rules, .inl (ca_rules, 6, .inl fn_rules))] sz) := by
  refine Met.ofW (cc := cX6_faultNow) (maxL := 1) (ret := (some .int)) (by decide) rfl ?_
  intro p e s m args below meth c s₁ B hml hv
  obtain ⟨rfl, hsz, hP, hK, hD0, hN⟩ := hv
  have hx := B.exec
  have hb := B.bytes
  have hr := B.returns
  have hts := atoms_spec (ws := wsX6_faultNow) B.pre
  have hown : s.vm.findClass RX6 = some m.cls := findClass_of_methodNamed B.named
  have hlocks := B.notSynchronized
  subst hsz
  have hD := hD0.self (sz := s.heap.size)
  generalize hAe : va_A [(h0, .inr (5, [.ref a_rules, .ref a_kps, .ref a_kis, .ref a_sums, .int f_lost, .int f_state, .int f_fault, .long f_currentD, .long f_currentQ, .long f_pace, .int f_angle, .ref a_onTimes, .int f_over, .long f_voltD, .long f_voltQ, .long f_heat, .int f_beats, .int f_aligned, .ref a_ringBeats, .ref a_ringStates, .ref a_ringFaults, .int f_changes, .ref a_found, .int f_foundOver, .long f_behind])), (a_rules, .inl (ca_rules, 6, .inl fn_rules))] s.heap.size = A at hD ⊢
  have hA : ∀ q : Nat, s.heap.size ≤ q → A q := fun q h => by rw [← hAe]; exact Or.inr h
  have hS : va_S A s.heap s.heap [] := va_S.rf
  have hP : va_P (dC, dI) vwCl [(h0, .inr (5, [.ref a_rules, .ref a_kps, .ref a_kis, .ref a_sums, .int f_lost, .int f_state, .int f_fault, .long f_currentD, .long f_currentQ, .long f_pace, .int f_angle, .ref a_onTimes, .int f_over, .long f_voltD, .long f_voltQ, .long f_heat, .int f_beats, .int f_aligned, .ref a_ringBeats, .ref a_ringStates, .ref a_ringFaults, .int f_changes, .ref a_found, .int f_foundOver, .long f_behind])), (a_rules, .inl (ca_rules, 6, .inl fn_rules))] s.heap := hP
  have hl := lv_entry ([.ref h0]) (n := 1) (Nat.le_of_ble_eq_true rfl)
  rw [lg_entry_eq]
  generalize (lg_sl ([.ref h0]) ++ List.replicate (1 - (lg_sl ([.ref h0])).length) Slot.unset).toArray = ls at hl ⊢
  have hl : lv_has ls 1 [(0, .ref h0)] := hl
  have hw0 := hts (.fieldLink RX6 141 "TurnedFieldsModel" "currentD" "J") (by decide +kernel)
  have hw1 := hts (.fieldLink RX6 7 "TurnedFieldsModel" "rules" "[I") (by decide +kernel)
  have hw2 := hts (.fieldLink RX6 148 "TurnedFieldsModel" "currentQ" "J") (by decide +kernel)
  have hw3 := hts (.fieldLink RX6 105 "TurnedFieldsModel" "lost" "Z") (by decide +kernel)
  have hw4 := hts (.fieldLink RX6 151 "TurnedFieldsModel" "heat" "J") (by decide +kernel)
  have hw5 := hts (.constantLong RX6 126 (100000)) (by decide +kernel)
  have hw6 := hts (.fieldLink RX6 128 "TurnedFieldsModel" "state" "I") (by decide +kernel)
  have hinX6 : ∀ w ∈ wsX60, w ∈ wsX6_faultNow := by decide +kernel
  refine lv_aload_n hx hb dX6_faultNow_0 rfl (lv_at hl 0 rfl) ?_
  refine va_get (D := (dC, dI)) (ci := 5) (v := .long f_currentD) (C := RX6) (T := TX6) (N := 25) hx hb hts hinX6 hown hK hP 0 rfl rfl 7 (by decide) hw0 (fun _ h9 => h9) rfl dX6_faultNow_1 ?_
  refine mw_calll (wc := []) (wr := [(h0, .inr (5, [.ref a_rules, .ref a_kps, .ref a_kis, .ref a_sums, .int f_lost, .int f_state, .int f_fault, .long f_currentD, .long f_currentQ, .long f_pace, .int f_angle, .ref a_onTimes, .int f_over, .long f_voltD, .long f_voltQ, .long f_heat, .int f_beats, .int f_aligned, .ref a_ringBeats, .ref a_ringStates, .ref a_ringFaults, .int f_changes, .ref a_found, .int f_foundOver, .long f_behind])), (a_rules, .inl (ca_rules, 6, .inl fn_rules))]) (w1 := fun (u : Unit) => []) (tyc := fun (u : Unit) => []) hP hD hS hA [] [0, 1] rfl rfl (by decide) (by decide) (va_runS (As := [.long f_currentD]) (rest := []) ⟨hx, hb, hml, hown, hts⟩ (c_X6_size l dC dI f_currentD s.heap.size ) (va_cwS 1 hts gX6_faultNow_X6_size rfl rfl rfl (by decide +kernel) ⟨(Nat.le_of_ble_eq_true rfl), (Nat.le_of_ble_eq_true rfl)⟩) (mw_preS (hP.sub (ws' := []) [] rfl) (hD.sub (ws' := []) [] (by decide) rfl) (hK.sub (tys' := []) [] rfl) hN) rfl rfl hl.1 rfl (lv_room (Nat.le_of_ble_eq_true rfl)) dX6_faultNow_4 ⟨(Nat.le_of_ble_eq_true rfl), (Nat.le_of_ble_eq_true rfl)⟩) (fun r1 u H locs hw_2 hP hD hS hK1 => ?_)
  have hw_2 : R_X6_size f_currentD r1 := hw_2
  have hP : va_P (dC, dI) vwCl [(h0, .inr (5, [.ref a_rules, .ref a_kps, .ref a_kis, .ref a_sums, .int f_lost, .int f_state, .int f_fault, .long f_currentD, .long f_currentQ, .long f_pace, .int f_angle, .ref a_onTimes, .int f_over, .long f_voltD, .long f_voltQ, .long f_heat, .int f_beats, .int f_aligned, .ref a_ringBeats, .ref a_ringStates, .ref a_ringFaults, .int f_changes, .ref a_found, .int f_foundOver, .long f_behind])), (a_rules, .inl (ca_rules, 6, .inl fn_rules))] H := hP
  have hD : va_D A [(h0, .inr (5, [.ref a_rules, .ref a_kps, .ref a_kis, .ref a_sums, .int f_lost, .int f_state, .int f_fault, .long f_currentD, .long f_currentQ, .long f_pace, .int f_angle, .ref a_onTimes, .int f_over, .long f_voltD, .long f_voltQ, .long f_heat, .int f_beats, .int f_aligned, .ref a_ringBeats, .ref a_ringStates, .ref a_ringFaults, .int f_changes, .ref a_found, .int f_foundOver, .long f_behind])), (a_rules, .inl (ca_rules, 6, .inl fn_rules))] := hD
  refine lv_aload_n hx hb dX6_faultNow_7 rfl (lv_at hl 0 rfl) ?_
  refine va_get (D := (dC, dI)) (ci := 5) (v := .ref a_rules) (C := RX6) (T := TX6) (N := 25) hx hb hts hinX6 hown hK hP 0 rfl rfl 0 (by decide) hw1 (fun _ h9 => h9) rfl dX6_faultNow_8 ?_
  refine lv_iconst (v := 3) hx hb dX6_faultNow_11 (by decide) ?_
  refine va_iald hx hb hK hP 1 0 rfl rfl (by unfold vp_in; decide) dX6_faultNow_12 ?_
  refine lv_topi (fun v3 ev3 => ?_)
  have ev3 : v3 = fn_rules 3 := ev3
  refine lv_i2l hx hb dX6_faultNow_13 rfl ?_
  refine W.lcmp hx hb dX6_faultNow_14 ?_
  refine lv_if_gt (tgt := 36) hx hb dX6_faultNow_15 (by decide) (fun c4 => ?_) (fun c4 => ?_)
  · have c4 : (v3.toInt64) < r1 := (lg_cmp_gt _ _).mp c4
    refine lv_iconst (v := 1) hx hb dX6_faultNow_36 (by decide) ?_
    have hP9 := hP.sub (ws' := [(h0, .inr (5, [.ref a_rules, .ref a_kps, .ref a_kis, .ref a_sums, .int f_lost, .int f_state, .int f_fault, .long f_currentD, .long f_currentQ, .long f_pace, .int f_angle, .ref a_onTimes, .int f_over, .long f_voltD, .long f_voltQ, .long f_heat, .int f_beats, .int f_aligned, .ref a_ringBeats, .ref a_ringStates, .ref a_ringFaults, .int f_changes, .ref a_found, .int f_foundOver, .long f_behind])), (a_rules, .inl (ca_rules, 6, .inl fn_rules))]) [0, 1] rfl
    have hD9 := hD.sub (ws' := [(h0, .inr (5, [.ref a_rules, .ref a_kps, .ref a_kis, .ref a_sums, .int f_lost, .int f_state, .int f_fault, .long f_currentD, .long f_currentQ, .long f_pace, .int f_angle, .ref a_onTimes, .int f_over, .long f_voltD, .long f_voltQ, .long f_heat, .int f_beats, .int f_aligned, .ref a_ringBeats, .ref a_ringStates, .ref a_ringFaults, .int f_changes, .ref a_found, .int f_foundOver, .long f_behind])), (a_rules, .inl (ca_rules, 6, .inl fn_rules))]) [0, 1] (by decide) rfl
    have hK9 := hK.sub (tys' := [(ca_rules, .int)]) [0] rfl
    exact W.iret (v := (1 : Int32)) hx hb hr (fun t ht hW => ⟨⟨(1 : Int32), (), rfl, ⟨r1, hw_2, ⟨v3, ev3, ⟨fun _ => rfl, fun hh => absurd c4 hh⟩⟩⟩, (by rw [ht]; exact hP9), va_K.moved hW.alike hK9, hD9⟩, hS.F ht⟩) hS.2.2 dX6_faultNow_37
  · have c4 : ¬ ((v3.toInt64) < r1) := mw_fgt c4
    refine lv_aload_n hx hb dX6_faultNow_18 rfl (lv_at hl 0 rfl) ?_
    refine va_get (D := (dC, dI)) (ci := 5) (v := .long f_currentQ) (C := RX6) (T := TX6) (N := 25) hx hb hts hinX6 hown hK hP 0 rfl rfl 8 (by decide) hw2 (fun _ h9 => h9) rfl dX6_faultNow_19 ?_
    refine mw_calll (wc := []) (wr := [(h0, .inr (5, [.ref a_rules, .ref a_kps, .ref a_kis, .ref a_sums, .int f_lost, .int f_state, .int f_fault, .long f_currentD, .long f_currentQ, .long f_pace, .int f_angle, .ref a_onTimes, .int f_over, .long f_voltD, .long f_voltQ, .long f_heat, .int f_beats, .int f_aligned, .ref a_ringBeats, .ref a_ringStates, .ref a_ringFaults, .int f_changes, .ref a_found, .int f_foundOver, .long f_behind])), (a_rules, .inl (ca_rules, 6, .inl fn_rules))]) (w1 := fun (u : Unit) => []) (tyc := fun (u : Unit) => []) hP hD hS hA [] [0, 1] rfl rfl (by decide) (by decide) (va_runS (As := [.long f_currentQ]) (rest := []) ⟨hx, hb, hml, hown, hts⟩ (c_X6_size l dC dI f_currentQ H.size ) (va_cwS 1 hts gX6_faultNow_X6_size rfl rfl rfl (by decide +kernel) ⟨(Nat.le_of_ble_eq_true rfl), (Nat.le_of_ble_eq_true rfl)⟩) (mw_preS (hP.sub (ws' := []) [] rfl) (hD.sub (ws' := []) [] (by decide) rfl) (hK.sub (tys' := []) [] rfl) hN) rfl rfl hl.1 rfl (lv_room (Nat.le_of_ble_eq_true rfl)) dX6_faultNow_22 ⟨(Nat.le_of_ble_eq_true rfl), (Nat.le_of_ble_eq_true rfl)⟩) (fun r5 u H locs hw_6 hP hD hS hK1 => ?_)
    have hw_6 : R_X6_size f_currentQ r5 := hw_6
    have hP : va_P (dC, dI) vwCl [(h0, .inr (5, [.ref a_rules, .ref a_kps, .ref a_kis, .ref a_sums, .int f_lost, .int f_state, .int f_fault, .long f_currentD, .long f_currentQ, .long f_pace, .int f_angle, .ref a_onTimes, .int f_over, .long f_voltD, .long f_voltQ, .long f_heat, .int f_beats, .int f_aligned, .ref a_ringBeats, .ref a_ringStates, .ref a_ringFaults, .int f_changes, .ref a_found, .int f_foundOver, .long f_behind])), (a_rules, .inl (ca_rules, 6, .inl fn_rules))] H := hP
    have hD : va_D A [(h0, .inr (5, [.ref a_rules, .ref a_kps, .ref a_kis, .ref a_sums, .int f_lost, .int f_state, .int f_fault, .long f_currentD, .long f_currentQ, .long f_pace, .int f_angle, .ref a_onTimes, .int f_over, .long f_voltD, .long f_voltQ, .long f_heat, .int f_beats, .int f_aligned, .ref a_ringBeats, .ref a_ringStates, .ref a_ringFaults, .int f_changes, .ref a_found, .int f_foundOver, .long f_behind])), (a_rules, .inl (ca_rules, 6, .inl fn_rules))] := hD
    refine lv_aload_n hx hb dX6_faultNow_25 rfl (lv_at hl 0 rfl) ?_
    refine va_get (D := (dC, dI)) (ci := 5) (v := .ref a_rules) (C := RX6) (T := TX6) (N := 25) hx hb hts hinX6 hown hK hP 0 rfl rfl 0 (by decide) hw1 (fun _ h9 => h9) rfl dX6_faultNow_26 ?_
    refine lv_iconst (v := 3) hx hb dX6_faultNow_29 (by decide) ?_
    refine va_iald hx hb hK hP 1 0 rfl rfl (by unfold vp_in; decide) dX6_faultNow_30 ?_
    refine lv_topi (fun v7 ev7 => ?_)
    have ev7 : v7 = fn_rules 3 := ev7
    refine lv_i2l hx hb dX6_faultNow_31 rfl ?_
    refine W.lcmp hx hb dX6_faultNow_32 ?_
    refine lv_if_le (tgt := 38) hx hb dX6_faultNow_33 (by decide) (fun c8 => ?_) (fun c8 => ?_)
    · have c8 : r5 ≤ (v7.toInt64) := (lg_cmp_le _ _).mp c8
      refine lv_aload_n hx hb dX6_faultNow_38 rfl (lv_at hl 0 rfl) ?_
      refine va_get (D := (dC, dI)) (ci := 5) (v := .ref a_rules) (C := RX6) (T := TX6) (N := 25) hx hb hts hinX6 hown hK hP 0 rfl rfl 0 (by decide) hw1 (fun _ h9 => h9) rfl dX6_faultNow_39 ?_
      refine lv_iconst (v := 0) hx hb dX6_faultNow_42 (by decide) ?_
      refine va_iald hx hb hK hP 1 0 rfl rfl (by unfold vp_in; decide) dX6_faultNow_43 ?_
      refine lv_topi (fun v9 ev9 => ?_)
      have ev9 : v9 = fn_rules 0 := ev9
      refine lv_sipush (v := 25000) hx hb dX6_faultNow_44 (by decide) ?_
      refine lv_icmp_le (tgt := 52) hx hb dX6_faultNow_47 (by decide) (fun c10 => ?_) (fun c10 => ?_)
      · refine lv_aload_n hx hb dX6_faultNow_52 rfl (lv_at hl 0 rfl) ?_
        refine va_get (D := (dC, dI)) (ci := 5) (v := .int f_lost) (C := RX6) (T := TX6) (N := 25) hx hb hts hinX6 hown hK hP 0 rfl rfl 4 (by decide) hw3 (fun _ h9 => h9) rfl dX6_faultNow_53 ?_
        refine lv_if_eq (tgt := 77) hx hb dX6_faultNow_56 (by decide) (fun c11 => ?_) (fun c11 => ?_)
        · have c11 : f_lost = (0 : Int32) := c11
          refine lv_aload_n hx hb dX6_faultNow_77 rfl (lv_at hl 0 rfl) ?_
          refine va_get (D := (dC, dI)) (ci := 5) (v := .long f_heat) (C := RX6) (T := TX6) (N := 25) hx hb hts hinX6 hown hK hP 0 rfl rfl 15 (by decide) hw4 (fun _ h9 => h9) rfl dX6_faultNow_78 ?_
          refine lv_ldc2 hx hb hown hw5 dX6_faultNow_81 ?_
          refine W.lcmp hx hb dX6_faultNow_84 ?_
          refine lv_if_le (tgt := 92) hx hb dX6_faultNow_85 (by decide) (fun c12 => ?_) (fun c12 => ?_)
          · have c12 : f_heat ≤ (100000 : Int64) := (lg_cmp_le _ _).mp c12
            refine lv_iconst (v := 0) hx hb dX6_faultNow_92 (by decide) ?_
            have hP9 := hP.sub (ws' := [(h0, .inr (5, [.ref a_rules, .ref a_kps, .ref a_kis, .ref a_sums, .int f_lost, .int f_state, .int f_fault, .long f_currentD, .long f_currentQ, .long f_pace, .int f_angle, .ref a_onTimes, .int f_over, .long f_voltD, .long f_voltQ, .long f_heat, .int f_beats, .int f_aligned, .ref a_ringBeats, .ref a_ringStates, .ref a_ringFaults, .int f_changes, .ref a_found, .int f_foundOver, .long f_behind])), (a_rules, .inl (ca_rules, 6, .inl fn_rules))]) [0, 1] rfl
            have hD9 := hD.sub (ws' := [(h0, .inr (5, [.ref a_rules, .ref a_kps, .ref a_kis, .ref a_sums, .int f_lost, .int f_state, .int f_fault, .long f_currentD, .long f_currentQ, .long f_pace, .int f_angle, .ref a_onTimes, .int f_over, .long f_voltD, .long f_voltQ, .long f_heat, .int f_beats, .int f_aligned, .ref a_ringBeats, .ref a_ringStates, .ref a_ringFaults, .int f_changes, .ref a_found, .int f_foundOver, .long f_behind])), (a_rules, .inl (ca_rules, 6, .inl fn_rules))]) [0, 1] (by decide) rfl
            have hK9 := hK.sub (tys' := [(ca_rules, .int)]) [0] rfl
            exact W.iret (v := (0 : Int32)) hx hb hr (fun t ht hW => ⟨⟨(0 : Int32), (), rfl, ⟨r1, hw_2, ⟨v3, ev3, ⟨fun hh => absurd hh c4, fun _ => ⟨r5, hw_6, ⟨v7, ev7, ⟨fun _ => ⟨v9, ev9, ⟨fun _ => ⟨fun _ => ⟨fun _ => rfl, fun hh => absurd c12 hh⟩, fun hh => absurd c11 hh⟩, fun hh => absurd c10 hh⟩⟩, fun hh => absurd c8 hh⟩⟩⟩⟩⟩⟩, (by rw [ht]; exact hP9), va_K.moved hW.alike hK9, hD9⟩, hS.F ht⟩) hS.2.2 dX6_faultNow_93
          · have c12 : ¬ (f_heat ≤ (100000 : Int64)) := mw_fle c12
            refine lv_iconst (v := 4) hx hb dX6_faultNow_88 (by decide) ?_
            refine lv_goto (tgt := 93) hx hb dX6_faultNow_89 (by decide) ?_
            have hP9 := hP.sub (ws' := [(h0, .inr (5, [.ref a_rules, .ref a_kps, .ref a_kis, .ref a_sums, .int f_lost, .int f_state, .int f_fault, .long f_currentD, .long f_currentQ, .long f_pace, .int f_angle, .ref a_onTimes, .int f_over, .long f_voltD, .long f_voltQ, .long f_heat, .int f_beats, .int f_aligned, .ref a_ringBeats, .ref a_ringStates, .ref a_ringFaults, .int f_changes, .ref a_found, .int f_foundOver, .long f_behind])), (a_rules, .inl (ca_rules, 6, .inl fn_rules))]) [0, 1] rfl
            have hD9 := hD.sub (ws' := [(h0, .inr (5, [.ref a_rules, .ref a_kps, .ref a_kis, .ref a_sums, .int f_lost, .int f_state, .int f_fault, .long f_currentD, .long f_currentQ, .long f_pace, .int f_angle, .ref a_onTimes, .int f_over, .long f_voltD, .long f_voltQ, .long f_heat, .int f_beats, .int f_aligned, .ref a_ringBeats, .ref a_ringStates, .ref a_ringFaults, .int f_changes, .ref a_found, .int f_foundOver, .long f_behind])), (a_rules, .inl (ca_rules, 6, .inl fn_rules))]) [0, 1] (by decide) rfl
            have hK9 := hK.sub (tys' := [(ca_rules, .int)]) [0] rfl
            exact W.iret (v := (4 : Int32)) hx hb hr (fun t ht hW => ⟨⟨(4 : Int32), (), rfl, ⟨r1, hw_2, ⟨v3, ev3, ⟨fun hh => absurd hh c4, fun _ => ⟨r5, hw_6, ⟨v7, ev7, ⟨fun _ => ⟨v9, ev9, ⟨fun _ => ⟨fun _ => ⟨fun hh => absurd hh c12, fun _ => rfl⟩, fun hh => absurd c11 hh⟩, fun hh => absurd c10 hh⟩⟩, fun hh => absurd c8 hh⟩⟩⟩⟩⟩⟩, (by rw [ht]; exact hP9), va_K.moved hW.alike hK9, hD9⟩, hS.F ht⟩) hS.2.2 dX6_faultNow_93
        · have c11 : ¬ (f_lost = (0 : Int32)) := c11
          refine lv_aload_n hx hb dX6_faultNow_59 rfl (lv_at hl 0 rfl) ?_
          refine va_get (D := (dC, dI)) (ci := 5) (v := .int f_state) (C := RX6) (T := TX6) (N := 25) hx hb hts hinX6 hown hK hP 0 rfl rfl 5 (by decide) hw6 (fun _ h9 => h9) rfl dX6_faultNow_60 ?_
          refine lv_iconst (v := 2) hx hb dX6_faultNow_63 (by decide) ?_
          refine lv_icmp_eq (tgt := 75) hx hb dX6_faultNow_64 (by decide) (fun c13 => ?_) (fun c13 => ?_)
          · refine lv_iconst (v := 3) hx hb dX6_faultNow_75 (by decide) ?_
            have hP9 := hP.sub (ws' := [(h0, .inr (5, [.ref a_rules, .ref a_kps, .ref a_kis, .ref a_sums, .int f_lost, .int f_state, .int f_fault, .long f_currentD, .long f_currentQ, .long f_pace, .int f_angle, .ref a_onTimes, .int f_over, .long f_voltD, .long f_voltQ, .long f_heat, .int f_beats, .int f_aligned, .ref a_ringBeats, .ref a_ringStates, .ref a_ringFaults, .int f_changes, .ref a_found, .int f_foundOver, .long f_behind])), (a_rules, .inl (ca_rules, 6, .inl fn_rules))]) [0, 1] rfl
            have hD9 := hD.sub (ws' := [(h0, .inr (5, [.ref a_rules, .ref a_kps, .ref a_kis, .ref a_sums, .int f_lost, .int f_state, .int f_fault, .long f_currentD, .long f_currentQ, .long f_pace, .int f_angle, .ref a_onTimes, .int f_over, .long f_voltD, .long f_voltQ, .long f_heat, .int f_beats, .int f_aligned, .ref a_ringBeats, .ref a_ringStates, .ref a_ringFaults, .int f_changes, .ref a_found, .int f_foundOver, .long f_behind])), (a_rules, .inl (ca_rules, 6, .inl fn_rules))]) [0, 1] (by decide) rfl
            have hK9 := hK.sub (tys' := [(ca_rules, .int)]) [0] rfl
            exact W.iret (v := (3 : Int32)) hx hb hr (fun t ht hW => ⟨⟨(3 : Int32), (), rfl, ⟨r1, hw_2, ⟨v3, ev3, ⟨fun hh => absurd hh c4, fun _ => ⟨r5, hw_6, ⟨v7, ev7, ⟨fun _ => ⟨v9, ev9, ⟨fun _ => ⟨fun hh => absurd hh c11, fun _ => ⟨fun _ => rfl, fun hh => absurd c13 hh⟩⟩, fun hh => absurd c10 hh⟩⟩, fun hh => absurd c8 hh⟩⟩⟩⟩⟩⟩, (by rw [ht]; exact hP9), va_K.moved hW.alike hK9, hD9⟩, hS.F ht⟩) hS.2.2 dX6_faultNow_76
          · refine lv_aload_n hx hb dX6_faultNow_67 rfl (lv_at hl 0 rfl) ?_
            refine va_get (D := (dC, dI)) (ci := 5) (v := .int f_state) (C := RX6) (T := TX6) (N := 25) hx hb hts hinX6 hown hK hP 0 rfl rfl 5 (by decide) hw6 (fun _ h9 => h9) rfl dX6_faultNow_68 ?_
            refine lv_iconst (v := 3) hx hb dX6_faultNow_71 (by decide) ?_
            refine lv_icmp_ne (tgt := 77) hx hb dX6_faultNow_72 (by decide) (fun c14 => ?_) (fun c14 => ?_)
            · refine lv_aload_n hx hb dX6_faultNow_77 rfl (lv_at hl 0 rfl) ?_
              refine va_get (D := (dC, dI)) (ci := 5) (v := .long f_heat) (C := RX6) (T := TX6) (N := 25) hx hb hts hinX6 hown hK hP 0 rfl rfl 15 (by decide) hw4 (fun _ h9 => h9) rfl dX6_faultNow_78 ?_
              refine lv_ldc2 hx hb hown hw5 dX6_faultNow_81 ?_
              refine W.lcmp hx hb dX6_faultNow_84 ?_
              refine lv_if_le (tgt := 92) hx hb dX6_faultNow_85 (by decide) (fun c15 => ?_) (fun c15 => ?_)
              · have c15 : f_heat ≤ (100000 : Int64) := (lg_cmp_le _ _).mp c15
                refine lv_iconst (v := 0) hx hb dX6_faultNow_92 (by decide) ?_
                have hP9 := hP.sub (ws' := [(h0, .inr (5, [.ref a_rules, .ref a_kps, .ref a_kis, .ref a_sums, .int f_lost, .int f_state, .int f_fault, .long f_currentD, .long f_currentQ, .long f_pace, .int f_angle, .ref a_onTimes, .int f_over, .long f_voltD, .long f_voltQ, .long f_heat, .int f_beats, .int f_aligned, .ref a_ringBeats, .ref a_ringStates, .ref a_ringFaults, .int f_changes, .ref a_found, .int f_foundOver, .long f_behind])), (a_rules, .inl (ca_rules, 6, .inl fn_rules))]) [0, 1] rfl
                have hD9 := hD.sub (ws' := [(h0, .inr (5, [.ref a_rules, .ref a_kps, .ref a_kis, .ref a_sums, .int f_lost, .int f_state, .int f_fault, .long f_currentD, .long f_currentQ, .long f_pace, .int f_angle, .ref a_onTimes, .int f_over, .long f_voltD, .long f_voltQ, .long f_heat, .int f_beats, .int f_aligned, .ref a_ringBeats, .ref a_ringStates, .ref a_ringFaults, .int f_changes, .ref a_found, .int f_foundOver, .long f_behind])), (a_rules, .inl (ca_rules, 6, .inl fn_rules))]) [0, 1] (by decide) rfl
                have hK9 := hK.sub (tys' := [(ca_rules, .int)]) [0] rfl
                exact W.iret (v := (0 : Int32)) hx hb hr (fun t ht hW => ⟨⟨(0 : Int32), (), rfl, ⟨r1, hw_2, ⟨v3, ev3, ⟨fun hh => absurd hh c4, fun _ => ⟨r5, hw_6, ⟨v7, ev7, ⟨fun _ => ⟨v9, ev9, ⟨fun _ => ⟨fun hh => absurd hh c11, fun _ => ⟨fun hh => absurd hh c13, fun _ => ⟨fun hh => absurd hh c14, fun _ => ⟨fun _ => rfl, fun hh => absurd c15 hh⟩⟩⟩⟩, fun hh => absurd c10 hh⟩⟩, fun hh => absurd c8 hh⟩⟩⟩⟩⟩⟩, (by rw [ht]; exact hP9), va_K.moved hW.alike hK9, hD9⟩, hS.F ht⟩) hS.2.2 dX6_faultNow_93
              · have c15 : ¬ (f_heat ≤ (100000 : Int64)) := mw_fle c15
                refine lv_iconst (v := 4) hx hb dX6_faultNow_88 (by decide) ?_
                refine lv_goto (tgt := 93) hx hb dX6_faultNow_89 (by decide) ?_
                have hP9 := hP.sub (ws' := [(h0, .inr (5, [.ref a_rules, .ref a_kps, .ref a_kis, .ref a_sums, .int f_lost, .int f_state, .int f_fault, .long f_currentD, .long f_currentQ, .long f_pace, .int f_angle, .ref a_onTimes, .int f_over, .long f_voltD, .long f_voltQ, .long f_heat, .int f_beats, .int f_aligned, .ref a_ringBeats, .ref a_ringStates, .ref a_ringFaults, .int f_changes, .ref a_found, .int f_foundOver, .long f_behind])), (a_rules, .inl (ca_rules, 6, .inl fn_rules))]) [0, 1] rfl
                have hD9 := hD.sub (ws' := [(h0, .inr (5, [.ref a_rules, .ref a_kps, .ref a_kis, .ref a_sums, .int f_lost, .int f_state, .int f_fault, .long f_currentD, .long f_currentQ, .long f_pace, .int f_angle, .ref a_onTimes, .int f_over, .long f_voltD, .long f_voltQ, .long f_heat, .int f_beats, .int f_aligned, .ref a_ringBeats, .ref a_ringStates, .ref a_ringFaults, .int f_changes, .ref a_found, .int f_foundOver, .long f_behind])), (a_rules, .inl (ca_rules, 6, .inl fn_rules))]) [0, 1] (by decide) rfl
                have hK9 := hK.sub (tys' := [(ca_rules, .int)]) [0] rfl
                exact W.iret (v := (4 : Int32)) hx hb hr (fun t ht hW => ⟨⟨(4 : Int32), (), rfl, ⟨r1, hw_2, ⟨v3, ev3, ⟨fun hh => absurd hh c4, fun _ => ⟨r5, hw_6, ⟨v7, ev7, ⟨fun _ => ⟨v9, ev9, ⟨fun _ => ⟨fun hh => absurd hh c11, fun _ => ⟨fun hh => absurd hh c13, fun _ => ⟨fun hh => absurd hh c14, fun _ => ⟨fun hh => absurd hh c15, fun _ => rfl⟩⟩⟩⟩, fun hh => absurd c10 hh⟩⟩, fun hh => absurd c8 hh⟩⟩⟩⟩⟩⟩, (by rw [ht]; exact hP9), va_K.moved hW.alike hK9, hD9⟩, hS.F ht⟩) hS.2.2 dX6_faultNow_93
            · refine lv_iconst (v := 3) hx hb dX6_faultNow_75 (by decide) ?_
              have hP9 := hP.sub (ws' := [(h0, .inr (5, [.ref a_rules, .ref a_kps, .ref a_kis, .ref a_sums, .int f_lost, .int f_state, .int f_fault, .long f_currentD, .long f_currentQ, .long f_pace, .int f_angle, .ref a_onTimes, .int f_over, .long f_voltD, .long f_voltQ, .long f_heat, .int f_beats, .int f_aligned, .ref a_ringBeats, .ref a_ringStates, .ref a_ringFaults, .int f_changes, .ref a_found, .int f_foundOver, .long f_behind])), (a_rules, .inl (ca_rules, 6, .inl fn_rules))]) [0, 1] rfl
              have hD9 := hD.sub (ws' := [(h0, .inr (5, [.ref a_rules, .ref a_kps, .ref a_kis, .ref a_sums, .int f_lost, .int f_state, .int f_fault, .long f_currentD, .long f_currentQ, .long f_pace, .int f_angle, .ref a_onTimes, .int f_over, .long f_voltD, .long f_voltQ, .long f_heat, .int f_beats, .int f_aligned, .ref a_ringBeats, .ref a_ringStates, .ref a_ringFaults, .int f_changes, .ref a_found, .int f_foundOver, .long f_behind])), (a_rules, .inl (ca_rules, 6, .inl fn_rules))]) [0, 1] (by decide) rfl
              have hK9 := hK.sub (tys' := [(ca_rules, .int)]) [0] rfl
              exact W.iret (v := (3 : Int32)) hx hb hr (fun t ht hW => ⟨⟨(3 : Int32), (), rfl, ⟨r1, hw_2, ⟨v3, ev3, ⟨fun hh => absurd hh c4, fun _ => ⟨r5, hw_6, ⟨v7, ev7, ⟨fun _ => ⟨v9, ev9, ⟨fun _ => ⟨fun hh => absurd hh c11, fun _ => ⟨fun hh => absurd hh c13, fun _ => ⟨fun _ => rfl, fun hh => absurd c14 hh⟩⟩⟩, fun hh => absurd c10 hh⟩⟩, fun hh => absurd c8 hh⟩⟩⟩⟩⟩⟩, (by rw [ht]; exact hP9), va_K.moved hW.alike hK9, hD9⟩, hS.F ht⟩) hS.2.2 dX6_faultNow_76
      · refine lv_iconst (v := 2) hx hb dX6_faultNow_50 (by decide) ?_
        have hP9 := hP.sub (ws' := [(h0, .inr (5, [.ref a_rules, .ref a_kps, .ref a_kis, .ref a_sums, .int f_lost, .int f_state, .int f_fault, .long f_currentD, .long f_currentQ, .long f_pace, .int f_angle, .ref a_onTimes, .int f_over, .long f_voltD, .long f_voltQ, .long f_heat, .int f_beats, .int f_aligned, .ref a_ringBeats, .ref a_ringStates, .ref a_ringFaults, .int f_changes, .ref a_found, .int f_foundOver, .long f_behind])), (a_rules, .inl (ca_rules, 6, .inl fn_rules))]) [0, 1] rfl
        have hD9 := hD.sub (ws' := [(h0, .inr (5, [.ref a_rules, .ref a_kps, .ref a_kis, .ref a_sums, .int f_lost, .int f_state, .int f_fault, .long f_currentD, .long f_currentQ, .long f_pace, .int f_angle, .ref a_onTimes, .int f_over, .long f_voltD, .long f_voltQ, .long f_heat, .int f_beats, .int f_aligned, .ref a_ringBeats, .ref a_ringStates, .ref a_ringFaults, .int f_changes, .ref a_found, .int f_foundOver, .long f_behind])), (a_rules, .inl (ca_rules, 6, .inl fn_rules))]) [0, 1] (by decide) rfl
        have hK9 := hK.sub (tys' := [(ca_rules, .int)]) [0] rfl
        exact W.iret (v := (2 : Int32)) hx hb hr (fun t ht hW => ⟨⟨(2 : Int32), (), rfl, ⟨r1, hw_2, ⟨v3, ev3, ⟨fun hh => absurd hh c4, fun _ => ⟨r5, hw_6, ⟨v7, ev7, ⟨fun _ => ⟨v9, ev9, ⟨fun hh => absurd hh c10, fun _ => rfl⟩⟩, fun hh => absurd c8 hh⟩⟩⟩⟩⟩⟩, (by rw [ht]; exact hP9), va_K.moved hW.alike hK9, hD9⟩, hS.F ht⟩) hS.2.2 dX6_faultNow_51
    · have c8 : ¬ (r5 ≤ (v7.toInt64)) := mw_fle c8
      refine lv_iconst (v := 1) hx hb dX6_faultNow_36 (by decide) ?_
      have hP9 := hP.sub (ws' := [(h0, .inr (5, [.ref a_rules, .ref a_kps, .ref a_kis, .ref a_sums, .int f_lost, .int f_state, .int f_fault, .long f_currentD, .long f_currentQ, .long f_pace, .int f_angle, .ref a_onTimes, .int f_over, .long f_voltD, .long f_voltQ, .long f_heat, .int f_beats, .int f_aligned, .ref a_ringBeats, .ref a_ringStates, .ref a_ringFaults, .int f_changes, .ref a_found, .int f_foundOver, .long f_behind])), (a_rules, .inl (ca_rules, 6, .inl fn_rules))]) [0, 1] rfl
      have hD9 := hD.sub (ws' := [(h0, .inr (5, [.ref a_rules, .ref a_kps, .ref a_kis, .ref a_sums, .int f_lost, .int f_state, .int f_fault, .long f_currentD, .long f_currentQ, .long f_pace, .int f_angle, .ref a_onTimes, .int f_over, .long f_voltD, .long f_voltQ, .long f_heat, .int f_beats, .int f_aligned, .ref a_ringBeats, .ref a_ringStates, .ref a_ringFaults, .int f_changes, .ref a_found, .int f_foundOver, .long f_behind])), (a_rules, .inl (ca_rules, 6, .inl fn_rules))]) [0, 1] (by decide) rfl
      have hK9 := hK.sub (tys' := [(ca_rules, .int)]) [0] rfl
      exact W.iret (v := (1 : Int32)) hx hb hr (fun t ht hW => ⟨⟨(1 : Int32), (), rfl, ⟨r1, hw_2, ⟨v3, ev3, ⟨fun hh => absurd hh c4, fun _ => ⟨r5, hw_6, ⟨v7, ev7, ⟨fun hh => absurd hh c8, fun _ => rfl⟩⟩⟩⟩⟩⟩, (by rw [ht]; exact hP9), va_K.moved hW.alike hK9, hD9⟩, hS.F ht⟩) hS.2.2 dX6_faultNow_37
