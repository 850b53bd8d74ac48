def R_X5_within (p0 : Int32) (p1 : Int32) (p2 : Int32) (r : Int32) : Prop := (p0 < p1 → (r = (0 : Int32))) ∧ (¬ (p0 < p1) → ((p2 < p0 → (r = (0 : Int32))) ∧ (¬ (p2 < p0) → (r = (1 : Int32)))))
theorem b_X5_within_r {p0 : Int32} {p1 : Int32} {p2 : Int32} {r : Int32}  (h : R_X5_within p0 p1 p2 r) : r = 0 ∨ r = 1 := by
  unfold R_X5_within at h
  by_cases q : p0 < p1
  · have h := h.1 q
    exact Or.inl h
  · have h := h.2 q
    by_cases q : p2 < p0
    · have h := h.1 q
      exact Or.inl h
    · have h := h.2 q
      exact Or.inr h
set_option maxHeartbeats 4000000 in
set_option maxRecDepth 100000 in
theorem c_X5_within (l : Launch) (dC : Nat → ClassId) (dI : Nat → Nat → Nat) (p0 : Int32) (p1 : Int32) (p2 : Int32) (sz : Nat)  : Met l yX5_within wsX5_within ({ frames := 0, cells := 0, slots := 0, locals := 0 }) (va_Pc [.int p0, .int p1, .int p2] (mw_pre (dC, dI) vwCl [] [] sz)) (va_Qi (fun (r : Int32) (u : Unit) => R_X5_within p0 p1 p2 r) (fun u t => mw_at (dC, dI) vwCl [] [] (va_A [] sz) t) (va_A [] sz)) 0 0 (va_A [] sz) := by
  refine Met.ofW (cc := cX5_within) (maxL := 3) (ret := (some .boolean)) (by decide) rfl ?_
  intro p e s m args below meth c s₁ B hml hv
  obtain ⟨rfl, hsz, hP, hK, hD0, hN⟩ := hv
  have hx := B.exec
  have hb := B.bytes
  have hr := B.returns
  have hts := atoms_spec (ws := wsX5_within) B.pre
  have hown : s.vm.findClass RX5 = some m.cls := findClass_of_methodNamed B.named
  have hlocks := B.notSynchronized
  subst hsz
  have hD := hD0.self (sz := s.heap.size)
  generalize hAe : va_A [] s.heap.size = A at hD ⊢
  have hA : ∀ q : Nat, s.heap.size ≤ q → A q := fun q h => by rw [← hAe]; exact Or.inr h
  have hS : va_S A s.heap s.heap [] := va_S.rf
  have hP : va_P (dC, dI) vwCl [] s.heap := hP
  have hl := lv_entry ([.int p0, .int p1, .int p2]) (n := 3) (Nat.le_of_ble_eq_true rfl)
  rw [lg_entry_eq]
  generalize (lg_sl ([.int p0, .int p1, .int p2]) ++ List.replicate (3 - (lg_sl ([.int p0, .int p1, .int p2])).length) Slot.unset).toArray = ls at hl ⊢
  have hl : lv_has ls 3 [(0, .int p0), (1, .int p1), (2, .int p2)] := hl
  refine lv_iload_n hx hb dX5_within_0 rfl (lv_at hl 0 rfl) ?_
  refine lv_iload_n hx hb dX5_within_1 rfl (lv_at hl 1 rfl) ?_
  refine lv_icmp_lt (tgt := 14) hx hb dX5_within_2 (by decide) (fun c1 => ?_) (fun c1 => ?_)
  · refine lv_iconst (v := 0) hx hb dX5_within_14 (by decide) ?_
    have hP9 := hP.sub (ws' := []) [] rfl
    have hD9 := hD.sub (ws' := []) [] (by decide) rfl
    have hK9 := hK.sub (tys' := []) [] rfl
    exact W.zret (v := (0 : Int32)) hx hb hr (by first | rfl | decide) (fun t ht hW => ⟨⟨(0 : Int32), (), rfl, ⟨fun _ => rfl, fun hh => absurd c1 hh⟩, (by rw [ht]; exact hP9), va_K.moved hW.alike hK9, hD9⟩, hS.F ht⟩) hS.2.2 dX5_within_15
  · refine lv_iload_n hx hb dX5_within_5 rfl (lv_at hl 0 rfl) ?_
    refine lv_iload_n hx hb dX5_within_6 rfl (lv_at hl 2 rfl) ?_
    refine lv_icmp_gt (tgt := 14) hx hb dX5_within_7 (by decide) (fun c2 => ?_) (fun c2 => ?_)
    · refine lv_iconst (v := 0) hx hb dX5_within_14 (by decide) ?_
      have hP9 := hP.sub (ws' := []) [] rfl
      have hD9 := hD.sub (ws' := []) [] (by decide) rfl
      have hK9 := hK.sub (tys' := []) [] rfl
      exact W.zret (v := (0 : Int32)) hx hb hr (by first | rfl | decide) (fun t ht hW => ⟨⟨(0 : Int32), (), rfl, ⟨fun hh => absurd hh c1, fun _ => ⟨fun _ => rfl, fun hh => absurd c2 hh⟩⟩, (by rw [ht]; exact hP9), va_K.moved hW.alike hK9, hD9⟩, hS.F ht⟩) hS.2.2 dX5_within_15
    · refine lv_iconst (v := 1) hx hb dX5_within_10 (by decide) ?_
      refine lv_goto (tgt := 15) hx hb dX5_within_11 (by decide) ?_
      have hP9 := hP.sub (ws' := []) [] rfl
      have hD9 := hD.sub (ws' := []) [] (by decide) rfl
      have hK9 := hK.sub (tys' := []) [] rfl
      exact W.zret (v := (1 : Int32)) hx hb hr (by first | rfl | decide) (fun t ht hW => ⟨⟨(1 : Int32), (), rfl, ⟨fun hh => absurd hh c1, fun _ => ⟨fun hh => absurd hh c2, fun _ => rfl⟩⟩, (by rw [ht]; exact hP9), va_K.moved hW.alike hK9, hD9⟩, hS.F ht⟩) hS.2.2 dX5_within_15
def R_X5_quotient (p0 : Int64) (p1 : Int64) (r : Int64) : Prop := (p1 = (0 : Int64) → (r = (0 : Int64))) ∧ (¬ (p1 = (0 : Int64)) → (r = (p0 / p1)))
set_option maxHeartbeats 4000000 in
set_option maxRecDepth 100000 in
theorem c_X5_quotient (l : Launch) (dC : Nat → ClassId) (dI : Nat → Nat → Nat) (p0 : Int64) (p1 : Int64) (sz : Nat)  : Met l yX5_quotient wsX5_quotient ({ frames := 0, cells := 0, slots := 0, locals := 0 }) (va_Pc [.long p0, .long p1] (mw_pre (dC, dI) vwCl [] [] sz)) (va_Ql (fun (r : Int64) (u : Unit) => R_X5_quotient p0 p1 r) (fun u t => mw_at (dC, dI) vwCl [] [] (va_A [] sz) t) (va_A [] sz)) 0 0 (va_A [] sz) := by
  refine Met.ofW (cc := cX5_quotient) (maxL := 4) (ret := (some .long)) (by decide) rfl ?_
  intro p e s m args below meth c s₁ B hml hv
  obtain ⟨rfl, hsz, hP, hK, hD0, hN⟩ := hv
  have hx := B.exec
  have hb := B.bytes
  have hr := B.returns
  have hts := atoms_spec (ws := wsX5_quotient) B.pre
  have hown : s.vm.findClass RX5 = some m.cls := findClass_of_methodNamed B.named
  have hlocks := B.notSynchronized
  subst hsz
  have hD := hD0.self (sz := s.heap.size)
  generalize hAe : va_A [] s.heap.size = A at hD ⊢
  have hA : ∀ q : Nat, s.heap.size ≤ q → A q := fun q h => by rw [← hAe]; exact Or.inr h
  have hS : va_S A s.heap s.heap [] := va_S.rf
  have hP : va_P (dC, dI) vwCl [] s.heap := hP
  have hl := lv_entry ([.long p0, .long p1]) (n := 4) (Nat.le_of_ble_eq_true rfl)
  rw [lg_entry_eq]
  generalize (lg_sl ([.long p0, .long p1]) ++ List.replicate (4 - (lg_sl ([.long p0, .long p1])).length) Slot.unset).toArray = ls at hl ⊢
  have hl : lv_has ls 4 [(0, .long p0), (2, .long p1)] := hl
  refine lv_lload_n hx hb dX5_quotient_0 rfl (lv_at hl 1 rfl) ?_
  refine lv_lconst (v := 0) hx hb dX5_quotient_1 (by decide) ?_
  refine W.lcmp hx hb dX5_quotient_2 ?_
  refine lv_if_ne (tgt := 10) hx hb dX5_quotient_3 (by decide) (fun c1 => ?_) (fun c1 => ?_)
  · have c1 : ¬ (p1 = (0 : Int64)) := mw_feq c1
    refine lv_lload_n hx hb dX5_quotient_10 rfl (lv_at hl 0 rfl) ?_
    refine lv_lload_n hx hb dX5_quotient_11 rfl (lv_at hl 1 rfl) ?_
    refine lv_ldiv hx hb dX5_quotient_12 (by assumption) ?_
    have hP9 := hP.sub (ws' := []) [] rfl
    have hD9 := hD.sub (ws' := []) [] (by decide) rfl
    have hK9 := hK.sub (tys' := []) [] rfl
    exact W.lret (v := (p0 / p1)) hx hb hr (fun t ht hW => ⟨⟨(p0 / p1), (), rfl, ⟨fun hh => absurd hh c1, fun _ => rfl⟩, (by rw [ht]; exact hP9), va_K.moved hW.alike hK9, hD9⟩, hS.F ht⟩) hS.2.2 dX5_quotient_13
  · have c1 : p1 = (0 : Int64) := (lg_cmp_eq _ _).mp c1
    refine lv_lconst (v := 0) hx hb dX5_quotient_6 (by decide) ?_
    refine lv_goto (tgt := 13) hx hb dX5_quotient_7 (by decide) ?_
    have hP9 := hP.sub (ws' := []) [] rfl
    have hD9 := hD.sub (ws' := []) [] (by decide) rfl
    have hK9 := hK.sub (tys' := []) [] rfl
    exact W.lret (v := (0 : Int64)) hx hb hr (fun t ht hW => ⟨⟨(0 : Int64), (), rfl, ⟨fun _ => rfl, fun hh => absurd c1 hh⟩, (by rw [ht]; exact hP9), va_K.moved hW.alike hK9, hD9⟩, hS.F ht⟩) hS.2.2 dX5_quotient_13
def R_X5_clamp (p0 : Int64) (p1 : Int64) (r : Int64) : Prop := ∃ v1 : Int64, v1 = (if p0 < p1 then p0 else p1) ∧ (∃ v2 : Int64, v2 = (if v1 < (-p1) then (-p1) else v1) ∧ (r = v2))
set_option maxHeartbeats 4000000 in
set_option maxRecDepth 100000 in
theorem c_X5_clamp (l : Launch) (dC : Nat → ClassId) (dI : Nat → Nat → Nat) (p0 : Int64) (p1 : Int64) (sz : Nat)  : Met l yX5_clamp wsX5_clamp ({ frames := 1, cells := 0, slots := 0, locals := 17 }) (va_Pc [.long p0, .long p1] (mw_pre (dC, dI) vwCl [] [] sz)) (va_Ql (fun (r : Int64) (u : Unit) => R_X5_clamp p0 p1 r) (fun u t => mw_at (dC, dI) vwCl [] [] (va_A [] sz) t) (va_A [] sz)) 0 0 (va_A [] sz) := by
  refine Met.ofW (cc := cX5_clamp) (maxL := 4) (ret := (some .long)) (by decide) rfl ?_
  intro p e s m args below meth c s₁ B hml hv
  obtain ⟨rfl, hsz, hP, hK, hD0, hN⟩ := hv
  have hx := B.exec
  have hb := B.bytes
  have hr := B.returns
  have hts := atoms_spec (ws := wsX5_clamp) B.pre
  have hown : s.vm.findClass RX5 = some m.cls := findClass_of_methodNamed B.named
  have hlocks := B.notSynchronized
  subst hsz
  have hD := hD0.self (sz := s.heap.size)
  generalize hAe : va_A [] s.heap.size = A at hD ⊢
  have hA : ∀ q : Nat, s.heap.size ≤ q → A q := fun q h => by rw [← hAe]; exact Or.inr h
  have hS : va_S A s.heap s.heap [] := va_S.rf
  have hP : va_P (dC, dI) vwCl [] s.heap := hP
  have hl := lv_entry ([.long p0, .long p1]) (n := 4) (Nat.le_of_ble_eq_true rfl)
  rw [lg_entry_eq]
  generalize (lg_sl ([.long p0, .long p1]) ++ List.replicate (4 - (lg_sl ([.long p0, .long p1])).length) Slot.unset).toArray = ls at hl ⊢
  have hl : lv_has ls 4 [(0, .long p0), (2, .long p1)] := hl
  have hw0 := hts (.methodLink RX5 257 Lib.MathLoose.min_long.x) (by decide +kernel)
  have hw1 := hts (.static Lib.MathLoose.min_long.x) (by decide +kernel)
  have hw2 := hts (.initialized "java/lang/Math") (by decide +kernel)
  have hw3 := hts (.code Lib.MathLoose.min_long.x Lib.MathLoose.min_long.code 4 (some .long)) (by decide +kernel)
  have hw4 := hts (.methodLink RX5 244 Lib.MathLoose.max_long.x) (by decide +kernel)
  have hw5 := hts (.static Lib.MathLoose.max_long.x) (by decide +kernel)
  have hw6 := hts (.code Lib.MathLoose.max_long.x Lib.MathLoose.max_long.code 4 (some .long)) (by decide +kernel)
  refine lv_lload_n hx hb dX5_clamp_0 rfl (lv_at hl 1 rfl) ?_
  refine lv_lneg hx hb dX5_clamp_1 ?_
  refine lv_lload_n hx hb dX5_clamp_2 rfl (lv_at hl 1 rfl) ?_
  refine lv_lload_n hx hb dX5_clamp_3 rfl (lv_at hl 0 rfl) ?_
  refine va_mmin_long hx hb (hml.trans hl.1.symm) hown hw0 hw1 hw2 hw3 (Nat.le_of_ble_eq_true rfl) (Nat.le_of_ble_eq_true rfl) (Nat.le_of_ble_eq_true rfl) (Nat.le_of_ble_eq_true rfl) dX5_clamp_4 ?_
  refine lv_topl (fun v1 ev1 => ?_)
  refine va_mmax_long hx hb (hml.trans hl.1.symm) hown hw4 hw5 hw2 hw6 (Nat.le_of_ble_eq_true rfl) (Nat.le_of_ble_eq_true rfl) (Nat.le_of_ble_eq_true rfl) (Nat.le_of_ble_eq_true rfl) dX5_clamp_7 ?_
  refine lv_topl (fun v2 ev2 => ?_)
  have hP9 := hP.sub (ws' := []) [] rfl
  have hD9 := hD.sub (ws' := []) [] (by decide) rfl
  have hK9 := hK.sub (tys' := []) [] rfl
  exact W.lret (v := v2) hx hb hr (fun t ht hW => ⟨⟨v2, (), rfl, ⟨v1, ev1, ⟨v2, ev2, rfl⟩⟩, (by rw [ht]; exact hP9), va_K.moved hW.alike hK9, hD9⟩, hS.F ht⟩) hS.2.2 dX5_clamp_10
def R_X5_isAngle (p0 : Int32) (r : Int32) : Prop := ∃ (r1 : Int32), R_X5_within p0 (0 : Int32) (65535 : Int32) r1 ∧ (r = r1)
theorem b_X5_isAngle_r {p0 : Int32} {r : Int32}  (h : R_X5_isAngle p0 r) : r = 0 ∨ r = 1 := by
  unfold R_X5_isAngle at h
  obtain ⟨r1, h_r1, h⟩ := h
  rw [h]; exact (b_X5_within_r h_r1)
set_option maxHeartbeats 4000000 in
set_option maxRecDepth 100000 in
theorem c_X5_isAngle (l : Launch) (dC : Nat → ClassId) (dI : Nat → Nat → Nat) (p0 : Int32) (sz : Nat)  : Met l yX5_isAngle wsX5_isAngle ({ frames := 1, cells := 0, slots := 0, locals := 22 }) (va_Pc [.int p0] (mw_pre (dC, dI) vwCl [] [] sz)) (va_Qi (fun (r : Int32) (u : Unit) => R_X5_isAngle p0 r) (fun u t => mw_at (dC, dI) vwCl [] [] (va_A [] sz) t) (va_A [] sz)) 0 0 (va_A [] sz) := by
  refine Met.ofW (cc := cX5_isAngle) (maxL := 1) (ret := (some .boolean)) (by decide) rfl ?_
  intro p e s m args below meth c s₁ B hml hv
  obtain ⟨rfl, hsz, hP, hK, hD0, hN⟩ := hv
  have hx := B.exec
  have hb := B.bytes
  have hr := B.returns
  have hts := atoms_spec (ws := wsX5_isAngle) B.pre
  have hown : s.vm.findClass RX5 = some m.cls := findClass_of_methodNamed B.named
  have hlocks := B.notSynchronized
  subst hsz
  have hD := hD0.self (sz := s.heap.size)
  generalize hAe : va_A [] s.heap.size = A at hD ⊢
  have hA : ∀ q : Nat, s.heap.size ≤ q → A q := fun q h => by rw [← hAe]; exact Or.inr h
  have hS : va_S A s.heap s.heap [] := va_S.rf
  have hP : va_P (dC, dI) vwCl [] s.heap := hP
  have hl := lv_entry ([.int p0]) (n := 1) (Nat.le_of_ble_eq_true rfl)
  rw [lg_entry_eq]
  generalize (lg_sl ([.int p0]) ++ List.replicate (1 - (lg_sl ([.int p0])).length) Slot.unset).toArray = ls at hl ⊢
  have hl : lv_has ls 1 [(0, .int p0)] := hl
  have hw0 := hts (.constant RX5 256 (65535)) (by decide +kernel)
  refine lv_iload_n hx hb dX5_isAngle_0 rfl (lv_at hl 0 rfl) ?_
  refine lv_iconst (v := 0) hx hb dX5_isAngle_1 (by decide) ?_
  refine lv_ldcw hx hb hown hw0 dX5_isAngle_2 ?_
  refine mw_calli (wc := []) (wr := []) (w1 := fun (u : Unit) => []) (tyc := fun (u : Unit) => []) hP hD hS hA [] [] rfl rfl (by decide) (by decide) (va_runS (As := [.int p0, .int (0 : Int32), .int (65535 : Int32)]) (rest := []) ⟨hx, hb, hml, hown, hts⟩ (c_X5_within l dC dI p0 (0 : Int32) (65535 : Int32) s.heap.size ) (va_cwS 3 hts gX5_isAngle_X5_within rfl rfl rfl (by decide +kernel) ⟨(Nat.le_of_ble_eq_true rfl), (Nat.le_of_ble_eq_true rfl)⟩) (mw_preS (hP.sub (ws' := []) [] rfl) (hD.sub (ws' := []) [] (by decide) rfl) (hK.sub (tys' := []) [] rfl) hN) rfl rfl hl.1 rfl (lv_room (Nat.le_of_ble_eq_true rfl)) dX5_isAngle_5 ⟨(Nat.le_of_ble_eq_true rfl), (Nat.le_of_ble_eq_true rfl)⟩) (fun r1 u H locs hw_2 hP hD hS hK1 => ?_)
  have hw_2 : R_X5_within p0 (0 : Int32) (65535 : Int32) r1 := hw_2
  have hP : va_P (dC, dI) vwCl [] H := hP
  have hD : va_D A [] := hD
  have hP9 := hP.sub (ws' := []) [] rfl
  have hD9 := hD.sub (ws' := []) [] (by decide) rfl
  have hK9 := hK.sub (tys' := []) [] rfl
  exact W.zret (v := r1) hx hb hr (mw_nb (b_X5_within_r hw_2)) (fun t ht hW => ⟨⟨r1, (), rfl, ⟨r1, hw_2, rfl⟩, (by rw [ht]; exact hP9), va_K.moved hW.alike hK9, hD9⟩, hS.F ht⟩) hS.2.2 dX5_isAngle_8
def R_X5_isVector (p0 : Int32) (p1 : Int32) (r : Int32) : Prop := ∃ (r1 : Int32), R_X5_within p0 (-32000 : Int32) (32000 : Int32) r1 ∧ ((r1 = (0 : Int32) → (r = (0 : Int32))) ∧ (¬ (r1 = (0 : Int32)) → (∃ (r4 : Int32), R_X5_within p1 (-32000 : Int32) (32000 : Int32) r4 ∧ ((r4 = (0 : Int32) → (r = (0 : Int32))) ∧ (¬ (r4 = (0 : Int32)) → (r = (1 : Int32)))))))
theorem b_X5_isVector_r {p0 : Int32} {p1 : Int32} {r : Int32}  (h : R_X5_isVector p0 p1 r) : r = 0 ∨ r = 1 := by
  unfold R_X5_isVector at h
  obtain ⟨r1, h_r1, h⟩ := h
  by_cases q : r1 = (0 : Int32)
  · have h := h.1 q
    exact Or.inl h
  · have h := h.2 q
    obtain ⟨r4, h_r4, h⟩ := h
    by_cases q : r4 = (0 : Int32)
    · have h := h.1 q
      exact Or.inl h
    · have h := h.2 q
      exact Or.inr h
set_option maxHeartbeats 4000000 in
set_option maxRecDepth 100000 in
theorem c_X5_isVector (l : Launch) (dC : Nat → ClassId) (dI : Nat → Nat → Nat) (p0 : Int32) (p1 : Int32) (sz : Nat)  : Met l yX5_isVector wsX5_isVector ({ frames := 1, cells := 0, slots := 0, locals := 22 }) (va_Pc [.int p0, .int p1] (mw_pre (dC, dI) vwCl [] [] sz)) (va_Qi (fun (r : Int32) (u : Unit) => R_X5_isVector p0 p1 r) (fun u t => mw_at (dC, dI) vwCl [] [] (va_A [] sz) t) (va_A [] sz)) 0 0 (va_A [] sz) := by
  refine Met.ofW (cc := cX5_isVector) (maxL := 2) (ret := (some .boolean)) (by decide) rfl ?_
  intro p e s m args below meth c s₁ B hml hv
  obtain ⟨rfl, hsz, hP, hK, hD0, hN⟩ := hv
  have hx := B.exec
  have hb := B.bytes
  have hr := B.returns
  have hts := atoms_spec (ws := wsX5_isVector) B.pre
  have hown : s.vm.findClass RX5 = some m.cls := findClass_of_methodNamed B.named
  have hlocks := B.notSynchronized
  subst hsz
  have hD := hD0.self (sz := s.heap.size)
  generalize hAe : va_A [] s.heap.size = A at hD ⊢
  have hA : ∀ q : Nat, s.heap.size ≤ q → A q := fun q h => by rw [← hAe]; exact Or.inr h
  have hS : va_S A s.heap s.heap [] := va_S.rf
  have hP : va_P (dC, dI) vwCl [] s.heap := hP
  have hl := lv_entry ([.int p0, .int p1]) (n := 2) (Nat.le_of_ble_eq_true rfl)
  rw [lg_entry_eq]
  generalize (lg_sl ([.int p0, .int p1]) ++ List.replicate (2 - (lg_sl ([.int p0, .int p1])).length) Slot.unset).toArray = ls at hl ⊢
  have hl : lv_has ls 2 [(0, .int p0), (1, .int p1)] := hl
  refine lv_iload_n hx hb dX5_isVector_0 rfl (lv_at hl 0 rfl) ?_
  refine lv_sipush (v := -32000) hx hb dX5_isVector_1 (by decide) ?_
  refine lv_sipush (v := 32000) hx hb dX5_isVector_4 (by decide) ?_
  refine mw_calli (wc := []) (wr := []) (w1 := fun (u : Unit) => []) (tyc := fun (u : Unit) => []) hP hD hS hA [] [] rfl rfl (by decide) (by decide) (va_runS (As := [.int p0, .int (-32000 : Int32), .int (32000 : Int32)]) (rest := []) ⟨hx, hb, hml, hown, hts⟩ (c_X5_within l dC dI p0 (-32000 : Int32) (32000 : Int32) s.heap.size ) (va_cwS 3 hts gX5_isVector_X5_within rfl rfl rfl (by decide +kernel) ⟨(Nat.le_of_ble_eq_true rfl), (Nat.le_of_ble_eq_true rfl)⟩) (mw_preS (hP.sub (ws' := []) [] rfl) (hD.sub (ws' := []) [] (by decide) rfl) (hK.sub (tys' := []) [] rfl) hN) rfl rfl hl.1 rfl (lv_room (Nat.le_of_ble_eq_true rfl)) dX5_isVector_7 ⟨(Nat.le_of_ble_eq_true rfl), (Nat.le_of_ble_eq_true rfl)⟩) (fun r1 u H locs hw_2 hP hD hS hK1 => ?_)
  have hw_2 : R_X5_within p0 (-32000 : Int32) (32000 : Int32) r1 := hw_2
  have hP : va_P (dC, dI) vwCl [] H := hP
  have hD : va_D A [] := hD
  refine lv_if_eq (tgt := 30) hx hb dX5_isVector_10 (by decide) (fun c3 => ?_) (fun c3 => ?_)
  · have c3 : r1 = (0 : Int32) := c3
    refine lv_iconst (v := 0) hx hb dX5_isVector_30 (by decide) ?_
    have hP9 := hP.sub (ws' := []) [] rfl
    have hD9 := hD.sub (ws' := []) [] (by decide) rfl
    have hK9 := hK.sub (tys' := []) [] rfl
    exact W.zret (v := (0 : Int32)) hx hb hr (by first | rfl | decide) (fun t ht hW => ⟨⟨(0 : Int32), (), rfl, ⟨r1, hw_2, ⟨fun _ => rfl, fun hh => absurd c3 hh⟩⟩, (by rw [ht]; exact hP9), va_K.moved hW.alike hK9, hD9⟩, hS.F ht⟩) hS.2.2 dX5_isVector_31
  · have c3 : ¬ (r1 = (0 : Int32)) := c3
    refine lv_iload_n hx hb dX5_isVector_13 rfl (lv_at hl 1 rfl) ?_
    refine lv_sipush (v := -32000) hx hb dX5_isVector_14 (by decide) ?_
    refine lv_sipush (v := 32000) hx hb dX5_isVector_17 (by decide) ?_
    refine mw_calli (wc := []) (wr := []) (w1 := fun (u : Unit) => []) (tyc := fun (u : Unit) => []) hP hD hS hA [] [] rfl rfl (by decide) (by decide) (va_runS (As := [.int p1, .int (-32000 : Int32), .int (32000 : Int32)]) (rest := []) ⟨hx, hb, hml, hown, hts⟩ (c_X5_within l dC dI p1 (-32000 : Int32) (32000 : Int32) H.size ) (va_cwS 3 hts gX5_isVector_X5_within rfl rfl rfl (by decide +kernel) ⟨(Nat.le_of_ble_eq_true rfl), (Nat.le_of_ble_eq_true rfl)⟩) (mw_preS (hP.sub (ws' := []) [] rfl) (hD.sub (ws' := []) [] (by decide) rfl) (hK.sub (tys' := []) [] rfl) hN) rfl rfl hl.1 rfl (lv_room (Nat.le_of_ble_eq_true rfl)) dX5_isVector_20 ⟨(Nat.le_of_ble_eq_true rfl), (Nat.le_of_ble_eq_true rfl)⟩) (fun r4 u H locs hw_5 hP hD hS hK1 => ?_)
    have hw_5 : R_X5_within p1 (-32000 : Int32) (32000 : Int32) r4 := hw_5
    have hP : va_P (dC, dI) vwCl [] H := hP
    have hD : va_D A [] := hD
    refine lv_if_eq (tgt := 30) hx hb dX5_isVector_23 (by decide) (fun c6 => ?_) (fun c6 => ?_)
    · have c6 : r4 = (0 : Int32) := c6
      refine lv_iconst (v := 0) hx hb dX5_isVector_30 (by decide) ?_
      have hP9 := hP.sub (ws' := []) [] rfl
      have hD9 := hD.sub (ws' := []) [] (by decide) rfl
      have hK9 := hK.sub (tys' := []) [] rfl
      exact W.zret (v := (0 : Int32)) hx hb hr (by first | rfl | decide) (fun t ht hW => ⟨⟨(0 : Int32), (), rfl, ⟨r1, hw_2, ⟨fun hh => absurd hh c3, fun _ => ⟨r4, hw_5, ⟨fun _ => rfl, fun hh => absurd c6 hh⟩⟩⟩⟩, (by rw [ht]; exact hP9), va_K.moved hW.alike hK9, hD9⟩, hS.F ht⟩) hS.2.2 dX5_isVector_31
    · have c6 : ¬ (r4 = (0 : Int32)) := c6
      refine lv_iconst (v := 1) hx hb dX5_isVector_26 (by decide) ?_
      refine lv_goto (tgt := 31) hx hb dX5_isVector_27 (by decide) ?_
      have hP9 := hP.sub (ws' := []) [] rfl
      have hD9 := hD.sub (ws' := []) [] (by decide) rfl
      have hK9 := hK.sub (tys' := []) [] rfl
      exact W.zret (v := (1 : Int32)) hx hb hr (by first | rfl | decide) (fun t ht hW => ⟨⟨(1 : Int32), (), rfl, ⟨r1, hw_2, ⟨fun hh => absurd hh c3, fun _ => ⟨r4, hw_5, ⟨fun hh => absurd hh c6, fun _ => rfl⟩⟩⟩⟩, (by rw [ht]; exact hP9), va_K.moved hW.alike hK9, hD9⟩, hS.F ht⟩) hS.2.2 dX5_isVector_31
def R_J9_floorMod_7cf53 (p0 : Int32) (p1 : Int32) (r : Int32) : Prop := ∃ v1 : Int32, v1 = (p0 - p0 / p1 * p1) ∧ (((0 : Int32) ≤ (p0 ^^^ p1) → (r = v1)) ∧ (¬ ((0 : Int32) ≤ (p0 ^^^ p1)) → ((v1 = (0 : Int32) → (r = v1)) ∧ (¬ (v1 = (0 : Int32)) → (r = (v1 + p1))))))
set_option maxHeartbeats 4000000 in
set_option maxRecDepth 100000 in
theorem c_J9_floorMod_7cf53 (l : Launch) (dC : Nat → ClassId) (dI : Nat → Nat → Nat) (p0 : Int32) (p1 : Int32) (sz : Nat) (hne : ¬ p1 = 0) : Met l yJ9_floorMod_7cf53 wsJ9_floorMod_7cf53 ({ frames := 0, cells := 0, slots := 0, locals := 0 }) (va_Pc [.int p0, .int p1] (mw_pre (dC, dI) vwCl [] [] sz)) (va_Qi (fun (r : Int32) (u : Unit) => R_J9_floorMod_7cf53 p0 p1 r) (fun u t => mw_at (dC, dI) vwCl [] [] (va_A [] sz) t) (va_A [] sz)) 0 0 (va_A [] sz) := by
  refine mw_ofWF (cc := cJ9_floorMod_7cf53) (maxL := 3) (ret := (some .int)) (by decide +kernel) rfl ?_
  intro p e s m args below meth c s₁ B hml hv
  obtain ⟨rfl, hsz, hP, hK, hD0, hN⟩ := hv
  have hx := B.exec
  have hb := B.bytes
  have hr := B.returns
  have hts := atoms_spec (ws := wsJ9_floorMod_7cf53) B.pre
  have hown : s.vm.findClass RJ9 = some m.cls := findClass_of_methodNamed B.named
  have hlocks := B.notSynchronized
  subst hsz
  have hD := hD0.self (sz := s.heap.size)
  generalize hAe : va_A [] s.heap.size = A at hD ⊢
  have hA : ∀ q : Nat, s.heap.size ≤ q → A q := fun q h => by rw [← hAe]; exact Or.inr h
  have hS : va_S A s.heap s.heap [] := va_S.rf
  have hP : va_P (dC, dI) vwCl [] s.heap := hP
  have hl := lv_entry ([.int p0, .int p1]) (n := 3) (Nat.le_of_ble_eq_true rfl)
  rw [lg_entry_eq]
  generalize (lg_sl ([.int p0, .int p1]) ++ List.replicate (3 - (lg_sl ([.int p0, .int p1])).length) Slot.unset).toArray = ls at hl ⊢
  have hl : lv_has ls 3 [(0, .int p0), (1, .int p1)] := hl
  refine lv_iload_n hx hb dJ9_floorMod_7cf53_0 rfl (lv_at hl 0 rfl) ?_
  refine lv_iload_n hx hb dJ9_floorMod_7cf53_1 rfl (lv_at hl 1 rfl) ?_
  refine lv_irem hx hb dJ9_floorMod_7cf53_2 (by assumption) ?_
  refine lv_topi (fun v1 ev1 => ?_)
  refine lv_istore_n (lv' := [(2, .int v1), (0, .int p0), (1, .int p1)]) hx hb dJ9_floorMod_7cf53_3 rfl hl (by decide) rfl (fun ls hl => ?_)
  refine lv_iload_n hx hb dJ9_floorMod_7cf53_4 rfl (lv_at hl 1 rfl) ?_
  refine lv_iload_n hx hb dJ9_floorMod_7cf53_5 rfl (lv_at hl 2 rfl) ?_
  refine lv_ixor hx hb dJ9_floorMod_7cf53_6 ?_
  refine lv_if_ge (tgt := 18) hx hb dJ9_floorMod_7cf53_7 (by decide) (fun c2 => ?_) (fun c2 => ?_)
  · have c2 : (0 : Int32) ≤ (p0 ^^^ p1) := c2
    refine lv_iload_n hx hb dJ9_floorMod_7cf53_18 rfl (lv_at hl 0 rfl) ?_
    have hP9 := hP.sub (ws' := []) [] rfl
    have hD9 := hD.sub (ws' := []) [] (by decide) rfl
    have hK9 := hK.sub (tys' := []) [] rfl
    exact W.iret (v := v1) hx hb hr (fun t ht hW => ⟨⟨v1, (), rfl, ⟨v1, ev1, ⟨fun _ => rfl, fun hh => absurd c2 hh⟩⟩, (by rw [ht]; exact hP9), va_K.moved hW.alike hK9, hD9⟩, hS.F ht⟩) hS.2.2 dJ9_floorMod_7cf53_19
  · have c2 : ¬ ((0 : Int32) ≤ (p0 ^^^ p1)) := c2
    refine lv_iload_n hx hb dJ9_floorMod_7cf53_10 rfl (lv_at hl 0 rfl) ?_
    refine lv_if_eq (tgt := 18) hx hb dJ9_floorMod_7cf53_11 (by decide) (fun c3 => ?_) (fun c3 => ?_)
    · have c3 : v1 = (0 : Int32) := c3
      refine lv_iload_n hx hb dJ9_floorMod_7cf53_18 rfl (lv_at hl 0 rfl) ?_
      have hP9 := hP.sub (ws' := []) [] rfl
      have hD9 := hD.sub (ws' := []) [] (by decide) rfl
      have hK9 := hK.sub (tys' := []) [] rfl
      exact W.iret (v := v1) hx hb hr (fun t ht hW => ⟨⟨v1, (), rfl, ⟨v1, ev1, ⟨fun hh => absurd hh c2, fun _ => ⟨fun _ => rfl, fun hh => absurd c3 hh⟩⟩⟩, (by rw [ht]; exact hP9), va_K.moved hW.alike hK9, hD9⟩, hS.F ht⟩) hS.2.2 dJ9_floorMod_7cf53_19
    · have c3 : ¬ (v1 = (0 : Int32)) := c3
      refine lv_iload_n hx hb dJ9_floorMod_7cf53_14 rfl (lv_at hl 0 rfl) ?_
      refine lv_iload_n hx hb dJ9_floorMod_7cf53_15 rfl (lv_at hl 2 rfl) ?_
      refine lv_iadd hx hb dJ9_floorMod_7cf53_16 ?_
      have hP9 := hP.sub (ws' := []) [] rfl
      have hD9 := hD.sub (ws' := []) [] (by decide) rfl
      have hK9 := hK.sub (tys' := []) [] rfl
      exact W.iret (v := (v1 + p1)) hx hb hr (fun t ht hW => ⟨⟨(v1 + p1), (), rfl, ⟨v1, ev1, ⟨fun hh => absurd hh c2, fun _ => ⟨fun hh => absurd hh c3, fun _ => rfl⟩⟩⟩, (by rw [ht]; exact hP9), va_K.moved hW.alike hK9, hD9⟩, hS.F ht⟩) hS.2.2 dJ9_floorMod_7cf53_17
def R_X1_sineOf (p0 : Int64) (r : Int64) : Prop := ∃ v1 : Int64, v1 = (p0 &&& (32767 : Int64)) ∧ (∃ v2 : Int64, v2 = (v1 * ((32768 : Int64) - v1)) ∧ (∃ (r3 : Int64), R_X5_quotient ((131068 : Int64) * v2) ((1342177280 : Int64) - v2) r3 ∧ (((32768 : Int64) ≤ (p0 &&& (65535 : Int64)) → (r = (-r3))) ∧ (¬ ((32768 : Int64) ≤ (p0 &&& (65535 : Int64))) → (r = r3)))))
set_option maxHeartbeats 4000000 in
set_option maxRecDepth 100000 in
theorem c_X1_sineOf (l : Launch) (dC : Nat → ClassId) (dI : Nat → Nat → Nat) (p0 : Int64) (sz : Nat)  : Met l yX1_sineOf wsX1_sineOf ({ frames := 1, cells := 0, slots := 0, locals := 23 }) (va_Pc [.long p0] (mw_pre (dC, dI) vwCl [] [] sz)) (va_Ql (fun (r : Int64) (u : Unit) => R_X1_sineOf p0 r) (fun u t => mw_at (dC, dI) vwCl [] [] (va_A [] sz) t) (va_A [] sz)) 0 0 (va_A [] sz) := by
  refine Met.ofW (cc := cX1_sineOf) (maxL := 8) (ret := (some .long)) (by decide) rfl ?_
  intro p e s m args below meth c s₁ B hml hv
  obtain ⟨rfl, hsz, hP, hK, hD0, hN⟩ := hv
  have hx := B.exec
  have hb := B.bytes
  have hr := B.returns
  have hts := atoms_spec (ws := wsX1_sineOf) B.pre
  have hown : s.vm.findClass RX1 = some m.cls := findClass_of_methodNamed B.named
  have hlocks := B.notSynchronized
  subst hsz
  have hD := hD0.self (sz := s.heap.size)
  generalize hAe : va_A [] s.heap.size = A at hD ⊢
  have hA : ∀ q : Nat, s.heap.size ≤ q → A q := fun q h => by rw [← hAe]; exact Or.inr h
  have hS : va_S A s.heap s.heap [] := va_S.rf
  have hP : va_P (dC, dI) vwCl [] s.heap := hP
  have hl := lv_entry ([.long p0]) (n := 8) (Nat.le_of_ble_eq_true rfl)
  rw [lg_entry_eq]
  generalize (lg_sl ([.long p0]) ++ List.replicate (8 - (lg_sl ([.long p0])).length) Slot.unset).toArray = ls at hl ⊢
  have hl : lv_has ls 8 [(0, .long p0)] := hl
  have hw0 := hts (.constantLong RX1 9 (32767)) (by decide +kernel)
  have hw1 := hts (.constantLong RX1 11 (32768)) (by decide +kernel)
  have hw2 := hts (.constantLong RX1 13 (131068)) (by decide +kernel)
  have hw3 := hts (.constantLong RX1 15 (1342177280)) (by decide +kernel)
  have hw4 := hts (.initialized RX5) (by decide +kernel)
  have hw5 := hts (.static yX5_quotient) (by decide +kernel)
  have hw6 := hts (.constantLong RX1 21 (65535)) (by decide +kernel)
  refine lv_lload_n hx hb dX1_sineOf_0 rfl (lv_at hl 0 rfl) ?_
  refine lv_ldc2 hx hb hown hw0 dX1_sineOf_1 ?_
  refine lv_land hx hb dX1_sineOf_4 ?_
  refine lv_topl (fun v1 ev1 => ?_)
  refine lv_lstore_n (lv' := [(2, .long v1), (0, .long p0)]) hx hb dX1_sineOf_5 rfl hl (by decide) rfl (fun ls hl => ?_)
  refine lv_lload_n hx hb dX1_sineOf_6 rfl (lv_at hl 0 rfl) ?_
  refine lv_ldc2 hx hb hown hw1 dX1_sineOf_7 ?_
  refine lv_lload_n hx hb dX1_sineOf_10 rfl (lv_at hl 0 rfl) ?_
  refine lv_lsub hx hb dX1_sineOf_11 ?_
  refine lv_lmul hx hb dX1_sineOf_12 ?_
  refine lv_topl (fun v2 ev2 => ?_)
  refine lv_lstore (lv' := [(4, .long v2), (2, .long v1), (0, .long p0)]) hx hb dX1_sineOf_13 hl (by decide) rfl (fun ls hl => ?_)
  refine lv_ldc2 hx hb hown hw2 dX1_sineOf_15 ?_
  refine lv_lload hx hb dX1_sineOf_18 (lv_at hl 0 rfl) ?_
  refine lv_lmul hx hb dX1_sineOf_20 ?_
  refine lv_ldc2 hx hb hown hw3 dX1_sineOf_21 ?_
  refine lv_lload hx hb dX1_sineOf_24 (lv_at hl 0 rfl) ?_
  refine lv_lsub hx hb dX1_sineOf_26 ?_
  refine mw_calll (wc := []) (wr := []) (w1 := fun (u : Unit) => []) (tyc := fun (u : Unit) => []) hP hD hS hA [] [] rfl rfl (by decide) (by decide) (va_runSN (As := [.long ((131068 : Int64) * v2), .long ((1342177280 : Int64) - v2)]) (rest := []) ⟨hx, hb, hml, hown, hts⟩ (c_X5_quotient l dC dI ((131068 : Int64) * v2) ((1342177280 : Int64) - v2) s.heap.size ) ⟨va_cnB 2 hts gX1_sineOf_X5_quotient_n17 rfl rfl rfl (hN.at 4 rfl) hw4 (by decide +kernel) ⟨(Nat.le_of_ble_eq_true rfl), (Nat.le_of_ble_eq_true rfl)⟩, hw5, trivial⟩ (mw_preS (hP.sub (ws' := []) [] rfl) (hD.sub (ws' := []) [] (by decide) rfl) (hK.sub (tys' := []) [] rfl) hN) rfl rfl hl.1 rfl (lv_room (Nat.le_of_ble_eq_true rfl)) dX1_sineOf_27 ⟨(Nat.le_of_ble_eq_true rfl), (Nat.le_of_ble_eq_true rfl)⟩) (fun r3 u H locs hw_4 hP hD hS hK1 => ?_)
  have hw_4 : R_X5_quotient ((131068 : Int64) * v2) ((1342177280 : Int64) - v2) r3 := hw_4
  have hP : va_P (dC, dI) vwCl [] H := hP
  have hD : va_D A [] := hD
  refine lv_lstore (lv' := [(6, .long r3), (4, .long v2), (2, .long v1), (0, .long p0)]) hx hb dX1_sineOf_30 hl (by decide) rfl (fun ls hl => ?_)
  refine lv_lload_n hx hb dX1_sineOf_32 rfl (lv_at hl 3 rfl) ?_
  refine lv_ldc2 hx hb hown hw6 dX1_sineOf_33 ?_
  refine lv_land hx hb dX1_sineOf_36 ?_
  refine lv_ldc2 hx hb hown hw1 dX1_sineOf_37 ?_
  refine W.lcmp hx hb dX1_sineOf_40 ?_
  refine lv_if_ge (tgt := 49) hx hb dX1_sineOf_41 (by decide) (fun c5 => ?_) (fun c5 => ?_)
  · have c5 : (32768 : Int64) ≤ (p0 &&& (65535 : Int64)) := (lg_cmp_ge _ _).mp c5
    refine lv_lload hx hb dX1_sineOf_49 (lv_at hl 0 rfl) ?_
    refine lv_lneg hx hb dX1_sineOf_51 ?_
    have hP9 := hP.sub (ws' := []) [] rfl
    have hD9 := hD.sub (ws' := []) [] (by decide) rfl
    have hK9 := hK.sub (tys' := []) [] rfl
    exact W.lret (v := (-r3)) hx hb hr (fun t ht hW => ⟨⟨(-r3), (), rfl, ⟨v1, ev1, ⟨v2, ev2, ⟨r3, hw_4, ⟨fun _ => rfl, fun hh => absurd c5 hh⟩⟩⟩⟩, (by rw [ht]; exact hP9), va_K.moved hW.alike hK9, hD9⟩, hS.F ht⟩) hS.2.2 dX1_sineOf_52
  · have c5 : ¬ ((32768 : Int64) ≤ (p0 &&& (65535 : Int64))) := mw_fge c5
    refine lv_lload hx hb dX1_sineOf_44 (lv_at hl 0 rfl) ?_
    refine lv_goto (tgt := 52) hx hb dX1_sineOf_46 (by decide) ?_
    have hP9 := hP.sub (ws' := []) [] rfl
    have hD9 := hD.sub (ws' := []) [] (by decide) rfl
    have hK9 := hK.sub (tys' := []) [] rfl
    exact W.lret (v := r3) hx hb hr (fun t ht hW => ⟨⟨r3, (), rfl, ⟨v1, ev1, ⟨v2, ev2, ⟨r3, hw_4, ⟨fun hh => absurd hh c5, fun _ => rfl⟩⟩⟩⟩, (by rw [ht]; exact hP9), va_K.moved hW.alike hK9, hD9⟩, hS.F ht⟩) hS.2.2 dX1_sineOf_52
def R_X1_cosineOf (p0 : Int64) (r : Int64) : Prop := ∃ (r1 : Int64), R_X1_sineOf (p0 + (16384 : Int64)) r1 ∧ (r = r1)
set_option maxHeartbeats 4000000 in
set_option maxRecDepth 100000 in
theorem c_X1_cosineOf (l : Launch) (dC : Nat → ClassId) (dI : Nat → Nat → Nat) (p0 : Int64) (sz : Nat)  : Met l yX1_cosineOf wsX1_cosineOf ({ frames := 2, cells := 0, slots := 0, locals := 50 }) (va_Pc [.long p0] (mw_pre (dC, dI) vwCl [] [] sz)) (va_Ql (fun (r : Int64) (u : Unit) => R_X1_cosineOf p0 r) (fun u t => mw_at (dC, dI) vwCl [] [] (va_A [] sz) t) (va_A [] sz)) 0 0 (va_A [] sz) := by
  refine Met.ofW (cc := cX1_cosineOf) (maxL := 2) (ret := (some .long)) (by decide) rfl ?_
  intro p e s m args below meth c s₁ B hml hv
  obtain ⟨rfl, hsz, hP, hK, hD0, hN⟩ := hv
  have hx := B.exec
  have hb := B.bytes
  have hr := B.returns
  have hts := atoms_spec (ws := wsX1_cosineOf) B.pre
  have hown : s.vm.findClass RX1 = some m.cls := findClass_of_methodNamed B.named
  have hlocks := B.notSynchronized
  subst hsz
  have hD := hD0.self (sz := s.heap.size)
  generalize hAe : va_A [] s.heap.size = A at hD ⊢
  have hA : ∀ q : Nat, s.heap.size ≤ q → A q := fun q h => by rw [← hAe]; exact Or.inr h
  have hS : va_S A s.heap s.heap [] := va_S.rf
  have hP : va_P (dC, dI) vwCl [] s.heap := hP
  have hl := lv_entry ([.long p0]) (n := 2) (Nat.le_of_ble_eq_true rfl)
  rw [lg_entry_eq]
  generalize (lg_sl ([.long p0]) ++ List.replicate (2 - (lg_sl ([.long p0])).length) Slot.unset).toArray = ls at hl ⊢
  have hl : lv_has ls 2 [(0, .long p0)] := hl
  have hw0 := hts (.constantLong RX1 23 (16384)) (by decide +kernel)
  refine lv_lload_n hx hb dX1_cosineOf_0 rfl (lv_at hl 0 rfl) ?_
  refine lv_ldc2 hx hb hown hw0 dX1_cosineOf_1 ?_
  refine lv_ladd hx hb dX1_cosineOf_4 ?_
  refine mw_calll (wc := []) (wr := []) (w1 := fun (u : Unit) => []) (tyc := fun (u : Unit) => []) hP hD hS hA [] [] rfl rfl (by decide) (by decide) (va_runS (As := [.long (p0 + (16384 : Int64))]) (rest := []) ⟨hx, hb, hml, hown, hts⟩ (c_X1_sineOf l dC dI (p0 + (16384 : Int64)) s.heap.size ) (va_cwS 1 hts gX1_cosineOf_X1_sineOf rfl rfl rfl (by decide +kernel) ⟨(Nat.le_of_ble_eq_true rfl), (Nat.le_of_ble_eq_true rfl)⟩) (mw_preS (hP.sub (ws' := []) [] rfl) (hD.sub (ws' := []) [] (by decide) rfl) (hK.sub (tys' := []) [] rfl) hN) rfl rfl hl.1 rfl (lv_room (Nat.le_of_ble_eq_true rfl)) dX1_cosineOf_5 ⟨(Nat.le_of_ble_eq_true rfl), (Nat.le_of_ble_eq_true rfl)⟩) (fun r1 u H locs hw_2 hP hD hS hK1 => ?_)
  have hw_2 : R_X1_sineOf (p0 + (16384 : Int64)) r1 := hw_2
  have hP : va_P (dC, dI) vwCl [] H := hP
  have hD : va_D A [] := hD
  have hP9 := hP.sub (ws' := []) [] rfl
  have hD9 := hD.sub (ws' := []) [] (by decide) rfl
  have hK9 := hK.sub (tys' := []) [] rfl
  exact W.lret (v := r1) hx hb hr (fun t ht hW => ⟨⟨r1, (), rfl, ⟨r1, hw_2, rfl⟩, (by rw [ht]; exact hP9), va_K.moved hW.alike hK9, hD9⟩, hS.F ht⟩) hS.2.2 dX1_cosineOf_8
def R_X1_betaOfWires (p0 : Int64) (p1 : Int64) (r : Int64) : Prop := r = (((p0 + ((2 : Int64) * p1)) * (37837 : Int64)) >>> (16 : Int64))
set_option maxHeartbeats 4000000 in
set_option maxRecDepth 100000 in
theorem c_X1_betaOfWires (l : Launch) (dC : Nat → ClassId) (dI : Nat → Nat → Nat) (p0 : Int64) (p1 : Int64) (sz : Nat)  : Met l yX1_betaOfWires wsX1_betaOfWires ({ frames := 0, cells := 0, slots := 0, locals := 0 }) (va_Pc [.long p0, .long p1] (mw_pre (dC, dI) vwCl [] [] sz)) (va_Ql (fun (r : Int64) (u : Unit) => R_X1_betaOfWires p0 p1 r) (fun u t => mw_at (dC, dI) vwCl [] [] (va_A [] sz) t) (va_A [] sz)) 0 0 (va_A [] sz) := by
  refine Met.ofW (cc := cX1_betaOfWires) (maxL := 4) (ret := (some .long)) (by decide) rfl ?_
  intro p e s m args below meth c s₁ B hml hv
  obtain ⟨rfl, hsz, hP, hK, hD0, hN⟩ := hv
  have hx := B.exec
  have hb := B.bytes
  have hr := B.returns
  have hts := atoms_spec (ws := wsX1_betaOfWires) B.pre
  have hown : s.vm.findClass RX1 = some m.cls := findClass_of_methodNamed B.named
  have hlocks := B.notSynchronized
  subst hsz
  have hD := hD0.self (sz := s.heap.size)
  generalize hAe : va_A [] s.heap.size = A at hD ⊢
  have hA : ∀ q : Nat, s.heap.size ≤ q → A q := fun q h => by rw [← hAe]; exact Or.inr h
  have hS : va_S A s.heap s.heap [] := va_S.rf
  have hP : va_P (dC, dI) vwCl [] s.heap := hP
  have hl := lv_entry ([.long p0, .long p1]) (n := 4) (Nat.le_of_ble_eq_true rfl)
  rw [lg_entry_eq]
  generalize (lg_sl ([.long p0, .long p1]) ++ List.replicate (4 - (lg_sl ([.long p0, .long p1])).length) Slot.unset).toArray = ls at hl ⊢
  have hl : lv_has ls 4 [(0, .long p0), (2, .long p1)] := hl
  have hw0 := hts (.constantLong RX1 31 (2)) (by decide +kernel)
  have hw1 := hts (.constantLong RX1 33 (37837)) (by decide +kernel)
  refine lv_lload_n hx hb dX1_betaOfWires_0 rfl (lv_at hl 0 rfl) ?_
  refine lv_ldc2 hx hb hown hw0 dX1_betaOfWires_1 ?_
  refine lv_lload_n hx hb dX1_betaOfWires_4 rfl (lv_at hl 1 rfl) ?_
  refine lv_lmul hx hb dX1_betaOfWires_5 ?_
  refine lv_ladd hx hb dX1_betaOfWires_6 ?_
  refine lv_ldc2 hx hb hown hw1 dX1_betaOfWires_7 ?_
  refine lv_lmul hx hb dX1_betaOfWires_10 ?_
  refine lv_bipush (v := 16) hx hb dX1_betaOfWires_11 (by decide) ?_
  refine lv_lshr hx hb dX1_betaOfWires_13 (mw_sh _ _ 16 (by decide)) ?_
  have hP9 := hP.sub (ws' := []) [] rfl
  have hD9 := hD.sub (ws' := []) [] (by decide) rfl
  have hK9 := hK.sub (tys' := []) [] rfl
  exact W.lret (v := (((p0 + ((2 : Int64) * p1)) * (37837 : Int64)) >>> (16 : Int64))) hx hb hr (fun t ht hW => ⟨⟨(((p0 + ((2 : Int64) * p1)) * (37837 : Int64)) >>> (16 : Int64)), (), rfl, rfl, (by rw [ht]; exact hP9), va_K.moved hW.alike hK9, hD9⟩, hS.F ht⟩) hS.2.2 dX1_betaOfWires_14
def R_X1_dOf (p0 : Int64) (p1 : Int64) (p2 : Int64) (r : Int64) : Prop := ∃ (r1 : Int64), R_X1_cosineOf p2 r1 ∧ (∃ (r3 : Int64), R_X1_sineOf p2 r3 ∧ (r = (((p0 * r1) + (p1 * r3)) >>> (15 : Int64))))
set_option maxHeartbeats 4000000 in
set_option maxRecDepth 100000 in
theorem c_X1_dOf (l : Launch) (dC : Nat → ClassId) (dI : Nat → Nat → Nat) (p0 : Int64) (p1 : Int64) (p2 : Int64) (sz : Nat)  : Met l yX1_dOf wsX1_dOf ({ frames := 3, cells := 0, slots := 0, locals := 71 }) (va_Pc [.long p0, .long p1, .long p2] (mw_pre (dC, dI) vwCl [] [] sz)) (va_Ql (fun (r : Int64) (u : Unit) => R_X1_dOf p0 p1 p2 r) (fun u t => mw_at (dC, dI) vwCl [] [] (va_A [] sz) t) (va_A [] sz)) 0 0 (va_A [] sz) := by
  refine Met.ofW (cc := cX1_dOf) (maxL := 6) (ret := (some .long)) (by decide) rfl ?_
  intro p e s m args below meth c s₁ B hml hv
  obtain ⟨rfl, hsz, hP, hK, hD0, hN⟩ := hv
  have hx := B.exec
  have hb := B.bytes
  have hr := B.returns
  have hts := atoms_spec (ws := wsX1_dOf) B.pre
  have hown : s.vm.findClass RX1 = some m.cls := findClass_of_methodNamed B.named
  have hlocks := B.notSynchronized
  subst hsz
  have hD := hD0.self (sz := s.heap.size)
  generalize hAe : va_A [] s.heap.size = A at hD ⊢
  have hA : ∀ q : Nat, s.heap.size ≤ q → A q := fun q h => by rw [← hAe]; exact Or.inr h
  have hS : va_S A s.heap s.heap [] := va_S.rf
  have hP : va_P (dC, dI) vwCl [] s.heap := hP
  have hl := lv_entry ([.long p0, .long p1, .long p2]) (n := 6) (Nat.le_of_ble_eq_true rfl)
  rw [lg_entry_eq]
  generalize (lg_sl ([.long p0, .long p1, .long p2]) ++ List.replicate (6 - (lg_sl ([.long p0, .long p1, .long p2])).length) Slot.unset).toArray = ls at hl ⊢
  have hl : lv_has ls 6 [(0, .long p0), (2, .long p1), (4, .long p2)] := hl
  refine lv_lload_n hx hb dX1_dOf_0 rfl (lv_at hl 0 rfl) ?_
  refine lv_lload hx hb dX1_dOf_1 (lv_at hl 2 rfl) ?_
  refine mw_calll (wc := []) (wr := []) (w1 := fun (u : Unit) => []) (tyc := fun (u : Unit) => []) hP hD hS hA [] [] rfl rfl (by decide) (by decide) (va_runS (As := [.long p2]) (rest := [.long p0]) ⟨hx, hb, hml, hown, hts⟩ (c_X1_cosineOf l dC dI p2 s.heap.size ) (va_cwS 1 hts gX1_dOf_X1_cosineOf rfl rfl rfl (by decide +kernel) ⟨(Nat.le_of_ble_eq_true rfl), (Nat.le_of_ble_eq_true rfl)⟩) (mw_preS (hP.sub (ws' := []) [] rfl) (hD.sub (ws' := []) [] (by decide) rfl) (hK.sub (tys' := []) [] rfl) hN) rfl rfl hl.1 rfl (lv_room (Nat.le_of_ble_eq_true rfl)) dX1_dOf_3 ⟨(Nat.le_of_ble_eq_true rfl), (Nat.le_of_ble_eq_true rfl)⟩) (fun r1 u H locs hw_2 hP hD hS hK1 => ?_)
  have hw_2 : R_X1_cosineOf p2 r1 := hw_2
  have hP : va_P (dC, dI) vwCl [] H := hP
  have hD : va_D A [] := hD
  refine lv_lmul hx hb dX1_dOf_6 ?_
  refine lv_lload_n hx hb dX1_dOf_7 rfl (lv_at hl 1 rfl) ?_
  refine lv_lload hx hb dX1_dOf_8 (lv_at hl 2 rfl) ?_
  refine mw_calll (wc := []) (wr := []) (w1 := fun (u : Unit) => []) (tyc := fun (u : Unit) => []) hP hD hS hA [] [] rfl rfl (by decide) (by decide) (va_runS (As := [.long p2]) (rest := [.long p1, .long (p0 * r1)]) ⟨hx, hb, hml, hown, hts⟩ (c_X1_sineOf l dC dI p2 H.size ) (va_cwS 1 hts gX1_dOf_X1_sineOf rfl rfl rfl (by decide +kernel) ⟨(Nat.le_of_ble_eq_true rfl), (Nat.le_of_ble_eq_true rfl)⟩) (mw_preS (hP.sub (ws' := []) [] rfl) (hD.sub (ws' := []) [] (by decide) rfl) (hK.sub (tys' := []) [] rfl) hN) rfl rfl hl.1 rfl (lv_room (Nat.le_of_ble_eq_true rfl)) dX1_dOf_10 ⟨(Nat.le_of_ble_eq_true rfl), (Nat.le_of_ble_eq_true rfl)⟩) (fun r3 u H locs hw_4 hP hD hS hK1 => ?_)
  have hw_4 : R_X1_sineOf p2 r3 := hw_4
  have hP : va_P (dC, dI) vwCl [] H := hP
  have hD : va_D A [] := hD
  refine lv_lmul hx hb dX1_dOf_13 ?_
  refine lv_ladd hx hb dX1_dOf_14 ?_
  refine lv_bipush (v := 15) hx hb dX1_dOf_15 (by decide) ?_
  refine lv_lshr hx hb dX1_dOf_17 (mw_sh _ _ 15 (by decide)) ?_
  have hP9 := hP.sub (ws' := []) [] rfl
  have hD9 := hD.sub (ws' := []) [] (by decide) rfl
  have hK9 := hK.sub (tys' := []) [] rfl
  exact W.lret (v := (((p0 * r1) + (p1 * r3)) >>> (15 : Int64))) hx hb hr (fun t ht hW => ⟨⟨(((p0 * r1) + (p1 * r3)) >>> (15 : Int64)), (), rfl, ⟨r1, hw_2, ⟨r3, hw_4, rfl⟩⟩, (by rw [ht]; exact hP9), va_K.moved hW.alike hK9, hD9⟩, hS.F ht⟩) hS.2.2 dX1_dOf_18
def R_X1_qOf (p0 : Int64) (p1 : Int64) (p2 : Int64) (r : Int64) : Prop := ∃ (r1 : Int64), R_X1_cosineOf p2 r1 ∧ (∃ (r3 : Int64), R_X1_sineOf p2 r3 ∧ (r = (((p1 * r1) - (p0 * r3)) >>> (15 : Int64))))
set_option maxHeartbeats 4000000 in
set_option maxRecDepth 100000 in
theorem c_X1_qOf (l : Launch) (dC : Nat → ClassId) (dI : Nat → Nat → Nat) (p0 : Int64) (p1 : Int64) (p2 : Int64) (sz : Nat)  : Met l yX1_qOf wsX1_qOf ({ frames := 3, cells := 0, slots := 0, locals := 71 }) (va_Pc [.long p0, .long p1, .long p2] (mw_pre (dC, dI) vwCl [] [] sz)) (va_Ql (fun (r : Int64) (u : Unit) => R_X1_qOf p0 p1 p2 r) (fun u t => mw_at (dC, dI) vwCl [] [] (va_A [] sz) t) (va_A [] sz)) 0 0 (va_A [] sz) := by
  refine Met.ofW (cc := cX1_qOf) (maxL := 6) (ret := (some .long)) (by decide) rfl ?_
  intro p e s m args below meth c s₁ B hml hv
  obtain ⟨rfl, hsz, hP, hK, hD0, hN⟩ := hv
  have hx := B.exec
  have hb := B.bytes
  have hr := B.returns
  have hts := atoms_spec (ws := wsX1_qOf) B.pre
  have hown : s.vm.findClass RX1 = some m.cls := findClass_of_methodNamed B.named
  have hlocks := B.notSynchronized
  subst hsz
  have hD := hD0.self (sz := s.heap.size)
  generalize hAe : va_A [] s.heap.size = A at hD ⊢
  have hA : ∀ q : Nat, s.heap.size ≤ q → A q := fun q h => by rw [← hAe]; exact Or.inr h
  have hS : va_S A s.heap s.heap [] := va_S.rf
  have hP : va_P (dC, dI) vwCl [] s.heap := hP
  have hl := lv_entry ([.long p0, .long p1, .long p2]) (n := 6) (Nat.le_of_ble_eq_true rfl)
  rw [lg_entry_eq]
  generalize (lg_sl ([.long p0, .long p1, .long p2]) ++ List.replicate (6 - (lg_sl ([.long p0, .long p1, .long p2])).length) Slot.unset).toArray = ls at hl ⊢
  have hl : lv_has ls 6 [(0, .long p0), (2, .long p1), (4, .long p2)] := hl
  refine lv_lload_n hx hb dX1_qOf_0 rfl (lv_at hl 1 rfl) ?_
  refine lv_lload hx hb dX1_qOf_1 (lv_at hl 2 rfl) ?_
  refine mw_calll (wc := []) (wr := []) (w1 := fun (u : Unit) => []) (tyc := fun (u : Unit) => []) hP hD hS hA [] [] rfl rfl (by decide) (by decide) (va_runS (As := [.long p2]) (rest := [.long p1]) ⟨hx, hb, hml, hown, hts⟩ (c_X1_cosineOf l dC dI p2 s.heap.size ) (va_cwS 1 hts gX1_qOf_X1_cosineOf rfl rfl rfl (by decide +kernel) ⟨(Nat.le_of_ble_eq_true rfl), (Nat.le_of_ble_eq_true rfl)⟩) (mw_preS (hP.sub (ws' := []) [] rfl) (hD.sub (ws' := []) [] (by decide) rfl) (hK.sub (tys' := []) [] rfl) hN) rfl rfl hl.1 rfl (lv_room (Nat.le_of_ble_eq_true rfl)) dX1_qOf_3 ⟨(Nat.le_of_ble_eq_true rfl), (Nat.le_of_ble_eq_true rfl)⟩) (fun r1 u H locs hw_2 hP hD hS hK1 => ?_)
  have hw_2 : R_X1_cosineOf p2 r1 := hw_2
  have hP : va_P (dC, dI) vwCl [] H := hP
  have hD : va_D A [] := hD
  refine lv_lmul hx hb dX1_qOf_6 ?_
  refine lv_lload_n hx hb dX1_qOf_7 rfl (lv_at hl 0 rfl) ?_
  refine lv_lload hx hb dX1_qOf_8 (lv_at hl 2 rfl) ?_
  refine mw_calll (wc := []) (wr := []) (w1 := fun (u : Unit) => []) (tyc := fun (u : Unit) => []) hP hD hS hA [] [] rfl rfl (by decide) (by decide) (va_runS (As := [.long p2]) (rest := [.long p0, .long (p1 * r1)]) ⟨hx, hb, hml, hown, hts⟩ (c_X1_sineOf l dC dI p2 H.size ) (va_cwS 1 hts gX1_qOf_X1_sineOf rfl rfl rfl (by decide +kernel) ⟨(Nat.le_of_ble_eq_true rfl), (Nat.le_of_ble_eq_true rfl)⟩) (mw_preS (hP.sub (ws' := []) [] rfl) (hD.sub (ws' := []) [] (by decide) rfl) (hK.sub (tys' := []) [] rfl) hN) rfl rfl hl.1 rfl (lv_room (Nat.le_of_ble_eq_true rfl)) dX1_qOf_10 ⟨(Nat.le_of_ble_eq_true rfl), (Nat.le_of_ble_eq_true rfl)⟩) (fun r3 u H locs hw_4 hP hD hS hK1 => ?_)
  have hw_4 : R_X1_sineOf p2 r3 := hw_4
  have hP : va_P (dC, dI) vwCl [] H := hP
  have hD : va_D A [] := hD
  refine lv_lmul hx hb dX1_qOf_13 ?_
  refine lv_lsub hx hb dX1_qOf_14 ?_
  refine lv_bipush (v := 15) hx hb dX1_qOf_15 (by decide) ?_
  refine lv_lshr hx hb dX1_qOf_17 (mw_sh _ _ 15 (by decide)) ?_
  have hP9 := hP.sub (ws' := []) [] rfl
  have hD9 := hD.sub (ws' := []) [] (by decide) rfl
  have hK9 := hK.sub (tys' := []) [] rfl
  exact W.lret (v := (((p1 * r1) - (p0 * r3)) >>> (15 : Int64))) hx hb hr (fun t ht hW => ⟨⟨(((p1 * r1) - (p0 * r3)) >>> (15 : Int64)), (), rfl, ⟨r1, hw_2, ⟨r3, hw_4, rfl⟩⟩, (by rw [ht]; exact hP9), va_K.moved hW.alike hK9, hD9⟩, hS.F ht⟩) hS.2.2 dX1_qOf_18
def R_X1_alphaOf (p0 : Int64) (p1 : Int64) (p2 : Int64) (r : Int64) : Prop := ∃ (r1 : Int64), R_X1_cosineOf p2 r1 ∧ (∃ (r3 : Int64), R_X1_sineOf p2 r3 ∧ (r = (((p0 * r1) - (p1 * r3)) >>> (15 : Int64))))
set_option maxHeartbeats 4000000 in
set_option maxRecDepth 100000 in
theorem c_X1_alphaOf (l : Launch) (dC : Nat → ClassId) (dI : Nat → Nat → Nat) (p0 : Int64) (p1 : Int64) (p2 : Int64) (sz : Nat)  : Met l yX1_alphaOf wsX1_alphaOf ({ frames := 3, cells := 0, slots := 0, locals := 71 }) (va_Pc [.long p0, .long p1, .long p2] (mw_pre (dC, dI) vwCl [] [] sz)) (va_Ql (fun (r : Int64) (u : Unit) => R_X1_alphaOf p0 p1 p2 r) (fun u t => mw_at (dC, dI) vwCl [] [] (va_A [] sz) t) (va_A [] sz)) 0 0 (va_A [] sz) := by
  refine Met.ofW (cc := cX1_alphaOf) (maxL := 6) (ret := (some .long)) (by decide) rfl ?_
  intro p e s m args below meth c s₁ B hml hv
  obtain ⟨rfl, hsz, hP, hK, hD0, hN⟩ := hv
  have hx := B.exec
  have hb := B.bytes
  have hr := B.returns
  have hts := atoms_spec (ws := wsX1_alphaOf) B.pre
  have hown : s.vm.findClass RX1 = some m.cls := findClass_of_methodNamed B.named
  have hlocks := B.notSynchronized
  subst hsz
  have hD := hD0.self (sz := s.heap.size)
  generalize hAe : va_A [] s.heap.size = A at hD ⊢
  have hA : ∀ q : Nat, s.heap.size ≤ q → A q := fun q h => by rw [← hAe]; exact Or.inr h
  have hS : va_S A s.heap s.heap [] := va_S.rf
  have hP : va_P (dC, dI) vwCl [] s.heap := hP
  have hl := lv_entry ([.long p0, .long p1, .long p2]) (n := 6) (Nat.le_of_ble_eq_true rfl)
  rw [lg_entry_eq]
  generalize (lg_sl ([.long p0, .long p1, .long p2]) ++ List.replicate (6 - (lg_sl ([.long p0, .long p1, .long p2])).length) Slot.unset).toArray = ls at hl ⊢
  have hl : lv_has ls 6 [(0, .long p0), (2, .long p1), (4, .long p2)] := hl
  refine lv_lload_n hx hb dX1_alphaOf_0 rfl (lv_at hl 0 rfl) ?_
  refine lv_lload hx hb dX1_alphaOf_1 (lv_at hl 2 rfl) ?_
  refine mw_calll (wc := []) (wr := []) (w1 := fun (u : Unit) => []) (tyc := fun (u : Unit) => []) hP hD hS hA [] [] rfl rfl (by decide) (by decide) (va_runS (As := [.long p2]) (rest := [.long p0]) ⟨hx, hb, hml, hown, hts⟩ (c_X1_cosineOf l dC dI p2 s.heap.size ) (va_cwS 1 hts gX1_alphaOf_X1_cosineOf rfl rfl rfl (by decide +kernel) ⟨(Nat.le_of_ble_eq_true rfl), (Nat.le_of_ble_eq_true rfl)⟩) (mw_preS (hP.sub (ws' := []) [] rfl) (hD.sub (ws' := []) [] (by decide) rfl) (hK.sub (tys' := []) [] rfl) hN) rfl rfl hl.1 rfl (lv_room (Nat.le_of_ble_eq_true rfl)) dX1_alphaOf_3 ⟨(Nat.le_of_ble_eq_true rfl), (Nat.le_of_ble_eq_true rfl)⟩) (fun r1 u H locs hw_2 hP hD hS hK1 => ?_)
  have hw_2 : R_X1_cosineOf p2 r1 := hw_2
  have hP : va_P (dC, dI) vwCl [] H := hP
  have hD : va_D A [] := hD
  refine lv_lmul hx hb dX1_alphaOf_6 ?_
  refine lv_lload_n hx hb dX1_alphaOf_7 rfl (lv_at hl 1 rfl) ?_
  refine lv_lload hx hb dX1_alphaOf_8 (lv_at hl 2 rfl) ?_
  refine mw_calll (wc := []) (wr := []) (w1 := fun (u : Unit) => []) (tyc := fun (u : Unit) => []) hP hD hS hA [] [] rfl rfl (by decide) (by decide) (va_runS (As := [.long p2]) (rest := [.long p1, .long (p0 * r1)]) ⟨hx, hb, hml, hown, hts⟩ (c_X1_sineOf l dC dI p2 H.size ) (va_cwS 1 hts gX1_alphaOf_X1_sineOf rfl rfl rfl (by decide +kernel) ⟨(Nat.le_of_ble_eq_true rfl), (Nat.le_of_ble_eq_true rfl)⟩) (mw_preS (hP.sub (ws' := []) [] rfl) (hD.sub (ws' := []) [] (by decide) rfl) (hK.sub (tys' := []) [] rfl) hN) rfl rfl hl.1 rfl (lv_room (Nat.le_of_ble_eq_true rfl)) dX1_alphaOf_10 ⟨(Nat.le_of_ble_eq_true rfl), (Nat.le_of_ble_eq_true rfl)⟩) (fun r3 u H locs hw_4 hP hD hS hK1 => ?_)
  have hw_4 : R_X1_sineOf p2 r3 := hw_4
  have hP : va_P (dC, dI) vwCl [] H := hP
  have hD : va_D A [] := hD
  refine lv_lmul hx hb dX1_alphaOf_13 ?_
  refine lv_lsub hx hb dX1_alphaOf_14 ?_
  refine lv_bipush (v := 15) hx hb dX1_alphaOf_15 (by decide) ?_
  refine lv_lshr hx hb dX1_alphaOf_17 (mw_sh _ _ 15 (by decide)) ?_
  have hP9 := hP.sub (ws' := []) [] rfl
  have hD9 := hD.sub (ws' := []) [] (by decide) rfl
  have hK9 := hK.sub (tys' := []) [] rfl
  exact W.lret (v := (((p0 * r1) - (p1 * r3)) >>> (15 : Int64))) hx hb hr (fun t ht hW => ⟨⟨(((p0 * r1) - (p1 * r3)) >>> (15 : Int64)), (), rfl, ⟨r1, hw_2, ⟨r3, hw_4, rfl⟩⟩, (by rw [ht]; exact hP9), va_K.moved hW.alike hK9, hD9⟩, hS.F ht⟩) hS.2.2 dX1_alphaOf_18
def R_X1_betaOf (p0 : Int64) (p1 : Int64) (p2 : Int64) (r : Int64) : Prop := ∃ (r1 : Int64), R_X1_sineOf p2 r1 ∧ (∃ (r3 : Int64), R_X1_cosineOf p2 r3 ∧ (r = (((p0 * r1) + (p1 * r3)) >>> (15 : Int64))))
set_option maxHeartbeats 4000000 in
set_option maxRecDepth 100000 in
theorem c_X1_betaOf (l : Launch) (dC : Nat → ClassId) (dI : Nat → Nat → Nat) (p0 : Int64) (p1 : Int64) (p2 : Int64) (sz : Nat)  : Met l yX1_betaOf wsX1_betaOf ({ frames := 3, cells := 0, slots := 0, locals := 71 }) (va_Pc [.long p0, .long p1, .long p2] (mw_pre (dC, dI) vwCl [] [] sz)) (va_Ql (fun (r : Int64) (u : Unit) => R_X1_betaOf p0 p1 p2 r) (fun u t => mw_at (dC, dI) vwCl [] [] (va_A [] sz) t) (va_A [] sz)) 0 0 (va_A [] sz) := by
  refine Met.ofW (cc := cX1_betaOf) (maxL := 6) (ret := (some .long)) (by decide) rfl ?_
  intro p e s m args below meth c s₁ B hml hv
  obtain ⟨rfl, hsz, hP, hK, hD0, hN⟩ := hv
  have hx := B.exec
  have hb := B.bytes
  have hr := B.returns
  have hts := atoms_spec (ws := wsX1_betaOf) B.pre
  have hown : s.vm.findClass RX1 = some m.cls := findClass_of_methodNamed B.named
  have hlocks := B.notSynchronized
  subst hsz
  have hD := hD0.self (sz := s.heap.size)
  generalize hAe : va_A [] s.heap.size = A at hD ⊢
  have hA : ∀ q : Nat, s.heap.size ≤ q → A q := fun q h => by rw [← hAe]; exact Or.inr h
  have hS : va_S A s.heap s.heap [] := va_S.rf
  have hP : va_P (dC, dI) vwCl [] s.heap := hP
  have hl := lv_entry ([.long p0, .long p1, .long p2]) (n := 6) (Nat.le_of_ble_eq_true rfl)
  rw [lg_entry_eq]
  generalize (lg_sl ([.long p0, .long p1, .long p2]) ++ List.replicate (6 - (lg_sl ([.long p0, .long p1, .long p2])).length) Slot.unset).toArray = ls at hl ⊢
  have hl : lv_has ls 6 [(0, .long p0), (2, .long p1), (4, .long p2)] := hl
  refine lv_lload_n hx hb dX1_betaOf_0 rfl (lv_at hl 0 rfl) ?_
  refine lv_lload hx hb dX1_betaOf_1 (lv_at hl 2 rfl) ?_
  refine mw_calll (wc := []) (wr := []) (w1 := fun (u : Unit) => []) (tyc := fun (u : Unit) => []) hP hD hS hA [] [] rfl rfl (by decide) (by decide) (va_runS (As := [.long p2]) (rest := [.long p0]) ⟨hx, hb, hml, hown, hts⟩ (c_X1_sineOf l dC dI p2 s.heap.size ) (va_cwS 1 hts gX1_betaOf_X1_sineOf rfl rfl rfl (by decide +kernel) ⟨(Nat.le_of_ble_eq_true rfl), (Nat.le_of_ble_eq_true rfl)⟩) (mw_preS (hP.sub (ws' := []) [] rfl) (hD.sub (ws' := []) [] (by decide) rfl) (hK.sub (tys' := []) [] rfl) hN) rfl rfl hl.1 rfl (lv_room (Nat.le_of_ble_eq_true rfl)) dX1_betaOf_3 ⟨(Nat.le_of_ble_eq_true rfl), (Nat.le_of_ble_eq_true rfl)⟩) (fun r1 u H locs hw_2 hP hD hS hK1 => ?_)
  have hw_2 : R_X1_sineOf p2 r1 := hw_2
  have hP : va_P (dC, dI) vwCl [] H := hP
  have hD : va_D A [] := hD
  refine lv_lmul hx hb dX1_betaOf_6 ?_
  refine lv_lload_n hx hb dX1_betaOf_7 rfl (lv_at hl 1 rfl) ?_
  refine lv_lload hx hb dX1_betaOf_8 (lv_at hl 2 rfl) ?_
  refine mw_calll (wc := []) (wr := []) (w1 := fun (u : Unit) => []) (tyc := fun (u : Unit) => []) hP hD hS hA [] [] rfl rfl (by decide) (by decide) (va_runS (As := [.long p2]) (rest := [.long p1, .long (p0 * r1)]) ⟨hx, hb, hml, hown, hts⟩ (c_X1_cosineOf l dC dI p2 H.size ) (va_cwS 1 hts gX1_betaOf_X1_cosineOf rfl rfl rfl (by decide +kernel) ⟨(Nat.le_of_ble_eq_true rfl), (Nat.le_of_ble_eq_true rfl)⟩) (mw_preS (hP.sub (ws' := []) [] rfl) (hD.sub (ws' := []) [] (by decide) rfl) (hK.sub (tys' := []) [] rfl) hN) rfl rfl hl.1 rfl (lv_room (Nat.le_of_ble_eq_true rfl)) dX1_betaOf_10 ⟨(Nat.le_of_ble_eq_true rfl), (Nat.le_of_ble_eq_true rfl)⟩) (fun r3 u H locs hw_4 hP hD hS hK1 => ?_)
  have hw_4 : R_X1_cosineOf p2 r3 := hw_4
  have hP : va_P (dC, dI) vwCl [] H := hP
  have hD : va_D A [] := hD
  refine lv_lmul hx hb dX1_betaOf_13 ?_
  refine lv_ladd hx hb dX1_betaOf_14 ?_
  refine lv_bipush (v := 15) hx hb dX1_betaOf_15 (by decide) ?_
  refine lv_lshr hx hb dX1_betaOf_17 (mw_sh _ _ 15 (by decide)) ?_
  have hP9 := hP.sub (ws' := []) [] rfl
  have hD9 := hD.sub (ws' := []) [] (by decide) rfl
  have hK9 := hK.sub (tys' := []) [] rfl
  exact W.lret (v := (((p0 * r1) + (p1 * r3)) >>> (15 : Int64))) hx hb hr (fun t ht hW => ⟨⟨(((p0 * r1) + (p1 * r3)) >>> (15 : Int64)), (), rfl, ⟨r1, hw_2, ⟨r3, hw_4, rfl⟩⟩, (by rw [ht]; exact hP9), va_K.moved hW.alike hK9, hD9⟩, hS.F ht⟩) hS.2.2 dX1_betaOf_18
def R_X2_freeOut (p0 : Int64) (p1 : Int64) (p2 : Int64) (p3 : Int64) (r : Int64) : Prop := r = ((((p0 * p3) + p2) + (p1 * p3)) >>> (8 : Int64))
set_option maxHeartbeats 4000000 in
set_option maxRecDepth 100000 in
theorem c_X2_freeOut (l : Launch) (dC : Nat → ClassId) (dI : Nat → Nat → Nat) (p0 : Int64) (p1 : Int64) (p2 : Int64) (p3 : Int64) (sz : Nat)  : Met l yX2_freeOut wsX2_freeOut ({ frames := 0, cells := 0, slots := 0, locals := 0 }) (va_Pc [.long p0, .long p1, .long p2, .long p3] (mw_pre (dC, dI) vwCl [] [] sz)) (va_Ql (fun (r : Int64) (u : Unit) => R_X2_freeOut p0 p1 p2 p3 r) (fun u t => mw_at (dC, dI) vwCl [] [] (va_A [] sz) t) (va_A [] sz)) 0 0 (va_A [] sz) := by
  refine Met.ofW (cc := cX2_freeOut) (maxL := 8) (ret := (some .long)) (by decide) rfl ?_
  intro p e s m args below meth c s₁ B hml hv
  obtain ⟨rfl, hsz, hP, hK, hD0, hN⟩ := hv
  have hx := B.exec
  have hb := B.bytes
  have hr := B.returns
  have hts := atoms_spec (ws := wsX2_freeOut) B.pre
  have hown : s.vm.findClass RX2 = some m.cls := findClass_of_methodNamed B.named
  have hlocks := B.notSynchronized
  subst hsz
  have hD := hD0.self (sz := s.heap.size)
  generalize hAe : va_A [] s.heap.size = A at hD ⊢
  have hA : ∀ q : Nat, s.heap.size ≤ q → A q := fun q h => by rw [← hAe]; exact Or.inr h
  have hS : va_S A s.heap s.heap [] := va_S.rf
  have hP : va_P (dC, dI) vwCl [] s.heap := hP
  have hl := lv_entry ([.long p0, .long p1, .long p2, .long p3]) (n := 8) (Nat.le_of_ble_eq_true rfl)
  rw [lg_entry_eq]
  generalize (lg_sl ([.long p0, .long p1, .long p2, .long p3]) ++ List.replicate (8 - (lg_sl ([.long p0, .long p1, .long p2, .long p3])).length) Slot.unset).toArray = ls at hl ⊢
  have hl : lv_has ls 8 [(0, .long p0), (2, .long p1), (4, .long p2), (6, .long p3)] := hl
  refine lv_lload_n hx hb dX2_freeOut_0 rfl (lv_at hl 0 rfl) ?_
  refine lv_lload hx hb dX2_freeOut_1 (lv_at hl 3 rfl) ?_
  refine lv_lmul hx hb dX2_freeOut_3 ?_
  refine lv_lload hx hb dX2_freeOut_4 (lv_at hl 2 rfl) ?_
  refine lv_ladd hx hb dX2_freeOut_6 ?_
  refine lv_lload_n hx hb dX2_freeOut_7 rfl (lv_at hl 1 rfl) ?_
  refine lv_lload hx hb dX2_freeOut_8 (lv_at hl 3 rfl) ?_
  refine lv_lmul hx hb dX2_freeOut_10 ?_
  refine lv_ladd hx hb dX2_freeOut_11 ?_
  refine lv_bipush (v := 8) hx hb dX2_freeOut_12 (by decide) ?_
  refine lv_lshr hx hb dX2_freeOut_14 (mw_sh _ _ 8 (by decide)) ?_
  have hP9 := hP.sub (ws' := []) [] rfl
  have hD9 := hD.sub (ws' := []) [] (by decide) rfl
  have hK9 := hK.sub (tys' := []) [] rfl
  exact W.lret (v := ((((p0 * p3) + p2) + (p1 * p3)) >>> (8 : Int64))) hx hb hr (fun t ht hW => ⟨⟨((((p0 * p3) + p2) + (p1 * p3)) >>> (8 : Int64)), (), rfl, rfl, (by rw [ht]; exact hP9), va_K.moved hW.alike hK9, hD9⟩, hS.F ht⟩) hS.2.2 dX2_freeOut_15
def RG_X2_sumBehind_4 (p1 : Int64) (p3 : Int64) (p4 : Int64) (x7 : Int32) : Prop := (p4 ≤ p1 → (((-p1) ≤ p4 → (x7 = (0 : Int32))) ∧ (¬ ((-p1) ≤ p4) → (((0 : Int64) < p3 → (x7 = (0 : Int32))) ∧ (¬ ((0 : Int64) < p3) → (x7 = (1 : Int32))))))) ∧ (¬ (p4 ≤ p1) → (((0 : Int64) ≤ p3 → (x7 = (1 : Int32))) ∧ (¬ ((0 : Int64) ≤ p3) → (((-p1) ≤ p4 → (x7 = (0 : Int32))) ∧ (¬ ((-p1) ≤ p4) → (((0 : Int64) < p3 → (x7 = (0 : Int32))) ∧ (¬ ((0 : Int64) < p3) → (x7 = (1 : Int32)))))))))
theorem b_RG_X2_sumBehind_4_x7 {p1 : Int64} {p3 : Int64} {p4 : Int64} {x7 : Int32}  (h : RG_X2_sumBehind_4 p1 p3 p4 x7) : x7 = 0 ∨ x7 = 1 := by
  unfold RG_X2_sumBehind_4 at h
  by_cases q : p4 ≤ p1
  · have h := h.1 q
    by_cases q : (-p1) ≤ p4
    · have h := h.1 q
      exact Or.inl h
    · have h := h.2 q
      by_cases q : (0 : Int64) < p3
      · have h := h.1 q
        exact Or.inl h
      · have h := h.2 q
        exact Or.inr h
  · have h := h.2 q
    by_cases q : (0 : Int64) ≤ p3
    · have h := h.1 q
      exact Or.inr h
    · have h := h.2 q
      by_cases q : (-p1) ≤ p4
      · have h := h.1 q
        exact Or.inl h
      · have h := h.2 q
        by_cases q : (0 : Int64) < p3
        · have h := h.1 q
          exact Or.inl h
        · have h := h.2 q
          exact Or.inr h
def R_X2_sumBehind (p0 : Int64) (p1 : Int64) (p2 : Int64) (p3 : Int64) (p4 : Int64) (r : Int64) : Prop := ∃ (x7 : Int32), RG_X2_sumBehind_4 p1 p3 p4 x7 ∧ ((x7 = (0 : Int32) → (r = (p2 + (p0 * p3)))) ∧ (¬ (x7 = (0 : Int32)) → (r = p2)))
set_option maxHeartbeats 4000000 in
set_option maxRecDepth 100000 in
theorem c_X2_sumBehind (l : Launch) (dC : Nat → ClassId) (dI : Nat → Nat → Nat) (p0 : Int64) (p1 : Int64) (p2 : Int64) (p3 : Int64) (p4 : Int64) (sz : Nat)  : Met l yX2_sumBehind wsX2_sumBehind ({ frames := 0, cells := 0, slots := 0, locals := 0 }) (va_Pc [.long p0, .long p1, .long p2, .long p3, .long p4] (mw_pre (dC, dI) vwCl [] [] sz)) (va_Ql (fun (r : Int64) (u : Unit) => R_X2_sumBehind p0 p1 p2 p3 p4 r) (fun u t => mw_at (dC, dI) vwCl [] [] (va_A [] sz) t) (va_A [] sz)) 0 0 (va_A [] sz) := by
  refine Met.ofW (cc := cX2_sumBehind) (maxL := 11) (ret := (some .long)) (by decide) rfl ?_
  intro p e s m args below meth c s₁ B hml hv
  obtain ⟨rfl, hsz, hP, hK, hD0, hN⟩ := hv
  have hx := B.exec
  have hb := B.bytes
  have hr := B.returns
  have hts := atoms_spec (ws := wsX2_sumBehind) B.pre
  have hown : s.vm.findClass RX2 = some m.cls := findClass_of_methodNamed B.named
  have hlocks := B.notSynchronized
  subst hsz
  have hD := hD0.self (sz := s.heap.size)
  generalize hAe : va_A [] s.heap.size = A at hD ⊢
  have hA : ∀ q : Nat, s.heap.size ≤ q → A q := fun q h => by rw [← hAe]; exact Or.inr h
  have hS : va_S A s.heap s.heap [] := va_S.rf
  have hP : va_P (dC, dI) vwCl [] s.heap := hP
  have hl := lv_entry ([.long p0, .long p1, .long p2, .long p3, .long p4]) (n := 11) (Nat.le_of_ble_eq_true rfl)
  rw [lg_entry_eq]
  generalize (lg_sl ([.long p0, .long p1, .long p2, .long p3, .long p4]) ++ List.replicate (11 - (lg_sl ([.long p0, .long p1, .long p2, .long p3, .long p4])).length) Slot.unset).toArray = ls at hl ⊢
  have hl : lv_has ls 11 [(0, .long p0), (2, .long p1), (4, .long p2), (6, .long p3), (8, .long p4)] := hl
  refine lv_lload hx hb dX2_sumBehind_0 (lv_at hl 4 rfl) ?_
  refine lv_lload_n hx hb dX2_sumBehind_2 rfl (lv_at hl 1 rfl) ?_
  refine W.lcmp hx hb dX2_sumBehind_3 ?_
  refine mw_jn (X := Int32) (D := (dC, dI)) (cl := vwCl) (A := A) (H0 := s.heap) (nL := 11) (fun x => []) (fun x => [(0, .long p0), (4, .long p2), (6, .long p3)]) (fun x => [.int x]) 34 (fun x => RG_X2_sumBehind_4 p1 p3 p4 x) (fun x hx_ H locs ls hP hD hS hl => ?_) (fun J => ?_)
  · obtain ⟨x7, rfl⟩ : ∃ z, z = x := ⟨_, rfl⟩
    have hj8 : RG_X2_sumBehind_4 p1 p3 p4 x7 := hx_
    have hP : va_P (dC, dI) vwCl [] H := hP
    have hD : va_D A [] := hD
    have hl : lv_has ls 11 [(0, .long p0), (4, .long p2), (6, .long p3)] := hl
    refine lv_istore (lv' := [(10, .int x7), (0, .long p0), (4, .long p2), (6, .long p3)]) hx hb dX2_sumBehind_34 hl (by decide) rfl (fun ls hl => ?_)
    refine lv_iload hx hb dX2_sumBehind_36 (lv_at hl 0 rfl) ?_
    refine lv_if_eq (tgt := 46) hx hb dX2_sumBehind_38 (by decide) (fun c9 => ?_) (fun c9 => ?_)
    · have c9 : x7 = (0 : Int32) := c9
      refine lv_lload hx hb dX2_sumBehind_46 (lv_at hl 2 rfl) ?_
      refine lv_lload_n hx hb dX2_sumBehind_48 rfl (lv_at hl 1 rfl) ?_
      refine lv_lload hx hb dX2_sumBehind_49 (lv_at hl 3 rfl) ?_
      refine lv_lmul hx hb dX2_sumBehind_51 ?_
      refine lv_ladd hx hb dX2_sumBehind_52 ?_
      have hP9 := hP.sub (ws' := []) [] rfl
      have hD9 := hD.sub (ws' := []) [] (by decide) rfl
      have hK9 := hK.sub (tys' := []) [] rfl
      exact W.lret (v := (p2 + (p0 * p3))) hx hb hr (fun t ht hW => ⟨⟨(p2 + (p0 * p3)), (), rfl, ⟨x7, hj8, ⟨fun _ => rfl, fun hh => absurd c9 hh⟩⟩, (by rw [ht]; exact hP9), va_K.moved hW.alike hK9, hD9⟩, hS.F ht⟩) hS.2.2 dX2_sumBehind_53
    · have c9 : ¬ (x7 = (0 : Int32)) := c9
      refine lv_lload hx hb dX2_sumBehind_41 (lv_at hl 2 rfl) ?_
      refine lv_goto (tgt := 53) hx hb dX2_sumBehind_43 (by decide) ?_
      have hP9 := hP.sub (ws' := []) [] rfl
      have hD9 := hD.sub (ws' := []) [] (by decide) rfl
      have hK9 := hK.sub (tys' := []) [] rfl
      exact W.lret (v := p2) hx hb hr (fun t ht hW => ⟨⟨p2, (), rfl, ⟨x7, hj8, ⟨fun hh => absurd hh c9, fun _ => rfl⟩⟩, (by rw [ht]; exact hP9), va_K.moved hW.alike hK9, hD9⟩, hS.F ht⟩) hS.2.2 dX2_sumBehind_53
  · refine lv_if_le (tgt := 14) hx hb dX2_sumBehind_4 (by decide) (fun c1 => ?_) (fun c1 => ?_)
    · have c1 : p4 ≤ p1 := (lg_cmp_le _ _).mp c1
      refine lv_lload hx hb dX2_sumBehind_14 (lv_at hl 4 rfl) ?_
      refine lv_lload_n hx hb dX2_sumBehind_16 rfl (lv_at hl 1 rfl) ?_
      refine lv_lneg hx hb dX2_sumBehind_17 ?_
      refine W.lcmp hx hb dX2_sumBehind_18 ?_
      refine lv_if_ge (tgt := 33) hx hb dX2_sumBehind_19 (by decide) (fun c2 => ?_) (fun c2 => ?_)
      · have c2 : (-p1) ≤ p4 := (lg_cmp_ge _ _).mp c2
        refine lv_iconst (v := 0) hx hb dX2_sumBehind_33 (by decide) ?_
        exact J (0 : Int32) ⟨fun _ => ⟨fun _ => rfl, fun hh => absurd c2 hh⟩, fun hh => absurd c1 hh⟩ _ _ _ hP hD hS (lv_sub hl [0, 2, 3] rfl)
      · have c2 : ¬ ((-p1) ≤ p4) := mw_fge c2
        refine lv_lload hx hb dX2_sumBehind_22 (lv_at hl 3 rfl) ?_
        refine lv_lconst (v := 0) hx hb dX2_sumBehind_24 (by decide) ?_
        refine W.lcmp hx hb dX2_sumBehind_25 ?_
        refine lv_if_gt (tgt := 33) hx hb dX2_sumBehind_26 (by decide) (fun c3 => ?_) (fun c3 => ?_)
        · have c3 : (0 : Int64) < p3 := (lg_cmp_gt _ _).mp c3
          refine lv_iconst (v := 0) hx hb dX2_sumBehind_33 (by decide) ?_
          exact J (0 : Int32) ⟨fun _ => ⟨fun hh => absurd hh c2, fun _ => ⟨fun _ => rfl, fun hh => absurd c3 hh⟩⟩, fun hh => absurd c1 hh⟩ _ _ _ hP hD hS (lv_sub hl [0, 2, 3] rfl)
        · have c3 : ¬ ((0 : Int64) < p3) := mw_fgt c3
          refine lv_iconst (v := 1) hx hb dX2_sumBehind_29 (by decide) ?_
          refine lv_goto (tgt := 34) hx hb dX2_sumBehind_30 (by decide) ?_
          exact J (1 : Int32) ⟨fun _ => ⟨fun hh => absurd hh c2, fun _ => ⟨fun hh => absurd hh c3, fun _ => rfl⟩⟩, fun hh => absurd c1 hh⟩ _ _ _ hP hD hS (lv_sub hl [0, 2, 3] rfl)
    · have c1 : ¬ (p4 ≤ p1) := mw_fle c1
      refine lv_lload hx hb dX2_sumBehind_7 (lv_at hl 3 rfl) ?_
      refine lv_lconst (v := 0) hx hb dX2_sumBehind_9 (by decide) ?_
      refine W.lcmp hx hb dX2_sumBehind_10 ?_
      refine lv_if_ge (tgt := 29) hx hb dX2_sumBehind_11 (by decide) (fun c4 => ?_) (fun c4 => ?_)
      · have c4 : (0 : Int64) ≤ p3 := (lg_cmp_ge _ _).mp c4
        refine lv_iconst (v := 1) hx hb dX2_sumBehind_29 (by decide) ?_
        refine lv_goto (tgt := 34) hx hb dX2_sumBehind_30 (by decide) ?_
        exact J (1 : Int32) ⟨fun hh => absurd hh c1, fun _ => ⟨fun _ => rfl, fun hh => absurd c4 hh⟩⟩ _ _ _ hP hD hS (lv_sub hl [0, 2, 3] rfl)
      · have c4 : ¬ ((0 : Int64) ≤ p3) := mw_fge c4
        refine lv_lload hx hb dX2_sumBehind_14 (lv_at hl 4 rfl) ?_
        refine lv_lload_n hx hb dX2_sumBehind_16 rfl (lv_at hl 1 rfl) ?_
        refine lv_lneg hx hb dX2_sumBehind_17 ?_
        refine W.lcmp hx hb dX2_sumBehind_18 ?_
        refine lv_if_ge (tgt := 33) hx hb dX2_sumBehind_19 (by decide) (fun c5 => ?_) (fun c5 => ?_)
        · have c5 : (-p1) ≤ p4 := (lg_cmp_ge _ _).mp c5
          refine lv_iconst (v := 0) hx hb dX2_sumBehind_33 (by decide) ?_
          exact J (0 : Int32) ⟨fun hh => absurd hh c1, fun _ => ⟨fun hh => absurd hh c4, fun _ => ⟨fun _ => rfl, fun hh => absurd c5 hh⟩⟩⟩ _ _ _ hP hD hS (lv_sub hl [0, 2, 3] rfl)
        · have c5 : ¬ ((-p1) ≤ p4) := mw_fge c5
          refine lv_lload hx hb dX2_sumBehind_22 (lv_at hl 3 rfl) ?_
          refine lv_lconst (v := 0) hx hb dX2_sumBehind_24 (by decide) ?_
          refine W.lcmp hx hb dX2_sumBehind_25 ?_
          refine lv_if_gt (tgt := 33) hx hb dX2_sumBehind_26 (by decide) (fun c6 => ?_) (fun c6 => ?_)
          · have c6 : (0 : Int64) < p3 := (lg_cmp_gt _ _).mp c6
            refine lv_iconst (v := 0) hx hb dX2_sumBehind_33 (by decide) ?_
            exact J (0 : Int32) ⟨fun hh => absurd hh c1, fun _ => ⟨fun hh => absurd hh c4, fun _ => ⟨fun hh => absurd hh c5, fun _ => ⟨fun _ => rfl, fun hh => absurd c6 hh⟩⟩⟩⟩ _ _ _ hP hD hS (lv_sub hl [0, 2, 3] rfl)
          · have c6 : ¬ ((0 : Int64) < p3) := mw_fgt c6
            refine lv_iconst (v := 1) hx hb dX2_sumBehind_29 (by decide) ?_
            refine lv_goto (tgt := 34) hx hb dX2_sumBehind_30 (by decide) ?_
            exact J (1 : Int32) ⟨fun hh => absurd hh c1, fun _ => ⟨fun hh => absurd hh c4, fun _ => ⟨fun hh => absurd hh c5, fun _ => ⟨fun hh => absurd hh c6, fun _ => rfl⟩⟩⟩⟩ _ _ _ hP hD hS (lv_sub hl [0, 2, 3] rfl)
def R_X2_step (f_kp : Int64) (f_ki : Int64) (f_sum : Int64) (p0 : Int64) (p1 : Int64) (r : Int64) (u_0_sum : Int64) : Prop := ∃ (r1 : Int64), R_X2_freeOut f_kp f_ki f_sum p1 r1 ∧ (∃ (r3 : Int64), R_X2_sumBehind f_ki p0 f_sum p1 r1 r3 ∧ (∃ (r5 : Int64), R_X5_clamp r1 p0 r5 ∧ (r = r5 ∧ u_0_sum = r3)))
set_option maxHeartbeats 4000000 in
set_option maxRecDepth 100000 in
theorem c_X2_step (l : Launch) (dC : Nat → ClassId) (dI : Nat → Nat → Nat) (h0 : Nat) (f_kp : Int64) (f_ki : Int64) (f_sum : Int64) (p0 : Int64) (p1 : Int64) (sz : Nat)  : Met l yX2_step wsX2_step ({ frames := 2, cells := 0, slots := 0, locals := 40 }) (va_Pc [.ref h0, .long p0, .long p1] (mw_pre (dC, dI) vwCl [(h0, .inr (1, [.long f_kp, .long f_ki, .long f_sum]))] [] sz)) (va_Ql (fun (r : Int64) (u : Int64) => R_X2_step f_kp f_ki f_sum p0 p1 r u) (fun u t => mw_at (dC, dI) vwCl [(h0, .inr (1, [.long f_kp, .long f_ki, .long u]))] [] (va_A [(h0, .inr (1, [.long f_kp, .long f_ki, .long f_sum]))] sz) t) (va_A [(h0, .inr (1, [.long f_kp, .long f_ki, .long f_sum]))] sz)) 0 0 (va_A [(h0, .inr (1, [.long f_kp, .long f_ki, .long f_sum]))] sz) := by
  refine Met.ofW (cc := cX2_step) (maxL := 7) (ret := (some .long)) (by decide) rfl ?_
  intro p e s m args below meth c s₁ B hml hv
  obtain ⟨rfl, hsz, hP, hK, hD0, hN⟩ := hv
  have hx := B.exec
  have hb := B.bytes
  have hr := B.returns
  have hts := atoms_spec (ws := wsX2_step) B.pre
  have hown : s.vm.findClass RX2 = some m.cls := findClass_of_methodNamed B.named
  have hlocks := B.notSynchronized
  subst hsz
  have hD := hD0.self (sz := s.heap.size)
  generalize hAe : va_A [(h0, .inr (1, [.long f_kp, .long f_ki, .long f_sum]))] s.heap.size = A at hD ⊢
  have hA : ∀ q : Nat, s.heap.size ≤ q → A q := fun q h => by rw [← hAe]; exact Or.inr h
  have hS : va_S A s.heap s.heap [] := va_S.rf
  have hP : va_P (dC, dI) vwCl [(h0, .inr (1, [.long f_kp, .long f_ki, .long f_sum]))] s.heap := hP
  have hl := lv_entry ([.ref h0, .long p0, .long p1]) (n := 7) (Nat.le_of_ble_eq_true rfl)
  rw [lg_entry_eq]
  generalize (lg_sl ([.ref h0, .long p0, .long p1]) ++ List.replicate (7 - (lg_sl ([.ref h0, .long p0, .long p1])).length) Slot.unset).toArray = ls at hl ⊢
  have hl : lv_has ls 7 [(0, .ref h0), (1, .long p0), (3, .long p1)] := hl
  have hw0 := hts (.fieldLink RX2 9 "TurnedFields$Loop" "kp" "J") (by decide +kernel)
  have hw1 := hts (.fieldLink RX2 17 "TurnedFields$Loop" "ki" "J") (by decide +kernel)
  have hw2 := hts (.fieldLink RX2 20 "TurnedFields$Loop" "sum" "J") (by decide +kernel)
  have hw3 := hts (.initialized RX5) (by decide +kernel)
  have hw4 := hts (.static yX5_clamp) (by decide +kernel)
  have hinX2 : ∀ w ∈ wsX20, w ∈ wsX2_step := by decide +kernel
  refine lv_aload_n hx hb dX2_step_0 rfl (lv_at hl 0 rfl) ?_
  refine va_get (D := (dC, dI)) (ci := 1) (v := .long f_kp) (C := RX2) (T := TX2) (N := 3) hx hb hts hinX2 hown hK hP 0 rfl rfl 0 (by decide) hw0 (fun _ h9 => h9) rfl dX2_step_1 ?_
  refine lv_aload_n hx hb dX2_step_4 rfl (lv_at hl 0 rfl) ?_
  refine va_get (D := (dC, dI)) (ci := 1) (v := .long f_ki) (C := RX2) (T := TX2) (N := 3) hx hb hts hinX2 hown hK hP 0 rfl rfl 1 (by decide) hw1 (fun _ h9 => h9) rfl dX2_step_5 ?_
  refine lv_aload_n hx hb dX2_step_8 rfl (lv_at hl 0 rfl) ?_
  refine va_get (D := (dC, dI)) (ci := 1) (v := .long f_sum) (C := RX2) (T := TX2) (N := 3) hx hb hts hinX2 hown hK hP 0 rfl rfl 2 (by decide) hw2 (fun _ h9 => h9) rfl dX2_step_9 ?_
  refine lv_lload_n hx hb dX2_step_12 rfl (lv_at hl 2 rfl) ?_
  refine mw_calll (wc := []) (wr := [(h0, .inr (1, [.long f_kp, .long f_ki, .long f_sum]))]) (w1 := fun (u : Unit) => []) (tyc := fun (u : Unit) => []) hP hD hS hA [] [0] rfl rfl (by decide) (by decide) (va_runS (As := [.long f_kp, .long f_ki, .long f_sum, .long p1]) (rest := []) ⟨hx, hb, hml, hown, hts⟩ (c_X2_freeOut l dC dI f_kp f_ki f_sum p1 s.heap.size ) (va_cwS 4 hts gX2_step_X2_freeOut rfl rfl rfl (by decide +kernel) ⟨(Nat.le_of_ble_eq_true rfl), (Nat.le_of_ble_eq_true rfl)⟩) (mw_preS (hP.sub (ws' := []) [] rfl) (hD.sub (ws' := []) [] (by decide) rfl) (hK.sub (tys' := []) [] rfl) hN) rfl rfl hl.1 rfl (lv_room (Nat.le_of_ble_eq_true rfl)) dX2_step_13 ⟨(Nat.le_of_ble_eq_true rfl), (Nat.le_of_ble_eq_true rfl)⟩) (fun r1 u H locs hw_2 hP hD hS hK1 => ?_)
  have hw_2 : R_X2_freeOut f_kp f_ki f_sum p1 r1 := hw_2
  have hP : va_P (dC, dI) vwCl [(h0, .inr (1, [.long f_kp, .long f_ki, .long f_sum]))] H := hP
  have hD : va_D A [(h0, .inr (1, [.long f_kp, .long f_ki, .long f_sum]))] := hD
  refine lv_lstore (lv' := [(5, .long r1), (0, .ref h0), (1, .long p0), (3, .long p1)]) hx hb dX2_step_16 hl (by decide) rfl (fun ls hl => ?_)
  refine lv_aload_n hx hb dX2_step_18 rfl (lv_at hl 1 rfl) ?_
  refine lv_aload_n hx hb dX2_step_19 rfl (lv_at hl 1 rfl) ?_
  refine va_get (D := (dC, dI)) (ci := 1) (v := .long f_ki) (C := RX2) (T := TX2) (N := 3) hx hb hts hinX2 hown hK hP 0 rfl rfl 1 (by decide) hw1 (fun _ h9 => h9) rfl dX2_step_20 ?_
  refine lv_lload_n hx hb dX2_step_23 rfl (lv_at hl 2 rfl) ?_
  refine lv_aload_n hx hb dX2_step_24 rfl (lv_at hl 1 rfl) ?_
  refine va_get (D := (dC, dI)) (ci := 1) (v := .long f_sum) (C := RX2) (T := TX2) (N := 3) hx hb hts hinX2 hown hK hP 0 rfl rfl 2 (by decide) hw2 (fun _ h9 => h9) rfl dX2_step_25 ?_
  refine lv_lload_n hx hb dX2_step_28 rfl (lv_at hl 3 rfl) ?_
  refine lv_lload hx hb dX2_step_29 (lv_at hl 0 rfl) ?_
  refine mw_calll (wc := []) (wr := [(h0, .inr (1, [.long f_kp, .long f_ki, .long f_sum]))]) (w1 := fun (u : Unit) => []) (tyc := fun (u : Unit) => []) hP hD hS hA [] [0] rfl rfl (by decide) (by decide) (va_runS (As := [.long f_ki, .long p0, .long f_sum, .long p1, .long r1]) (rest := [.ref h0]) ⟨hx, hb, hml, hown, hts⟩ (c_X2_sumBehind l dC dI f_ki p0 f_sum p1 r1 H.size ) (va_cwS 5 hts gX2_step_X2_sumBehind rfl rfl rfl (by decide +kernel) ⟨(Nat.le_of_ble_eq_true rfl), (Nat.le_of_ble_eq_true rfl)⟩) (mw_preS (hP.sub (ws' := []) [] rfl) (hD.sub (ws' := []) [] (by decide) rfl) (hK.sub (tys' := []) [] rfl) hN) rfl rfl hl.1 rfl (lv_room (Nat.le_of_ble_eq_true rfl)) dX2_step_31 ⟨(Nat.le_of_ble_eq_true rfl), (Nat.le_of_ble_eq_true rfl)⟩) (fun r3 u H locs hw_4 hP hD hS hK1 => ?_)
  have hw_4 : R_X2_sumBehind f_ki p0 f_sum p1 r1 r3 := hw_4
  have hP : va_P (dC, dI) vwCl [(h0, .inr (1, [.long f_kp, .long f_ki, .long f_sum]))] H := hP
  have hD : va_D A [(h0, .inr (1, [.long f_kp, .long f_ki, .long f_sum]))] := hD
  refine va_put (D := (dC, dI)) (ci := 1) (v := .long r3) (ty := .long) (C := RX2) (T := TX2) (N := 3) hx hb hts hinX2 tyX2 tyX2_ok nmX2 hown hK hP hD hS 0 rfl rfl 2 (by decide) hw2 (fun _ h9 => h9) rfl (by decide +kernel) rfl rfl (Nat.le_of_ble_eq_true rfl) dX2_step_34 (fun H locs hP hD hS => ?_)
  have hP : va_P (dC, dI) vwCl [(h0, .inr (1, [.long f_kp, .long f_ki, .long r3]))] H := hP
  have hD : va_D A [(h0, .inr (1, [.long f_kp, .long f_ki, .long r3]))] := hD
  refine lv_lload hx hb dX2_step_37 (lv_at hl 0 rfl) ?_
  refine lv_lload_n hx hb dX2_step_39 rfl (lv_at hl 2 rfl) ?_
  refine mw_calll (wc := []) (wr := [(h0, .inr (1, [.long f_kp, .long f_ki, .long r3]))]) (w1 := fun (u : Unit) => []) (tyc := fun (u : Unit) => []) hP hD hS hA [] [0] rfl rfl (by decide) (by decide) (va_runSN (As := [.long r1, .long p0]) (rest := []) ⟨hx, hb, hml, hown, hts⟩ (c_X5_clamp l dC dI r1 p0 H.size ) ⟨va_cnB 2 hts gX2_step_X5_clamp_n31 rfl rfl rfl (hN.at 6 rfl) hw3 (by decide +kernel) ⟨(Nat.le_of_ble_eq_true rfl), (Nat.le_of_ble_eq_true rfl)⟩, hw4, trivial⟩ (mw_preS (hP.sub (ws' := []) [] rfl) (hD.sub (ws' := []) [] (by decide) rfl) (hK.sub (tys' := []) [] rfl) hN) rfl rfl hl.1 rfl (lv_room (Nat.le_of_ble_eq_true rfl)) dX2_step_40 ⟨(Nat.le_of_ble_eq_true rfl), (Nat.le_of_ble_eq_true rfl)⟩) (fun r5 u H locs hw_6 hP hD hS hK1 => ?_)
  have hw_6 : R_X5_clamp r1 p0 r5 := hw_6
  have hP : va_P (dC, dI) vwCl [(h0, .inr (1, [.long f_kp, .long f_ki, .long r3]))] H := hP
  have hD : va_D A [(h0, .inr (1, [.long f_kp, .long f_ki, .long r3]))] := hD
  have hP9 := hP.sub (ws' := [(h0, .inr (1, [.long f_kp, .long f_ki, .long r3]))]) [0] rfl
  have hD9 := hD.sub (ws' := [(h0, .inr (1, [.long f_kp, .long f_ki, .long r3]))]) [0] (by decide) rfl
  have hK9 := hK.sub (tys' := []) [] rfl
  exact W.lret (v := r5) hx hb hr (fun t ht hW => ⟨⟨r5, r3, rfl, ⟨r1, hw_2, ⟨r3, hw_4, ⟨r5, hw_6, ⟨rfl, rfl⟩⟩⟩⟩, (by rw [ht]; exact hP9), va_K.moved hW.alike hK9, hD9⟩, hS.F ht⟩) hS.2.2 dX2_step_43
