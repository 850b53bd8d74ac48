def R_X5_within (p0 : Int32) (p1 : Int32) (p2 : Int32) (r : Int32) : Prop := (p0 < p1 → (r = (0 : Int32))) ∧ (¬ (p0 < p1) → ((p2 < p0 → (r = (0 : Int32))) ∧ (¬ (p2 < p0) → (r = (1 : Int32)))))
theorem b_X5_within_r {p0 : Int32} {p1 : Int32} {p2 : Int32} {r : Int32}  (h : R_X5_within p0 p1 p2 r) : r = 0 ∨ r = 1 := by
  unfold R_X5_within at h
  by_cases q : p0 < p1
  · have h := h.1 q
    exact Or.inl h
  · have h := h.2 q
    by_cases q : p2 < p0
    · have h := h.1 q
      exact Or.inl h
    · have h := h.2 q
      exact Or.inr h
set_option maxHeartbeats 4000000 in
set_option maxRecDepth 100000 in
theorem c_X5_within (l : Launch) (dC : Nat → ClassId) (dI : Nat → Nat → Nat) (p0 : Int32) (p1 : Int32) (p2 : Int32) (sz : Nat)  : Met l yX5_within wsX5_within ({ frames := 0, cells := 0, slots := 0, locals := 0 }) (va_Pc [.int p0, .int p1, .int p2] (mw_pre (dC, dI) vwCl [] [] sz)) (va_Qi (fun (r : Int32) (u : Unit) => R_X5_within p0 p1 p2 r) (fun u t => mw_at (dC, dI) vwCl [] [] (va_A [] sz) t) (va_A [] sz)) 0 0 (va_A [] sz) := by
  refine Met.ofW (cc := cX5_within) (maxL := 3) (ret := (some .boolean)) (by decide) rfl ?_
  intro p e s m args below meth c s₁ B hml hv
  obtain ⟨rfl, hsz, hP, hK, hD0, hN⟩ := hv
  have hx := B.exec
  have hb := B.bytes
  have hr := B.returns
  have hts := atoms_spec (ws := wsX5_within) B.pre
  have hown : s.vm.findClass RX5 = some m.cls := findClass_of_methodNamed B.named
  have hlocks := B.notSynchronized
  subst hsz
  have hD := hD0.self (sz := s.heap.size)
  generalize hAe : va_A [] s.heap.size = A at hD ⊢
  have hA : ∀ q : Nat, s.heap.size ≤ q → A q := fun q h => by rw [← hAe]; exact Or.inr h
  have hS : va_S A s.heap s.heap [] := va_S.rf
  have hP : va_P (dC, dI) vwCl [] s.heap := hP
  have hl := lv_entry ([.int p0, .int p1, .int p2]) (n := 3) (Nat.le_of_ble_eq_true rfl)
  rw [lg_entry_eq]
  generalize (lg_sl ([.int p0, .int p1, .int p2]) ++ List.replicate (3 - (lg_sl ([.int p0, .int p1, .int p2])).length) Slot.unset).toArray = ls at hl ⊢
  have hl : lv_has ls 3 [(0, .int p0), (1, .int p1), (2, .int p2)] := hl
  refine lv_iload_n hx hb dX5_within_0 rfl (lv_at hl 0 rfl) ?_
  refine lv_iload_n hx hb dX5_within_1 rfl (lv_at hl 1 rfl) ?_
  refine lv_icmp_lt (tgt := 14) hx hb dX5_within_2 (by decide) (fun c1 => ?_) (fun c1 => ?_)
  · refine lv_iconst (v := 0) hx hb dX5_within_14 (by decide) ?_
    have hP9 := hP.sub (ws' := []) [] rfl
    have hD9 := hD.sub (ws' := []) [] (by decide) rfl
    have hK9 := hK.sub (tys' := []) [] rfl
    exact W.zret (v := (0 : Int32)) hx hb hr (by first | rfl | decide | sorry) (fun t ht hW => ⟨⟨(0 : Int32), (), rfl, ⟨fun _ => rfl, fun hh => absurd c1 hh⟩, (by rw [ht]; exact hP9), va_K.moved hW.alike hK9, hD9⟩, hS.F ht⟩) hS.2.2 dX5_within_15
  · refine lv_iload_n hx hb dX5_within_5 rfl (lv_at hl 0 rfl) ?_
    refine lv_iload_n hx hb dX5_within_6 rfl (lv_at hl 2 rfl) ?_
    refine lv_icmp_gt (tgt := 14) hx hb dX5_within_7 (by decide) (fun c2 => ?_) (fun c2 => ?_)
    · refine lv_iconst (v := 0) hx hb dX5_within_14 (by decide) ?_
      have hP9 := hP.sub (ws' := []) [] rfl
      have hD9 := hD.sub (ws' := []) [] (by decide) rfl
      have hK9 := hK.sub (tys' := []) [] rfl
      exact W.zret (v := (0 : Int32)) hx hb hr (by first | rfl | decide | sorry) (fun t ht hW => ⟨⟨(0 : Int32), (), rfl, ⟨fun hh => absurd hh c1, fun _ => ⟨fun _ => rfl, fun hh => absurd c2 hh⟩⟩, (by rw [ht]; exact hP9), va_K.moved hW.alike hK9, hD9⟩, hS.F ht⟩) hS.2.2 dX5_within_15
    · refine lv_iconst (v := 1) hx hb dX5_within_10 (by decide) ?_
      refine lv_goto (tgt := 15) hx hb dX5_within_11 (by decide) ?_
      have hP9 := hP.sub (ws' := []) [] rfl
      have hD9 := hD.sub (ws' := []) [] (by decide) rfl
      have hK9 := hK.sub (tys' := []) [] rfl
      exact W.zret (v := (1 : Int32)) hx hb hr (by first | rfl | decide | sorry) (fun t ht hW => ⟨⟨(1 : Int32), (), rfl, ⟨fun hh => absurd hh c1, fun _ => ⟨fun hh => absurd hh c2, fun _ => rfl⟩⟩, (by rw [ht]; exact hP9), va_K.moved hW.alike hK9, hD9⟩, hS.F ht⟩) hS.2.2 dX5_within_15
