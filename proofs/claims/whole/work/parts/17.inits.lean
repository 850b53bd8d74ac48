def R_X2_init  : Prop := True
set_option maxHeartbeats 4000000 in
set_option maxRecDepth 100000 in
theorem c_X2_init (l : Launch) (dC : Nat → ClassId) (dI : Nat → Nat → Nat) (h0 : Nat) (sz : Nat)  : Met l yX2_init wsX2_init ({ frames := 1, cells := 0, slots := 0, locals := 12 }) (va_Pc [.ref h0] (mw_pre (dC, dI) vwCl [(h0, .inr (1, [.long (0 : Int64), .long (0 : Int64), .long (0 : Int64)]))] [] sz)) (va_Qv (fun (u : Unit) => R_X2_init ) (fun u t => mw_at (dC, dI) vwCl [(h0, .inr (1, [.long (200 : Int64), .long (20 : Int64), .long (0 : Int64)]))] [] (va_A [(h0, .inr (1, [.long (0 : Int64), .long (0 : Int64), .long (0 : Int64)]))] sz) t) (va_A [(h0, .inr (1, [.long (0 : Int64), .long (0 : Int64), .long (0 : Int64)]))] sz)) 0 0 (va_A [(h0, .inr (1, [.long (0 : Int64), .long (0 : Int64), .long (0 : Int64)]))] sz) := by
  refine Met.ofW (cc := cX2_init) (maxL := 1) (ret := none) (by decide) rfl ?_
  intro p e s m args below meth c s₁ B hml hv
  obtain ⟨rfl, hsz, hP, hK, hD0, hN⟩ := hv
  have hx := B.exec
  have hb := B.bytes
  have hr := B.returns
  have hts := atoms_spec (ws := wsX2_init) B.pre
  have hown : s.vm.findClass RX2 = some m.cls := findClass_of_methodNamed B.named
  have hlocks := B.notSynchronized
  have hin0 : meth.name = "<init>" := (name_of_methodNamed B.named B.method).1
  subst hsz
  have hD := hD0.self (sz := s.heap.size)
  generalize hAe : va_A [(h0, .inr (1, [.long (0 : Int64), .long (0 : Int64), .long (0 : Int64)]))] s.heap.size = A at hD ⊢
  have hA : ∀ q : Nat, s.heap.size ≤ q → A q := fun q h => by rw [← hAe]; exact Or.inr h
  have hS : va_S A s.heap s.heap [] := va_S.rf
  have hP : va_P (dC, dI) vwCl [(h0, .inr (1, [.long (0 : Int64), .long (0 : Int64), .long (0 : Int64)]))] s.heap := hP
  have hl := lv_entry ([.ref h0]) (n := 1) (Nat.le_of_ble_eq_true rfl)
  rw [lg_entry_eq]
  generalize (lg_sl ([.ref h0]) ++ List.replicate (1 - (lg_sl ([.ref h0])).length) Slot.unset).toArray = ls at hl ⊢
  have hl : lv_has ls 1 [(0, .ref h0)] := hl
  have hw0 := hts (.methodLink RX2 1 objectInit) (by decide +kernel)
  have hw1 := hts (.instanceMethod objectInit) (by decide +kernel)
  have hw2 := hts (.code objectInit ⟨#[0xb1]⟩ 1 none) (by decide +kernel)
  have hw3 := hts (.constantLong RX2 7 (200)) (by decide +kernel)
  have hw4 := hts (.fieldLink RX2 9 "TurnedFields$Loop" "kp" "J") (by decide +kernel)
  have hw5 := hts (.constantLong RX2 15 (20)) (by decide +kernel)
  have hw6 := hts (.fieldLink RX2 17 "TurnedFields$Loop" "ki" "J") (by decide +kernel)
  have hw7 := hts (.fieldLink RX2 20 "TurnedFields$Loop" "sum" "J") (by decide +kernel)
  have hinX2 : ∀ w ∈ wsX20, w ∈ wsX2_init := by decide +kernel
  refine lv_aload_n hx hb dX2_init_0 rfl (lv_at hl 0 rfl) ?_
  refine W.objInit hx hb hown hw0 hw1 hw2 rfl (by rw [hml]; exact hl.1) rfl dX2_init_1 (Nat.le_of_ble_eq_true rfl) (Nat.le_of_ble_eq_true rfl) ?_
  refine W.eq (g2 := F0 m 4 ls []) rfl ?_
  refine lv_aload_n hx hb dX2_init_4 rfl (lv_at hl 0 rfl) ?_
  refine lv_ldc2 hx hb hown hw3 dX2_init_5 ?_
  refine va_put (D := (dC, dI)) (ci := 1) (v := .long (200 : Int64)) (ty := .long) (C := RX2) (T := TX2) (N := 3) hx hb hts hinX2 tyX2 tyX2_ok nmX2 hown hK hP hD hS 0 rfl rfl 0 (by decide) hw4 (fun _ h9 => h9) rfl (by decide +kernel) rfl rfl (Nat.le_of_ble_eq_true rfl) dX2_init_8 (fun H locs hP hD hS => ?_)
  have hP : va_P (dC, dI) vwCl [(h0, .inr (1, [.long (200 : Int64), .long (0 : Int64), .long (0 : Int64)]))] H := hP
  have hD : va_D A [(h0, .inr (1, [.long (200 : Int64), .long (0 : Int64), .long (0 : Int64)]))] := hD
  refine lv_aload_n hx hb dX2_init_11 rfl (lv_at hl 0 rfl) ?_
  refine lv_ldc2 hx hb hown hw5 dX2_init_12 ?_
  refine va_put (D := (dC, dI)) (ci := 1) (v := .long (20 : Int64)) (ty := .long) (C := RX2) (T := TX2) (N := 3) hx hb hts hinX2 tyX2 tyX2_ok nmX2 hown hK hP hD hS 0 rfl rfl 1 (by decide) hw6 (fun _ h9 => h9) rfl (by decide +kernel) rfl rfl (Nat.le_of_ble_eq_true rfl) dX2_init_15 (fun H locs hP hD hS => ?_)
  have hP : va_P (dC, dI) vwCl [(h0, .inr (1, [.long (200 : Int64), .long (20 : Int64), .long (0 : Int64)]))] H := hP
  have hD : va_D A [(h0, .inr (1, [.long (200 : Int64), .long (20 : Int64), .long (0 : Int64)]))] := hD
  refine lv_aload_n hx hb dX2_init_18 rfl (lv_at hl 0 rfl) ?_
  refine lv_lconst (v := 0) hx hb dX2_init_19 (by decide) ?_
  refine va_put (D := (dC, dI)) (ci := 1) (v := .long (0 : Int64)) (ty := .long) (C := RX2) (T := TX2) (N := 3) hx hb hts hinX2 tyX2 tyX2_ok nmX2 hown hK hP hD hS 0 rfl rfl 2 (by decide) hw7 (fun _ h9 => h9) rfl (by decide +kernel) rfl rfl (Nat.le_of_ble_eq_true rfl) dX2_init_20 (fun H locs hP hD hS => ?_)
  have hP : va_P (dC, dI) vwCl [(h0, .inr (1, [.long (200 : Int64), .long (20 : Int64), .long (0 : Int64)]))] H := hP
  have hD : va_D A [(h0, .inr (1, [.long (200 : Int64), .long (20 : Int64), .long (0 : Int64)]))] := hD
  have hP9 := hP.sub (ws' := [(h0, .inr (1, [.long (200 : Int64), .long (20 : Int64), .long (0 : Int64)]))]) [0] rfl
  have hD9 := hD.sub (ws' := [(h0, .inr (1, [.long (200 : Int64), .long (20 : Int64), .long (0 : Int64)]))]) [0] (by decide) rfl
  have hK9 := hK.sub (tys' := []) [] rfl
  exact W.vret hx hb hr (fun t ht hW => ⟨⟨(), rfl, trivial, (by rw [ht]; exact hP9), va_K.moved hW.alike hK9, hD9⟩, hS.F ht⟩) hS.2.2 dX2_init_23
def R_X3_init  : Prop := True
set_option maxHeartbeats 4000000 in
set_option maxRecDepth 100000 in
theorem c_X3_init (l : Launch) (dC : Nat → ClassId) (dI : Nat → Nat → Nat) (h0 : Nat) (sz : Nat)  : Met l yX3_init wsX3_init ({ frames := 1, cells := 0, slots := 0, locals := 12 }) (va_Pc [.ref h0] (mw_pre (dC, dI) vwCl [(h0, .inr (2, [.long (0 : Int64), .long (0 : Int64), .long (0 : Int64), .long (0 : Int64)]))] [] sz)) (va_Qv (fun (u : Unit) => R_X3_init ) (fun u t => mw_at (dC, dI) vwCl [(h0, .inr (2, [.long (0 : Int64), .long (0 : Int64), .long (0 : Int64), .long (0 : Int64)]))] [] (va_A [(h0, .inr (2, [.long (0 : Int64), .long (0 : Int64), .long (0 : Int64), .long (0 : Int64)]))] sz) t) (va_A [(h0, .inr (2, [.long (0 : Int64), .long (0 : Int64), .long (0 : Int64), .long (0 : Int64)]))] sz)) 0 0 (va_A [(h0, .inr (2, [.long (0 : Int64), .long (0 : Int64), .long (0 : Int64), .long (0 : Int64)]))] sz) := by
  refine Met.ofW (cc := cX3_init) (maxL := 1) (ret := none) (by decide) rfl ?_
  intro p e s m args below meth c s₁ B hml hv
  obtain ⟨rfl, hsz, hP, hK, hD0, hN⟩ := hv
  have hx := B.exec
  have hb := B.bytes
  have hr := B.returns
  have hts := atoms_spec (ws := wsX3_init) B.pre
  have hown : s.vm.findClass RX3 = some m.cls := findClass_of_methodNamed B.named
  have hlocks := B.notSynchronized
  have hin0 : meth.name = "<init>" := (name_of_methodNamed B.named B.method).1
  subst hsz
  have hD := hD0.self (sz := s.heap.size)
  generalize hAe : va_A [(h0, .inr (2, [.long (0 : Int64), .long (0 : Int64), .long (0 : Int64), .long (0 : Int64)]))] s.heap.size = A at hD ⊢
  have hA : ∀ q : Nat, s.heap.size ≤ q → A q := fun q h => by rw [← hAe]; exact Or.inr h
  have hS : va_S A s.heap s.heap [] := va_S.rf
  have hP : va_P (dC, dI) vwCl [(h0, .inr (2, [.long (0 : Int64), .long (0 : Int64), .long (0 : Int64), .long (0 : Int64)]))] s.heap := hP
  have hl := lv_entry ([.ref h0]) (n := 1) (Nat.le_of_ble_eq_true rfl)
  rw [lg_entry_eq]
  generalize (lg_sl ([.ref h0]) ++ List.replicate (1 - (lg_sl ([.ref h0])).length) Slot.unset).toArray = ls at hl ⊢
  have hl : lv_has ls 1 [(0, .ref h0)] := hl
  have hw0 := hts (.methodLink RX3 3 objectInit) (by decide +kernel)
  have hw1 := hts (.instanceMethod objectInit) (by decide +kernel)
  have hw2 := hts (.code objectInit ⟨#[0xb1]⟩ 1 none) (by decide +kernel)
  have hw3 := hts (.fieldLink RX3 9 "TurnedFields$Motor" "d" "J") (by decide +kernel)
  have hw4 := hts (.fieldLink RX3 15 "TurnedFields$Motor" "q" "J") (by decide +kernel)
  have hw5 := hts (.fieldLink RX3 18 "TurnedFields$Motor" "pace" "J") (by decide +kernel)
  have hw6 := hts (.fieldLink RX3 21 "TurnedFields$Motor" "angle" "J") (by decide +kernel)
  have hinX3 : ∀ w ∈ wsX30, w ∈ wsX3_init := by decide +kernel
  refine lv_aload_n hx hb dX3_init_0 rfl (lv_at hl 0 rfl) ?_
  refine W.objInit hx hb hown hw0 hw1 hw2 rfl (by rw [hml]; exact hl.1) rfl dX3_init_1 (Nat.le_of_ble_eq_true rfl) (Nat.le_of_ble_eq_true rfl) ?_
  refine W.eq (g2 := F0 m 4 ls []) rfl ?_
  refine lv_aload_n hx hb dX3_init_4 rfl (lv_at hl 0 rfl) ?_
  refine lv_lconst (v := 0) hx hb dX3_init_5 (by decide) ?_
  refine va_put (D := (dC, dI)) (ci := 2) (v := .long (0 : Int64)) (ty := .long) (C := RX3) (T := TX3) (N := 4) hx hb hts hinX3 tyX3 tyX3_ok nmX3 hown hK hP hD hS 0 rfl rfl 0 (by decide) hw3 (fun _ h9 => h9) rfl (by decide +kernel) rfl rfl (Nat.le_of_ble_eq_true rfl) dX3_init_6 (fun H locs hP hD hS => ?_)
  have hP : va_P (dC, dI) vwCl [(h0, .inr (2, [.long (0 : Int64), .long (0 : Int64), .long (0 : Int64), .long (0 : Int64)]))] H := hP
  have hD : va_D A [(h0, .inr (2, [.long (0 : Int64), .long (0 : Int64), .long (0 : Int64), .long (0 : Int64)]))] := hD
  refine lv_aload_n hx hb dX3_init_9 rfl (lv_at hl 0 rfl) ?_
  refine lv_lconst (v := 0) hx hb dX3_init_10 (by decide) ?_
  refine va_put (D := (dC, dI)) (ci := 2) (v := .long (0 : Int64)) (ty := .long) (C := RX3) (T := TX3) (N := 4) hx hb hts hinX3 tyX3 tyX3_ok nmX3 hown hK hP hD hS 0 rfl rfl 1 (by decide) hw4 (fun _ h9 => h9) rfl (by decide +kernel) rfl rfl (Nat.le_of_ble_eq_true rfl) dX3_init_11 (fun H locs hP hD hS => ?_)
  have hP : va_P (dC, dI) vwCl [(h0, .inr (2, [.long (0 : Int64), .long (0 : Int64), .long (0 : Int64), .long (0 : Int64)]))] H := hP
  have hD : va_D A [(h0, .inr (2, [.long (0 : Int64), .long (0 : Int64), .long (0 : Int64), .long (0 : Int64)]))] := hD
  refine lv_aload_n hx hb dX3_init_14 rfl (lv_at hl 0 rfl) ?_
  refine lv_lconst (v := 0) hx hb dX3_init_15 (by decide) ?_
  refine va_put (D := (dC, dI)) (ci := 2) (v := .long (0 : Int64)) (ty := .long) (C := RX3) (T := TX3) (N := 4) hx hb hts hinX3 tyX3 tyX3_ok nmX3 hown hK hP hD hS 0 rfl rfl 2 (by decide) hw5 (fun _ h9 => h9) rfl (by decide +kernel) rfl rfl (Nat.le_of_ble_eq_true rfl) dX3_init_16 (fun H locs hP hD hS => ?_)
  have hP : va_P (dC, dI) vwCl [(h0, .inr (2, [.long (0 : Int64), .long (0 : Int64), .long (0 : Int64), .long (0 : Int64)]))] H := hP
  have hD : va_D A [(h0, .inr (2, [.long (0 : Int64), .long (0 : Int64), .long (0 : Int64), .long (0 : Int64)]))] := hD
  refine lv_aload_n hx hb dX3_init_19 rfl (lv_at hl 0 rfl) ?_
  refine lv_lconst (v := 0) hx hb dX3_init_20 (by decide) ?_
  refine va_put (D := (dC, dI)) (ci := 2) (v := .long (0 : Int64)) (ty := .long) (C := RX3) (T := TX3) (N := 4) hx hb hts hinX3 tyX3 tyX3_ok nmX3 hown hK hP hD hS 0 rfl rfl 3 (by decide) hw6 (fun _ h9 => h9) rfl (by decide +kernel) rfl rfl (Nat.le_of_ble_eq_true rfl) dX3_init_21 (fun H locs hP hD hS => ?_)
  have hP : va_P (dC, dI) vwCl [(h0, .inr (2, [.long (0 : Int64), .long (0 : Int64), .long (0 : Int64), .long (0 : Int64)]))] H := hP
  have hD : va_D A [(h0, .inr (2, [.long (0 : Int64), .long (0 : Int64), .long (0 : Int64), .long (0 : Int64)]))] := hD
  have hP9 := hP.sub (ws' := [(h0, .inr (2, [.long (0 : Int64), .long (0 : Int64), .long (0 : Int64), .long (0 : Int64)]))]) [0] rfl
  have hD9 := hD.sub (ws' := [(h0, .inr (2, [.long (0 : Int64), .long (0 : Int64), .long (0 : Int64), .long (0 : Int64)]))]) [0] (by decide) rfl
  have hK9 := hK.sub (tys' := []) [] rfl
  exact W.vret hx hb hr (fun t ht hW => ⟨⟨(), rfl, trivial, (by rw [ht]; exact hP9), va_K.moved hW.alike hK9, hD9⟩, hS.F ht⟩) hS.2.2 dX3_init_24
def R_X4_init  : Prop := True
set_option maxHeartbeats 4000000 in
set_option maxRecDepth 100000 in
theorem c_X4_init (l : Launch) (dC : Nat → ClassId) (dI : Nat → Nat → Nat) (h0 : Nat) (sz : Nat)  : Met l yX4_init wsX4_init ({ frames := 1, cells := 0, slots := 0, locals := 12 }) (va_Pc [.ref h0] (mw_pre (dC, dI) vwCl [(h0, .inr (3, [.long (0 : Int64), .long (0 : Int64), .long (0 : Int64), .int (0 : Int32)]))] [] sz)) (va_Qv (fun (u : Unit) => R_X4_init ) (fun u t => mw_at (dC, dI) vwCl [(h0, .inr (3, [.long (0 : Int64), .long (0 : Int64), .long (0 : Int64), .int (0 : Int32)]))] [] (va_A [(h0, .inr (3, [.long (0 : Int64), .long (0 : Int64), .long (0 : Int64), .int (0 : Int32)]))] sz) t) (va_A [(h0, .inr (3, [.long (0 : Int64), .long (0 : Int64), .long (0 : Int64), .int (0 : Int32)]))] sz)) 0 0 (va_A [(h0, .inr (3, [.long (0 : Int64), .long (0 : Int64), .long (0 : Int64), .int (0 : Int32)]))] sz) := by
  refine Met.ofW (cc := cX4_init) (maxL := 1) (ret := none) (by decide) rfl ?_
  intro p e s m args below meth c s₁ B hml hv
  obtain ⟨rfl, hsz, hP, hK, hD0, hN⟩ := hv
  have hx := B.exec
  have hb := B.bytes
  have hr := B.returns
  have hts := atoms_spec (ws := wsX4_init) B.pre
  have hown : s.vm.findClass RX4 = some m.cls := findClass_of_methodNamed B.named
  have hlocks := B.notSynchronized
  have hin0 : meth.name = "<init>" := (name_of_methodNamed B.named B.method).1
  subst hsz
  have hD := hD0.self (sz := s.heap.size)
  generalize hAe : va_A [(h0, .inr (3, [.long (0 : Int64), .long (0 : Int64), .long (0 : Int64), .int (0 : Int32)]))] s.heap.size = A at hD ⊢
  have hA : ∀ q : Nat, s.heap.size ≤ q → A q := fun q h => by rw [← hAe]; exact Or.inr h
  have hS : va_S A s.heap s.heap [] := va_S.rf
  have hP : va_P (dC, dI) vwCl [(h0, .inr (3, [.long (0 : Int64), .long (0 : Int64), .long (0 : Int64), .int (0 : Int32)]))] s.heap := hP
  have hl := lv_entry ([.ref h0]) (n := 1) (Nat.le_of_ble_eq_true rfl)
  rw [lg_entry_eq]
  generalize (lg_sl ([.ref h0]) ++ List.replicate (1 - (lg_sl ([.ref h0])).length) Slot.unset).toArray = ls at hl ⊢
  have hl : lv_has ls 1 [(0, .ref h0)] := hl
  have hw0 := hts (.methodLink RX4 1 objectInit) (by decide +kernel)
  have hw1 := hts (.instanceMethod objectInit) (by decide +kernel)
  have hw2 := hts (.code objectInit ⟨#[0xb1]⟩ 1 none) (by decide +kernel)
  have hw3 := hts (.fieldLink RX4 7 "TurnedFields$OnTimes" "u" "J") (by decide +kernel)
  have hw4 := hts (.fieldLink RX4 13 "TurnedFields$OnTimes" "v" "J") (by decide +kernel)
  have hw5 := hts (.fieldLink RX4 16 "TurnedFields$OnTimes" "w" "J") (by decide +kernel)
  have hw6 := hts (.fieldLink RX4 19 "TurnedFields$OnTimes" "over" "Z") (by decide +kernel)
  have hinX4 : ∀ w ∈ wsX40, w ∈ wsX4_init := by decide +kernel
  refine lv_aload_n hx hb dX4_init_0 rfl (lv_at hl 0 rfl) ?_
  refine W.objInit hx hb hown hw0 hw1 hw2 rfl (by rw [hml]; exact hl.1) rfl dX4_init_1 (Nat.le_of_ble_eq_true rfl) (Nat.le_of_ble_eq_true rfl) ?_
  refine W.eq (g2 := F0 m 4 ls []) rfl ?_
  refine lv_aload_n hx hb dX4_init_4 rfl (lv_at hl 0 rfl) ?_
  refine lv_lconst (v := 0) hx hb dX4_init_5 (by decide) ?_
  refine va_put (D := (dC, dI)) (ci := 3) (v := .long (0 : Int64)) (ty := .long) (C := RX4) (T := TX4) (N := 4) hx hb hts hinX4 tyX4 tyX4_ok nmX4 hown hK hP hD hS 0 rfl rfl 0 (by decide) hw3 (fun _ h9 => h9) rfl (by decide +kernel) rfl rfl (Nat.le_of_ble_eq_true rfl) dX4_init_6 (fun H locs hP hD hS => ?_)
  have hP : va_P (dC, dI) vwCl [(h0, .inr (3, [.long (0 : Int64), .long (0 : Int64), .long (0 : Int64), .int (0 : Int32)]))] H := hP
  have hD : va_D A [(h0, .inr (3, [.long (0 : Int64), .long (0 : Int64), .long (0 : Int64), .int (0 : Int32)]))] := hD
  refine lv_aload_n hx hb dX4_init_9 rfl (lv_at hl 0 rfl) ?_
  refine lv_lconst (v := 0) hx hb dX4_init_10 (by decide) ?_
  refine va_put (D := (dC, dI)) (ci := 3) (v := .long (0 : Int64)) (ty := .long) (C := RX4) (T := TX4) (N := 4) hx hb hts hinX4 tyX4 tyX4_ok nmX4 hown hK hP hD hS 0 rfl rfl 1 (by decide) hw4 (fun _ h9 => h9) rfl (by decide +kernel) rfl rfl (Nat.le_of_ble_eq_true rfl) dX4_init_11 (fun H locs hP hD hS => ?_)
  have hP : va_P (dC, dI) vwCl [(h0, .inr (3, [.long (0 : Int64), .long (0 : Int64), .long (0 : Int64), .int (0 : Int32)]))] H := hP
  have hD : va_D A [(h0, .inr (3, [.long (0 : Int64), .long (0 : Int64), .long (0 : Int64), .int (0 : Int32)]))] := hD
  refine lv_aload_n hx hb dX4_init_14 rfl (lv_at hl 0 rfl) ?_
  refine lv_lconst (v := 0) hx hb dX4_init_15 (by decide) ?_
  refine va_put (D := (dC, dI)) (ci := 3) (v := .long (0 : Int64)) (ty := .long) (C := RX4) (T := TX4) (N := 4) hx hb hts hinX4 tyX4 tyX4_ok nmX4 hown hK hP hD hS 0 rfl rfl 2 (by decide) hw5 (fun _ h9 => h9) rfl (by decide +kernel) rfl rfl (Nat.le_of_ble_eq_true rfl) dX4_init_16 (fun H locs hP hD hS => ?_)
  have hP : va_P (dC, dI) vwCl [(h0, .inr (3, [.long (0 : Int64), .long (0 : Int64), .long (0 : Int64), .int (0 : Int32)]))] H := hP
  have hD : va_D A [(h0, .inr (3, [.long (0 : Int64), .long (0 : Int64), .long (0 : Int64), .int (0 : Int32)]))] := hD
  refine lv_aload_n hx hb dX4_init_19 rfl (lv_at hl 0 rfl) ?_
  refine lv_iconst (v := 0) hx hb dX4_init_20 (by decide) ?_
  refine va_put (D := (dC, dI)) (ci := 3) (v := .int (0 : Int32)) (ty := .boolean) (C := RX4) (T := TX4) (N := 4) hx hb hts hinX4 tyX4 tyX4_ok nmX4 hown hK hP hD hS 0 rfl rfl 3 (by decide) hw6 (fun _ h9 => h9) rfl (by decide +kernel) rfl rfl (Nat.le_of_ble_eq_true rfl) dX4_init_21 (fun H locs hP hD hS => ?_)
  have hP : va_P (dC, dI) vwCl [(h0, .inr (3, [.long (0 : Int64), .long (0 : Int64), .long (0 : Int64), .int (0 : Int32)]))] H := hP
  have hD : va_D A [(h0, .inr (3, [.long (0 : Int64), .long (0 : Int64), .long (0 : Int64), .int (0 : Int32)]))] := hD
  have hP9 := hP.sub (ws' := [(h0, .inr (3, [.long (0 : Int64), .long (0 : Int64), .long (0 : Int64), .int (0 : Int32)]))]) [0] rfl
  have hD9 := hD.sub (ws' := [(h0, .inr (3, [.long (0 : Int64), .long (0 : Int64), .long (0 : Int64), .int (0 : Int32)]))]) [0] (by decide) rfl
  have hK9 := hK.sub (tys' := []) [] rfl
  exact W.vret hx hb hr (fun t ht hW => ⟨⟨(), rfl, trivial, (by rw [ht]; exact hP9), va_K.moved hW.alike hK9, hD9⟩, hS.F ht⟩) hS.2.2 dX4_init_24
def R_X0_init  (u_1_fn : Nat → Int32) : Prop := ∃ g3 : Nat → Int32, g3 = (fun _ => 0) ∧ (u_1_fn = g3)
set_option maxHeartbeats 4000000 in
set_option maxRecDepth 100000 in
theorem c_X0_init (l : Launch) (dC : Nat → ClassId) (dI : Nat → Nat → Nat) (h0 : Nat) (sz : Nat)  : Met l yX0_init wsX0_init ({ frames := 1, cells := 1, slots := 60, locals := 12 }) (va_Pc [.ref h0] (mw_pre (dC, dI) vwCl [(h0, .inr (0, [.null, .int (0 : Int32), .int (0 : Int32)]))] [] sz)) (va_Qv (fun (u : Nat × ClassId × (Nat → Int32)) => R_X0_init  u.2.2) (fun u t => mw_at (dC, dI) vwCl [(h0, .inr (0, [.ref u.1, .int (0 : Int32), .int (0 : Int32)])), (u.1, .inl (u.2.1, 60, .inl u.2.2))] [(u.2.1, .int)] (va_A [(h0, .inr (0, [.null, .int (0 : Int32), .int (0 : Int32)]))] sz) t) (va_A [(h0, .inr (0, [.null, .int (0 : Int32), .int (0 : Int32)]))] sz)) 1 60 (va_A [(h0, .inr (0, [.null, .int (0 : Int32), .int (0 : Int32)]))] sz) := by
  refine Met.ofW (cc := cX0_init) (maxL := 1) (ret := none) (by decide) rfl ?_
  intro p e s m args below meth c s₁ B hml hv
  obtain ⟨rfl, hsz, hP, hK, hD0, hN⟩ := hv
  have hx := B.exec
  have hb := B.bytes
  have hr := B.returns
  have hts := atoms_spec (ws := wsX0_init) B.pre
  have hown : s.vm.findClass RX0 = some m.cls := findClass_of_methodNamed B.named
  have hlocks := B.notSynchronized
  have hin0 : meth.name = "<init>" := (name_of_methodNamed B.named B.method).1
  subst hsz
  have hD := hD0.self (sz := s.heap.size)
  generalize hAe : va_A [(h0, .inr (0, [.null, .int (0 : Int32), .int (0 : Int32)]))] s.heap.size = A at hD ⊢
  have hA : ∀ q : Nat, s.heap.size ≤ q → A q := fun q h => by rw [← hAe]; exact Or.inr h
  have hS : va_S A s.heap s.heap [] := va_S.rf
  have hP : va_P (dC, dI) vwCl [(h0, .inr (0, [.null, .int (0 : Int32), .int (0 : Int32)]))] s.heap := hP
  have hl := lv_entry ([.ref h0]) (n := 1) (Nat.le_of_ble_eq_true rfl)
  rw [lg_entry_eq]
  generalize (lg_sl ([.ref h0]) ++ List.replicate (1 - (lg_sl ([.ref h0])).length) Slot.unset).toArray = ls at hl ⊢
  have hl : lv_has ls 1 [(0, .ref h0)] := hl
  have hw0 := hts (.methodLink RX0 3 objectInit) (by decide +kernel)
  have hw1 := hts (.instanceMethod objectInit) (by decide +kernel)
  have hw2 := hts (.code objectInit ⟨#[0xb1]⟩ 1 none) (by decide +kernel)
  have hw3 := hts (.arrayClass .int) (by decide +kernel)
  have hw4 := hts (.fieldLink RX0 11 "TurnedFields$Changes" "rows" "[I") (by decide +kernel)
  have hw5 := hts (.fieldLink RX0 15 "TurnedFields$Changes" "next" "I") (by decide +kernel)
  have hw6 := hts (.fieldLink RX0 19 "TurnedFields$Changes" "held" "I") (by decide +kernel)
  have hinX0 : ∀ w ∈ wsX00, w ∈ wsX0_init := by decide +kernel
  refine lv_aload_n hx hb dX0_init_0 rfl (lv_at hl 0 rfl) ?_
  refine W.objInit hx hb hown hw0 hw1 hw2 rfl (by rw [hml]; exact hl.1) rfl dX0_init_1 (Nat.le_of_ble_eq_true rfl) (Nat.le_of_ble_eq_true rfl) ?_
  refine W.eq (g2 := F0 m 4 ls []) rfl ?_
  refine lv_aload_n hx hb dX0_init_4 rfl (lv_at hl 0 rfl) ?_
  refine lv_bipush (v := 60) hx hb dX0_init_5 (by decide) ?_
  refine va_newa (atype := .int) (a0 := (60, .inl (fun _ => 0))) (N' := 60) (ty := .int) hx hb hw3 rfl hK hP hD hS hA (mw_a0i 60) (by decide) (by decide) (Nat.le_of_ble_eq_true rfl) (Nat.le_of_ble_eq_true rfl) (Nat.le_of_ble_eq_true rfl) dX0_init_7 (fun q1 ca2 H hK hP hD hS => ?_)
  obtain ⟨g3, eg3⟩ : ∃ g : Nat → Int32, g = (fun _ => 0) := ⟨_, rfl⟩
  have hP : va_P (dC, dI) vwCl [(h0, .inr (0, [.null, .int (0 : Int32), .int (0 : Int32)])), (q1, .inl (ca2, 60, .inl g3))] H := by rw [eg3]; exact hP
  have hD : va_D A [(h0, .inr (0, [.null, .int (0 : Int32), .int (0 : Int32)])), (q1, .inl (ca2, 60, .inl g3))] := by rw [eg3]; exact hD
  have hK : va_K (dC, dI) vwCl [(ca2, .int)] s := hK
  refine W.widen (k := 1) (n := 60) (Nat.le_of_ble_eq_true rfl) (Nat.le_of_ble_eq_true rfl) ?_
  refine va_putF (D := (dC, dI)) (ci := 0) (v := .ref q1) (ty := .array .int) (C := RX0) (T := TX0) (N := 3) hx hb hts hinX0 tyX0 tyX0_ok nmX0 hown hK hP hD hS 0 rfl rfl 0 (by decide) hw4 (fun _ h9 => h9) rfl hin0 rfl (by decide +kernel) rfl rfl (Nat.le_of_ble_eq_true rfl) dX0_init_9 (fun H locs hP hD hS => ?_)
  have hP : va_P (dC, dI) vwCl [(h0, .inr (0, [.ref q1, .int (0 : Int32), .int (0 : Int32)])), (q1, .inl (ca2, 60, .inl g3))] H := hP
  have hD : va_D A [(h0, .inr (0, [.ref q1, .int (0 : Int32), .int (0 : Int32)])), (q1, .inl (ca2, 60, .inl g3))] := hD
  refine lv_aload_n hx hb dX0_init_12 rfl (lv_at hl 0 rfl) ?_
  refine lv_iconst (v := 0) hx hb dX0_init_13 (by decide) ?_
  refine va_put (D := (dC, dI)) (ci := 0) (v := .int (0 : Int32)) (ty := .int) (C := RX0) (T := TX0) (N := 3) hx hb hts hinX0 tyX0 tyX0_ok nmX0 hown hK hP hD hS 0 rfl rfl 1 (by decide) hw5 (fun _ h9 => h9) rfl (by decide +kernel) rfl rfl (Nat.le_of_ble_eq_true rfl) dX0_init_14 (fun H locs hP hD hS => ?_)
  have hP : va_P (dC, dI) vwCl [(h0, .inr (0, [.ref q1, .int (0 : Int32), .int (0 : Int32)])), (q1, .inl (ca2, 60, .inl g3))] H := hP
  have hD : va_D A [(h0, .inr (0, [.ref q1, .int (0 : Int32), .int (0 : Int32)])), (q1, .inl (ca2, 60, .inl g3))] := hD
  refine lv_aload_n hx hb dX0_init_17 rfl (lv_at hl 0 rfl) ?_
  refine lv_iconst (v := 0) hx hb dX0_init_18 (by decide) ?_
  refine va_put (D := (dC, dI)) (ci := 0) (v := .int (0 : Int32)) (ty := .int) (C := RX0) (T := TX0) (N := 3) hx hb hts hinX0 tyX0 tyX0_ok nmX0 hown hK hP hD hS 0 rfl rfl 2 (by decide) hw6 (fun _ h9 => h9) rfl (by decide +kernel) rfl rfl (Nat.le_of_ble_eq_true rfl) dX0_init_19 (fun H locs hP hD hS => ?_)
  have hP : va_P (dC, dI) vwCl [(h0, .inr (0, [.ref q1, .int (0 : Int32), .int (0 : Int32)])), (q1, .inl (ca2, 60, .inl g3))] H := hP
  have hD : va_D A [(h0, .inr (0, [.ref q1, .int (0 : Int32), .int (0 : Int32)])), (q1, .inl (ca2, 60, .inl g3))] := hD
  have hP9 := hP.sub (ws' := [(h0, .inr (0, [.ref q1, .int (0 : Int32), .int (0 : Int32)])), (q1, .inl (ca2, 60, .inl g3))]) [0, 1] rfl
  have hD9 := hD.sub (ws' := [(h0, .inr (0, [.ref q1, .int (0 : Int32), .int (0 : Int32)])), (q1, .inl (ca2, 60, .inl g3))]) [0, 1] (by decide) rfl
  have hK9 := hK.sub (tys' := [(ca2, .int)]) [0] rfl
  refine W.widen (k := 1) (n := 60) (Nat.le_of_ble_eq_true rfl) (Nat.le_of_ble_eq_true rfl) ?_
  exact W.vret hx hb hr (fun t ht hW => ⟨⟨(q1, ca2, g3), rfl, ⟨g3, eg3, rfl⟩, (by rw [ht]; exact hP9), va_K.moved hW.alike hK9, hD9⟩, hS.F ht⟩) hS.2.2 dX0_init_22
