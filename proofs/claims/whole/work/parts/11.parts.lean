def R_X3_step (f_d : Int64) (f_q : Int64) (f_pace : Int64) (f_angle : Int64) (p0 : Int64) (p1 : Int64) (p2 : Int64) (u_0_d : Int64) (u_0_q : Int64) (u_0_pace : Int64) (u_0_angle : Int64) : Prop := ∃ v1 : Int64, v1 = (f_d + (((p0 - ((f_d * (64 : Int64)) >>> (8 : Int64))) + ((f_pace * f_q) >>> (17 : Int64))) / (4 : Int64))) ∧ (∃ v2 : Int64, v2 = (f_q + ((((p1 - ((f_q * (64 : Int64)) >>> (8 : Int64))) - ((f_pace * f_d) >>> (17 : Int64))) - (f_pace >>> (3 : Int64))) / (4 : Int64))) ∧ (∃ v3 : Int64, v3 = (f_pace + ((f_q - p2) / (16 : Int64))) ∧ (∃ (r4 : Int64), R_X5_clamp v1 (32000 : Int64) r4 ∧ (∃ (r6 : Int64), R_X5_clamp v2 (32000 : Int64) r6 ∧ (∃ (r8 : Int64), R_X5_clamp v3 (60000 : Int64) r8 ∧ (∃ v10 : Int64, v10 = ((f_angle + (r8 >>> (2 : Int64))) &&& (65535 : Int64)) ∧ (u_0_d = r4 ∧ u_0_q = r6 ∧ u_0_pace = r8 ∧ u_0_angle = v10)))))))
set_option maxHeartbeats 4000000 in
set_option maxRecDepth 100000 in
theorem c_X3_step (l : Launch) (dC : Nat → ClassId) (dI : Nat → Nat → Nat) (h0 : Nat) (f_d : Int64) (f_q : Int64) (f_pace : Int64) (f_angle : Int64) (p0 : Int64) (p1 : Int64) (p2 : Int64) (sz : Nat)  : Met l yX3_step wsX3_step ({ frames := 2, cells := 0, slots := 0, locals := 40 }) (va_Pc [.ref h0, .long p0, .long p1, .long p2] (mw_pre (dC, dI) vwCl [(h0, .inr (2, [.long f_d, .long f_q, .long f_pace, .long f_angle]))] [] sz)) (va_Qv (fun (u : Int64 × Int64 × Int64 × Int64) => R_X3_step f_d f_q f_pace f_angle p0 p1 p2 u.1 u.2.1 u.2.2.1 u.2.2.2) (fun u t => mw_at (dC, dI) vwCl [(h0, .inr (2, [.long u.1, .long u.2.1, .long u.2.2.1, .long u.2.2.2]))] [] (va_A [(h0, .inr (2, [.long f_d, .long f_q, .long f_pace, .long f_angle]))] sz) t) (va_A [(h0, .inr (2, [.long f_d, .long f_q, .long f_pace, .long f_angle]))] sz)) 0 0 (va_A [(h0, .inr (2, [.long f_d, .long f_q, .long f_pace, .long f_angle]))] sz) := by
  refine Met.ofW (cc := cX3_step) (maxL := 13) (ret := none) (by decide) rfl ?_
  intro p e s m args below meth c s₁ B hml hv
  obtain ⟨rfl, hsz, hP, hK, hD0, hN⟩ := hv
  have hx := B.exec
  have hb := B.bytes
  have hr := B.returns
  have hts := atoms_spec (ws := wsX3_step) B.pre
  have hown : s.vm.findClass RX3 = some m.cls := findClass_of_methodNamed B.named
  have hlocks := B.notSynchronized
  subst hsz
  have hD := hD0.self (sz := s.heap.size)
  generalize hAe : va_A [(h0, .inr (2, [.long f_d, .long f_q, .long f_pace, .long f_angle]))] s.heap.size = A at hD ⊢
  have hA : ∀ q : Nat, s.heap.size ≤ q → A q := fun q h => by rw [← hAe]; exact Or.inr h
  have hS : va_S A s.heap s.heap [] := va_S.rf
  have hP : va_P (dC, dI) vwCl [(h0, .inr (2, [.long f_d, .long f_q, .long f_pace, .long f_angle]))] s.heap := hP
  have hl := lv_entry ([.ref h0, .long p0, .long p1, .long p2]) (n := 13) (Nat.le_of_ble_eq_true rfl)
  rw [lg_entry_eq]
  generalize (lg_sl ([.ref h0, .long p0, .long p1, .long p2]) ++ List.replicate (13 - (lg_sl ([.ref h0, .long p0, .long p1, .long p2])).length) Slot.unset).toArray = ls at hl ⊢
  have hl : lv_has ls 13 [(0, .ref h0), (1, .long p0), (3, .long p1), (5, .long p2)] := hl
  have hw0 := hts (.fieldLink RX3 9 "TurnedFields$Motor" "d" "J") (by decide +kernel)
  have hw1 := hts (.constantLong RX3 24 (64)) (by decide +kernel)
  have hw2 := hts (.fieldLink RX3 18 "TurnedFields$Motor" "pace" "J") (by decide +kernel)
  have hw3 := hts (.fieldLink RX3 15 "TurnedFields$Motor" "q" "J") (by decide +kernel)
  have hw4 := hts (.constantLong RX3 26 (4)) (by decide +kernel)
  have hw5 := hts (.constantLong RX3 28 (16)) (by decide +kernel)
  have hw6 := hts (.constantLong RX3 30 (32000)) (by decide +kernel)
  have hw7 := hts (.initialized RX5) (by decide +kernel)
  have hw8 := hts (.static yX5_clamp) (by decide +kernel)
  have hw9 := hts (.constantLong RX3 36 (60000)) (by decide +kernel)
  have hw10 := hts (.fieldLink RX3 21 "TurnedFields$Motor" "angle" "J") (by decide +kernel)
  have hw11 := hts (.constantLong RX3 38 (65535)) (by decide +kernel)
  have hinX3 : ∀ w ∈ wsX30, w ∈ wsX3_step := by decide +kernel
  refine lv_aload_n hx hb dX3_step_0 rfl (lv_at hl 0 rfl) ?_
  refine va_get (D := (dC, dI)) (ci := 2) (v := .long f_d) (C := RX3) (T := TX3) (N := 4) hx hb hts hinX3 hown hK hP 0 rfl rfl 0 (by decide) hw0 (fun _ h9 => h9) rfl dX3_step_1 ?_
  refine lv_lload_n hx hb dX3_step_4 rfl (lv_at hl 1 rfl) ?_
  refine lv_aload_n hx hb dX3_step_5 rfl (lv_at hl 0 rfl) ?_
  refine va_get (D := (dC, dI)) (ci := 2) (v := .long f_d) (C := RX3) (T := TX3) (N := 4) hx hb hts hinX3 hown hK hP 0 rfl rfl 0 (by decide) hw0 (fun _ h9 => h9) rfl dX3_step_6 ?_
  refine lv_ldc2 hx hb hown hw1 dX3_step_9 ?_
  refine lv_lmul hx hb dX3_step_12 ?_
  refine lv_bipush (v := 8) hx hb dX3_step_13 (by decide) ?_
  refine lv_lshr hx hb dX3_step_15 (mw_sh _ _ 8 (by decide)) ?_
  refine lv_lsub hx hb dX3_step_16 ?_
  refine lv_aload_n hx hb dX3_step_17 rfl (lv_at hl 0 rfl) ?_
  refine va_get (D := (dC, dI)) (ci := 2) (v := .long f_pace) (C := RX3) (T := TX3) (N := 4) hx hb hts hinX3 hown hK hP 0 rfl rfl 2 (by decide) hw2 (fun _ h9 => h9) rfl dX3_step_18 ?_
  refine lv_aload_n hx hb dX3_step_21 rfl (lv_at hl 0 rfl) ?_
  refine va_get (D := (dC, dI)) (ci := 2) (v := .long f_q) (C := RX3) (T := TX3) (N := 4) hx hb hts hinX3 hown hK hP 0 rfl rfl 1 (by decide) hw3 (fun _ h9 => h9) rfl dX3_step_22 ?_
  refine lv_lmul hx hb dX3_step_25 ?_
  refine lv_bipush (v := 17) hx hb dX3_step_26 (by decide) ?_
  refine lv_lshr hx hb dX3_step_28 (mw_sh _ _ 17 (by decide)) ?_
  refine lv_ladd hx hb dX3_step_29 ?_
  refine lv_ldc2 hx hb hown hw4 dX3_step_30 ?_
  refine lv_ldiv hx hb dX3_step_33 (by decide) ?_
  refine lv_ladd hx hb dX3_step_34 ?_
  refine lv_topl (fun v1 ev1 => ?_)
  refine lv_lstore (lv' := [(7, .long v1), (0, .ref h0), (1, .long p0), (3, .long p1), (5, .long p2)]) hx hb dX3_step_35 hl (by decide) rfl (fun ls hl => ?_)
  refine lv_aload_n hx hb dX3_step_37 rfl (lv_at hl 1 rfl) ?_
  refine va_get (D := (dC, dI)) (ci := 2) (v := .long f_q) (C := RX3) (T := TX3) (N := 4) hx hb hts hinX3 hown hK hP 0 rfl rfl 1 (by decide) hw3 (fun _ h9 => h9) rfl dX3_step_38 ?_
  refine lv_lload_n hx hb dX3_step_41 rfl (lv_at hl 3 rfl) ?_
  refine lv_aload_n hx hb dX3_step_42 rfl (lv_at hl 1 rfl) ?_
  refine va_get (D := (dC, dI)) (ci := 2) (v := .long f_q) (C := RX3) (T := TX3) (N := 4) hx hb hts hinX3 hown hK hP 0 rfl rfl 1 (by decide) hw3 (fun _ h9 => h9) rfl dX3_step_43 ?_
  refine lv_ldc2 hx hb hown hw1 dX3_step_46 ?_
  refine lv_lmul hx hb dX3_step_49 ?_
  refine lv_bipush (v := 8) hx hb dX3_step_50 (by decide) ?_
  refine lv_lshr hx hb dX3_step_52 (mw_sh _ _ 8 (by decide)) ?_
  refine lv_lsub hx hb dX3_step_53 ?_
  refine lv_aload_n hx hb dX3_step_54 rfl (lv_at hl 1 rfl) ?_
  refine va_get (D := (dC, dI)) (ci := 2) (v := .long f_pace) (C := RX3) (T := TX3) (N := 4) hx hb hts hinX3 hown hK hP 0 rfl rfl 2 (by decide) hw2 (fun _ h9 => h9) rfl dX3_step_55 ?_
  refine lv_aload_n hx hb dX3_step_58 rfl (lv_at hl 1 rfl) ?_
  refine va_get (D := (dC, dI)) (ci := 2) (v := .long f_d) (C := RX3) (T := TX3) (N := 4) hx hb hts hinX3 hown hK hP 0 rfl rfl 0 (by decide) hw0 (fun _ h9 => h9) rfl dX3_step_59 ?_
  refine lv_lmul hx hb dX3_step_62 ?_
  refine lv_bipush (v := 17) hx hb dX3_step_63 (by decide) ?_
  refine lv_lshr hx hb dX3_step_65 (mw_sh _ _ 17 (by decide)) ?_
  refine lv_lsub hx hb dX3_step_66 ?_
  refine lv_aload_n hx hb dX3_step_67 rfl (lv_at hl 1 rfl) ?_
  refine va_get (D := (dC, dI)) (ci := 2) (v := .long f_pace) (C := RX3) (T := TX3) (N := 4) hx hb hts hinX3 hown hK hP 0 rfl rfl 2 (by decide) hw2 (fun _ h9 => h9) rfl dX3_step_68 ?_
  refine lv_iconst (v := 3) hx hb dX3_step_71 (by decide) ?_
  refine lv_lshr hx hb dX3_step_72 (mw_sh _ _ 3 (by decide)) ?_
  refine lv_lsub hx hb dX3_step_73 ?_
  refine lv_ldc2 hx hb hown hw4 dX3_step_74 ?_
  refine lv_ldiv hx hb dX3_step_77 (by decide) ?_
  refine lv_ladd hx hb dX3_step_78 ?_
  refine lv_topl (fun v2 ev2 => ?_)
  refine lv_lstore (lv' := [(9, .long v2), (7, .long v1), (0, .ref h0), (1, .long p0), (3, .long p1), (5, .long p2)]) hx hb dX3_step_79 hl (by decide) rfl (fun ls hl => ?_)
  refine lv_aload_n hx hb dX3_step_81 rfl (lv_at hl 2 rfl) ?_
  refine va_get (D := (dC, dI)) (ci := 2) (v := .long f_pace) (C := RX3) (T := TX3) (N := 4) hx hb hts hinX3 hown hK hP 0 rfl rfl 2 (by decide) hw2 (fun _ h9 => h9) rfl dX3_step_82 ?_
  refine lv_aload_n hx hb dX3_step_85 rfl (lv_at hl 2 rfl) ?_
  refine va_get (D := (dC, dI)) (ci := 2) (v := .long f_q) (C := RX3) (T := TX3) (N := 4) hx hb hts hinX3 hown hK hP 0 rfl rfl 1 (by decide) hw3 (fun _ h9 => h9) rfl dX3_step_86 ?_
  refine lv_lload hx hb dX3_step_89 (lv_at hl 5 rfl) ?_
  refine lv_lsub hx hb dX3_step_91 ?_
  refine lv_ldc2 hx hb hown hw5 dX3_step_92 ?_
  refine lv_ldiv hx hb dX3_step_95 (by decide) ?_
  refine lv_ladd hx hb dX3_step_96 ?_
  refine lv_topl (fun v3 ev3 => ?_)
  refine lv_lstore (lv' := [(11, .long v3), (9, .long v2), (7, .long v1), (0, .ref h0), (1, .long p0), (3, .long p1), (5, .long p2)]) hx hb dX3_step_97 hl (by decide) rfl (fun ls hl => ?_)
  refine lv_aload_n hx hb dX3_step_99 rfl (lv_at hl 3 rfl) ?_
  refine lv_lload hx hb dX3_step_100 (lv_at hl 2 rfl) ?_
  refine lv_ldc2 hx hb hown hw6 dX3_step_102 ?_
  refine mw_calll (wc := []) (wr := [(h0, .inr (2, [.long f_d, .long f_q, .long f_pace, .long f_angle]))]) (w1 := fun (u : Unit) => []) (tyc := fun (u : Unit) => []) hP hD hS hA [] [0] rfl rfl (by decide) (by decide) (va_runSN (As := [.long v1, .long (32000 : Int64)]) (rest := [.ref h0]) ⟨hx, hb, hml, hown, hts⟩ (c_X5_clamp l dC dI v1 (32000 : Int64) s.heap.size ) ⟨va_cnB 2 hts gX3_step_X5_clamp_n32 rfl rfl rfl (hN.at 7 rfl) hw7 (by decide +kernel) ⟨(Nat.le_of_ble_eq_true rfl), (Nat.le_of_ble_eq_true rfl)⟩, hw8, trivial⟩ (mw_preS (hP.sub (ws' := []) [] rfl) (hD.sub (ws' := []) [] (by decide) rfl) (hK.sub (tys' := []) [] rfl) hN) rfl rfl hl.1 rfl (lv_room (Nat.le_of_ble_eq_true rfl)) dX3_step_105 ⟨(Nat.le_of_ble_eq_true rfl), (Nat.le_of_ble_eq_true rfl)⟩) (fun r4 u H locs hw_5 hP hD hS hK1 => ?_)
  have hw_5 : R_X5_clamp v1 (32000 : Int64) r4 := hw_5
  have hP : va_P (dC, dI) vwCl [(h0, .inr (2, [.long f_d, .long f_q, .long f_pace, .long f_angle]))] H := hP
  have hD : va_D A [(h0, .inr (2, [.long f_d, .long f_q, .long f_pace, .long f_angle]))] := hD
  refine va_put (D := (dC, dI)) (ci := 2) (v := .long r4) (ty := .long) (C := RX3) (T := TX3) (N := 4) hx hb hts hinX3 tyX3 tyX3_ok nmX3 hown hK hP hD hS 0 rfl rfl 0 (by decide) hw0 (fun _ h9 => h9) rfl (by decide +kernel) rfl rfl (Nat.le_of_ble_eq_true rfl) dX3_step_108 (fun H locs hP hD hS => ?_)
  have hP : va_P (dC, dI) vwCl [(h0, .inr (2, [.long r4, .long f_q, .long f_pace, .long f_angle]))] H := hP
  have hD : va_D A [(h0, .inr (2, [.long r4, .long f_q, .long f_pace, .long f_angle]))] := hD
  refine lv_aload_n hx hb dX3_step_111 rfl (lv_at hl 3 rfl) ?_
  refine lv_lload hx hb dX3_step_112 (lv_at hl 1 rfl) ?_
  refine lv_ldc2 hx hb hown hw6 dX3_step_114 ?_
  refine mw_calll (wc := []) (wr := [(h0, .inr (2, [.long r4, .long f_q, .long f_pace, .long f_angle]))]) (w1 := fun (u : Unit) => []) (tyc := fun (u : Unit) => []) hP hD hS hA [] [0] rfl rfl (by decide) (by decide) (va_runSN (As := [.long v2, .long (32000 : Int64)]) (rest := [.ref h0]) ⟨hx, hb, hml, hown, hts⟩ (c_X5_clamp l dC dI v2 (32000 : Int64) H.size ) ⟨va_cnB 2 hts gX3_step_X5_clamp_n32 rfl rfl rfl (hN.at 7 rfl) hw7 (by decide +kernel) ⟨(Nat.le_of_ble_eq_true rfl), (Nat.le_of_ble_eq_true rfl)⟩, hw8, trivial⟩ (mw_preS (hP.sub (ws' := []) [] rfl) (hD.sub (ws' := []) [] (by decide) rfl) (hK.sub (tys' := []) [] rfl) hN) rfl rfl hl.1 rfl (lv_room (Nat.le_of_ble_eq_true rfl)) dX3_step_117 ⟨(Nat.le_of_ble_eq_true rfl), (Nat.le_of_ble_eq_true rfl)⟩) (fun r6 u H locs hw_7 hP hD hS hK1 => ?_)
  have hw_7 : R_X5_clamp v2 (32000 : Int64) r6 := hw_7
  have hP : va_P (dC, dI) vwCl [(h0, .inr (2, [.long r4, .long f_q, .long f_pace, .long f_angle]))] H := hP
  have hD : va_D A [(h0, .inr (2, [.long r4, .long f_q, .long f_pace, .long f_angle]))] := hD
  refine va_put (D := (dC, dI)) (ci := 2) (v := .long r6) (ty := .long) (C := RX3) (T := TX3) (N := 4) hx hb hts hinX3 tyX3 tyX3_ok nmX3 hown hK hP hD hS 0 rfl rfl 1 (by decide) hw3 (fun _ h9 => h9) rfl (by decide +kernel) rfl rfl (Nat.le_of_ble_eq_true rfl) dX3_step_120 (fun H locs hP hD hS => ?_)
  have hP : va_P (dC, dI) vwCl [(h0, .inr (2, [.long r4, .long r6, .long f_pace, .long f_angle]))] H := hP
  have hD : va_D A [(h0, .inr (2, [.long r4, .long r6, .long f_pace, .long f_angle]))] := hD
  refine lv_aload_n hx hb dX3_step_123 rfl (lv_at hl 3 rfl) ?_
  refine lv_lload hx hb dX3_step_124 (lv_at hl 0 rfl) ?_
  refine lv_ldc2 hx hb hown hw9 dX3_step_126 ?_
  refine mw_calll (wc := []) (wr := [(h0, .inr (2, [.long r4, .long r6, .long f_pace, .long f_angle]))]) (w1 := fun (u : Unit) => []) (tyc := fun (u : Unit) => []) hP hD hS hA [] [0] rfl rfl (by decide) (by decide) (va_runSN (As := [.long v3, .long (60000 : Int64)]) (rest := [.ref h0]) ⟨hx, hb, hml, hown, hts⟩ (c_X5_clamp l dC dI v3 (60000 : Int64) H.size ) ⟨va_cnB 2 hts gX3_step_X5_clamp_n32 rfl rfl rfl (hN.at 7 rfl) hw7 (by decide +kernel) ⟨(Nat.le_of_ble_eq_true rfl), (Nat.le_of_ble_eq_true rfl)⟩, hw8, trivial⟩ (mw_preS (hP.sub (ws' := []) [] rfl) (hD.sub (ws' := []) [] (by decide) rfl) (hK.sub (tys' := []) [] rfl) hN) rfl rfl hl.1 rfl (lv_room (Nat.le_of_ble_eq_true rfl)) dX3_step_129 ⟨(Nat.le_of_ble_eq_true rfl), (Nat.le_of_ble_eq_true rfl)⟩) (fun r8 u H locs hw_9 hP hD hS hK1 => ?_)
  have hw_9 : R_X5_clamp v3 (60000 : Int64) r8 := hw_9
  have hP : va_P (dC, dI) vwCl [(h0, .inr (2, [.long r4, .long r6, .long f_pace, .long f_angle]))] H := hP
  have hD : va_D A [(h0, .inr (2, [.long r4, .long r6, .long f_pace, .long f_angle]))] := hD
  refine va_put (D := (dC, dI)) (ci := 2) (v := .long r8) (ty := .long) (C := RX3) (T := TX3) (N := 4) hx hb hts hinX3 tyX3 tyX3_ok nmX3 hown hK hP hD hS 0 rfl rfl 2 (by decide) hw2 (fun _ h9 => h9) rfl (by decide +kernel) rfl rfl (Nat.le_of_ble_eq_true rfl) dX3_step_132 (fun H locs hP hD hS => ?_)
  have hP : va_P (dC, dI) vwCl [(h0, .inr (2, [.long r4, .long r6, .long r8, .long f_angle]))] H := hP
  have hD : va_D A [(h0, .inr (2, [.long r4, .long r6, .long r8, .long f_angle]))] := hD
  refine lv_aload_n hx hb dX3_step_135 rfl (lv_at hl 3 rfl) ?_
  refine lv_aload_n hx hb dX3_step_136 rfl (lv_at hl 3 rfl) ?_
  refine va_get (D := (dC, dI)) (ci := 2) (v := .long f_angle) (C := RX3) (T := TX3) (N := 4) hx hb hts hinX3 hown hK hP 0 rfl rfl 3 (by decide) hw10 (fun _ h9 => h9) rfl dX3_step_137 ?_
  refine lv_aload_n hx hb dX3_step_140 rfl (lv_at hl 3 rfl) ?_
  refine va_get (D := (dC, dI)) (ci := 2) (v := .long r8) (C := RX3) (T := TX3) (N := 4) hx hb hts hinX3 hown hK hP 0 rfl rfl 2 (by decide) hw2 (fun _ h9 => h9) rfl dX3_step_141 ?_
  refine lv_iconst (v := 2) hx hb dX3_step_144 (by decide) ?_
  refine lv_lshr hx hb dX3_step_145 (mw_sh _ _ 2 (by decide)) ?_
  refine lv_ladd hx hb dX3_step_146 ?_
  refine lv_ldc2 hx hb hown hw11 dX3_step_147 ?_
  refine lv_land hx hb dX3_step_150 ?_
  refine lv_topl (fun v10 ev10 => ?_)
  refine va_put (D := (dC, dI)) (ci := 2) (v := .long v10) (ty := .long) (C := RX3) (T := TX3) (N := 4) hx hb hts hinX3 tyX3 tyX3_ok nmX3 hown hK hP hD hS 0 rfl rfl 3 (by decide) hw10 (fun _ h9 => h9) rfl (by decide +kernel) rfl rfl (Nat.le_of_ble_eq_true rfl) dX3_step_151 (fun H locs hP hD hS => ?_)
  have hP : va_P (dC, dI) vwCl [(h0, .inr (2, [.long r4, .long r6, .long r8, .long v10]))] H := hP
  have hD : va_D A [(h0, .inr (2, [.long r4, .long r6, .long r8, .long v10]))] := hD
  have hP9 := hP.sub (ws' := [(h0, .inr (2, [.long r4, .long r6, .long r8, .long v10]))]) [0] rfl
  have hD9 := hD.sub (ws' := [(h0, .inr (2, [.long r4, .long r6, .long r8, .long v10]))]) [0] (by decide) rfl
  have hK9 := hK.sub (tys' := []) [] rfl
  exact W.vret hx hb hr (fun t ht hW => ⟨⟨(r4, r6, r8, v10), rfl, ⟨v1, ev1, ⟨v2, ev2, ⟨v3, ev3, ⟨r4, hw_5, ⟨r6, hw_7, ⟨r8, hw_9, ⟨v10, ev10, ⟨rfl, rfl, rfl, rfl⟩⟩⟩⟩⟩⟩⟩⟩, (by rw [ht]; exact hP9), va_K.moved hW.alike hK9, hD9⟩, hS.F ht⟩) hS.2.2 dX3_step_154
def R_X4_off  : Prop := True
set_option maxHeartbeats 4000000 in
set_option maxRecDepth 100000 in
theorem c_X4_off (l : Launch) (dC : Nat → ClassId) (dI : Nat → Nat → Nat) (h0 : Nat) (f_u : Int64) (f_v : Int64) (f_w : Int64) (f_over : Int32) (sz : Nat)  : Met l yX4_off wsX4_off ({ frames := 0, cells := 0, slots := 0, locals := 0 }) (va_Pc [.ref h0] (mw_pre (dC, dI) vwCl [(h0, .inr (3, [.long f_u, .long f_v, .long f_w, .int f_over]))] [] sz)) (va_Qv (fun (u : Unit) => R_X4_off ) (fun u t => mw_at (dC, dI) vwCl [(h0, .inr (3, [.long (0 : Int64), .long (0 : Int64), .long (0 : Int64), .int (0 : Int32)]))] [] (va_A [(h0, .inr (3, [.long f_u, .long f_v, .long f_w, .int f_over]))] sz) t) (va_A [(h0, .inr (3, [.long f_u, .long f_v, .long f_w, .int f_over]))] sz)) 0 0 (va_A [(h0, .inr (3, [.long f_u, .long f_v, .long f_w, .int f_over]))] sz) := by
  refine Met.ofW (cc := cX4_off) (maxL := 1) (ret := none) (by decide) rfl ?_
  intro p e s m args below meth c s₁ B hml hv
  obtain ⟨rfl, hsz, hP, hK, hD0, hN⟩ := hv
  have hx := B.exec
  have hb := B.bytes
  have hr := B.returns
  have hts := atoms_spec (ws := wsX4_off) B.pre
  have hown : s.vm.findClass RX4 = some m.cls := findClass_of_methodNamed B.named
  have hlocks := B.notSynchronized
  subst hsz
  have hD := hD0.self (sz := s.heap.size)
  generalize hAe : va_A [(h0, .inr (3, [.long f_u, .long f_v, .long f_w, .int f_over]))] s.heap.size = A at hD ⊢
  have hA : ∀ q : Nat, s.heap.size ≤ q → A q := fun q h => by rw [← hAe]; exact Or.inr h
  have hS : va_S A s.heap s.heap [] := va_S.rf
  have hP : va_P (dC, dI) vwCl [(h0, .inr (3, [.long f_u, .long f_v, .long f_w, .int f_over]))] s.heap := hP
  have hl := lv_entry ([.ref h0]) (n := 1) (Nat.le_of_ble_eq_true rfl)
  rw [lg_entry_eq]
  generalize (lg_sl ([.ref h0]) ++ List.replicate (1 - (lg_sl ([.ref h0])).length) Slot.unset).toArray = ls at hl ⊢
  have hl : lv_has ls 1 [(0, .ref h0)] := hl
  have hw0 := hts (.fieldLink RX4 7 "TurnedFields$OnTimes" "u" "J") (by decide +kernel)
  have hw1 := hts (.fieldLink RX4 13 "TurnedFields$OnTimes" "v" "J") (by decide +kernel)
  have hw2 := hts (.fieldLink RX4 16 "TurnedFields$OnTimes" "w" "J") (by decide +kernel)
  have hw3 := hts (.fieldLink RX4 19 "TurnedFields$OnTimes" "over" "Z") (by decide +kernel)
  have hinX4 : ∀ w ∈ wsX40, w ∈ wsX4_off := by decide +kernel
  refine lv_aload_n hx hb dX4_off_0 rfl (lv_at hl 0 rfl) ?_
  refine lv_lconst (v := 0) hx hb dX4_off_1 (by decide) ?_
  refine va_put (D := (dC, dI)) (ci := 3) (v := .long (0 : Int64)) (ty := .long) (C := RX4) (T := TX4) (N := 4) hx hb hts hinX4 tyX4 tyX4_ok nmX4 hown hK hP hD hS 0 rfl rfl 0 (by decide) hw0 (fun _ h9 => h9) rfl (by decide +kernel) rfl rfl (Nat.le_of_ble_eq_true rfl) dX4_off_2 (fun H locs hP hD hS => ?_)
  have hP : va_P (dC, dI) vwCl [(h0, .inr (3, [.long (0 : Int64), .long f_v, .long f_w, .int f_over]))] H := hP
  have hD : va_D A [(h0, .inr (3, [.long (0 : Int64), .long f_v, .long f_w, .int f_over]))] := hD
  refine lv_aload_n hx hb dX4_off_5 rfl (lv_at hl 0 rfl) ?_
  refine lv_lconst (v := 0) hx hb dX4_off_6 (by decide) ?_
  refine va_put (D := (dC, dI)) (ci := 3) (v := .long (0 : Int64)) (ty := .long) (C := RX4) (T := TX4) (N := 4) hx hb hts hinX4 tyX4 tyX4_ok nmX4 hown hK hP hD hS 0 rfl rfl 1 (by decide) hw1 (fun _ h9 => h9) rfl (by decide +kernel) rfl rfl (Nat.le_of_ble_eq_true rfl) dX4_off_7 (fun H locs hP hD hS => ?_)
  have hP : va_P (dC, dI) vwCl [(h0, .inr (3, [.long (0 : Int64), .long (0 : Int64), .long f_w, .int f_over]))] H := hP
  have hD : va_D A [(h0, .inr (3, [.long (0 : Int64), .long (0 : Int64), .long f_w, .int f_over]))] := hD
  refine lv_aload_n hx hb dX4_off_10 rfl (lv_at hl 0 rfl) ?_
  refine lv_lconst (v := 0) hx hb dX4_off_11 (by decide) ?_
  refine va_put (D := (dC, dI)) (ci := 3) (v := .long (0 : Int64)) (ty := .long) (C := RX4) (T := TX4) (N := 4) hx hb hts hinX4 tyX4 tyX4_ok nmX4 hown hK hP hD hS 0 rfl rfl 2 (by decide) hw2 (fun _ h9 => h9) rfl (by decide +kernel) rfl rfl (Nat.le_of_ble_eq_true rfl) dX4_off_12 (fun H locs hP hD hS => ?_)
  have hP : va_P (dC, dI) vwCl [(h0, .inr (3, [.long (0 : Int64), .long (0 : Int64), .long (0 : Int64), .int f_over]))] H := hP
  have hD : va_D A [(h0, .inr (3, [.long (0 : Int64), .long (0 : Int64), .long (0 : Int64), .int f_over]))] := hD
  refine lv_aload_n hx hb dX4_off_15 rfl (lv_at hl 0 rfl) ?_
  refine lv_iconst (v := 0) hx hb dX4_off_16 (by decide) ?_
  refine va_put (D := (dC, dI)) (ci := 3) (v := .int (0 : Int32)) (ty := .boolean) (C := RX4) (T := TX4) (N := 4) hx hb hts hinX4 tyX4 tyX4_ok nmX4 hown hK hP hD hS 0 rfl rfl 3 (by decide) hw3 (fun _ h9 => h9) rfl (by decide +kernel) rfl rfl (Nat.le_of_ble_eq_true rfl) dX4_off_17 (fun H locs hP hD hS => ?_)
  have hP : va_P (dC, dI) vwCl [(h0, .inr (3, [.long (0 : Int64), .long (0 : Int64), .long (0 : Int64), .int (0 : Int32)]))] H := hP
  have hD : va_D A [(h0, .inr (3, [.long (0 : Int64), .long (0 : Int64), .long (0 : Int64), .int (0 : Int32)]))] := hD
  have hP9 := hP.sub (ws' := [(h0, .inr (3, [.long (0 : Int64), .long (0 : Int64), .long (0 : Int64), .int (0 : Int32)]))]) [0] rfl
  have hD9 := hD.sub (ws' := [(h0, .inr (3, [.long (0 : Int64), .long (0 : Int64), .long (0 : Int64), .int (0 : Int32)]))]) [0] (by decide) rfl
  have hK9 := hK.sub (tys' := []) [] rfl
  exact W.vret hx hb hr (fun t ht hW => ⟨⟨(), rfl, trivial, (by rw [ht]; exact hP9), va_K.moved hW.alike hK9, hD9⟩, hS.F ht⟩) hS.2.2 dX4_off_20
def RG_X4_onTime_19 (f_over : Int32) (v3 : Int64) (x6 : Int32) : Prop := (v3 < (0 : Int64) → (x6 = (1 : Int32))) ∧ (¬ (v3 < (0 : Int64)) → ((v3 ≤ (8192 : Int64) → (x6 = f_over)) ∧ (¬ (v3 ≤ (8192 : Int64)) → (x6 = (1 : Int32)))))
def R_X4_onTime (f_over : Int32) (p0 : Int64) (p1 : Int64) (r : Int64) (u_0_over : Int32) : Prop := ∃ (r1 : Int64), R_X5_quotient (p0 * (8192 : Int64)) p1 r1 ∧ (∃ v3 : Int64, v3 = (r1 + (4096 : Int64)) ∧ (∃ (x6 : Int32), RG_X4_onTime_19 f_over v3 x6 ∧ (∃ v8 : Int64, v8 = (if v3 < (8192 : Int64) then v3 else (8192 : Int64)) ∧ (∃ v9 : Int64, v9 = (if v8 < (0 : Int64) then (0 : Int64) else v8) ∧ (r = v9 ∧ u_0_over = x6)))))
set_option maxHeartbeats 4000000 in
set_option maxRecDepth 100000 in
theorem c_X4_onTime (l : Launch) (dC : Nat → ClassId) (dI : Nat → Nat → Nat) (h0 : Nat) (f_u : Int64) (f_v : Int64) (f_w : Int64) (f_over : Int32) (p0 : Int64) (p1 : Int64) (sz : Nat)  : Met l yX4_onTime wsX4_onTime ({ frames := 1, cells := 0, slots := 0, locals := 23 }) (va_Pc [.ref h0, .long p0, .long p1] (mw_pre (dC, dI) vwCl [(h0, .inr (3, [.long f_u, .long f_v, .long f_w, .int f_over]))] [] sz)) (va_Ql (fun (r : Int64) (u : Int32) => R_X4_onTime f_over p0 p1 r u) (fun u t => mw_at (dC, dI) vwCl [(h0, .inr (3, [.long f_u, .long f_v, .long f_w, .int u]))] [] (va_A [(h0, .inr (3, [.long f_u, .long f_v, .long f_w, .int f_over]))] sz) t) (va_A [(h0, .inr (3, [.long f_u, .long f_v, .long f_w, .int f_over]))] sz)) 0 0 (va_A [(h0, .inr (3, [.long f_u, .long f_v, .long f_w, .int f_over]))] sz) := by
  refine Met.ofW (cc := cX4_onTime) (maxL := 7) (ret := (some .long)) (by decide) rfl ?_
  intro p e s m args below meth c s₁ B hml hv
  obtain ⟨rfl, hsz, hP, hK, hD0, hN⟩ := hv
  have hx := B.exec
  have hb := B.bytes
  have hr := B.returns
  have hts := atoms_spec (ws := wsX4_onTime) B.pre
  have hown : s.vm.findClass RX4 = some m.cls := findClass_of_methodNamed B.named
  have hlocks := B.notSynchronized
  subst hsz
  have hD := hD0.self (sz := s.heap.size)
  generalize hAe : va_A [(h0, .inr (3, [.long f_u, .long f_v, .long f_w, .int f_over]))] s.heap.size = A at hD ⊢
  have hA : ∀ q : Nat, s.heap.size ≤ q → A q := fun q h => by rw [← hAe]; exact Or.inr h
  have hS : va_S A s.heap s.heap [] := va_S.rf
  have hP : va_P (dC, dI) vwCl [(h0, .inr (3, [.long f_u, .long f_v, .long f_w, .int f_over]))] s.heap := hP
  have hl := lv_entry ([.ref h0, .long p0, .long p1]) (n := 7) (Nat.le_of_ble_eq_true rfl)
  rw [lg_entry_eq]
  generalize (lg_sl ([.ref h0, .long p0, .long p1]) ++ List.replicate (7 - (lg_sl ([.ref h0, .long p0, .long p1])).length) Slot.unset).toArray = ls at hl ⊢
  have hl : lv_has ls 7 [(0, .ref h0), (1, .long p0), (3, .long p1)] := hl
  have hw0 := hts (.constantLong RX4 41 (8192)) (by decide +kernel)
  have hw1 := hts (.initialized RX5) (by decide +kernel)
  have hw2 := hts (.static yX5_quotient) (by decide +kernel)
  have hw3 := hts (.constantLong RX4 48 (4096)) (by decide +kernel)
  have hw4 := hts (.fieldLink RX4 19 "TurnedFields$OnTimes" "over" "Z") (by decide +kernel)
  have hw5 := hts (.methodLink RX4 33 Lib.MathLoose.min_long.x) (by decide +kernel)
  have hw6 := hts (.static Lib.MathLoose.min_long.x) (by decide +kernel)
  have hw7 := hts (.initialized "java/lang/Math") (by decide +kernel)
  have hw8 := hts (.code Lib.MathLoose.min_long.x Lib.MathLoose.min_long.code 4 (some .long)) (by decide +kernel)
  have hw9 := hts (.methodLink RX4 27 Lib.MathLoose.max_long.x) (by decide +kernel)
  have hw10 := hts (.static Lib.MathLoose.max_long.x) (by decide +kernel)
  have hw11 := hts (.code Lib.MathLoose.max_long.x Lib.MathLoose.max_long.code 4 (some .long)) (by decide +kernel)
  have hinX4 : ∀ w ∈ wsX40, w ∈ wsX4_onTime := by decide +kernel
  refine lv_lload_n hx hb dX4_onTime_0 rfl (lv_at hl 1 rfl) ?_
  refine lv_ldc2 hx hb hown hw0 dX4_onTime_1 ?_
  refine lv_lmul hx hb dX4_onTime_4 ?_
  refine lv_lload_n hx hb dX4_onTime_5 rfl (lv_at hl 2 rfl) ?_
  refine mw_calll (wc := []) (wr := [(h0, .inr (3, [.long f_u, .long f_v, .long f_w, .int f_over]))]) (w1 := fun (u : Unit) => []) (tyc := fun (u : Unit) => []) hP hD hS hA [] [0] rfl rfl (by decide) (by decide) (va_runSN (As := [.long (p0 * (8192 : Int64)), .long p1]) (rest := []) ⟨hx, hb, hml, hown, hts⟩ (c_X5_quotient l dC dI (p0 * (8192 : Int64)) p1 s.heap.size ) ⟨va_cnB 2 hts gX4_onTime_X5_quotient_n43 rfl rfl rfl (hN.at 5 rfl) hw1 (by decide +kernel) ⟨(Nat.le_of_ble_eq_true rfl), (Nat.le_of_ble_eq_true rfl)⟩, hw2, trivial⟩ (mw_preS (hP.sub (ws' := []) [] rfl) (hD.sub (ws' := []) [] (by decide) rfl) (hK.sub (tys' := []) [] rfl) hN) rfl rfl hl.1 rfl (lv_room (Nat.le_of_ble_eq_true rfl)) dX4_onTime_6 ⟨(Nat.le_of_ble_eq_true rfl), (Nat.le_of_ble_eq_true rfl)⟩) (fun r1 u H locs hw_2 hP hD hS hK1 => ?_)
  have hw_2 : R_X5_quotient (p0 * (8192 : Int64)) p1 r1 := hw_2
  have hP : va_P (dC, dI) vwCl [(h0, .inr (3, [.long f_u, .long f_v, .long f_w, .int f_over]))] H := hP
  have hD : va_D A [(h0, .inr (3, [.long f_u, .long f_v, .long f_w, .int f_over]))] := hD
  refine lv_ldc2 hx hb hown hw3 dX4_onTime_9 ?_
  refine lv_ladd hx hb dX4_onTime_12 ?_
  refine lv_topl (fun v3 ev3 => ?_)
  refine lv_lstore (lv' := [(5, .long v3), (0, .ref h0), (1, .long p0), (3, .long p1)]) hx hb dX4_onTime_13 hl (by decide) rfl (fun ls hl => ?_)
  refine lv_lload hx hb dX4_onTime_15 (lv_at hl 0 rfl) ?_
  refine lv_lconst (v := 0) hx hb dX4_onTime_17 (by decide) ?_
  refine W.lcmp hx hb dX4_onTime_18 ?_
  refine mw_jn (X := Int32) (D := (dC, dI)) (cl := vwCl) (A := A) (H0 := s.heap) (nL := 7) (fun x => [(h0, .inr (3, [.long f_u, .long f_v, .long f_w, .int x]))]) (fun x => [(5, .long v3)]) (fun x => []) 36 (fun x => RG_X4_onTime_19 f_over v3 x) (fun x hx_ H locs ls hP hD hS hl => ?_) (fun J => ?_)
  · obtain ⟨x6, rfl⟩ : ∃ z, z = x := ⟨_, rfl⟩
    have hj7 : RG_X4_onTime_19 f_over v3 x6 := hx_
    have hP : va_P (dC, dI) vwCl [(h0, .inr (3, [.long f_u, .long f_v, .long f_w, .int x6]))] H := hP
    have hD : va_D A [(h0, .inr (3, [.long f_u, .long f_v, .long f_w, .int x6]))] := hD
    have hl : lv_has ls 7 [(5, .long v3)] := hl
    refine lv_lconst (v := 0) hx hb dX4_onTime_36 (by decide) ?_
    refine lv_ldc2 hx hb hown hw0 dX4_onTime_37 ?_
    refine lv_lload hx hb dX4_onTime_40 (lv_at hl 0 rfl) ?_
    refine va_mmin_long hx hb (hml.trans hl.1.symm) hown hw5 hw6 hw7 hw8 (Nat.le_of_ble_eq_true rfl) (Nat.le_of_ble_eq_true rfl) (Nat.le_of_ble_eq_true rfl) (Nat.le_of_ble_eq_true rfl) dX4_onTime_42 ?_
    refine lv_topl (fun v8 ev8 => ?_)
    refine va_mmax_long hx hb (hml.trans hl.1.symm) hown hw9 hw10 hw7 hw11 (Nat.le_of_ble_eq_true rfl) (Nat.le_of_ble_eq_true rfl) (Nat.le_of_ble_eq_true rfl) (Nat.le_of_ble_eq_true rfl) dX4_onTime_45 ?_
    refine lv_topl (fun v9 ev9 => ?_)
    have hP9 := hP.sub (ws' := [(h0, .inr (3, [.long f_u, .long f_v, .long f_w, .int x6]))]) [0] rfl
    have hD9 := hD.sub (ws' := [(h0, .inr (3, [.long f_u, .long f_v, .long f_w, .int x6]))]) [0] (by decide) rfl
    have hK9 := hK.sub (tys' := []) [] rfl
    exact W.lret (v := v9) hx hb hr (fun t ht hW => ⟨⟨v9, x6, rfl, ⟨r1, hw_2, ⟨v3, ev3, ⟨x6, hj7, ⟨v8, ev8, ⟨v9, ev9, ⟨rfl, rfl⟩⟩⟩⟩⟩⟩, (by rw [ht]; exact hP9), va_K.moved hW.alike hK9, hD9⟩, hS.F ht⟩) hS.2.2 dX4_onTime_48
  · refine lv_if_lt (tgt := 31) hx hb dX4_onTime_19 (by decide) (fun c4 => ?_) (fun c4 => ?_)
    · have c4 : v3 < (0 : Int64) := (lg_cmp_lt _ _).mp c4
      refine lv_aload_n hx hb dX4_onTime_31 rfl (lv_at hl 1 rfl) ?_
      refine lv_iconst (v := 1) hx hb dX4_onTime_32 (by decide) ?_
      refine va_put (D := (dC, dI)) (ci := 3) (v := .int (1 : Int32)) (ty := .boolean) (C := RX4) (T := TX4) (N := 4) hx hb hts hinX4 tyX4 tyX4_ok nmX4 hown hK hP hD hS 0 rfl rfl 3 (by decide) hw4 (fun _ h9 => h9) rfl (by decide +kernel) rfl rfl (Nat.le_of_ble_eq_true rfl) dX4_onTime_33 (fun H locs hP hD hS => ?_)
      have hP : va_P (dC, dI) vwCl [(h0, .inr (3, [.long f_u, .long f_v, .long f_w, .int (1 : Int32)]))] H := hP
      have hD : va_D A [(h0, .inr (3, [.long f_u, .long f_v, .long f_w, .int (1 : Int32)]))] := hD
      exact J (1 : Int32) ⟨fun _ => rfl, fun hh => absurd c4 hh⟩ _ _ _ hP hD hS (lv_sub hl [0] rfl)
    · have c4 : ¬ (v3 < (0 : Int64)) := mw_flt c4
      refine lv_lload hx hb dX4_onTime_22 (lv_at hl 0 rfl) ?_
      refine lv_ldc2 hx hb hown hw0 dX4_onTime_24 ?_
      refine W.lcmp hx hb dX4_onTime_27 ?_
      refine lv_if_le (tgt := 36) hx hb dX4_onTime_28 (by decide) (fun c5 => ?_) (fun c5 => ?_)
      · have c5 : v3 ≤ (8192 : Int64) := (lg_cmp_le _ _).mp c5
        exact J f_over ⟨fun hh => absurd hh c4, fun _ => ⟨fun _ => rfl, fun hh => absurd c5 hh⟩⟩ _ _ _ hP hD hS (lv_sub hl [0] rfl)
      · have c5 : ¬ (v3 ≤ (8192 : Int64)) := mw_fle c5
        refine lv_aload_n hx hb dX4_onTime_31 rfl (lv_at hl 1 rfl) ?_
        refine lv_iconst (v := 1) hx hb dX4_onTime_32 (by decide) ?_
        refine va_put (D := (dC, dI)) (ci := 3) (v := .int (1 : Int32)) (ty := .boolean) (C := RX4) (T := TX4) (N := 4) hx hb hts hinX4 tyX4 tyX4_ok nmX4 hown hK hP hD hS 0 rfl rfl 3 (by decide) hw4 (fun _ h9 => h9) rfl (by decide +kernel) rfl rfl (Nat.le_of_ble_eq_true rfl) dX4_onTime_33 (fun H locs hP hD hS => ?_)
        have hP : va_P (dC, dI) vwCl [(h0, .inr (3, [.long f_u, .long f_v, .long f_w, .int (1 : Int32)]))] H := hP
        have hD : va_D A [(h0, .inr (3, [.long f_u, .long f_v, .long f_w, .int (1 : Int32)]))] := hD
        exact J (1 : Int32) ⟨fun hh => absurd hh c4, fun _ => ⟨fun hh => absurd hh c5, fun _ => rfl⟩⟩ _ _ _ hP hD hS (lv_sub hl [0] rfl)
def R_X4_lead (p0 : Int64) (p1 : Int64) (p2 : Int64) (u_0_u : Int64) (u_0_v : Int64) (u_0_w : Int64) (u_0_over : Int32) : Prop := ∃ v1 : Int64, v1 = (((p1 * (56756 : Int64)) - (p0 * (32768 : Int64))) >>> (16 : Int64)) ∧ (∃ v2 : Int64, v2 = ((-p0) - v1) ∧ (∃ v3 : Int64, v3 = (if v2 < v1 then v1 else v2) ∧ (∃ v4 : Int64, v4 = (if v3 < p0 then p0 else v3) ∧ (∃ v5 : Int64, v5 = (if v2 < v1 then v2 else v1) ∧ (∃ v6 : Int64, v6 = (if v5 < p0 then v5 else p0) ∧ (∃ v7 : Int64, v7 = ((v4 + v6) / (2 : Int64)) ∧ (∃ (r9 : Int64) (o8 : Int32), R_X4_onTime (0 : Int32) (p0 - v7) p2 r9 o8 ∧ (∃ (r12 : Int64) (o11 : Int32), R_X4_onTime o8 (v1 - v7) p2 r12 o11 ∧ (∃ (r15 : Int64) (o14 : Int32), R_X4_onTime o11 (v2 - v7) p2 r15 o14 ∧ (u_0_u = r9 ∧ u_0_v = r12 ∧ u_0_w = r15 ∧ u_0_over = o14))))))))))
set_option maxHeartbeats 4000000 in
set_option maxRecDepth 100000 in
theorem c_X4_lead (l : Launch) (dC : Nat → ClassId) (dI : Nat → Nat → Nat) (h0 : Nat) (f_u : Int64) (f_v : Int64) (f_w : Int64) (f_over : Int32) (p0 : Int64) (p1 : Int64) (p2 : Int64) (sz : Nat)  : Met l yX4_lead wsX4_lead ({ frames := 2, cells := 0, slots := 0, locals := 49 }) (va_Pc [.ref h0, .long p0, .long p1, .long p2] (mw_pre (dC, dI) vwCl [(h0, .inr (3, [.long f_u, .long f_v, .long f_w, .int f_over]))] [] sz)) (va_Qv (fun (u : Int64 × Int64 × Int64 × Int32) => R_X4_lead p0 p1 p2 u.1 u.2.1 u.2.2.1 u.2.2.2) (fun u t => mw_at (dC, dI) vwCl [(h0, .inr (3, [.long u.1, .long u.2.1, .long u.2.2.1, .int u.2.2.2]))] [] (va_A [(h0, .inr (3, [.long f_u, .long f_v, .long f_w, .int f_over]))] sz) t) (va_A [(h0, .inr (3, [.long f_u, .long f_v, .long f_w, .int f_over]))] sz)) 0 0 (va_A [(h0, .inr (3, [.long f_u, .long f_v, .long f_w, .int f_over]))] sz) := by
  refine Met.ofW (cc := cX4_lead) (maxL := 17) (ret := none) (by decide) rfl ?_
  intro p e s m args below meth c s₁ B hml hv
  obtain ⟨rfl, hsz, hP, hK, hD0, hN⟩ := hv
  have hx := B.exec
  have hb := B.bytes
  have hr := B.returns
  have hts := atoms_spec (ws := wsX4_lead) B.pre
  have hown : s.vm.findClass RX4 = some m.cls := findClass_of_methodNamed B.named
  have hlocks := B.notSynchronized
  subst hsz
  have hD := hD0.self (sz := s.heap.size)
  generalize hAe : va_A [(h0, .inr (3, [.long f_u, .long f_v, .long f_w, .int f_over]))] s.heap.size = A at hD ⊢
  have hA : ∀ q : Nat, s.heap.size ≤ q → A q := fun q h => by rw [← hAe]; exact Or.inr h
  have hS : va_S A s.heap s.heap [] := va_S.rf
  have hP : va_P (dC, dI) vwCl [(h0, .inr (3, [.long f_u, .long f_v, .long f_w, .int f_over]))] s.heap := hP
  have hl := lv_entry ([.ref h0, .long p0, .long p1, .long p2]) (n := 17) (Nat.le_of_ble_eq_true rfl)
  rw [lg_entry_eq]
  generalize (lg_sl ([.ref h0, .long p0, .long p1, .long p2]) ++ List.replicate (17 - (lg_sl ([.ref h0, .long p0, .long p1, .long p2])).length) Slot.unset).toArray = ls at hl ⊢
  have hl : lv_has ls 17 [(0, .ref h0), (1, .long p0), (3, .long p1), (5, .long p2)] := hl
  have hw0 := hts (.constantLong RX4 23 (56756)) (by decide +kernel)
  have hw1 := hts (.constantLong RX4 25 (32768)) (by decide +kernel)
  have hw2 := hts (.methodLink RX4 27 Lib.MathLoose.max_long.x) (by decide +kernel)
  have hw3 := hts (.static Lib.MathLoose.max_long.x) (by decide +kernel)
  have hw4 := hts (.initialized "java/lang/Math") (by decide +kernel)
  have hw5 := hts (.code Lib.MathLoose.max_long.x Lib.MathLoose.max_long.code 4 (some .long)) (by decide +kernel)
  have hw6 := hts (.methodLink RX4 33 Lib.MathLoose.min_long.x) (by decide +kernel)
  have hw7 := hts (.static Lib.MathLoose.min_long.x) (by decide +kernel)
  have hw8 := hts (.code Lib.MathLoose.min_long.x Lib.MathLoose.min_long.code 4 (some .long)) (by decide +kernel)
  have hw9 := hts (.constantLong RX4 36 (2)) (by decide +kernel)
  have hw10 := hts (.fieldLink RX4 19 "TurnedFields$OnTimes" "over" "Z") (by decide +kernel)
  have hw11 := hts (.fieldLink RX4 7 "TurnedFields$OnTimes" "u" "J") (by decide +kernel)
  have hw12 := hts (.fieldLink RX4 13 "TurnedFields$OnTimes" "v" "J") (by decide +kernel)
  have hw13 := hts (.fieldLink RX4 16 "TurnedFields$OnTimes" "w" "J") (by decide +kernel)
  have hinX4 : ∀ w ∈ wsX40, w ∈ wsX4_lead := by decide +kernel
  refine lv_lload_n hx hb dX4_lead_0 rfl (lv_at hl 2 rfl) ?_
  refine lv_ldc2 hx hb hown hw0 dX4_lead_1 ?_
  refine lv_lmul hx hb dX4_lead_4 ?_
  refine lv_lload_n hx hb dX4_lead_5 rfl (lv_at hl 1 rfl) ?_
  refine lv_ldc2 hx hb hown hw1 dX4_lead_6 ?_
  refine lv_lmul hx hb dX4_lead_9 ?_
  refine lv_lsub hx hb dX4_lead_10 ?_
  refine lv_bipush (v := 16) hx hb dX4_lead_11 (by decide) ?_
  refine lv_lshr hx hb dX4_lead_13 (mw_sh _ _ 16 (by decide)) ?_
  refine lv_topl (fun v1 ev1 => ?_)
  refine lv_lstore (lv' := [(7, .long v1), (0, .ref h0), (1, .long p0), (3, .long p1), (5, .long p2)]) hx hb dX4_lead_14 hl (by decide) rfl (fun ls hl => ?_)
  refine lv_lload_n hx hb dX4_lead_16 rfl (lv_at hl 2 rfl) ?_
  refine lv_lneg hx hb dX4_lead_17 ?_
  refine lv_lload hx hb dX4_lead_18 (lv_at hl 0 rfl) ?_
  refine lv_lsub hx hb dX4_lead_20 ?_
  refine lv_topl (fun v2 ev2 => ?_)
  refine lv_lstore (lv' := [(9, .long v2), (7, .long v1), (0, .ref h0), (1, .long p0), (3, .long p1), (5, .long p2)]) hx hb dX4_lead_21 hl (by decide) rfl (fun ls hl => ?_)
  refine lv_lload_n hx hb dX4_lead_23 rfl (lv_at hl 3 rfl) ?_
  refine lv_lload hx hb dX4_lead_24 (lv_at hl 1 rfl) ?_
  refine lv_lload hx hb dX4_lead_26 (lv_at hl 0 rfl) ?_
  refine va_mmax_long hx hb (hml.trans hl.1.symm) hown hw2 hw3 hw4 hw5 (Nat.le_of_ble_eq_true rfl) (Nat.le_of_ble_eq_true rfl) (Nat.le_of_ble_eq_true rfl) (Nat.le_of_ble_eq_true rfl) dX4_lead_28 ?_
  refine lv_topl (fun v3 ev3 => ?_)
  refine va_mmax_long hx hb (hml.trans hl.1.symm) hown hw2 hw3 hw4 hw5 (Nat.le_of_ble_eq_true rfl) (Nat.le_of_ble_eq_true rfl) (Nat.le_of_ble_eq_true rfl) (Nat.le_of_ble_eq_true rfl) dX4_lead_31 ?_
  refine lv_topl (fun v4 ev4 => ?_)
  refine lv_lstore (lv' := [(11, .long v4), (9, .long v2), (7, .long v1), (0, .ref h0), (1, .long p0), (3, .long p1), (5, .long p2)]) hx hb dX4_lead_34 hl (by decide) rfl (fun ls hl => ?_)
  refine lv_lload_n hx hb dX4_lead_36 rfl (lv_at hl 4 rfl) ?_
  refine lv_lload hx hb dX4_lead_37 (lv_at hl 2 rfl) ?_
  refine lv_lload hx hb dX4_lead_39 (lv_at hl 1 rfl) ?_
  refine va_mmin_long hx hb (hml.trans hl.1.symm) hown hw6 hw7 hw4 hw8 (Nat.le_of_ble_eq_true rfl) (Nat.le_of_ble_eq_true rfl) (Nat.le_of_ble_eq_true rfl) (Nat.le_of_ble_eq_true rfl) dX4_lead_41 ?_
  refine lv_topl (fun v5 ev5 => ?_)
  refine va_mmin_long hx hb (hml.trans hl.1.symm) hown hw6 hw7 hw4 hw8 (Nat.le_of_ble_eq_true rfl) (Nat.le_of_ble_eq_true rfl) (Nat.le_of_ble_eq_true rfl) (Nat.le_of_ble_eq_true rfl) dX4_lead_44 ?_
  refine lv_topl (fun v6 ev6 => ?_)
  refine lv_lstore (lv' := [(13, .long v6), (11, .long v4), (9, .long v2), (7, .long v1), (0, .ref h0), (1, .long p0), (3, .long p1), (5, .long p2)]) hx hb dX4_lead_47 hl (by decide) rfl (fun ls hl => ?_)
  refine lv_lload hx hb dX4_lead_49 (lv_at hl 1 rfl) ?_
  refine lv_lload hx hb dX4_lead_51 (lv_at hl 0 rfl) ?_
  refine lv_ladd hx hb dX4_lead_53 ?_
  refine lv_ldc2 hx hb hown hw9 dX4_lead_54 ?_
  refine lv_ldiv hx hb dX4_lead_57 (by decide) ?_
  refine lv_topl (fun v7 ev7 => ?_)
  refine lv_lstore (lv' := [(15, .long v7), (13, .long v6), (11, .long v4), (9, .long v2), (7, .long v1), (0, .ref h0), (1, .long p0), (3, .long p1), (5, .long p2)]) hx hb dX4_lead_58 hl (by decide) rfl (fun ls hl => ?_)
  refine lv_aload_n hx hb dX4_lead_60 rfl (lv_at hl 5 rfl) ?_
  refine lv_iconst (v := 0) hx hb dX4_lead_61 (by decide) ?_
  refine va_put (D := (dC, dI)) (ci := 3) (v := .int (0 : Int32)) (ty := .boolean) (C := RX4) (T := TX4) (N := 4) hx hb hts hinX4 tyX4 tyX4_ok nmX4 hown hK hP hD hS 0 rfl rfl 3 (by decide) hw10 (fun _ h9 => h9) rfl (by decide +kernel) rfl rfl (Nat.le_of_ble_eq_true rfl) dX4_lead_62 (fun H locs hP hD hS => ?_)
  have hP : va_P (dC, dI) vwCl [(h0, .inr (3, [.long f_u, .long f_v, .long f_w, .int (0 : Int32)]))] H := hP
  have hD : va_D A [(h0, .inr (3, [.long f_u, .long f_v, .long f_w, .int (0 : Int32)]))] := hD
  refine lv_aload_n hx hb dX4_lead_65 rfl (lv_at hl 5 rfl) ?_
  refine lv_aload_n hx hb dX4_lead_66 rfl (lv_at hl 5 rfl) ?_
  refine lv_lload_n hx hb dX4_lead_67 rfl (lv_at hl 6 rfl) ?_
  refine lv_lload hx hb dX4_lead_68 (lv_at hl 0 rfl) ?_
  refine lv_lsub hx hb dX4_lead_70 ?_
  refine lv_lload hx hb dX4_lead_71 (lv_at hl 8 rfl) ?_
  refine mw_calll (wc := [(h0, .inr (3, [.long f_u, .long f_v, .long f_w, .int (0 : Int32)]))]) (wr := []) (w1 := fun (u : Int32) => [(h0, .inr (3, [.long f_u, .long f_v, .long f_w, .int u]))]) (tyc := fun (u : Int32) => []) hP hD hS hA [0] [] rfl rfl (by decide) (by decide) (va_runV (As := [.long (p0 - v7), .long p2]) (rest := [.ref h0]) ⟨hx, hb, hml, hown, hts⟩ (c_X4_onTime l dC dI h0 f_u f_v f_w (0 : Int32) (p0 - v7) p2 H.size ) (cwV 2 hts gX4_lead_X4_onTime rfl rfl rfl (by decide +kernel) ⟨(Nat.le_of_ble_eq_true rfl), (Nat.le_of_ble_eq_true rfl)⟩) (mw_preV (va_recv hK hP (ci := 3) (q0 := 0) rfl rfl) (hP.sub (ws' := [(h0, .inr (3, [.long f_u, .long f_v, .long f_w, .int (0 : Int32)]))]) [0] rfl) (hD.sub (ws' := [(h0, .inr (3, [.long f_u, .long f_v, .long f_w, .int (0 : Int32)]))]) [0] (by decide) rfl) (hK.sub (tys' := []) [] rfl) hN) rfl rfl hl.1 rfl (lv_room (Nat.le_of_ble_eq_true rfl)) dX4_lead_73 ⟨(Nat.le_of_ble_eq_true rfl), (Nat.le_of_ble_eq_true rfl)⟩) (fun r9 u H locs hw_10 hP hD hS hK1 => ?_)
  obtain ⟨o8, rfl⟩ : ∃ z, z = u := ⟨_, rfl⟩
  have hw_10 : R_X4_onTime (0 : Int32) (p0 - v7) p2 r9 o8 := hw_10
  have hP : va_P (dC, dI) vwCl [(h0, .inr (3, [.long f_u, .long f_v, .long f_w, .int o8]))] H := hP
  have hD : va_D A [(h0, .inr (3, [.long f_u, .long f_v, .long f_w, .int o8]))] := hD
  refine va_put (D := (dC, dI)) (ci := 3) (v := .long r9) (ty := .long) (C := RX4) (T := TX4) (N := 4) hx hb hts hinX4 tyX4 tyX4_ok nmX4 hown hK hP hD hS 0 rfl rfl 0 (by decide) hw11 (fun _ h9 => h9) rfl (by decide +kernel) rfl rfl (Nat.le_of_ble_eq_true rfl) dX4_lead_76 (fun H locs hP hD hS => ?_)
  have hP : va_P (dC, dI) vwCl [(h0, .inr (3, [.long r9, .long f_v, .long f_w, .int o8]))] H := hP
  have hD : va_D A [(h0, .inr (3, [.long r9, .long f_v, .long f_w, .int o8]))] := hD
  refine lv_aload_n hx hb dX4_lead_79 rfl (lv_at hl 5 rfl) ?_
  refine lv_aload_n hx hb dX4_lead_80 rfl (lv_at hl 5 rfl) ?_
  refine lv_lload hx hb dX4_lead_81 (lv_at hl 4 rfl) ?_
  refine lv_lload hx hb dX4_lead_83 (lv_at hl 0 rfl) ?_
  refine lv_lsub hx hb dX4_lead_85 ?_
  refine lv_lload hx hb dX4_lead_86 (lv_at hl 8 rfl) ?_
  refine mw_calll (wc := [(h0, .inr (3, [.long r9, .long f_v, .long f_w, .int o8]))]) (wr := []) (w1 := fun (u : Int32) => [(h0, .inr (3, [.long r9, .long f_v, .long f_w, .int u]))]) (tyc := fun (u : Int32) => []) hP hD hS hA [0] [] rfl rfl (by decide) (by decide) (va_runV (As := [.long (v1 - v7), .long p2]) (rest := [.ref h0]) ⟨hx, hb, hml, hown, hts⟩ (c_X4_onTime l dC dI h0 r9 f_v f_w o8 (v1 - v7) p2 H.size ) (cwV 2 hts gX4_lead_X4_onTime rfl rfl rfl (by decide +kernel) ⟨(Nat.le_of_ble_eq_true rfl), (Nat.le_of_ble_eq_true rfl)⟩) (mw_preV (va_recv hK hP (ci := 3) (q0 := 0) rfl rfl) (hP.sub (ws' := [(h0, .inr (3, [.long r9, .long f_v, .long f_w, .int o8]))]) [0] rfl) (hD.sub (ws' := [(h0, .inr (3, [.long r9, .long f_v, .long f_w, .int o8]))]) [0] (by decide) rfl) (hK.sub (tys' := []) [] rfl) hN) rfl rfl hl.1 rfl (lv_room (Nat.le_of_ble_eq_true rfl)) dX4_lead_88 ⟨(Nat.le_of_ble_eq_true rfl), (Nat.le_of_ble_eq_true rfl)⟩) (fun r12 u H locs hw_13 hP hD hS hK1 => ?_)
  obtain ⟨o11, rfl⟩ : ∃ z, z = u := ⟨_, rfl⟩
  have hw_13 : R_X4_onTime o8 (v1 - v7) p2 r12 o11 := hw_13
  have hP : va_P (dC, dI) vwCl [(h0, .inr (3, [.long r9, .long f_v, .long f_w, .int o11]))] H := hP
  have hD : va_D A [(h0, .inr (3, [.long r9, .long f_v, .long f_w, .int o11]))] := hD
  refine va_put (D := (dC, dI)) (ci := 3) (v := .long r12) (ty := .long) (C := RX4) (T := TX4) (N := 4) hx hb hts hinX4 tyX4 tyX4_ok nmX4 hown hK hP hD hS 0 rfl rfl 1 (by decide) hw12 (fun _ h9 => h9) rfl (by decide +kernel) rfl rfl (Nat.le_of_ble_eq_true rfl) dX4_lead_91 (fun H locs hP hD hS => ?_)
  have hP : va_P (dC, dI) vwCl [(h0, .inr (3, [.long r9, .long r12, .long f_w, .int o11]))] H := hP
  have hD : va_D A [(h0, .inr (3, [.long r9, .long r12, .long f_w, .int o11]))] := hD
  refine lv_aload_n hx hb dX4_lead_94 rfl (lv_at hl 5 rfl) ?_
  refine lv_aload_n hx hb dX4_lead_95 rfl (lv_at hl 5 rfl) ?_
  refine lv_lload hx hb dX4_lead_96 (lv_at hl 3 rfl) ?_
  refine lv_lload hx hb dX4_lead_98 (lv_at hl 0 rfl) ?_
  refine lv_lsub hx hb dX4_lead_100 ?_
  refine lv_lload hx hb dX4_lead_101 (lv_at hl 8 rfl) ?_
  refine mw_calll (wc := [(h0, .inr (3, [.long r9, .long r12, .long f_w, .int o11]))]) (wr := []) (w1 := fun (u : Int32) => [(h0, .inr (3, [.long r9, .long r12, .long f_w, .int u]))]) (tyc := fun (u : Int32) => []) hP hD hS hA [0] [] rfl rfl (by decide) (by decide) (va_runV (As := [.long (v2 - v7), .long p2]) (rest := [.ref h0]) ⟨hx, hb, hml, hown, hts⟩ (c_X4_onTime l dC dI h0 r9 r12 f_w o11 (v2 - v7) p2 H.size ) (cwV 2 hts gX4_lead_X4_onTime rfl rfl rfl (by decide +kernel) ⟨(Nat.le_of_ble_eq_true rfl), (Nat.le_of_ble_eq_true rfl)⟩) (mw_preV (va_recv hK hP (ci := 3) (q0 := 0) rfl rfl) (hP.sub (ws' := [(h0, .inr (3, [.long r9, .long r12, .long f_w, .int o11]))]) [0] rfl) (hD.sub (ws' := [(h0, .inr (3, [.long r9, .long r12, .long f_w, .int o11]))]) [0] (by decide) rfl) (hK.sub (tys' := []) [] rfl) hN) rfl rfl hl.1 rfl (lv_room (Nat.le_of_ble_eq_true rfl)) dX4_lead_103 ⟨(Nat.le_of_ble_eq_true rfl), (Nat.le_of_ble_eq_true rfl)⟩) (fun r15 u H locs hw_16 hP hD hS hK1 => ?_)
  obtain ⟨o14, rfl⟩ : ∃ z, z = u := ⟨_, rfl⟩
  have hw_16 : R_X4_onTime o11 (v2 - v7) p2 r15 o14 := hw_16
  have hP : va_P (dC, dI) vwCl [(h0, .inr (3, [.long r9, .long r12, .long f_w, .int o14]))] H := hP
  have hD : va_D A [(h0, .inr (3, [.long r9, .long r12, .long f_w, .int o14]))] := hD
  refine va_put (D := (dC, dI)) (ci := 3) (v := .long r15) (ty := .long) (C := RX4) (T := TX4) (N := 4) hx hb hts hinX4 tyX4 tyX4_ok nmX4 hown hK hP hD hS 0 rfl rfl 2 (by decide) hw13 (fun _ h9 => h9) rfl (by decide +kernel) rfl rfl (Nat.le_of_ble_eq_true rfl) dX4_lead_106 (fun H locs hP hD hS => ?_)
  have hP : va_P (dC, dI) vwCl [(h0, .inr (3, [.long r9, .long r12, .long r15, .int o14]))] H := hP
  have hD : va_D A [(h0, .inr (3, [.long r9, .long r12, .long r15, .int o14]))] := hD
  have hP9 := hP.sub (ws' := [(h0, .inr (3, [.long r9, .long r12, .long r15, .int o14]))]) [0] rfl
  have hD9 := hD.sub (ws' := [(h0, .inr (3, [.long r9, .long r12, .long r15, .int o14]))]) [0] (by decide) rfl
  have hK9 := hK.sub (tys' := []) [] rfl
  exact W.vret hx hb hr (fun t ht hW => ⟨⟨(r9, r12, r15, o14), rfl, ⟨v1, ev1, ⟨v2, ev2, ⟨v3, ev3, ⟨v4, ev4, ⟨v5, ev5, ⟨v6, ev6, ⟨v7, ev7, ⟨r9, o8, hw_10, ⟨r12, o11, hw_13, ⟨r15, o14, hw_16, ⟨rfl, rfl, rfl, rfl⟩⟩⟩⟩⟩⟩⟩⟩⟩⟩⟩, (by rw [ht]; exact hP9), va_K.moved hW.alike hK9, hD9⟩, hS.F ht⟩) hS.2.2 dX4_lead_109
def R_X0_note (f_next : Int32) (f_held : Int32) (fn_rows : Nat → Int32) (p0 : Int32) (p1 : Int32) (p2 : Int32) (u_0_next : Int32) (u_0_held : Int32) (u_1_fn : Nat → Int32) : Prop := ∃ (r1 : Int32), R_J9_floorMod_7cf53 f_next (20 : Int32) r1 ∧ (∃ v3 : Int32, v3 = (r1 * (3 : Int32)) ∧ (∃ g4 : Nat → Int32, g4 = upd fn_rows v3.toNatClampNeg p0 ∧ (∃ g5 : Nat → Int32, g5 = upd g4 (v3 + (1 : Int32)).toNatClampNeg p1 ∧ (∃ g6 : Nat → Int32, g6 = upd g5 (v3 + (2 : Int32)).toNatClampNeg p2 ∧ (∃ v7 : Int32, v7 = ((f_next + (1 : Int32)) - (f_next + (1 : Int32)) / (20 : Int32) * (20 : Int32)) ∧ (∃ v8 : Int32, v8 = (if (f_held + (1 : Int32)) < (20 : Int32) then (f_held + (1 : Int32)) else (20 : Int32)) ∧ (u_0_next = v7 ∧ u_0_held = v8 ∧ u_1_fn = g6)))))))
set_option maxHeartbeats 4000000 in
set_option maxRecDepth 100000 in
theorem c_X0_note (l : Launch) (dC : Nat → ClassId) (dI : Nat → Nat → Nat) (h0 : Nat) (a_rows : Nat) (f_next : Int32) (f_held : Int32) (ca_rows : ClassId) (fn_rows : Nat → Int32) (p0 : Int32) (p1 : Int32) (p2 : Int32) (sz : Nat)  : Met l yX0_note wsX0_note ({ frames := 1, cells := 0, slots := 0, locals := 22 }) (va_Pc [.ref h0, .int p0, .int p1, .int p2] (mw_pre (dC, dI) vwCl [(h0, .inr (0, [.ref a_rows, .int f_next, .int f_held])), (a_rows, .inl (ca_rows, 60, .inl fn_rows))] [(ca_rows, .int)] sz)) (va_Qv (fun (u : Int32 × Int32 × (Nat → Int32)) => R_X0_note f_next f_held fn_rows p0 p1 p2 u.1 u.2.1 u.2.2) (fun u t => mw_at (dC, dI) vwCl [(h0, .inr (0, [.ref a_rows, .int u.1, .int u.2.1])), (a_rows, .inl (ca_rows, 60, .inl u.2.2))] [(ca_rows, .int)] (va_A [(h0, .inr (0, [.ref a_rows, .int f_next, .int f_held])), (a_rows, .inl (ca_rows, 60, .inl fn_rows))] sz) t) (va_A [(h0, .inr (0, [.ref a_rows, .int f_next, .int f_held])), (a_rows, .inl (ca_rows, 60, .inl fn_rows))] sz)) 0 0 (va_A [(h0, .inr (0, [.ref a_rows, .int f_next, .int f_held])), (a_rows, .inl (ca_rows, 60, .inl fn_rows))] sz) := by
  refine Met.ofW (cc := cX0_note) (maxL := 5) (ret := none) (by decide) rfl ?_
  intro p e s m args below meth c s₁ B hml hv
  obtain ⟨rfl, hsz, hP, hK, hD0, hN⟩ := hv
  have hx := B.exec
  have hb := B.bytes
  have hr := B.returns
  have hts := atoms_spec (ws := wsX0_note) B.pre
  have hown : s.vm.findClass RX0 = some m.cls := findClass_of_methodNamed B.named
  have hlocks := B.notSynchronized
  subst hsz
  have hD := hD0.self (sz := s.heap.size)
  generalize hAe : va_A [(h0, .inr (0, [.ref a_rows, .int f_next, .int f_held])), (a_rows, .inl (ca_rows, 60, .inl fn_rows))] s.heap.size = A at hD ⊢
  have hA : ∀ q : Nat, s.heap.size ≤ q → A q := fun q h => by rw [← hAe]; exact Or.inr h
  have hS : va_S A s.heap s.heap [] := va_S.rf
  have hP : va_P (dC, dI) vwCl [(h0, .inr (0, [.ref a_rows, .int f_next, .int f_held])), (a_rows, .inl (ca_rows, 60, .inl fn_rows))] s.heap := hP
  have hl := lv_entry ([.ref h0, .int p0, .int p1, .int p2]) (n := 5) (Nat.le_of_ble_eq_true rfl)
  rw [lg_entry_eq]
  generalize (lg_sl ([.ref h0, .int p0, .int p1, .int p2]) ++ List.replicate (5 - (lg_sl ([.ref h0, .int p0, .int p1, .int p2])).length) Slot.unset).toArray = ls at hl ⊢
  have hl : lv_has ls 5 [(0, .ref h0), (1, .int p0), (2, .int p1), (3, .int p2)] := hl
  have hw0 := hts (.fieldLink RX0 15 "TurnedFields$Changes" "next" "I") (by decide +kernel)
  have hw1 := hts (.fieldLink RX0 11 "TurnedFields$Changes" "rows" "[I") (by decide +kernel)
  have hw2 := hts (.fieldLink RX0 19 "TurnedFields$Changes" "held" "I") (by decide +kernel)
  have hw3 := hts (.methodLink RX0 28 Lib.Math.min.name) (by decide +kernel)
  have hw4 := hts (.static Lib.Math.min.name) (by decide +kernel)
  have hw5 := hts (.initialized "java/lang/Math") (by decide +kernel)
  have hw6 := hts (.code Lib.Math.min.name Lib.Math.min.code 2 (some .int)) (by decide +kernel)
  have hinX0 : ∀ w ∈ wsX00, w ∈ wsX0_note := by decide +kernel
  refine lv_aload_n hx hb dX0_note_0 rfl (lv_at hl 0 rfl) ?_
  refine va_get (D := (dC, dI)) (ci := 0) (v := .int f_next) (C := RX0) (T := TX0) (N := 3) hx hb hts hinX0 hown hK hP 0 rfl rfl 1 (by decide) hw0 (fun _ h9 => h9) rfl dX0_note_1 ?_
  refine lv_bipush (v := 20) hx hb dX0_note_4 (by decide) ?_
  refine mw_calli (wc := []) (wr := [(h0, .inr (0, [.ref a_rows, .int f_next, .int f_held])), (a_rows, .inl (ca_rows, 60, .inl fn_rows))]) (w1 := fun (u : Unit) => []) (tyc := fun (u : Unit) => []) hP hD hS hA [] [0, 1] rfl rfl (by decide) (by decide) (va_runS (As := [.int f_next, .int (20 : Int32)]) (rest := []) ⟨hx, hb, hml, hown, hts⟩ (c_J9_floorMod_7cf53 l dC dI f_next (20 : Int32) s.heap.size (by first | assumption | decide | (unfold vp_in; decide))) (va_cwS 2 hts gX0_note_J9_floorMod_7cf53 rfl rfl rfl (by decide +kernel) ⟨(Nat.le_of_ble_eq_true rfl), (Nat.le_of_ble_eq_true rfl)⟩) (mw_preS (hP.sub (ws' := []) [] rfl) (hD.sub (ws' := []) [] (by decide) rfl) (hK.sub (tys' := []) [] rfl) hN) rfl rfl hl.1 rfl (lv_room (Nat.le_of_ble_eq_true rfl)) dX0_note_6 ⟨(Nat.le_of_ble_eq_true rfl), (Nat.le_of_ble_eq_true rfl)⟩) (fun r1 u H locs hw_2 hP hD hS hK1 => ?_)
  have hw_2 : R_J9_floorMod_7cf53 f_next (20 : Int32) r1 := hw_2
  have hP : va_P (dC, dI) vwCl [(h0, .inr (0, [.ref a_rows, .int f_next, .int f_held])), (a_rows, .inl (ca_rows, 60, .inl fn_rows))] H := hP
  have hD : va_D A [(h0, .inr (0, [.ref a_rows, .int f_next, .int f_held])), (a_rows, .inl (ca_rows, 60, .inl fn_rows))] := hD
  refine lv_iconst (v := 3) hx hb dX0_note_9 (by decide) ?_
  refine lv_imul hx hb dX0_note_10 ?_
  refine lv_topi (fun v3 ev3 => ?_)
  refine lv_istore (lv' := [(4, .int v3), (0, .ref h0), (1, .int p0), (2, .int p1), (3, .int p2)]) hx hb dX0_note_11 hl (by decide) rfl (fun ls hl => ?_)
  refine lv_aload_n hx hb dX0_note_13 rfl (lv_at hl 1 rfl) ?_
  refine va_get (D := (dC, dI)) (ci := 0) (v := .ref a_rows) (C := RX0) (T := TX0) (N := 3) hx hb hts hinX0 hown hK hP 0 rfl rfl 0 (by decide) hw1 (fun _ h9 => h9) rfl dX0_note_14 ?_
  refine lv_iload hx hb dX0_note_17 (lv_at hl 0 rfl) ?_
  refine lv_iload_n hx hb dX0_note_19 rfl (lv_at hl 2 rfl) ?_
  refine va_iast hx hb hK hP hD hS 1 0 rfl rfl (ar_ix hw_2 ev3).1 dX0_note_20 (fun H locs hP hD hS => ?_)
  obtain ⟨g4, eg4⟩ : ∃ g : Nat → Int32, g = upd fn_rows v3.toNatClampNeg p0 := ⟨_, rfl⟩
  have hP : va_P (dC, dI) vwCl [(h0, .inr (0, [.ref a_rows, .int f_next, .int f_held])), (a_rows, .inl (ca_rows, 60, .inl g4))] H := by rw [eg4]; exact hP
  have hD : va_D A [(h0, .inr (0, [.ref a_rows, .int f_next, .int f_held])), (a_rows, .inl (ca_rows, 60, .inl g4))] := by rw [eg4]; exact hD
  refine lv_aload_n hx hb dX0_note_21 rfl (lv_at hl 1 rfl) ?_
  refine va_get (D := (dC, dI)) (ci := 0) (v := .ref a_rows) (C := RX0) (T := TX0) (N := 3) hx hb hts hinX0 hown hK hP 0 rfl rfl 0 (by decide) hw1 (fun _ h9 => h9) rfl dX0_note_22 ?_
  refine lv_iload hx hb dX0_note_25 (lv_at hl 0 rfl) ?_
  refine lv_iconst (v := 1) hx hb dX0_note_27 (by decide) ?_
  refine lv_iadd hx hb dX0_note_28 ?_
  refine lv_iload_n hx hb dX0_note_29 rfl (lv_at hl 3 rfl) ?_
  refine va_iast hx hb hK hP hD hS 1 0 rfl rfl (ar_ix hw_2 ev3).2.1 dX0_note_30 (fun H locs hP hD hS => ?_)
  obtain ⟨g5, eg5⟩ : ∃ g : Nat → Int32, g = upd g4 (v3 + (1 : Int32)).toNatClampNeg p1 := ⟨_, rfl⟩
  have hP : va_P (dC, dI) vwCl [(h0, .inr (0, [.ref a_rows, .int f_next, .int f_held])), (a_rows, .inl (ca_rows, 60, .inl g5))] H := by rw [eg5]; exact hP
  have hD : va_D A [(h0, .inr (0, [.ref a_rows, .int f_next, .int f_held])), (a_rows, .inl (ca_rows, 60, .inl g5))] := by rw [eg5]; exact hD
  refine lv_aload_n hx hb dX0_note_31 rfl (lv_at hl 1 rfl) ?_
  refine va_get (D := (dC, dI)) (ci := 0) (v := .ref a_rows) (C := RX0) (T := TX0) (N := 3) hx hb hts hinX0 hown hK hP 0 rfl rfl 0 (by decide) hw1 (fun _ h9 => h9) rfl dX0_note_32 ?_
  refine lv_iload hx hb dX0_note_35 (lv_at hl 0 rfl) ?_
  refine lv_iconst (v := 2) hx hb dX0_note_37 (by decide) ?_
  refine lv_iadd hx hb dX0_note_38 ?_
  refine lv_iload_n hx hb dX0_note_39 rfl (lv_at hl 4 rfl) ?_
  refine va_iast hx hb hK hP hD hS 1 0 rfl rfl (ar_ix hw_2 ev3).2.2 dX0_note_40 (fun H locs hP hD hS => ?_)
  obtain ⟨g6, eg6⟩ : ∃ g : Nat → Int32, g = upd g5 (v3 + (2 : Int32)).toNatClampNeg p2 := ⟨_, rfl⟩
  have hP : va_P (dC, dI) vwCl [(h0, .inr (0, [.ref a_rows, .int f_next, .int f_held])), (a_rows, .inl (ca_rows, 60, .inl g6))] H := by rw [eg6]; exact hP
  have hD : va_D A [(h0, .inr (0, [.ref a_rows, .int f_next, .int f_held])), (a_rows, .inl (ca_rows, 60, .inl g6))] := by rw [eg6]; exact hD
  refine lv_aload_n hx hb dX0_note_41 rfl (lv_at hl 1 rfl) ?_
  refine lv_aload_n hx hb dX0_note_42 rfl (lv_at hl 1 rfl) ?_
  refine va_get (D := (dC, dI)) (ci := 0) (v := .int f_next) (C := RX0) (T := TX0) (N := 3) hx hb hts hinX0 hown hK hP 0 rfl rfl 1 (by decide) hw0 (fun _ h9 => h9) rfl dX0_note_43 ?_
  refine lv_iconst (v := 1) hx hb dX0_note_46 (by decide) ?_
  refine lv_iadd hx hb dX0_note_47 ?_
  refine lv_bipush (v := 20) hx hb dX0_note_48 (by decide) ?_
  refine lv_irem hx hb dX0_note_50 (by decide) ?_
  refine lv_topi (fun v7 ev7 => ?_)
  refine va_put (D := (dC, dI)) (ci := 0) (v := .int v7) (ty := .int) (C := RX0) (T := TX0) (N := 3) hx hb hts hinX0 tyX0 tyX0_ok nmX0 hown hK hP hD hS 0 rfl rfl 1 (by decide) hw0 (fun _ h9 => h9) rfl (by decide +kernel) rfl rfl (Nat.le_of_ble_eq_true rfl) dX0_note_51 (fun H locs hP hD hS => ?_)
  have hP : va_P (dC, dI) vwCl [(h0, .inr (0, [.ref a_rows, .int v7, .int f_held])), (a_rows, .inl (ca_rows, 60, .inl g6))] H := hP
  have hD : va_D A [(h0, .inr (0, [.ref a_rows, .int v7, .int f_held])), (a_rows, .inl (ca_rows, 60, .inl g6))] := hD
  refine lv_aload_n hx hb dX0_note_54 rfl (lv_at hl 1 rfl) ?_
  refine lv_bipush (v := 20) hx hb dX0_note_55 (by decide) ?_
  refine lv_aload_n hx hb dX0_note_57 rfl (lv_at hl 1 rfl) ?_
  refine va_get (D := (dC, dI)) (ci := 0) (v := .int f_held) (C := RX0) (T := TX0) (N := 3) hx hb hts hinX0 hown hK hP 0 rfl rfl 2 (by decide) hw2 (fun _ h9 => h9) rfl dX0_note_58 ?_
  refine lv_iconst (v := 1) hx hb dX0_note_61 (by decide) ?_
  refine lv_iadd hx hb dX0_note_62 ?_
  refine va_mmin hx hb (hml.trans hl.1.symm) hown hw3 hw4 hw5 hw6 (Nat.le_of_ble_eq_true rfl) (Nat.le_of_ble_eq_true rfl) (Nat.le_of_ble_eq_true rfl) (Nat.le_of_ble_eq_true rfl) dX0_note_63 ?_
  refine lv_topi (fun v8 ev8 => ?_)
  refine va_put (D := (dC, dI)) (ci := 0) (v := .int v8) (ty := .int) (C := RX0) (T := TX0) (N := 3) hx hb hts hinX0 tyX0 tyX0_ok nmX0 hown hK hP hD hS 0 rfl rfl 2 (by decide) hw2 (fun _ h9 => h9) rfl (by decide +kernel) rfl rfl (Nat.le_of_ble_eq_true rfl) dX0_note_66 (fun H locs hP hD hS => ?_)
  have hP : va_P (dC, dI) vwCl [(h0, .inr (0, [.ref a_rows, .int v7, .int v8])), (a_rows, .inl (ca_rows, 60, .inl g6))] H := hP
  have hD : va_D A [(h0, .inr (0, [.ref a_rows, .int v7, .int v8])), (a_rows, .inl (ca_rows, 60, .inl g6))] := hD
  have hP9 := hP.sub (ws' := [(h0, .inr (0, [.ref a_rows, .int v7, .int v8])), (a_rows, .inl (ca_rows, 60, .inl g6))]) [0, 1] rfl
  have hD9 := hD.sub (ws' := [(h0, .inr (0, [.ref a_rows, .int v7, .int v8])), (a_rows, .inl (ca_rows, 60, .inl g6))]) [0, 1] (by decide) rfl
  have hK9 := hK.sub (tys' := [(ca_rows, .int)]) [0] rfl
  exact W.vret hx hb hr (fun t ht hW => ⟨⟨(v7, v8, g6), rfl, ⟨r1, hw_2, ⟨v3, ev3, ⟨g4, eg4, ⟨g5, eg5, ⟨g6, eg6, ⟨v7, ev7, ⟨v8, ev8, ⟨rfl, rfl, rfl⟩⟩⟩⟩⟩⟩⟩⟩, (by rw [ht]; exact hP9), va_K.moved hW.alike hK9, hD9⟩, hS.F ht⟩) hS.2.2 dX0_note_69
def R_X0_latest (f_next : Int32) (f_held : Int32) (fn_rows : Nat → Int32) (p0 : Int32) (p1 : Int32) (r : Int32) : Prop := ∃ (r1 : Int32), R_X5_within p1 (0 : Int32) (2 : Int32) r1 ∧ ((r1 = (0 : Int32) → (r = (-1000001 : Int32))) ∧ (¬ (r1 = (0 : Int32)) → ((p0 < (0 : Int32) → (r = (-1 : Int32))) ∧ (¬ (p0 < (0 : Int32)) → ((p0 < f_held → (∃ (r6 : Int32), R_J9_floorMod_7cf53 ((f_next - (1 : Int32)) - p0) (20 : Int32) r6 ∧ (∃ v8 : Int32, v8 = fn_rows ((r6 * (3 : Int32)) + p1).toNatClampNeg ∧ (r = v8)))) ∧ (¬ (p0 < f_held) → (r = (-1 : Int32))))))))
set_option maxHeartbeats 4000000 in
set_option maxRecDepth 100000 in
theorem c_X0_latest (l : Launch) (dC : Nat → ClassId) (dI : Nat → Nat → Nat) (h0 : Nat) (a_rows : Nat) (f_next : Int32) (f_held : Int32) (ca_rows : ClassId) (fn_rows : Nat → Int32) (p0 : Int32) (p1 : Int32) (sz : Nat)  : Met l yX0_latest wsX0_latest ({ frames := 1, cells := 0, slots := 0, locals := 22 }) (va_Pc [.ref h0, .int p0, .int p1] (mw_pre (dC, dI) vwCl [(h0, .inr (0, [.ref a_rows, .int f_next, .int f_held])), (a_rows, .inl (ca_rows, 60, .inl fn_rows))] [(ca_rows, .int)] sz)) (va_Qi (fun (r : Int32) (u : Unit) => R_X0_latest f_next f_held fn_rows p0 p1 r) (fun u t => mw_at (dC, dI) vwCl [(h0, .inr (0, [.ref a_rows, .int f_next, .int f_held])), (a_rows, .inl (ca_rows, 60, .inl fn_rows))] [(ca_rows, .int)] (va_A [(h0, .inr (0, [.ref a_rows, .int f_next, .int f_held])), (a_rows, .inl (ca_rows, 60, .inl fn_rows))] sz) t) (va_A [(h0, .inr (0, [.ref a_rows, .int f_next, .int f_held])), (a_rows, .inl (ca_rows, 60, .inl fn_rows))] sz)) 0 0 (va_A [(h0, .inr (0, [.ref a_rows, .int f_next, .int f_held])), (a_rows, .inl (ca_rows, 60, .inl fn_rows))] sz) := by
  refine Met.ofW (cc := cX0_latest) (maxL := 3) (ret := (some .int)) (by decide) rfl ?_
  intro p e s m args below meth c s₁ B hml hv
  obtain ⟨rfl, hsz, hP, hK, hD0, hN⟩ := hv
  have hx := B.exec
  have hb := B.bytes
  have hr := B.returns
  have hts := atoms_spec (ws := wsX0_latest) B.pre
  have hown : s.vm.findClass RX0 = some m.cls := findClass_of_methodNamed B.named
  have hlocks := B.notSynchronized
  subst hsz
  have hD := hD0.self (sz := s.heap.size)
  generalize hAe : va_A [(h0, .inr (0, [.ref a_rows, .int f_next, .int f_held])), (a_rows, .inl (ca_rows, 60, .inl fn_rows))] s.heap.size = A at hD ⊢
  have hA : ∀ q : Nat, s.heap.size ≤ q → A q := fun q h => by rw [← hAe]; exact Or.inr h
  have hS : va_S A s.heap s.heap [] := va_S.rf
  have hP : va_P (dC, dI) vwCl [(h0, .inr (0, [.ref a_rows, .int f_next, .int f_held])), (a_rows, .inl (ca_rows, 60, .inl fn_rows))] s.heap := hP
  have hl := lv_entry ([.ref h0, .int p0, .int p1]) (n := 3) (Nat.le_of_ble_eq_true rfl)
  rw [lg_entry_eq]
  generalize (lg_sl ([.ref h0, .int p0, .int p1]) ++ List.replicate (3 - (lg_sl ([.ref h0, .int p0, .int p1])).length) Slot.unset).toArray = ls at hl ⊢
  have hl : lv_has ls 3 [(0, .ref h0), (1, .int p0), (2, .int p1)] := hl
  have hw0 := hts (.initialized RX5) (by decide +kernel)
  have hw1 := hts (.static yX5_within) (by decide +kernel)
  have hw2 := hts (.fieldLink RX0 19 "TurnedFields$Changes" "held" "I") (by decide +kernel)
  have hw3 := hts (.fieldLink RX0 11 "TurnedFields$Changes" "rows" "[I") (by decide +kernel)
  have hw4 := hts (.fieldLink RX0 15 "TurnedFields$Changes" "next" "I") (by decide +kernel)
  have hw5 := hts (.constant RX0 35 (-1000001)) (by decide +kernel)
  have hinX0 : ∀ w ∈ wsX00, w ∈ wsX0_latest := by decide +kernel
  refine lv_iload_n hx hb dX0_latest_0 rfl (lv_at hl 2 rfl) ?_
  refine lv_iconst (v := 0) hx hb dX0_latest_1 (by decide) ?_
  refine lv_iconst (v := 2) hx hb dX0_latest_2 (by decide) ?_
  refine mw_calli (wc := []) (wr := [(h0, .inr (0, [.ref a_rows, .int f_next, .int f_held])), (a_rows, .inl (ca_rows, 60, .inl fn_rows))]) (w1 := fun (u : Unit) => []) (tyc := fun (u : Unit) => []) hP hD hS hA [] [0, 1] rfl rfl (by decide) (by decide) (va_runSN (As := [.int p1, .int (0 : Int32), .int (2 : Int32)]) (rest := []) ⟨hx, hb, hml, hown, hts⟩ (c_X5_within l dC dI p1 (0 : Int32) (2 : Int32) s.heap.size ) ⟨va_cnB 3 hts gX0_latest_X5_within_n31 rfl rfl rfl (hN.at 8 rfl) hw0 (by decide +kernel) ⟨(Nat.le_of_ble_eq_true rfl), (Nat.le_of_ble_eq_true rfl)⟩, hw1, trivial⟩ (mw_preS (hP.sub (ws' := []) [] rfl) (hD.sub (ws' := []) [] (by decide) rfl) (hK.sub (tys' := []) [] rfl) hN) rfl rfl hl.1 rfl (lv_room (Nat.le_of_ble_eq_true rfl)) dX0_latest_3 ⟨(Nat.le_of_ble_eq_true rfl), (Nat.le_of_ble_eq_true rfl)⟩) (fun r1 u H locs hw_2 hP hD hS hK1 => ?_)
  have hw_2 : R_X5_within p1 (0 : Int32) (2 : Int32) r1 := hw_2
  have hP : va_P (dC, dI) vwCl [(h0, .inr (0, [.ref a_rows, .int f_next, .int f_held])), (a_rows, .inl (ca_rows, 60, .inl fn_rows))] H := hP
  have hD : va_D A [(h0, .inr (0, [.ref a_rows, .int f_next, .int f_held])), (a_rows, .inl (ca_rows, 60, .inl fn_rows))] := hD
  refine lv_if_ne (tgt := 12) hx hb dX0_latest_6 (by decide) (fun c3 => ?_) (fun c3 => ?_)
  · have c3 : ¬ (r1 = (0 : Int32)) := c3
    refine lv_iload_n hx hb dX0_latest_12 rfl (lv_at hl 1 rfl) ?_
    refine lv_if_lt (tgt := 24) hx hb dX0_latest_13 (by decide) (fun c4 => ?_) (fun c4 => ?_)
    · have c4 : p0 < (0 : Int32) := c4
      refine lv_iconst (v := -1) hx hb dX0_latest_24 (by decide) ?_
      have hP9 := hP.sub (ws' := [(h0, .inr (0, [.ref a_rows, .int f_next, .int f_held])), (a_rows, .inl (ca_rows, 60, .inl fn_rows))]) [0, 1] rfl
      have hD9 := hD.sub (ws' := [(h0, .inr (0, [.ref a_rows, .int f_next, .int f_held])), (a_rows, .inl (ca_rows, 60, .inl fn_rows))]) [0, 1] (by decide) rfl
      have hK9 := hK.sub (tys' := [(ca_rows, .int)]) [0] rfl
      exact W.iret (v := (-1 : Int32)) hx hb hr (fun t ht hW => ⟨⟨(-1 : Int32), (), rfl, ⟨r1, hw_2, ⟨fun hh => absurd hh c3, fun _ => ⟨fun _ => rfl, fun hh => absurd c4 hh⟩⟩⟩, (by rw [ht]; exact hP9), va_K.moved hW.alike hK9, hD9⟩, hS.F ht⟩) hS.2.2 dX0_latest_25
    · have c4 : ¬ (p0 < (0 : Int32)) := c4
      refine lv_iload_n hx hb dX0_latest_16 rfl (lv_at hl 1 rfl) ?_
      refine lv_aload_n hx hb dX0_latest_17 rfl (lv_at hl 0 rfl) ?_
      refine va_get (D := (dC, dI)) (ci := 0) (v := .int f_held) (C := RX0) (T := TX0) (N := 3) hx hb hts hinX0 hown hK hP 0 rfl rfl 2 (by decide) hw2 (fun _ h9 => h9) rfl dX0_latest_18 ?_
      refine lv_icmp_lt (tgt := 26) hx hb dX0_latest_21 (by decide) (fun c5 => ?_) (fun c5 => ?_)
      · refine lv_aload_n hx hb dX0_latest_26 rfl (lv_at hl 0 rfl) ?_
        refine va_get (D := (dC, dI)) (ci := 0) (v := .ref a_rows) (C := RX0) (T := TX0) (N := 3) hx hb hts hinX0 hown hK hP 0 rfl rfl 0 (by decide) hw3 (fun _ h9 => h9) rfl dX0_latest_27 ?_
        refine lv_aload_n hx hb dX0_latest_30 rfl (lv_at hl 0 rfl) ?_
        refine va_get (D := (dC, dI)) (ci := 0) (v := .int f_next) (C := RX0) (T := TX0) (N := 3) hx hb hts hinX0 hown hK hP 0 rfl rfl 1 (by decide) hw4 (fun _ h9 => h9) rfl dX0_latest_31 ?_
        refine lv_iconst (v := 1) hx hb dX0_latest_34 (by decide) ?_
        refine lv_isub hx hb dX0_latest_35 ?_
        refine lv_iload_n hx hb dX0_latest_36 rfl (lv_at hl 1 rfl) ?_
        refine lv_isub hx hb dX0_latest_37 ?_
        refine lv_bipush (v := 20) hx hb dX0_latest_38 (by decide) ?_
        refine mw_calli (wc := []) (wr := [(h0, .inr (0, [.ref a_rows, .int f_next, .int f_held])), (a_rows, .inl (ca_rows, 60, .inl fn_rows))]) (w1 := fun (u : Unit) => []) (tyc := fun (u : Unit) => []) hP hD hS hA [] [0, 1] rfl rfl (by decide) (by decide) (va_runS (As := [.int ((f_next - (1 : Int32)) - p0), .int (20 : Int32)]) (rest := [.ref a_rows]) ⟨hx, hb, hml, hown, hts⟩ (c_J9_floorMod_7cf53 l dC dI ((f_next - (1 : Int32)) - p0) (20 : Int32) H.size (by first | assumption | decide | (unfold vp_in; decide))) (va_cwS 2 hts gX0_latest_J9_floorMod_7cf53 rfl rfl rfl (by decide +kernel) ⟨(Nat.le_of_ble_eq_true rfl), (Nat.le_of_ble_eq_true rfl)⟩) (mw_preS (hP.sub (ws' := []) [] rfl) (hD.sub (ws' := []) [] (by decide) rfl) (hK.sub (tys' := []) [] rfl) hN) rfl rfl hl.1 rfl (lv_room (Nat.le_of_ble_eq_true rfl)) dX0_latest_40 ⟨(Nat.le_of_ble_eq_true rfl), (Nat.le_of_ble_eq_true rfl)⟩) (fun r6 u H locs hw_7 hP hD hS hK1 => ?_)
        have hw_7 : R_J9_floorMod_7cf53 ((f_next - (1 : Int32)) - p0) (20 : Int32) r6 := hw_7
        have hP : va_P (dC, dI) vwCl [(h0, .inr (0, [.ref a_rows, .int f_next, .int f_held])), (a_rows, .inl (ca_rows, 60, .inl fn_rows))] H := hP
        have hD : va_D A [(h0, .inr (0, [.ref a_rows, .int f_next, .int f_held])), (a_rows, .inl (ca_rows, 60, .inl fn_rows))] := hD
        refine lv_iconst (v := 3) hx hb dX0_latest_43 (by decide) ?_
        refine lv_imul hx hb dX0_latest_44 ?_
        refine lv_iload_n hx hb dX0_latest_45 rfl (lv_at hl 2 rfl) ?_
        refine lv_iadd hx hb dX0_latest_46 ?_
        refine va_iald hx hb hK hP 1 0 rfl rfl (ar_ix2 hw_7 (ar_within hw_2 c3)) dX0_latest_47 ?_
        refine lv_topi (fun v8 ev8 => ?_)
        have hP9 := hP.sub (ws' := [(h0, .inr (0, [.ref a_rows, .int f_next, .int f_held])), (a_rows, .inl (ca_rows, 60, .inl fn_rows))]) [0, 1] rfl
        have hD9 := hD.sub (ws' := [(h0, .inr (0, [.ref a_rows, .int f_next, .int f_held])), (a_rows, .inl (ca_rows, 60, .inl fn_rows))]) [0, 1] (by decide) rfl
        have hK9 := hK.sub (tys' := [(ca_rows, .int)]) [0] rfl
        exact W.iret (v := v8) hx hb hr (fun t ht hW => ⟨⟨v8, (), rfl, ⟨r1, hw_2, ⟨fun hh => absurd hh c3, fun _ => ⟨fun hh => absurd hh c4, fun _ => ⟨fun _ => ⟨r6, hw_7, ⟨v8, ev8, rfl⟩⟩, fun hh => absurd c5 hh⟩⟩⟩⟩, (by rw [ht]; exact hP9), va_K.moved hW.alike hK9, hD9⟩, hS.F ht⟩) hS.2.2 dX0_latest_48
      · refine lv_iconst (v := -1) hx hb dX0_latest_24 (by decide) ?_
        have hP9 := hP.sub (ws' := [(h0, .inr (0, [.ref a_rows, .int f_next, .int f_held])), (a_rows, .inl (ca_rows, 60, .inl fn_rows))]) [0, 1] rfl
        have hD9 := hD.sub (ws' := [(h0, .inr (0, [.ref a_rows, .int f_next, .int f_held])), (a_rows, .inl (ca_rows, 60, .inl fn_rows))]) [0, 1] (by decide) rfl
        have hK9 := hK.sub (tys' := [(ca_rows, .int)]) [0] rfl
        exact W.iret (v := (-1 : Int32)) hx hb hr (fun t ht hW => ⟨⟨(-1 : Int32), (), rfl, ⟨r1, hw_2, ⟨fun hh => absurd hh c3, fun _ => ⟨fun hh => absurd hh c4, fun _ => ⟨fun hh => absurd hh c5, fun _ => rfl⟩⟩⟩⟩, (by rw [ht]; exact hP9), va_K.moved hW.alike hK9, hD9⟩, hS.F ht⟩) hS.2.2 dX0_latest_25
  · have c3 : r1 = (0 : Int32) := c3
    refine lv_ldc hx hb hown hw5 dX0_latest_9 ?_
    have hP9 := hP.sub (ws' := [(h0, .inr (0, [.ref a_rows, .int f_next, .int f_held])), (a_rows, .inl (ca_rows, 60, .inl fn_rows))]) [0, 1] rfl
    have hD9 := hD.sub (ws' := [(h0, .inr (0, [.ref a_rows, .int f_next, .int f_held])), (a_rows, .inl (ca_rows, 60, .inl fn_rows))]) [0, 1] (by decide) rfl
    have hK9 := hK.sub (tys' := [(ca_rows, .int)]) [0] rfl
    exact W.iret (v := (-1000001 : Int32)) hx hb hr (fun t ht hW => ⟨⟨(-1000001 : Int32), (), rfl, ⟨r1, hw_2, ⟨fun _ => rfl, fun hh => absurd c3 hh⟩⟩, (by rw [ht]; exact hP9), va_K.moved hW.alike hK9, hD9⟩, hS.F ht⟩) hS.2.2 dX0_latest_11
