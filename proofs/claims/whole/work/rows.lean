section
-- ===== PART A: goes FIRST, ahead of the names: the tables' words, and 'selects' of the private methods out of them =====
/-- a private method of a class that the tables say can be made, by its rows of tables_1 -/
def lw_okq (q : MethodName × Nat) : Prop := (q.1.cls ≠ "java/lang/invoke/MethodHandle" ∧ q.1.cls ≠ "java/lang/invoke/VarHandle") ∧ Cond.instantiable q.1.cls q.2 ∈ tables_1 ∧ Cond.privateMethod q.1 ∈ tables_1 ∧ Cond.instanceMethod q.1 ∈ tables_1
theorem lw_p0 : lw_okq (⟨"TurnedFields$OnTimes", "onTime", "(JJ)J"⟩, 4) := ⟨⟨by decide +kernel, by decide +kernel⟩, List.mem_of_getElem? (i := 64) (by decide +kernel), List.mem_of_getElem? (i := 230) (by decide +kernel), List.mem_of_getElem? (i := 231) (by decide +kernel)⟩
theorem lw_p1 : lw_okq (⟨"TurnedFields", "mayOrder", "(I)Z"⟩, 16) := ⟨⟨by decide +kernel, by decide +kernel⟩, List.mem_of_getElem? (i := 11) (by decide +kernel), List.mem_of_getElem? (i := 257) (by decide +kernel), List.mem_of_getElem? (i := 258) (by decide +kernel)⟩
theorem lw_p2 : lw_okq (⟨"TurnedFields", "faultNow", "()I"⟩, 16) := ⟨⟨by decide +kernel, by decide +kernel⟩, List.mem_of_getElem? (i := 11) (by decide +kernel), List.mem_of_getElem? (i := 261) (by decide +kernel), List.mem_of_getElem? (i := 262) (by decide +kernel)⟩
theorem lw_p3 : lw_okq (⟨"TurnedFields", "changeTo", "(II)V"⟩, 16) := ⟨⟨by decide +kernel, by decide +kernel⟩, List.mem_of_getElem? (i := 11) (by decide +kernel), List.mem_of_getElem? (i := 270) (by decide +kernel), List.mem_of_getElem? (i := 271) (by decide +kernel)⟩
theorem lw_p4 : lw_okq (⟨"TurnedFields", "passBeat", "()V"⟩, 16) := ⟨⟨by decide +kernel, by decide +kernel⟩, List.mem_of_getElem? (i := 11) (by decide +kernel), List.mem_of_getElem? (i := 288) (by decide +kernel), List.mem_of_getElem? (i := 289) (by decide +kernel)⟩
theorem lw_p5 : lw_okq (⟨"TurnedFields", "stopAtFault", "()V"⟩, 16) := ⟨⟨by decide +kernel, by decide +kernel⟩, List.mem_of_getElem? (i := 11) (by decide +kernel), List.mem_of_getElem? (i := 292) (by decide +kernel), List.mem_of_getElem? (i := 293) (by decide +kernel)⟩
theorem lw_p6 : lw_okq (⟨"TurnedFields", "chooseVolts", "()V"⟩, 16) := ⟨⟨by decide +kernel, by decide +kernel⟩, List.mem_of_getElem? (i := 11) (by decide +kernel), List.mem_of_getElem? (i := 296) (by decide +kernel), List.mem_of_getElem? (i := 297) (by decide +kernel)⟩
theorem lw_p7 : lw_okq (⟨"TurnedFields", "followPace", "(J)V"⟩, 16) := ⟨⟨by decide +kernel, by decide +kernel⟩, List.mem_of_getElem? (i := 11) (by decide +kernel), List.mem_of_getElem? (i := 301) (by decide +kernel), List.mem_of_getElem? (i := 302) (by decide +kernel)⟩
theorem lw_p8 : lw_okq (⟨"TurnedFields", "wantedD", "()J"⟩, 16) := ⟨⟨by decide +kernel, by decide +kernel⟩, List.mem_of_getElem? (i := 11) (by decide +kernel), List.mem_of_getElem? (i := 321) (by decide +kernel), List.mem_of_getElem? (i := 322) (by decide +kernel)⟩
theorem lw_p9 : lw_okq (⟨"TurnedFields", "cutWires", "()V"⟩, 16) := ⟨⟨by decide +kernel, by decide +kernel⟩, List.mem_of_getElem? (i := 11) (by decide +kernel), List.mem_of_getElem? (i := 326) (by decide +kernel), List.mem_of_getElem? (i := 327) (by decide +kernel)⟩
theorem lw_p10 : lw_okq (⟨"TurnedFields", "leadWires", "()V"⟩, 16) := ⟨⟨by decide +kernel, by decide +kernel⟩, List.mem_of_getElem? (i := 11) (by decide +kernel), List.mem_of_getElem? (i := 330) (by decide +kernel), List.mem_of_getElem? (i := 331) (by decide +kernel)⟩
theorem lw_p11 : lw_okq (⟨"TurnedFields", "leaveState", "()V"⟩, 16) := ⟨⟨by decide +kernel, by decide +kernel⟩, List.mem_of_getElem? (i := 11) (by decide +kernel), List.mem_of_getElem? (i := 349) (by decide +kernel), List.mem_of_getElem? (i := 350) (by decide +kernel)⟩
theorem lw_p12 : lw_okq (⟨"TurnedFieldsModel", "findTimes", "(JJ)V"⟩, 25) := ⟨⟨by decide +kernel, by decide +kernel⟩, List.mem_of_getElem? (i := 384) (by decide +kernel), List.mem_of_getElem? (i := 517) (by decide +kernel), List.mem_of_getElem? (i := 518) (by decide +kernel)⟩
theorem lw_p13 : lw_okq (⟨"TurnedFieldsModel", "stepOf", "(JJJJJ)J"⟩, 25) := ⟨⟨by decide +kernel, by decide +kernel⟩, List.mem_of_getElem? (i := 384) (by decide +kernel), List.mem_of_getElem? (i := 548) (by decide +kernel), List.mem_of_getElem? (i := 549) (by decide +kernel)⟩
theorem lw_p14 : lw_okq (⟨"TurnedFieldsModel", "faultNow", "()I"⟩, 25) := ⟨⟨by decide +kernel, by decide +kernel⟩, List.mem_of_getElem? (i := 384) (by decide +kernel), List.mem_of_getElem? (i := 559) (by decide +kernel), List.mem_of_getElem? (i := 560) (by decide +kernel)⟩
theorem lw_p15 : lw_okq (⟨"TurnedFieldsModel", "become", "(III)V"⟩, 25) := ⟨⟨by decide +kernel, by decide +kernel⟩, List.mem_of_getElem? (i := 384) (by decide +kernel), List.mem_of_getElem? (i := 567) (by decide +kernel), List.mem_of_getElem? (i := 568) (by decide +kernel)⟩
def lw_privs_1 : List (MethodName × Nat) := [(⟨"TurnedFields$OnTimes", "onTime", "(JJ)J"⟩, 4), (⟨"TurnedFields", "mayOrder", "(I)Z"⟩, 16), (⟨"TurnedFields", "faultNow", "()I"⟩, 16), (⟨"TurnedFields", "changeTo", "(II)V"⟩, 16), (⟨"TurnedFields", "passBeat", "()V"⟩, 16), (⟨"TurnedFields", "stopAtFault", "()V"⟩, 16), (⟨"TurnedFields", "chooseVolts", "()V"⟩, 16), (⟨"TurnedFields", "followPace", "(J)V"⟩, 16), (⟨"TurnedFields", "wantedD", "()J"⟩, 16), (⟨"TurnedFields", "cutWires", "()V"⟩, 16), (⟨"TurnedFields", "leadWires", "()V"⟩, 16), (⟨"TurnedFields", "leaveState", "()V"⟩, 16), (⟨"TurnedFieldsModel", "findTimes", "(JJ)V"⟩, 25), (⟨"TurnedFieldsModel", "stepOf", "(JJJJJ)J"⟩, 25), (⟨"TurnedFieldsModel", "faultNow", "()I"⟩, 25), (⟨"TurnedFieldsModel", "become", "(III)V"⟩, 25)]
theorem lw_r1 : ∀ q ∈ lw_privs_1, lw_okq q := List.forall_mem_cons.mpr ⟨lw_p0, List.forall_mem_cons.mpr ⟨lw_p1, List.forall_mem_cons.mpr ⟨lw_p2, List.forall_mem_cons.mpr ⟨lw_p3, List.forall_mem_cons.mpr ⟨lw_p4, List.forall_mem_cons.mpr ⟨lw_p5, List.forall_mem_cons.mpr ⟨lw_p6, List.forall_mem_cons.mpr ⟨lw_p7, List.forall_mem_cons.mpr ⟨lw_p8, List.forall_mem_cons.mpr ⟨lw_p9, List.forall_mem_cons.mpr ⟨lw_p10, List.forall_mem_cons.mpr ⟨lw_p11, List.forall_mem_cons.mpr ⟨lw_p12, List.forall_mem_cons.mpr ⟨lw_p13, List.forall_mem_cons.mpr ⟨lw_p14, List.forall_mem_cons.mpr ⟨lw_p15, fun _ h => absurd h List.not_mem_nil⟩⟩⟩⟩⟩⟩⟩⟩⟩⟩⟩⟩⟩⟩⟩⟩
theorem lw_p16 : lw_okq (⟨"TurnedFieldsModel", "oneBeat", "()V"⟩, 25) := ⟨⟨by decide +kernel, by decide +kernel⟩, List.mem_of_getElem? (i := 384) (by decide +kernel), List.mem_of_getElem? (i := 576) (by decide +kernel), List.mem_of_getElem? (i := 577) (by decide +kernel)⟩
theorem lw_p17 : lw_okq (⟨"TurnedFieldsModel", "lead", "(J)V"⟩, 25) := ⟨⟨by decide +kernel, by decide +kernel⟩, List.mem_of_getElem? (i := 384) (by decide +kernel), List.mem_of_getElem? (i := 581) (by decide +kernel), List.mem_of_getElem? (i := 582) (by decide +kernel)⟩
theorem lw_p18 : lw_okq (⟨"TurnedFieldsModel", "led", "(IJJ)J"⟩, 25) := ⟨⟨by decide +kernel, by decide +kernel⟩, List.mem_of_getElem? (i := 384) (by decide +kernel), List.mem_of_getElem? (i := 586) (by decide +kernel), List.mem_of_getElem? (i := 587) (by decide +kernel)⟩
theorem lw_p19 : lw_okq (⟨"TurnedFieldsModel", "moveOn", "()V"⟩, 25) := ⟨⟨by decide +kernel, by decide +kernel⟩, List.mem_of_getElem? (i := 384) (by decide +kernel), List.mem_of_getElem? (i := 591) (by decide +kernel), List.mem_of_getElem? (i := 592) (by decide +kernel)⟩
def lw_privs_2 : List (MethodName × Nat) := [(⟨"TurnedFieldsModel", "oneBeat", "()V"⟩, 25), (⟨"TurnedFieldsModel", "lead", "(J)V"⟩, 25), (⟨"TurnedFieldsModel", "led", "(IJJ)J"⟩, 25), (⟨"TurnedFieldsModel", "moveOn", "()V"⟩, 25)]
theorem lw_r2 : ∀ q ∈ lw_privs_2, lw_okq q := List.forall_mem_cons.mpr ⟨lw_p16, List.forall_mem_cons.mpr ⟨lw_p17, List.forall_mem_cons.mpr ⟨lw_p18, List.forall_mem_cons.mpr ⟨lw_p19, fun _ h => absurd h List.not_mem_nil⟩⟩⟩⟩
def lw_privs : List (MethodName × Nat) := lw_privs_1 ++ (lw_privs_2)
def lw_tbl : List Cond := k2_sels lw_privs ++ tables_1
theorem lw_privs_ok : ∀ q ∈ lw_privs, lw_okq q := by
  show ∀ q ∈ lw_privs_1 ++ (lw_privs_2), lw_okq q
  exact List.forall_mem_append.mpr ⟨lw_r1, lw_r2⟩
-- ===== end of PART A; then your names; then what follows =====
end
section
/-! ===== BEGIN words of one list among another's, by their places ===== -/
theorem goodIn_r {big : List Cond} (ws : List Cond) (ps : List Nat) (hp : ws = ps.filterMap (fun i => big[i]?)) (h : ws.all goodWord = true) : GoodIn big ws := by
  intro w hw
  have h1 := List.all_eq_true.mp h w hw
  rw [hp] at hw
  obtain ⟨i, -, hi⟩ := List.mem_filterMap.mp hw
  have hm : w ∈ big := by first | exact List.mem_of_getElem? hi | exact List.getElem?_mem hi
  exact ⟨hm, good_of_word h1⟩
theorem goodIn_app {big a b : List Cond} (ha : GoodIn big a) (hb : GoodIn big b) : GoodIn big (a ++ b) := fun w h => (List.mem_append.mp h).elim (ha w) (hb w)
theorem goodIn_ca {big a b : List Cond} {c : Cond} (ha : GoodIn big (c :: a)) (hb : GoodIn big b) : GoodIn big (c :: (a ++ b)) := fun w h => (List.mem_cons.mp h).elim (fun e => ha w (List.mem_cons.mpr (Or.inl e))) (fun h => (List.mem_append.mp h).elim (fun h => ha w (List.mem_cons.mpr (Or.inr h))) (hb w))
theorem goodIn_sub {big ws : List Cond} (hm : ∀ w ∈ ws, w ∈ big) (h : ws.all goodWord = true) : GoodIn big ws := fun w hw => ⟨hm w hw, good_of_word (List.all_eq_true.mp h w hw)⟩
/-! ===== END ===== -/

/-! ===== BEGIN printed: names, fields, word lists, decode rows ===== -/
def RX0 : String := "TurnedFields$Changes"
def TX0 : u_T := fun k => match k with
  | 0 => ("TurnedFields$Changes", "rows", "[I", true)
  | 1 => ("TurnedFields$Changes", "next", "I", false)
  | _ => ("TurnedFields$Changes", "held", "I", false)
def tyX0 : Nat → FieldType := fun k => match k with
  | 0 => .array .int
  | 1 => .int
  | _ => .int
abbrev wsX00 : List Cond := u_ws RX0 TX0 3
theorem nmX0 : ∀ a, a < 3 → ∀ b, b < 3 → a ≠ b → (TX0 a).2.1 ≠ (TX0 b).2.1 := by decide +kernel
theorem tyX0_ok : ∀ k, k < 3 → parseFieldDescriptor (TX0 k).2.2.1 = some (tyX0 k) := by decide +kernel
abbrev cX0_init : ByteArray := prog_2_method_1_code
def yX0_init : MethodName := ⟨RX0, "<init>", "()V"⟩
abbrev cX0_note : ByteArray := prog_2_method_2_code
def yX0_note : MethodName := ⟨RX0, "note", "(III)V"⟩
abbrev cX0_latest : ByteArray := prog_2_method_3_code
def yX0_latest : MethodName := ⟨RX0, "latest", "(II)I"⟩
def RX1 : String := "TurnedFields$Frames"
def TX1 : u_T := fun k => match k with
  | _ => ("", "", "", false)
def tyX1 : Nat → FieldType := fun k => match k with
  | _ => .int
abbrev wsX10 : List Cond := u_ws RX1 TX1 0
theorem nmX1 : ∀ a, a < 0 → ∀ b, b < 0 → a ≠ b → (TX1 a).2.1 ≠ (TX1 b).2.1 := by decide +kernel
theorem tyX1_ok : ∀ k, k < 0 → parseFieldDescriptor (TX1 k).2.2.1 = some (tyX1 k) := by decide +kernel
abbrev cX1_sineOf : ByteArray := prog_3_method_2_code
def yX1_sineOf : MethodName := ⟨RX1, "sineOf", "(J)J"⟩
abbrev cX1_cosineOf : ByteArray := prog_3_method_3_code
def yX1_cosineOf : MethodName := ⟨RX1, "cosineOf", "(J)J"⟩
abbrev cX1_betaOfWires : ByteArray := prog_3_method_4_code
def yX1_betaOfWires : MethodName := ⟨RX1, "betaOfWires", "(JJ)J"⟩
abbrev cX1_dOf : ByteArray := prog_3_method_5_code
def yX1_dOf : MethodName := ⟨RX1, "dOf", "(JJJ)J"⟩
abbrev cX1_qOf : ByteArray := prog_3_method_6_code
def yX1_qOf : MethodName := ⟨RX1, "qOf", "(JJJ)J"⟩
abbrev cX1_alphaOf : ByteArray := prog_3_method_7_code
def yX1_alphaOf : MethodName := ⟨RX1, "alphaOf", "(JJJ)J"⟩
abbrev cX1_betaOf : ByteArray := prog_3_method_8_code
def yX1_betaOf : MethodName := ⟨RX1, "betaOf", "(JJJ)J"⟩
def RX2 : String := "TurnedFields$Loop"
def TX2 : u_T := fun k => match k with
  | 0 => ("TurnedFields$Loop", "kp", "J", false)
  | 1 => ("TurnedFields$Loop", "ki", "J", false)
  | _ => ("TurnedFields$Loop", "sum", "J", false)
def tyX2 : Nat → FieldType := fun k => match k with
  | 0 => .long
  | 1 => .long
  | _ => .long
abbrev wsX20 : List Cond := u_ws RX2 TX2 3
theorem nmX2 : ∀ a, a < 3 → ∀ b, b < 3 → a ≠ b → (TX2 a).2.1 ≠ (TX2 b).2.1 := by decide +kernel
theorem tyX2_ok : ∀ k, k < 3 → parseFieldDescriptor (TX2 k).2.2.1 = some (tyX2 k) := by decide +kernel
abbrev cX2_init : ByteArray := prog_4_method_1_code
def yX2_init : MethodName := ⟨RX2, "<init>", "()V"⟩
abbrev cX2_step : ByteArray := prog_4_method_2_code
def yX2_step : MethodName := ⟨RX2, "step", "(JJ)J"⟩
abbrev cX2_freeOut : ByteArray := prog_4_method_3_code
def yX2_freeOut : MethodName := ⟨RX2, "freeOut", "(JJJJ)J"⟩
abbrev cX2_sumBehind : ByteArray := prog_4_method_4_code
def yX2_sumBehind : MethodName := ⟨RX2, "sumBehind", "(JJJJJ)J"⟩
def RX3 : String := "TurnedFields$Motor"
def TX3 : u_T := fun k => match k with
  | 0 => ("TurnedFields$Motor", "d", "J", false)
  | 1 => ("TurnedFields$Motor", "q", "J", false)
  | 2 => ("TurnedFields$Motor", "pace", "J", false)
  | _ => ("TurnedFields$Motor", "angle", "J", false)
def tyX3 : Nat → FieldType := fun k => match k with
  | 0 => .long
  | 1 => .long
  | 2 => .long
  | _ => .long
abbrev wsX30 : List Cond := u_ws RX3 TX3 4
theorem nmX3 : ∀ a, a < 4 → ∀ b, b < 4 → a ≠ b → (TX3 a).2.1 ≠ (TX3 b).2.1 := by decide +kernel
theorem tyX3_ok : ∀ k, k < 4 → parseFieldDescriptor (TX3 k).2.2.1 = some (tyX3 k) := by decide +kernel
abbrev cX3_init : ByteArray := prog_5_method_1_code
def yX3_init : MethodName := ⟨RX3, "<init>", "()V"⟩
abbrev cX3_step : ByteArray := prog_5_method_2_code
def yX3_step : MethodName := ⟨RX3, "step", "(JJJ)V"⟩
def RX4 : String := "TurnedFields$OnTimes"
def TX4 : u_T := fun k => match k with
  | 0 => ("TurnedFields$OnTimes", "u", "J", false)
  | 1 => ("TurnedFields$OnTimes", "v", "J", false)
  | 2 => ("TurnedFields$OnTimes", "w", "J", false)
  | _ => ("TurnedFields$OnTimes", "over", "Z", false)
def tyX4 : Nat → FieldType := fun k => match k with
  | 0 => .long
  | 1 => .long
  | 2 => .long
  | _ => .boolean
abbrev wsX40 : List Cond := u_ws RX4 TX4 4
theorem nmX4 : ∀ a, a < 4 → ∀ b, b < 4 → a ≠ b → (TX4 a).2.1 ≠ (TX4 b).2.1 := by decide +kernel
theorem tyX4_ok : ∀ k, k < 4 → parseFieldDescriptor (TX4 k).2.2.1 = some (tyX4 k) := by decide +kernel
abbrev cX4_init : ByteArray := prog_6_method_1_code
def yX4_init : MethodName := ⟨RX4, "<init>", "()V"⟩
abbrev cX4_off : ByteArray := prog_6_method_2_code
def yX4_off : MethodName := ⟨RX4, "off", "()V"⟩
abbrev cX4_lead : ByteArray := prog_6_method_3_code
def yX4_lead : MethodName := ⟨RX4, "lead", "(JJJ)V"⟩
abbrev cX4_onTime : ByteArray := prog_6_method_4_code
def yX4_onTime : MethodName := ⟨RX4, "onTime", "(JJ)J"⟩
def RX5 : String := "TurnedFields"
def TX5 : u_T := fun k => match k with
  | 0 => ("TurnedFields", "rules", "[I", true)
  | 1 => ("TurnedFields", "loopD", "LTurnedFields$Loop;", true)
  | 2 => ("TurnedFields", "loopQ", "LTurnedFields$Loop;", true)
  | 3 => ("TurnedFields", "loopPace", "LTurnedFields$Loop;", true)
  | 4 => ("TurnedFields", "motor", "LTurnedFields$Motor;", true)
  | 5 => ("TurnedFields", "onTimes", "LTurnedFields$OnTimes;", true)
  | 6 => ("TurnedFields", "asked", "LTurnedFields$OnTimes;", true)
  | 7 => ("TurnedFields", "changes", "LTurnedFields$Changes;", true)
  | 8 => ("TurnedFields", "state", "I", false)
  | 9 => ("TurnedFields", "fault", "I", false)
  | 10 => ("TurnedFields", "lost", "Z", false)
  | 11 => ("TurnedFields", "voltsD", "J", false)
  | 12 => ("TurnedFields", "voltsQ", "J", false)
  | 13 => ("TurnedFields", "heat", "J", false)
  | 14 => ("TurnedFields", "beats", "I", false)
  | _ => ("TurnedFields", "alignBeats", "I", false)
def tyX5 : Nat → FieldType := fun k => match k with
  | 0 => .array .int
  | 1 => .object "TurnedFields$Loop"
  | 2 => .object "TurnedFields$Loop"
  | 3 => .object "TurnedFields$Loop"
  | 4 => .object "TurnedFields$Motor"
  | 5 => .object "TurnedFields$OnTimes"
  | 6 => .object "TurnedFields$OnTimes"
  | 7 => .object "TurnedFields$Changes"
  | 8 => .int
  | 9 => .int
  | 10 => .boolean
  | 11 => .long
  | 12 => .long
  | 13 => .long
  | 14 => .int
  | _ => .int
abbrev wsX50 : List Cond := u_ws RX5 TX5 16
theorem nmX5 : ∀ a, a < 16 → ∀ b, b < 16 → a ≠ b → (TX5 a).2.1 ≠ (TX5 b).2.1 := by decide +kernel
theorem tyX5_ok : ∀ k, k < 16 → parseFieldDescriptor (TX5 k).2.2.1 = some (tyX5 k) := by decide +kernel
abbrev cX5_init : ByteArray := prog_1_method_1_code
def yX5_init : MethodName := ⟨RX5, "<init>", "()V"⟩
abbrev cX5_sine : ByteArray := prog_1_method_2_code
def yX5_sine : MethodName := ⟨RX5, "sine", "(I)I"⟩
abbrev cX5_turned : ByteArray := prog_1_method_3_code
def yX5_turned : MethodName := ⟨RX5, "turned", "(IIII)I"⟩
abbrev cX5_back : ByteArray := prog_1_method_4_code
def yX5_back : MethodName := ⟨RX5, "back", "(IIII)I"⟩
abbrev cX5_times : ByteArray := prog_1_method_5_code
def yX5_times : MethodName := ⟨RX5, "times", "(III)I"⟩
abbrev cX5_rule : ByteArray := prog_1_method_6_code
def yX5_rule : MethodName := ⟨RX5, "rule", "(II)I"⟩
abbrev cX5_gain : ByteArray := prog_1_method_7_code
def yX5_gain : MethodName := ⟨RX5, "gain", "(III)I"⟩
abbrev cX5_lose : ByteArray := prog_1_method_8_code
def yX5_lose : MethodName := ⟨RX5, "lose", "(Z)I"⟩
abbrev cX5_order : ByteArray := prog_1_method_9_code
def yX5_order : MethodName := ⟨RX5, "order", "(I)I"⟩
abbrev cX5_beat : ByteArray := prog_1_method_10_code
def yX5_beat : MethodName := ⟨RX5, "beat", "(I)I"⟩
abbrev cX5_told : ByteArray := prog_1_method_11_code
def yX5_told : MethodName := ⟨RX5, "told", "(I)I"⟩
abbrev cX5_ring : ByteArray := prog_1_method_12_code
def yX5_ring : MethodName := ⟨RX5, "ring", "(II)I"⟩
abbrev cX5_loop : ByteArray := prog_1_method_13_code
def yX5_loop : MethodName := ⟨RX5, "loop", "(IIIIII)I"⟩
abbrev cX5_digest : ByteArray := prog_1_method_14_code
def yX5_digest : MethodName := ⟨RX5, "digest", "()I"⟩
abbrev cX5_passBeat : ByteArray := prog_1_method_15_code
def yX5_passBeat : MethodName := ⟨RX5, "passBeat", "()V"⟩
abbrev cX5_stopAtFault : ByteArray := prog_1_method_16_code
def yX5_stopAtFault : MethodName := ⟨RX5, "stopAtFault", "()V"⟩
abbrev cX5_faultNow : ByteArray := prog_1_method_17_code
def yX5_faultNow : MethodName := ⟨RX5, "faultNow", "()I"⟩
abbrev cX5_chooseVolts : ByteArray := prog_1_method_18_code
def yX5_chooseVolts : MethodName := ⟨RX5, "chooseVolts", "()V"⟩
abbrev cX5_cutWires : ByteArray := prog_1_method_19_code
def yX5_cutWires : MethodName := ⟨RX5, "cutWires", "()V"⟩
abbrev cX5_followPace : ByteArray := prog_1_method_20_code
def yX5_followPace : MethodName := ⟨RX5, "followPace", "(J)V"⟩
abbrev cX5_wantedD : ByteArray := prog_1_method_21_code
def yX5_wantedD : MethodName := ⟨RX5, "wantedD", "()J"⟩
abbrev cX5_leadWires : ByteArray := prog_1_method_22_code
def yX5_leadWires : MethodName := ⟨RX5, "leadWires", "()V"⟩
abbrev cX5_leaveState : ByteArray := prog_1_method_23_code
def yX5_leaveState : MethodName := ⟨RX5, "leaveState", "()V"⟩
abbrev cX5_mayOrder : ByteArray := prog_1_method_24_code
def yX5_mayOrder : MethodName := ⟨RX5, "mayOrder", "(I)Z"⟩
abbrev cX5_changeTo : ByteArray := prog_1_method_25_code
def yX5_changeTo : MethodName := ⟨RX5, "changeTo", "(II)V"⟩
abbrev cX5_within : ByteArray := prog_1_method_26_code
def yX5_within : MethodName := ⟨RX5, "within", "(III)Z"⟩
abbrev cX5_isAngle : ByteArray := prog_1_method_27_code
def yX5_isAngle : MethodName := ⟨RX5, "isAngle", "(I)Z"⟩
abbrev cX5_isVector : ByteArray := prog_1_method_28_code
def yX5_isVector : MethodName := ⟨RX5, "isVector", "(II)Z"⟩
abbrev cX5_clamp : ByteArray := prog_1_method_29_code
def yX5_clamp : MethodName := ⟨RX5, "clamp", "(JJ)J"⟩
abbrev cX5_quotient : ByteArray := prog_1_method_30_code
def yX5_quotient : MethodName := ⟨RX5, "quotient", "(JJ)J"⟩
def RX6 : String := "TurnedFieldsModel"
def TX6 : u_T := fun k => match k with
  | 0 => ("TurnedFieldsModel", "rules", "[I", true)
  | 1 => ("TurnedFieldsModel", "kps", "[I", true)
  | 2 => ("TurnedFieldsModel", "kis", "[I", true)
  | 3 => ("TurnedFieldsModel", "sums", "[J", true)
  | 4 => ("TurnedFieldsModel", "lost", "Z", false)
  | 5 => ("TurnedFieldsModel", "state", "I", false)
  | 6 => ("TurnedFieldsModel", "fault", "I", false)
  | 7 => ("TurnedFieldsModel", "currentD", "J", false)
  | 8 => ("TurnedFieldsModel", "currentQ", "J", false)
  | 9 => ("TurnedFieldsModel", "pace", "J", false)
  | 10 => ("TurnedFieldsModel", "angle", "I", false)
  | 11 => ("TurnedFieldsModel", "onTimes", "[I", true)
  | 12 => ("TurnedFieldsModel", "over", "Z", false)
  | 13 => ("TurnedFieldsModel", "voltD", "J", false)
  | 14 => ("TurnedFieldsModel", "voltQ", "J", false)
  | 15 => ("TurnedFieldsModel", "heat", "J", false)
  | 16 => ("TurnedFieldsModel", "beats", "I", false)
  | 17 => ("TurnedFieldsModel", "aligned", "I", false)
  | 18 => ("TurnedFieldsModel", "ringBeats", "[I", true)
  | 19 => ("TurnedFieldsModel", "ringStates", "[I", true)
  | 20 => ("TurnedFieldsModel", "ringFaults", "[I", true)
  | 21 => ("TurnedFieldsModel", "changes", "I", false)
  | 22 => ("TurnedFieldsModel", "found", "[I", true)
  | 23 => ("TurnedFieldsModel", "foundOver", "Z", false)
  | _ => ("TurnedFieldsModel", "behind", "J", false)
def tyX6 : Nat → FieldType := fun k => match k with
  | 0 => .array .int
  | 1 => .array .int
  | 2 => .array .int
  | 3 => .array .long
  | 4 => .boolean
  | 5 => .int
  | 6 => .int
  | 7 => .long
  | 8 => .long
  | 9 => .long
  | 10 => .int
  | 11 => .array .int
  | 12 => .boolean
  | 13 => .long
  | 14 => .long
  | 15 => .long
  | 16 => .int
  | 17 => .int
  | 18 => .array .int
  | 19 => .array .int
  | 20 => .array .int
  | 21 => .int
  | 22 => .array .int
  | 23 => .boolean
  | _ => .long
abbrev wsX60 : List Cond := u_ws RX6 TX6 25
theorem nmX6 : ∀ a, a < 25 → ∀ b, b < 25 → a ≠ b → (TX6 a).2.1 ≠ (TX6 b).2.1 := by decide +kernel
theorem tyX6_ok : ∀ k, k < 25 → parseFieldDescriptor (TX6 k).2.2.1 = some (tyX6 k) := by decide +kernel
abbrev cX6_init : ByteArray := prog_8_method_1_code
def yX6_init : MethodName := ⟨RX6, "<init>", "()V"⟩
abbrev cX6_in : ByteArray := prog_8_method_3_code
def yX6_in : MethodName := ⟨RX6, "in", "(JJJ)Z"⟩
abbrev cX6_clamp : ByteArray := prog_8_method_4_code
def yX6_clamp : MethodName := ⟨RX6, "clamp", "(JJ)J"⟩
abbrev cX6_size : ByteArray := prog_8_method_5_code
def yX6_size : MethodName := ⟨RX6, "size", "(J)J"⟩
abbrev cX6_sineOf : ByteArray := prog_8_method_6_code
def yX6_sineOf : MethodName := ⟨RX6, "sineOf", "(I)J"⟩
abbrev cX6_cosineOf : ByteArray := prog_8_method_7_code
def yX6_cosineOf : MethodName := ⟨RX6, "cosineOf", "(I)J"⟩
abbrev cX6_isAngle : ByteArray := prog_8_method_8_code
def yX6_isAngle : MethodName := ⟨RX6, "isAngle", "(I)Z"⟩
abbrev cX6_isCurrent : ByteArray := prog_8_method_9_code
def yX6_isCurrent : MethodName := ⟨RX6, "isCurrent", "(I)Z"⟩
abbrev cX6_sine : ByteArray := prog_8_method_10_code
def yX6_sine : MethodName := ⟨RX6, "sine", "(I)I"⟩
abbrev cX6_turned : ByteArray := prog_8_method_11_code
def yX6_turned : MethodName := ⟨RX6, "turned", "(IIII)I"⟩
abbrev cX6_backAlpha : ByteArray := prog_8_method_12_code
def yX6_backAlpha : MethodName := ⟨RX6, "backAlpha", "(JJI)J"⟩
abbrev cX6_backBeta : ByteArray := prog_8_method_13_code
def yX6_backBeta : MethodName := ⟨RX6, "backBeta", "(JJI)J"⟩
abbrev cX6_back : ByteArray := prog_8_method_14_code
def yX6_back : MethodName := ⟨RX6, "back", "(IIII)I"⟩
abbrev cX6_findTimes : ByteArray := prog_8_method_15_code
def yX6_findTimes : MethodName := ⟨RX6, "findTimes", "(JJ)V"⟩
abbrev cX6_times : ByteArray := prog_8_method_16_code
def yX6_times : MethodName := ⟨RX6, "times", "(III)I"⟩
abbrev cX6_rule : ByteArray := prog_8_method_17_code
def yX6_rule : MethodName := ⟨RX6, "rule", "(II)I"⟩
abbrev cX6_gain : ByteArray := prog_8_method_18_code
def yX6_gain : MethodName := ⟨RX6, "gain", "(III)I"⟩
abbrev cX6_lose : ByteArray := prog_8_method_19_code
def yX6_lose : MethodName := ⟨RX6, "lose", "(Z)I"⟩
abbrev cX6_stepOf : ByteArray := prog_8_method_20_code
def yX6_stepOf : MethodName := ⟨RX6, "stepOf", "(JJJJJ)J"⟩
abbrev cX6_led : ByteArray := prog_8_method_21_code
def yX6_led : MethodName := ⟨RX6, "led", "(IJJ)J"⟩
abbrev cX6_loop : ByteArray := prog_8_method_22_code
def yX6_loop : MethodName := ⟨RX6, "loop", "(IIIIII)I"⟩
abbrev cX6_become : ByteArray := prog_8_method_23_code
def yX6_become : MethodName := ⟨RX6, "become", "(III)V"⟩
abbrev cX6_faultNow : ByteArray := prog_8_method_24_code
def yX6_faultNow : MethodName := ⟨RX6, "faultNow", "()I"⟩
abbrev cX6_order : ByteArray := prog_8_method_25_code
def yX6_order : MethodName := ⟨RX6, "order", "(I)I"⟩
abbrev cX6_lead : ByteArray := prog_8_method_26_code
def yX6_lead : MethodName := ⟨RX6, "lead", "(J)V"⟩
abbrev cX6_oneBeat : ByteArray := prog_8_method_27_code
def yX6_oneBeat : MethodName := ⟨RX6, "oneBeat", "()V"⟩
abbrev cX6_moveOn : ByteArray := prog_8_method_28_code
def yX6_moveOn : MethodName := ⟨RX6, "moveOn", "()V"⟩
abbrev cX6_beat : ByteArray := prog_8_method_29_code
def yX6_beat : MethodName := ⟨RX6, "beat", "(I)I"⟩
abbrev cX6_told : ByteArray := prog_8_method_30_code
def yX6_told : MethodName := ⟨RX6, "told", "(I)I"⟩
abbrev cX6_ring : ByteArray := prog_8_method_31_code
def yX6_ring : MethodName := ⟨RX6, "ring", "(II)I"⟩
abbrev cX6_digest : ByteArray := prog_8_method_32_code
def yX6_digest : MethodName := ⟨RX6, "digest", "()I"⟩
def RJ9 : String := "java/lang/Math"
def TJ9 : u_T := fun k => match k with
  | _ => ("", "", "", false)
def tyJ9 : Nat → FieldType := fun k => match k with
  | _ => .int
abbrev wsJ90 : List Cond := u_ws RJ9 TJ9 0
theorem nmJ9 : ∀ a, a < 0 → ∀ b, b < 0 → a ≠ b → (TJ9 a).2.1 ≠ (TJ9 b).2.1 := by decide +kernel
theorem tyJ9_ok : ∀ k, k < 0 → parseFieldDescriptor (TJ9 k).2.2.1 = some (tyJ9 k) := by decide +kernel
abbrev cJ9_floorMod_7cf53 : ByteArray := prog_9_method_50_code
def yJ9_floorMod_7cf53 : MethodName := ⟨RJ9, "floorMod", "(II)I"⟩
abbrev cJ9_abs_067f4 : ByteArray := prog_9_method_61_code
def yJ9_abs_067f4 : MethodName := ⟨RJ9, "abs", "(J)J"⟩
abbrev cJ9_max_f86c9 : ByteArray := prog_9_method_66_code
def yJ9_max_f86c9 : MethodName := ⟨RJ9, "max", "(JJ)J"⟩
abbrev cJ9_min_7cf53 : ByteArray := prog_9_method_69_code
def yJ9_min_7cf53 : MethodName := ⟨RJ9, "min", "(II)I"⟩
abbrev cJ9_min_f86c9 : ByteArray := prog_9_method_70_code
def yJ9_min_f86c9 : MethodName := ⟨RJ9, "min", "(JJ)J"⟩
def RJ10 : String := "java/lang/System"
def TJ10 : u_T := fun k => match k with
  | _ => ("", "", "", false)
def tyJ10 : Nat → FieldType := fun k => match k with
  | _ => .int
abbrev wsJ100 : List Cond := u_ws RJ10 TJ10 0
theorem nmJ10 : ∀ a, a < 0 → ∀ b, b < 0 → a ≠ b → (TJ10 a).2.1 ≠ (TJ10 b).2.1 := by decide +kernel
theorem tyJ10_ok : ∀ k, k < 0 → parseFieldDescriptor (TJ10 k).2.2.1 = some (tyJ10 k) := by decide +kernel
def RL : String := "TurnedFieldsLaw"
abbrev cL_law : ByteArray := code
def yL_law : MethodName := ⟨RL, "law", "([I)Z"⟩
def wsX0_init : List Cond := .code yX0_init cX0_init 1 none :: ([.methodLink RX0 3 objectInit, .instanceMethod objectInit, .code objectInit ⟨#[0xb1]⟩ 1 none, .arrayClass .int, .fieldLink RX0 11 "TurnedFields$Changes" "rows" "[I", .fieldLink RX0 15 "TurnedFields$Changes" "next" "I", .fieldLink RX0 19 "TurnedFields$Changes" "held" "I"] ++ wsX00)
def wsJ9_floorMod_7cf53 : List Cond := .code yJ9_floorMod_7cf53 cJ9_floorMod_7cf53 3 (some .int) :: ([])
def wsX0_note : List Cond := .code yX0_note cX0_note 5 none :: ([.fieldLink RX0 15 "TurnedFields$Changes" "next" "I", .fieldLink RX0 11 "TurnedFields$Changes" "rows" "[I", .fieldLink RX0 19 "TurnedFields$Changes" "held" "I", .methodLink RX0 28 Lib.Math.min.name, .static Lib.Math.min.name, .initialized "java/lang/Math", .code Lib.Math.min.name Lib.Math.min.code 2 (some .int), .methodLink RX0 22 yJ9_floorMod_7cf53, .static yJ9_floorMod_7cf53, .initialized RJ9, .code yJ9_floorMod_7cf53 cJ9_floorMod_7cf53 3 (some .int)] ++ wsX00)
def wsX5_within : List Cond := .code yX5_within cX5_within 3 (some .boolean) :: ([])
def wsX0_latest : List Cond := .code yX0_latest cX0_latest 3 (some .int) :: ([.constant RX0 35 (-1000001), .fieldLink RX0 19 "TurnedFields$Changes" "held" "I", .fieldLink RX0 11 "TurnedFields$Changes" "rows" "[I", .fieldLink RX0 15 "TurnedFields$Changes" "next" "I", .static yX5_within, .initialized RX5, .code yX5_within cX5_within 3 (some .boolean), .methodLink RX0 22 yJ9_floorMod_7cf53, .static yJ9_floorMod_7cf53, .initialized RJ9, .code yJ9_floorMod_7cf53 cJ9_floorMod_7cf53 3 (some .int)] ++ wsX00)
def wsX5_quotient : List Cond := .code yX5_quotient cX5_quotient 4 (some .long) :: ([])
def wsX1_sineOf : List Cond := .code yX1_sineOf cX1_sineOf 8 (some .long) :: ([.constantLong RX1 9 (32767), .constantLong RX1 11 (32768), .constantLong RX1 13 (131068), .constantLong RX1 15 (1342177280), .constantLong RX1 21 (65535), .static yX5_quotient, .initialized RX5, .code yX5_quotient cX5_quotient 4 (some .long)])
def wsX1_cosineOf : List Cond := .code yX1_cosineOf cX1_cosineOf 2 (some .long) :: ([.constantLong RX1 23 (16384), .methodLink RX1 25 yX1_sineOf, .static yX1_sineOf, .initialized RX1, .code yX1_sineOf cX1_sineOf 8 (some .long), .constantLong RX1 9 (32767), .constantLong RX1 11 (32768), .constantLong RX1 13 (131068), .constantLong RX1 15 (1342177280), .constantLong RX1 21 (65535), .static yX5_quotient, .initialized RX5, .code yX5_quotient cX5_quotient 4 (some .long)])
def wsX1_betaOfWires : List Cond := .code yX1_betaOfWires cX1_betaOfWires 4 (some .long) :: ([.constantLong RX1 31 (2), .constantLong RX1 33 (37837)])
def wsX1_dOf : List Cond := .code yX1_dOf cX1_dOf 6 (some .long) :: ([.methodLink RX1 35 yX1_cosineOf, .static yX1_cosineOf, .initialized RX1, .code yX1_cosineOf cX1_cosineOf 2 (some .long), .constantLong RX1 23 (16384), .methodLink RX1 25 yX1_sineOf, .static yX1_sineOf, .code yX1_sineOf cX1_sineOf 8 (some .long), .constantLong RX1 9 (32767), .constantLong RX1 11 (32768), .constantLong RX1 13 (131068), .constantLong RX1 15 (1342177280), .constantLong RX1 21 (65535), .static yX5_quotient, .initialized RX5, .code yX5_quotient cX5_quotient 4 (some .long)])
def wsX1_qOf : List Cond := .code yX1_qOf cX1_qOf 6 (some .long) :: ([.methodLink RX1 35 yX1_cosineOf, .static yX1_cosineOf, .initialized RX1, .code yX1_cosineOf cX1_cosineOf 2 (some .long), .constantLong RX1 23 (16384), .methodLink RX1 25 yX1_sineOf, .static yX1_sineOf, .code yX1_sineOf cX1_sineOf 8 (some .long), .constantLong RX1 9 (32767), .constantLong RX1 11 (32768), .constantLong RX1 13 (131068), .constantLong RX1 15 (1342177280), .constantLong RX1 21 (65535), .static yX5_quotient, .initialized RX5, .code yX5_quotient cX5_quotient 4 (some .long)])
def wsX1_alphaOf : List Cond := .code yX1_alphaOf cX1_alphaOf 6 (some .long) :: ([.methodLink RX1 35 yX1_cosineOf, .static yX1_cosineOf, .initialized RX1, .code yX1_cosineOf cX1_cosineOf 2 (some .long), .constantLong RX1 23 (16384), .methodLink RX1 25 yX1_sineOf, .static yX1_sineOf, .code yX1_sineOf cX1_sineOf 8 (some .long), .constantLong RX1 9 (32767), .constantLong RX1 11 (32768), .constantLong RX1 13 (131068), .constantLong RX1 15 (1342177280), .constantLong RX1 21 (65535), .static yX5_quotient, .initialized RX5, .code yX5_quotient cX5_quotient 4 (some .long)])
def wsX1_betaOf : List Cond := .code yX1_betaOf cX1_betaOf 6 (some .long) :: ([.methodLink RX1 25 yX1_sineOf, .static yX1_sineOf, .initialized RX1, .code yX1_sineOf cX1_sineOf 8 (some .long), .constantLong RX1 9 (32767), .constantLong RX1 11 (32768), .constantLong RX1 13 (131068), .constantLong RX1 15 (1342177280), .constantLong RX1 21 (65535), .static yX5_quotient, .initialized RX5, .code yX5_quotient cX5_quotient 4 (some .long), .methodLink RX1 35 yX1_cosineOf, .static yX1_cosineOf, .code yX1_cosineOf cX1_cosineOf 2 (some .long), .constantLong RX1 23 (16384)])
def wsX2_init : List Cond := .code yX2_init cX2_init 1 none :: ([.methodLink RX2 1 objectInit, .instanceMethod objectInit, .code objectInit ⟨#[0xb1]⟩ 1 none, .constantLong RX2 7 (200), .fieldLink RX2 9 "TurnedFields$Loop" "kp" "J", .constantLong RX2 15 (20), .fieldLink RX2 17 "TurnedFields$Loop" "ki" "J", .fieldLink RX2 20 "TurnedFields$Loop" "sum" "J"] ++ wsX20)
def wsX2_freeOut : List Cond := .code yX2_freeOut cX2_freeOut 8 (some .long) :: ([])
def wsX2_sumBehind : List Cond := .code yX2_sumBehind cX2_sumBehind 11 (some .long) :: ([])
def wsX5_clamp : List Cond := .code yX5_clamp cX5_clamp 4 (some .long) :: ([.methodLink RX5 257 Lib.MathLoose.min_long.x, .static Lib.MathLoose.min_long.x, .initialized "java/lang/Math", .code Lib.MathLoose.min_long.x Lib.MathLoose.min_long.code 4 (some .long), .methodLink RX5 244 Lib.MathLoose.max_long.x, .static Lib.MathLoose.max_long.x, .code Lib.MathLoose.max_long.x Lib.MathLoose.max_long.code 4 (some .long)])
def wsX2_step : List Cond := .code yX2_step cX2_step 7 (some .long) :: ([.fieldLink RX2 9 "TurnedFields$Loop" "kp" "J", .fieldLink RX2 17 "TurnedFields$Loop" "ki" "J", .fieldLink RX2 20 "TurnedFields$Loop" "sum" "J", .methodLink RX2 23 yX2_freeOut, .static yX2_freeOut, .initialized RX2, .code yX2_freeOut cX2_freeOut 8 (some .long), .methodLink RX2 27 yX2_sumBehind, .static yX2_sumBehind, .code yX2_sumBehind cX2_sumBehind 11 (some .long), .static yX5_clamp, .initialized RX5, .code yX5_clamp cX5_clamp 4 (some .long), .methodLink RX5 257 Lib.MathLoose.min_long.x, .static Lib.MathLoose.min_long.x, .initialized "java/lang/Math", .code Lib.MathLoose.min_long.x Lib.MathLoose.min_long.code 4 (some .long), .methodLink RX5 244 Lib.MathLoose.max_long.x, .static Lib.MathLoose.max_long.x, .code Lib.MathLoose.max_long.x Lib.MathLoose.max_long.code 4 (some .long)] ++ wsX20)
def wsX3_init : List Cond := .code yX3_init cX3_init 1 none :: ([.methodLink RX3 3 objectInit, .instanceMethod objectInit, .code objectInit ⟨#[0xb1]⟩ 1 none, .fieldLink RX3 9 "TurnedFields$Motor" "d" "J", .fieldLink RX3 15 "TurnedFields$Motor" "q" "J", .fieldLink RX3 18 "TurnedFields$Motor" "pace" "J", .fieldLink RX3 21 "TurnedFields$Motor" "angle" "J"] ++ wsX30)
def wsX3_step : List Cond := .code yX3_step cX3_step 13 none :: ([.fieldLink RX3 9 "TurnedFields$Motor" "d" "J", .constantLong RX3 24 (64), .fieldLink RX3 18 "TurnedFields$Motor" "pace" "J", .fieldLink RX3 15 "TurnedFields$Motor" "q" "J", .constantLong RX3 26 (4), .constantLong RX3 28 (16), .constantLong RX3 30 (32000), .constantLong RX3 36 (60000), .fieldLink RX3 21 "TurnedFields$Motor" "angle" "J", .constantLong RX3 38 (65535), .static yX5_clamp, .initialized RX5, .code yX5_clamp cX5_clamp 4 (some .long), .methodLink RX5 257 Lib.MathLoose.min_long.x, .static Lib.MathLoose.min_long.x, .initialized "java/lang/Math", .code Lib.MathLoose.min_long.x Lib.MathLoose.min_long.code 4 (some .long), .methodLink RX5 244 Lib.MathLoose.max_long.x, .static Lib.MathLoose.max_long.x, .code Lib.MathLoose.max_long.x Lib.MathLoose.max_long.code 4 (some .long)] ++ wsX30)
def wsX4_init : List Cond := .code yX4_init cX4_init 1 none :: ([.methodLink RX4 1 objectInit, .instanceMethod objectInit, .code objectInit ⟨#[0xb1]⟩ 1 none, .fieldLink RX4 7 "TurnedFields$OnTimes" "u" "J", .fieldLink RX4 13 "TurnedFields$OnTimes" "v" "J", .fieldLink RX4 16 "TurnedFields$OnTimes" "w" "J", .fieldLink RX4 19 "TurnedFields$OnTimes" "over" "Z"] ++ wsX40)
def wsX4_off : List Cond := .code yX4_off cX4_off 1 none :: ([.fieldLink RX4 7 "TurnedFields$OnTimes" "u" "J", .fieldLink RX4 13 "TurnedFields$OnTimes" "v" "J", .fieldLink RX4 16 "TurnedFields$OnTimes" "w" "J", .fieldLink RX4 19 "TurnedFields$OnTimes" "over" "Z"] ++ wsX40)
def wsX4_onTime : List Cond := .code yX4_onTime cX4_onTime 7 (some .long) :: ([.constantLong RX4 41 (8192), .constantLong RX4 48 (4096), .fieldLink RX4 19 "TurnedFields$OnTimes" "over" "Z", .methodLink RX4 33 Lib.MathLoose.min_long.x, .static Lib.MathLoose.min_long.x, .initialized "java/lang/Math", .code Lib.MathLoose.min_long.x Lib.MathLoose.min_long.code 4 (some .long), .methodLink RX4 27 Lib.MathLoose.max_long.x, .static Lib.MathLoose.max_long.x, .code Lib.MathLoose.max_long.x Lib.MathLoose.max_long.code 4 (some .long), .static yX5_quotient, .initialized RX5, .code yX5_quotient cX5_quotient 4 (some .long)] ++ wsX40)
def wsX4_lead : List Cond := .code yX4_lead cX4_lead 17 none :: ([.constantLong RX4 23 (56756), .constantLong RX4 25 (32768), .methodLink RX4 27 Lib.MathLoose.max_long.x, .static Lib.MathLoose.max_long.x, .initialized "java/lang/Math", .code Lib.MathLoose.max_long.x Lib.MathLoose.max_long.code 4 (some .long), .methodLink RX4 33 Lib.MathLoose.min_long.x, .static Lib.MathLoose.min_long.x, .code Lib.MathLoose.min_long.x Lib.MathLoose.min_long.code 4 (some .long), .constantLong RX4 36 (2), .fieldLink RX4 19 "TurnedFields$OnTimes" "over" "Z", .fieldLink RX4 7 "TurnedFields$OnTimes" "u" "J", .fieldLink RX4 13 "TurnedFields$OnTimes" "v" "J", .fieldLink RX4 16 "TurnedFields$OnTimes" "w" "J", .methodLink RX4 38 yX4_onTime, .instanceMethod yX4_onTime, .selects RX4 yX4_onTime yX4_onTime, .initialized RX4, .code yX4_onTime cX4_onTime 7 (some .long), .constantLong RX4 41 (8192), .constantLong RX4 48 (4096), .static yX5_quotient, .initialized RX5, .code yX5_quotient cX5_quotient 4 (some .long)] ++ wsX40)
def wsX5_init_r1 : List Cond := [Cond.methodLink RX5 1 objectInit, Cond.instanceMethod objectInit, Cond.code objectInit ⟨#[0xb1]⟩ 1 none, Cond.arrayClass .int, Cond.fieldLink RX5 9 "TurnedFields" "rules" "[I", Cond.classLink RX5 13 RX2, Cond.instantiable RX2 3, Cond.initialized RX2, Cond.fieldLink RX5 16 "TurnedFields" "loopD" "LTurnedFields$Loop;", Cond.fieldLink RX5 20 "TurnedFields" "loopQ" "LTurnedFields$Loop;", Cond.fieldLink RX5 23 "TurnedFields" "loopPace" "LTurnedFields$Loop;", Cond.classLink RX5 26 RX3, Cond.instantiable RX3 4, Cond.initialized RX3, Cond.fieldLink RX5 29 "TurnedFields" "motor" "LTurnedFields$Motor;", Cond.classLink RX5 33 RX4, Cond.instantiable RX4 4, Cond.initialized RX4, Cond.fieldLink RX5 36 "TurnedFields" "onTimes" "LTurnedFields$OnTimes;", Cond.fieldLink RX5 40 "TurnedFields" "asked" "LTurnedFields$OnTimes;", Cond.classLink RX5 43 RX0, Cond.instantiable RX0 3, Cond.initialized RX0, Cond.fieldLink RX5 46 "TurnedFields" "changes" "LTurnedFields$Changes;"]
def wsX5_init_r2 : List Cond := [Cond.fieldLink RX5 50 "TurnedFields" "state" "I", Cond.fieldLink RX5 54 "TurnedFields" "fault" "I", Cond.fieldLink RX5 57 "TurnedFields" "lost" "Z", Cond.fieldLink RX5 61 "TurnedFields" "voltsD" "J", Cond.fieldLink RX5 65 "TurnedFields" "voltsQ" "J", Cond.fieldLink RX5 68 "TurnedFields" "heat" "J", Cond.fieldLink RX5 71 "TurnedFields" "beats" "I", Cond.fieldLink RX5 74 "TurnedFields" "alignBeats" "I", Cond.fieldLink RX5 77 "TurnedFields" "RULE_FIRST" "[I", Cond.methodLink RX5 80 arraycopyName, Cond.native arraycopyName, Cond.static arraycopyName, Cond.initialized "java/lang/System", Cond.instanceMethod yX2_init, Cond.code yX2_init cX2_init 1 none, Cond.methodLink RX2 1 objectInit, Cond.constantLong RX2 7 (200), Cond.fieldLink RX2 9 "TurnedFields$Loop" "kp" "J", Cond.constantLong RX2 15 (20), Cond.fieldLink RX2 17 "TurnedFields$Loop" "ki" "J", Cond.fieldLink RX2 20 "TurnedFields$Loop" "sum" "J", Cond.instanceMethod yX3_init, Cond.code yX3_init cX3_init 1 none, Cond.methodLink RX3 3 objectInit]
def wsX5_init_r3 : List Cond := [Cond.fieldLink RX3 9 "TurnedFields$Motor" "d" "J", Cond.fieldLink RX3 15 "TurnedFields$Motor" "q" "J", Cond.fieldLink RX3 18 "TurnedFields$Motor" "pace" "J", Cond.fieldLink RX3 21 "TurnedFields$Motor" "angle" "J", Cond.instanceMethod yX4_init, Cond.code yX4_init cX4_init 1 none, Cond.methodLink RX4 1 objectInit, Cond.fieldLink RX4 7 "TurnedFields$OnTimes" "u" "J", Cond.fieldLink RX4 13 "TurnedFields$OnTimes" "v" "J", Cond.fieldLink RX4 16 "TurnedFields$OnTimes" "w" "J", Cond.fieldLink RX4 19 "TurnedFields$OnTimes" "over" "Z", Cond.instanceMethod yX0_init, Cond.code yX0_init cX0_init 1 none, Cond.methodLink RX0 3 objectInit, Cond.fieldLink RX0 11 "TurnedFields$Changes" "rows" "[I", Cond.fieldLink RX0 15 "TurnedFields$Changes" "next" "I", Cond.fieldLink RX0 19 "TurnedFields$Changes" "held" "I"]
def wsX5_init : List Cond := .code yX5_init cX5_init 1 none :: ((wsX5_init_r1 ++ (wsX5_init_r2 ++ wsX5_init_r3)) ++ wsX50 ++ wsX20 ++ wsX30 ++ wsX40 ++ wsX00)
def wsX5_isAngle : List Cond := .code yX5_isAngle cX5_isAngle 1 (some .boolean) :: ([.constant RX5 256 (65535), .methodLink RX5 140 yX5_within, .static yX5_within, .initialized RX5, .code yX5_within cX5_within 3 (some .boolean)])
def wsX5_sine : List Cond := .code yX5_sine cX5_sine 2 (some .int) :: ([.constant RX5 96 (-1000001), .methodLink RX5 86 yX5_isAngle, .static yX5_isAngle, .initialized RX5, .code yX5_isAngle cX5_isAngle 1 (some .boolean), .constant RX5 256 (65535), .methodLink RX5 140 yX5_within, .static yX5_within, .code yX5_within cX5_within 3 (some .boolean), .methodLink RX5 90 yX1_sineOf, .static yX1_sineOf, .initialized RX1, .code yX1_sineOf cX1_sineOf 8 (some .long), .constantLong RX1 9 (32767), .constantLong RX1 11 (32768), .constantLong RX1 13 (131068), .constantLong RX1 15 (1342177280), .constantLong RX1 21 (65535), .static yX5_quotient, .code yX5_quotient cX5_quotient 4 (some .long)])
def wsX5_isVector : List Cond := .code yX5_isVector cX5_isVector 2 (some .boolean) :: ([.methodLink RX5 140 yX5_within, .static yX5_within, .initialized RX5, .code yX5_within cX5_within 3 (some .boolean)])
def wsX5_turned_r1 : List Cond := [Cond.constant RX5 96 (-1000001), Cond.methodLink RX5 97 yX5_isVector, Cond.static yX5_isVector, Cond.initialized RX5, Cond.code yX5_isVector cX5_isVector 2 (some .boolean), Cond.methodLink RX5 140 yX5_within, Cond.static yX5_within, Cond.code yX5_within cX5_within 3 (some .boolean), Cond.methodLink RX5 86 yX5_isAngle, Cond.static yX5_isAngle, Cond.code yX5_isAngle cX5_isAngle 1 (some .boolean), Cond.constant RX5 256 (65535), Cond.methodLink RX5 101 yX1_betaOfWires, Cond.static yX1_betaOfWires, Cond.initialized RX1, Cond.code yX1_betaOfWires cX1_betaOfWires 4 (some .long), Cond.constantLong RX1 31 (2), Cond.constantLong RX1 33 (37837), Cond.methodLink RX5 105 yX1_dOf, Cond.static yX1_dOf, Cond.code yX1_dOf cX1_dOf 6 (some .long), Cond.methodLink RX1 35 yX1_cosineOf, Cond.static yX1_cosineOf, Cond.code yX1_cosineOf cX1_cosineOf 2 (some .long)]
def wsX5_turned_r2 : List Cond := [Cond.constantLong RX1 23 (16384), Cond.methodLink RX1 25 yX1_sineOf, Cond.static yX1_sineOf, Cond.code yX1_sineOf cX1_sineOf 8 (some .long), Cond.constantLong RX1 9 (32767), Cond.constantLong RX1 11 (32768), Cond.constantLong RX1 13 (131068), Cond.constantLong RX1 15 (1342177280), Cond.constantLong RX1 21 (65535), Cond.static yX5_quotient, Cond.code yX5_quotient cX5_quotient 4 (some .long), Cond.methodLink RX5 109 yX1_qOf, Cond.static yX1_qOf, Cond.code yX1_qOf cX1_qOf 6 (some .long)]
def wsX5_turned : List Cond := .code yX5_turned cX5_turned 7 (some .int) :: ((wsX5_turned_r1 ++ wsX5_turned_r2))
def wsX5_back_r1 : List Cond := [Cond.constant RX5 96 (-1000001), Cond.methodLink RX5 97 yX5_isVector, Cond.static yX5_isVector, Cond.initialized RX5, Cond.code yX5_isVector cX5_isVector 2 (some .boolean), Cond.methodLink RX5 140 yX5_within, Cond.static yX5_within, Cond.code yX5_within cX5_within 3 (some .boolean), Cond.methodLink RX5 86 yX5_isAngle, Cond.static yX5_isAngle, Cond.code yX5_isAngle cX5_isAngle 1 (some .boolean), Cond.constant RX5 256 (65535), Cond.methodLink RX5 112 yX1_alphaOf, Cond.static yX1_alphaOf, Cond.initialized RX1, Cond.code yX1_alphaOf cX1_alphaOf 6 (some .long), Cond.methodLink RX1 35 yX1_cosineOf, Cond.static yX1_cosineOf, Cond.code yX1_cosineOf cX1_cosineOf 2 (some .long), Cond.constantLong RX1 23 (16384), Cond.methodLink RX1 25 yX1_sineOf, Cond.static yX1_sineOf, Cond.code yX1_sineOf cX1_sineOf 8 (some .long), Cond.constantLong RX1 9 (32767)]
def wsX5_back_r2 : List Cond := [Cond.constantLong RX1 11 (32768), Cond.constantLong RX1 13 (131068), Cond.constantLong RX1 15 (1342177280), Cond.constantLong RX1 21 (65535), Cond.static yX5_quotient, Cond.code yX5_quotient cX5_quotient 4 (some .long), Cond.methodLink RX5 115 yX1_betaOf, Cond.static yX1_betaOf, Cond.code yX1_betaOf cX1_betaOf 6 (some .long)]
def wsX5_back : List Cond := .code yX5_back cX5_back 5 (some .int) :: ((wsX5_back_r1 ++ wsX5_back_r2))
def wsX5_times_r1 : List Cond := [Cond.constant RX5 96 (-1000001), Cond.fieldLink RX5 40 "TurnedFields" "asked" "LTurnedFields$OnTimes;", Cond.fieldLink RX5 9 "TurnedFields" "rules" "[I", Cond.fieldLink RX5 122 "TurnedFields$OnTimes" "u" "J", Cond.fieldLink RX5 125 "TurnedFields$OnTimes" "v" "J", Cond.fieldLink RX5 128 "TurnedFields$OnTimes" "w" "J", Cond.fieldLink RX5 131 "TurnedFields$OnTimes" "over" "Z", Cond.methodLink RX5 97 yX5_isVector, Cond.static yX5_isVector, Cond.initialized RX5, Cond.code yX5_isVector cX5_isVector 2 (some .boolean), Cond.methodLink RX5 140 yX5_within, Cond.static yX5_within, Cond.code yX5_within cX5_within 3 (some .boolean), Cond.methodLink RX5 118 yX4_lead, Cond.instanceMethod yX4_lead, Cond.selects RX4 yX4_lead yX4_lead, Cond.initialized RX4, Cond.code yX4_lead cX4_lead 17 none, Cond.constantLong RX4 23 (56756), Cond.constantLong RX4 25 (32768), Cond.methodLink RX4 27 Lib.MathLoose.max_long.x, Cond.static Lib.MathLoose.max_long.x, Cond.initialized "java/lang/Math"]
def wsX5_times_r2 : List Cond := [Cond.code Lib.MathLoose.max_long.x Lib.MathLoose.max_long.code 4 (some .long), Cond.methodLink RX4 33 Lib.MathLoose.min_long.x, Cond.static Lib.MathLoose.min_long.x, Cond.code Lib.MathLoose.min_long.x Lib.MathLoose.min_long.code 4 (some .long), Cond.constantLong RX4 36 (2), Cond.fieldLink RX4 19 "TurnedFields$OnTimes" "over" "Z", Cond.fieldLink RX4 7 "TurnedFields$OnTimes" "u" "J", Cond.fieldLink RX4 13 "TurnedFields$OnTimes" "v" "J", Cond.fieldLink RX4 16 "TurnedFields$OnTimes" "w" "J", Cond.methodLink RX4 38 yX4_onTime, Cond.instanceMethod yX4_onTime, Cond.selects RX4 yX4_onTime yX4_onTime, Cond.code yX4_onTime cX4_onTime 7 (some .long), Cond.constantLong RX4 41 (8192), Cond.constantLong RX4 48 (4096), Cond.static yX5_quotient, Cond.code yX5_quotient cX5_quotient 4 (some .long)]
def wsX5_times : List Cond := .code yX5_times cX5_times 4 (some .int) :: ((wsX5_times_r1 ++ wsX5_times_r2) ++ wsX50 ++ wsX40)
def wsX5_rule : List Cond := .code yX5_rule cX5_rule 4 (some .int) :: ([.constant RX5 96 (-1000001), .fieldLink RX5 134 "TurnedFields" "RULE_LOW" "[I", .fieldLink RX5 137 "TurnedFields" "RULE_HIGH" "[I", .fieldLink RX5 9 "TurnedFields" "rules" "[I", .methodLink RX5 140 yX5_within, .static yX5_within, .initialized RX5, .code yX5_within cX5_within 3 (some .boolean)] ++ wsX50)
def wsX5_gain : List Cond := .code yX5_gain cX5_gain 7 (some .int) :: ([.constant RX5 96 (-1000001), .fieldLink RX5 16 "TurnedFields" "loopD" "LTurnedFields$Loop;", .fieldLink RX5 20 "TurnedFields" "loopQ" "LTurnedFields$Loop;", .fieldLink RX5 23 "TurnedFields" "loopPace" "LTurnedFields$Loop;", .fieldLink RX5 144 "TurnedFields$Loop" "kp" "J", .fieldLink RX5 147 "TurnedFields$Loop" "ki" "J", .methodLink RX5 140 yX5_within, .static yX5_within, .initialized RX5, .code yX5_within cX5_within 3 (some .boolean)] ++ wsX50 ++ wsX20)
def wsX5_lose : List Cond := .code yX5_lose cX5_lose 3 (some .int) :: ([.fieldLink RX5 57 "TurnedFields" "lost" "Z"] ++ wsX50)
def wsX5_faultNow : List Cond := .code yX5_faultNow cX5_faultNow 1 (some .int) :: ([.fieldLink RX5 29 "TurnedFields" "motor" "LTurnedFields$Motor;", .fieldLink RX5 161 "TurnedFields$Motor" "d" "J", .methodLink RX5 218 Lib.MathLoose.abs_long.x, .static Lib.MathLoose.abs_long.x, .initialized "java/lang/Math", .code Lib.MathLoose.abs_long.x Lib.MathLoose.abs_long.code 2 (some .long), .fieldLink RX5 9 "TurnedFields" "rules" "[I", .fieldLink RX5 164 "TurnedFields$Motor" "q" "J", .fieldLink RX5 57 "TurnedFields" "lost" "Z", .fieldLink RX5 50 "TurnedFields" "state" "I", .fieldLink RX5 68 "TurnedFields" "heat" "J", .constantLong RX5 223 (100000)] ++ wsX50 ++ wsX30)
def wsX5_mayOrder : List Cond := .code yX5_mayOrder cX5_mayOrder 2 (some .boolean) :: ([.fieldLink RX5 50 "TurnedFields" "state" "I", .methodLink RX5 214 yX5_faultNow, .instanceMethod yX5_faultNow, .selects RX5 yX5_faultNow yX5_faultNow, .initialized RX5, .code yX5_faultNow cX5_faultNow 1 (some .int), .fieldLink RX5 29 "TurnedFields" "motor" "LTurnedFields$Motor;", .fieldLink RX5 161 "TurnedFields$Motor" "d" "J", .methodLink RX5 218 Lib.MathLoose.abs_long.x, .static Lib.MathLoose.abs_long.x, .initialized "java/lang/Math", .code Lib.MathLoose.abs_long.x Lib.MathLoose.abs_long.code 2 (some .long), .fieldLink RX5 9 "TurnedFields" "rules" "[I", .fieldLink RX5 164 "TurnedFields$Motor" "q" "J", .fieldLink RX5 57 "TurnedFields" "lost" "Z", .fieldLink RX5 68 "TurnedFields" "heat" "J", .constantLong RX5 223 (100000)] ++ wsX50 ++ wsX30)
def wsX5_changeTo : List Cond := .code yX5_changeTo cX5_changeTo 3 none :: ([.fieldLink RX5 50 "TurnedFields" "state" "I", .fieldLink RX5 54 "TurnedFields" "fault" "I", .fieldLink RX5 74 "TurnedFields" "alignBeats" "I", .fieldLink RX5 46 "TurnedFields" "changes" "LTurnedFields$Changes;", .fieldLink RX5 71 "TurnedFields" "beats" "I", .methodLink RX5 252 yX0_note, .instanceMethod yX0_note, .selects RX0 yX0_note yX0_note, .initialized RX0, .code yX0_note cX0_note 5 none, .fieldLink RX0 15 "TurnedFields$Changes" "next" "I", .fieldLink RX0 11 "TurnedFields$Changes" "rows" "[I", .fieldLink RX0 19 "TurnedFields$Changes" "held" "I", .methodLink RX0 28 Lib.Math.min.name, .static Lib.Math.min.name, .initialized "java/lang/Math", .code Lib.Math.min.name Lib.Math.min.code 2 (some .int), .methodLink RX0 22 yJ9_floorMod_7cf53, .static yJ9_floorMod_7cf53, .initialized RJ9, .code yJ9_floorMod_7cf53 cJ9_floorMod_7cf53 3 (some .int)] ++ wsX50 ++ wsX00)
def wsX5_order_r1 : List Cond := [Cond.constant RX5 96 (-1000001), Cond.constant RX5 153 (-1000002), Cond.fieldLink RX5 50 "TurnedFields" "state" "I", Cond.methodLink RX5 140 yX5_within, Cond.static yX5_within, Cond.initialized RX5, Cond.code yX5_within cX5_within 3 (some .boolean), Cond.methodLink RX5 150 yX5_mayOrder, Cond.instanceMethod yX5_mayOrder, Cond.selects RX5 yX5_mayOrder yX5_mayOrder, Cond.code yX5_mayOrder cX5_mayOrder 2 (some .boolean), Cond.methodLink RX5 214 yX5_faultNow, Cond.instanceMethod yX5_faultNow, Cond.selects RX5 yX5_faultNow yX5_faultNow, Cond.code yX5_faultNow cX5_faultNow 1 (some .int), Cond.fieldLink RX5 29 "TurnedFields" "motor" "LTurnedFields$Motor;", Cond.fieldLink RX5 161 "TurnedFields$Motor" "d" "J", Cond.methodLink RX5 218 Lib.MathLoose.abs_long.x, Cond.static Lib.MathLoose.abs_long.x, Cond.initialized "java/lang/Math", Cond.code Lib.MathLoose.abs_long.x Lib.MathLoose.abs_long.code 2 (some .long), Cond.fieldLink RX5 9 "TurnedFields" "rules" "[I", Cond.fieldLink RX5 164 "TurnedFields$Motor" "q" "J", Cond.fieldLink RX5 57 "TurnedFields" "lost" "Z"]
def wsX5_order_r2 : List Cond := [Cond.fieldLink RX5 68 "TurnedFields" "heat" "J", Cond.constantLong RX5 223 (100000), Cond.methodLink RX5 154 yX5_changeTo, Cond.instanceMethod yX5_changeTo, Cond.selects RX5 yX5_changeTo yX5_changeTo, Cond.code yX5_changeTo cX5_changeTo 3 none, Cond.fieldLink RX5 54 "TurnedFields" "fault" "I", Cond.fieldLink RX5 74 "TurnedFields" "alignBeats" "I", Cond.fieldLink RX5 46 "TurnedFields" "changes" "LTurnedFields$Changes;", Cond.fieldLink RX5 71 "TurnedFields" "beats" "I", Cond.methodLink RX5 252 yX0_note, Cond.instanceMethod yX0_note, Cond.selects RX0 yX0_note yX0_note, Cond.initialized RX0, Cond.code yX0_note cX0_note 5 none, Cond.fieldLink RX0 15 "TurnedFields$Changes" "next" "I", Cond.fieldLink RX0 11 "TurnedFields$Changes" "rows" "[I", Cond.fieldLink RX0 19 "TurnedFields$Changes" "held" "I", Cond.methodLink RX0 28 Lib.Math.min.name, Cond.static Lib.Math.min.name, Cond.code Lib.Math.min.name Lib.Math.min.code 2 (some .int), Cond.methodLink RX0 22 yJ9_floorMod_7cf53, Cond.static yJ9_floorMod_7cf53, Cond.initialized RJ9]
def wsX5_order_r3 : List Cond := [Cond.code yJ9_floorMod_7cf53 cJ9_floorMod_7cf53 3 (some .int)]
def wsX5_order : List Cond := .code yX5_order cX5_order 3 (some .int) :: ((wsX5_order_r1 ++ (wsX5_order_r2 ++ wsX5_order_r3)) ++ wsX50 ++ wsX30 ++ wsX00)
def wsX5_stopAtFault_r1 : List Cond := [Cond.fieldLink RX5 50 "TurnedFields" "state" "I", Cond.methodLink RX5 214 yX5_faultNow, Cond.instanceMethod yX5_faultNow, Cond.selects RX5 yX5_faultNow yX5_faultNow, Cond.initialized RX5, Cond.code yX5_faultNow cX5_faultNow 1 (some .int), Cond.fieldLink RX5 29 "TurnedFields" "motor" "LTurnedFields$Motor;", Cond.fieldLink RX5 161 "TurnedFields$Motor" "d" "J", Cond.methodLink RX5 218 Lib.MathLoose.abs_long.x, Cond.static Lib.MathLoose.abs_long.x, Cond.initialized "java/lang/Math", Cond.code Lib.MathLoose.abs_long.x Lib.MathLoose.abs_long.code 2 (some .long), Cond.fieldLink RX5 9 "TurnedFields" "rules" "[I", Cond.fieldLink RX5 164 "TurnedFields$Motor" "q" "J", Cond.fieldLink RX5 57 "TurnedFields" "lost" "Z", Cond.fieldLink RX5 68 "TurnedFields" "heat" "J", Cond.constantLong RX5 223 (100000), Cond.methodLink RX5 154 yX5_changeTo, Cond.instanceMethod yX5_changeTo, Cond.selects RX5 yX5_changeTo yX5_changeTo, Cond.code yX5_changeTo cX5_changeTo 3 none, Cond.fieldLink RX5 54 "TurnedFields" "fault" "I", Cond.fieldLink RX5 74 "TurnedFields" "alignBeats" "I", Cond.fieldLink RX5 46 "TurnedFields" "changes" "LTurnedFields$Changes;"]
def wsX5_stopAtFault_r2 : List Cond := [Cond.fieldLink RX5 71 "TurnedFields" "beats" "I", Cond.methodLink RX5 252 yX0_note, Cond.instanceMethod yX0_note, Cond.selects RX0 yX0_note yX0_note, Cond.initialized RX0, Cond.code yX0_note cX0_note 5 none, Cond.fieldLink RX0 15 "TurnedFields$Changes" "next" "I", Cond.fieldLink RX0 11 "TurnedFields$Changes" "rows" "[I", Cond.fieldLink RX0 19 "TurnedFields$Changes" "held" "I", Cond.methodLink RX0 28 Lib.Math.min.name, Cond.static Lib.Math.min.name, Cond.code Lib.Math.min.name Lib.Math.min.code 2 (some .int), Cond.methodLink RX0 22 yJ9_floorMod_7cf53, Cond.static yJ9_floorMod_7cf53, Cond.initialized RJ9, Cond.code yJ9_floorMod_7cf53 cJ9_floorMod_7cf53 3 (some .int)]
def wsX5_stopAtFault : List Cond := .code yX5_stopAtFault cX5_stopAtFault 2 none :: ((wsX5_stopAtFault_r1 ++ wsX5_stopAtFault_r2) ++ wsX50 ++ wsX30 ++ wsX00)
def wsX5_wantedD : List Cond := .code yX5_wantedD cX5_wantedD 3 (some .long) :: ([.fieldLink RX5 9 "TurnedFields" "rules" "[I", .fieldLink RX5 29 "TurnedFields" "motor" "LTurnedFields$Motor;", .fieldLink RX5 167 "TurnedFields$Motor" "pace" "J", .methodLink RX5 218 Lib.MathLoose.abs_long.x, .static Lib.MathLoose.abs_long.x, .initialized "java/lang/Math", .code Lib.MathLoose.abs_long.x Lib.MathLoose.abs_long.code 2 (some .long), .constantLong RX5 242 (-4000), .methodLink RX5 244 Lib.MathLoose.max_long.x, .static Lib.MathLoose.max_long.x, .code Lib.MathLoose.max_long.x Lib.MathLoose.max_long.code 4 (some .long)] ++ wsX50 ++ wsX30)
def wsX5_followPace_r1 : List Cond := [Cond.fieldLink RX5 9 "TurnedFields" "rules" "[I", Cond.constantLong RX5 234 (9459), Cond.fieldLink RX5 23 "TurnedFields" "loopPace" "LTurnedFields$Loop;", Cond.fieldLink RX5 29 "TurnedFields" "motor" "LTurnedFields$Motor;", Cond.fieldLink RX5 167 "TurnedFields$Motor" "pace" "J", Cond.fieldLink RX5 16 "TurnedFields" "loopD" "LTurnedFields$Loop;", Cond.fieldLink RX5 161 "TurnedFields$Motor" "d" "J", Cond.fieldLink RX5 61 "TurnedFields" "voltsD" "J", Cond.fieldLink RX5 20 "TurnedFields" "loopQ" "LTurnedFields$Loop;", Cond.fieldLink RX5 164 "TurnedFields$Motor" "q" "J", Cond.fieldLink RX5 65 "TurnedFields" "voltsQ" "J", Cond.methodLink RX5 236 yX2_step, Cond.instanceMethod yX2_step, Cond.selects RX2 yX2_step yX2_step, Cond.initialized RX2, Cond.code yX2_step cX2_step 7 (some .long), Cond.fieldLink RX2 9 "TurnedFields$Loop" "kp" "J", Cond.fieldLink RX2 17 "TurnedFields$Loop" "ki" "J", Cond.fieldLink RX2 20 "TurnedFields$Loop" "sum" "J", Cond.methodLink RX2 23 yX2_freeOut, Cond.static yX2_freeOut, Cond.code yX2_freeOut cX2_freeOut 8 (some .long), Cond.methodLink RX2 27 yX2_sumBehind, Cond.static yX2_sumBehind]
def wsX5_followPace_r2 : List Cond := [Cond.code yX2_sumBehind cX2_sumBehind 11 (some .long), Cond.static yX5_clamp, Cond.initialized RX5, Cond.code yX5_clamp cX5_clamp 4 (some .long), Cond.methodLink RX5 257 Lib.MathLoose.min_long.x, Cond.static Lib.MathLoose.min_long.x, Cond.initialized "java/lang/Math", Cond.code Lib.MathLoose.min_long.x Lib.MathLoose.min_long.code 4 (some .long), Cond.methodLink RX5 244 Lib.MathLoose.max_long.x, Cond.static Lib.MathLoose.max_long.x, Cond.code Lib.MathLoose.max_long.x Lib.MathLoose.max_long.code 4 (some .long), Cond.methodLink RX5 238 yX5_wantedD, Cond.instanceMethod yX5_wantedD, Cond.selects RX5 yX5_wantedD yX5_wantedD, Cond.code yX5_wantedD cX5_wantedD 3 (some .long), Cond.methodLink RX5 218 Lib.MathLoose.abs_long.x, Cond.static Lib.MathLoose.abs_long.x, Cond.code Lib.MathLoose.abs_long.x Lib.MathLoose.abs_long.code 2 (some .long), Cond.constantLong RX5 242 (-4000)]
def wsX5_followPace : List Cond := .code yX5_followPace cX5_followPace 7 none :: ((wsX5_followPace_r1 ++ wsX5_followPace_r2) ++ wsX50 ++ wsX30 ++ wsX20)
def wsX5_cutWires : List Cond := .code yX5_cutWires cX5_cutWires 1 none :: ([.fieldLink RX5 61 "TurnedFields" "voltsD" "J", .fieldLink RX5 65 "TurnedFields" "voltsQ" "J", .fieldLink RX5 16 "TurnedFields" "loopD" "LTurnedFields$Loop;", .fieldLink RX5 173 "TurnedFields$Loop" "sum" "J", .fieldLink RX5 20 "TurnedFields" "loopQ" "LTurnedFields$Loop;", .fieldLink RX5 23 "TurnedFields" "loopPace" "LTurnedFields$Loop;"] ++ wsX50 ++ wsX20)
def wsX5_chooseVolts_r1 : List Cond := [Cond.fieldLink RX5 50 "TurnedFields" "state" "I", Cond.fieldLink RX5 74 "TurnedFields" "alignBeats" "I", Cond.constantLong RX5 225 (600), Cond.fieldLink RX5 61 "TurnedFields" "voltsD" "J", Cond.fieldLink RX5 65 "TurnedFields" "voltsQ" "J", Cond.fieldLink RX5 9 "TurnedFields" "rules" "[I", Cond.methodLink RX5 227 yX5_followPace, Cond.instanceMethod yX5_followPace, Cond.selects RX5 yX5_followPace yX5_followPace, Cond.initialized RX5, Cond.code yX5_followPace cX5_followPace 7 none, Cond.constantLong RX5 234 (9459), Cond.fieldLink RX5 23 "TurnedFields" "loopPace" "LTurnedFields$Loop;", Cond.fieldLink RX5 29 "TurnedFields" "motor" "LTurnedFields$Motor;", Cond.fieldLink RX5 167 "TurnedFields$Motor" "pace" "J", Cond.fieldLink RX5 16 "TurnedFields" "loopD" "LTurnedFields$Loop;", Cond.fieldLink RX5 161 "TurnedFields$Motor" "d" "J", Cond.fieldLink RX5 20 "TurnedFields" "loopQ" "LTurnedFields$Loop;", Cond.fieldLink RX5 164 "TurnedFields$Motor" "q" "J", Cond.methodLink RX5 236 yX2_step, Cond.instanceMethod yX2_step, Cond.selects RX2 yX2_step yX2_step, Cond.initialized RX2, Cond.code yX2_step cX2_step 7 (some .long)]
def wsX5_chooseVolts_r2 : List Cond := [Cond.fieldLink RX2 9 "TurnedFields$Loop" "kp" "J", Cond.fieldLink RX2 17 "TurnedFields$Loop" "ki" "J", Cond.fieldLink RX2 20 "TurnedFields$Loop" "sum" "J", Cond.methodLink RX2 23 yX2_freeOut, Cond.static yX2_freeOut, Cond.code yX2_freeOut cX2_freeOut 8 (some .long), Cond.methodLink RX2 27 yX2_sumBehind, Cond.static yX2_sumBehind, Cond.code yX2_sumBehind cX2_sumBehind 11 (some .long), Cond.static yX5_clamp, Cond.code yX5_clamp cX5_clamp 4 (some .long), Cond.methodLink RX5 257 Lib.MathLoose.min_long.x, Cond.static Lib.MathLoose.min_long.x, Cond.initialized "java/lang/Math", Cond.code Lib.MathLoose.min_long.x Lib.MathLoose.min_long.code 4 (some .long), Cond.methodLink RX5 244 Lib.MathLoose.max_long.x, Cond.static Lib.MathLoose.max_long.x, Cond.code Lib.MathLoose.max_long.x Lib.MathLoose.max_long.code 4 (some .long), Cond.methodLink RX5 238 yX5_wantedD, Cond.instanceMethod yX5_wantedD, Cond.selects RX5 yX5_wantedD yX5_wantedD, Cond.code yX5_wantedD cX5_wantedD 3 (some .long), Cond.methodLink RX5 218 Lib.MathLoose.abs_long.x, Cond.static Lib.MathLoose.abs_long.x]
def wsX5_chooseVolts_r3 : List Cond := [Cond.code Lib.MathLoose.abs_long.x Lib.MathLoose.abs_long.code 2 (some .long), Cond.constantLong RX5 242 (-4000), Cond.methodLink RX5 231 yX5_cutWires, Cond.instanceMethod yX5_cutWires, Cond.selects RX5 yX5_cutWires yX5_cutWires, Cond.code yX5_cutWires cX5_cutWires 1 none, Cond.fieldLink RX5 173 "TurnedFields$Loop" "sum" "J"]
def wsX5_chooseVolts : List Cond := .code yX5_chooseVolts cX5_chooseVolts 1 none :: ((wsX5_chooseVolts_r1 ++ (wsX5_chooseVolts_r2 ++ wsX5_chooseVolts_r3)) ++ wsX50 ++ wsX30 ++ wsX20)
def wsX5_leadWires_r1 : List Cond := [Cond.fieldLink RX5 50 "TurnedFields" "state" "I", Cond.fieldLink RX5 36 "TurnedFields" "onTimes" "LTurnedFields$OnTimes;", Cond.fieldLink RX5 29 "TurnedFields" "motor" "LTurnedFields$Motor;", Cond.fieldLink RX5 170 "TurnedFields$Motor" "angle" "J", Cond.fieldLink RX5 61 "TurnedFields" "voltsD" "J", Cond.fieldLink RX5 65 "TurnedFields" "voltsQ" "J", Cond.fieldLink RX5 9 "TurnedFields" "rules" "[I", Cond.methodLink RX5 247 yX4_off, Cond.instanceMethod yX4_off, Cond.selects RX4 yX4_off yX4_off, Cond.initialized RX4, Cond.code yX4_off cX4_off 1 none, Cond.fieldLink RX4 7 "TurnedFields$OnTimes" "u" "J", Cond.fieldLink RX4 13 "TurnedFields$OnTimes" "v" "J", Cond.fieldLink RX4 16 "TurnedFields$OnTimes" "w" "J", Cond.fieldLink RX4 19 "TurnedFields$OnTimes" "over" "Z", Cond.methodLink RX5 112 yX1_alphaOf, Cond.static yX1_alphaOf, Cond.initialized RX1, Cond.code yX1_alphaOf cX1_alphaOf 6 (some .long), Cond.methodLink RX1 35 yX1_cosineOf, Cond.static yX1_cosineOf, Cond.code yX1_cosineOf cX1_cosineOf 2 (some .long), Cond.constantLong RX1 23 (16384)]
def wsX5_leadWires_r2 : List Cond := [Cond.methodLink RX1 25 yX1_sineOf, Cond.static yX1_sineOf, Cond.code yX1_sineOf cX1_sineOf 8 (some .long), Cond.constantLong RX1 9 (32767), Cond.constantLong RX1 11 (32768), Cond.constantLong RX1 13 (131068), Cond.constantLong RX1 15 (1342177280), Cond.constantLong RX1 21 (65535), Cond.static yX5_quotient, Cond.initialized RX5, Cond.code yX5_quotient cX5_quotient 4 (some .long), Cond.methodLink RX5 115 yX1_betaOf, Cond.static yX1_betaOf, Cond.code yX1_betaOf cX1_betaOf 6 (some .long), Cond.methodLink RX5 118 yX4_lead, Cond.instanceMethod yX4_lead, Cond.selects RX4 yX4_lead yX4_lead, Cond.code yX4_lead cX4_lead 17 none, Cond.constantLong RX4 23 (56756), Cond.constantLong RX4 25 (32768), Cond.methodLink RX4 27 Lib.MathLoose.max_long.x, Cond.static Lib.MathLoose.max_long.x, Cond.initialized "java/lang/Math", Cond.code Lib.MathLoose.max_long.x Lib.MathLoose.max_long.code 4 (some .long)]
def wsX5_leadWires_r3 : List Cond := [Cond.methodLink RX4 33 Lib.MathLoose.min_long.x, Cond.static Lib.MathLoose.min_long.x, Cond.code Lib.MathLoose.min_long.x Lib.MathLoose.min_long.code 4 (some .long), Cond.constantLong RX4 36 (2), Cond.methodLink RX4 38 yX4_onTime, Cond.instanceMethod yX4_onTime, Cond.selects RX4 yX4_onTime yX4_onTime, Cond.code yX4_onTime cX4_onTime 7 (some .long), Cond.constantLong RX4 41 (8192), Cond.constantLong RX4 48 (4096)]
def wsX5_leadWires : List Cond := .code yX5_leadWires cX5_leadWires 7 none :: ((wsX5_leadWires_r1 ++ (wsX5_leadWires_r2 ++ wsX5_leadWires_r3)) ++ wsX50 ++ wsX30 ++ wsX40)
def wsX5_leaveState_r1 : List Cond := [Cond.fieldLink RX5 50 "TurnedFields" "state" "I", Cond.fieldLink RX5 74 "TurnedFields" "alignBeats" "I", Cond.fieldLink RX5 29 "TurnedFields" "motor" "LTurnedFields$Motor;", Cond.fieldLink RX5 170 "TurnedFields$Motor" "angle" "J", Cond.fieldLink RX5 167 "TurnedFields$Motor" "pace" "J", Cond.methodLink RX5 218 Lib.MathLoose.abs_long.x, Cond.static Lib.MathLoose.abs_long.x, Cond.initialized "java/lang/Math", Cond.code Lib.MathLoose.abs_long.x Lib.MathLoose.abs_long.code 2 (some .long), Cond.constantLong RX5 250 (64), Cond.methodLink RX5 154 yX5_changeTo, Cond.instanceMethod yX5_changeTo, Cond.selects RX5 yX5_changeTo yX5_changeTo, Cond.initialized RX5, Cond.code yX5_changeTo cX5_changeTo 3 none, Cond.fieldLink RX5 54 "TurnedFields" "fault" "I", Cond.fieldLink RX5 46 "TurnedFields" "changes" "LTurnedFields$Changes;", Cond.fieldLink RX5 71 "TurnedFields" "beats" "I", Cond.methodLink RX5 252 yX0_note, Cond.instanceMethod yX0_note, Cond.selects RX0 yX0_note yX0_note, Cond.initialized RX0, Cond.code yX0_note cX0_note 5 none, Cond.fieldLink RX0 15 "TurnedFields$Changes" "next" "I"]
def wsX5_leaveState_r2 : List Cond := [Cond.fieldLink RX0 11 "TurnedFields$Changes" "rows" "[I", Cond.fieldLink RX0 19 "TurnedFields$Changes" "held" "I", Cond.methodLink RX0 28 Lib.Math.min.name, Cond.static Lib.Math.min.name, Cond.code Lib.Math.min.name Lib.Math.min.code 2 (some .int), Cond.methodLink RX0 22 yJ9_floorMod_7cf53, Cond.static yJ9_floorMod_7cf53, Cond.initialized RJ9, Cond.code yJ9_floorMod_7cf53 cJ9_floorMod_7cf53 3 (some .int)]
def wsX5_leaveState : List Cond := .code yX5_leaveState cX5_leaveState 1 none :: ((wsX5_leaveState_r1 ++ wsX5_leaveState_r2) ++ wsX50 ++ wsX30 ++ wsX00)
def wsX5_passBeat_r1 : List Cond := [Cond.fieldLink RX5 29 "TurnedFields" "motor" "LTurnedFields$Motor;", Cond.fieldLink RX5 61 "TurnedFields" "voltsD" "J", Cond.fieldLink RX5 65 "TurnedFields" "voltsQ" "J", Cond.fieldLink RX5 9 "TurnedFields" "rules" "[I", Cond.fieldLink RX5 68 "TurnedFields" "heat" "J", Cond.fieldLink RX5 161 "TurnedFields$Motor" "d" "J", Cond.fieldLink RX5 164 "TurnedFields$Motor" "q" "J", Cond.fieldLink RX5 71 "TurnedFields" "beats" "I", Cond.methodLink RX5 199 yX5_stopAtFault, Cond.instanceMethod yX5_stopAtFault, Cond.selects RX5 yX5_stopAtFault yX5_stopAtFault, Cond.initialized RX5, Cond.code yX5_stopAtFault cX5_stopAtFault 2 none, Cond.fieldLink RX5 50 "TurnedFields" "state" "I", Cond.methodLink RX5 214 yX5_faultNow, Cond.instanceMethod yX5_faultNow, Cond.selects RX5 yX5_faultNow yX5_faultNow, Cond.code yX5_faultNow cX5_faultNow 1 (some .int), Cond.methodLink RX5 218 Lib.MathLoose.abs_long.x, Cond.static Lib.MathLoose.abs_long.x, Cond.initialized "java/lang/Math", Cond.code Lib.MathLoose.abs_long.x Lib.MathLoose.abs_long.code 2 (some .long), Cond.fieldLink RX5 57 "TurnedFields" "lost" "Z", Cond.constantLong RX5 223 (100000)]
def wsX5_passBeat_r2 : List Cond := [Cond.methodLink RX5 154 yX5_changeTo, Cond.instanceMethod yX5_changeTo, Cond.selects RX5 yX5_changeTo yX5_changeTo, Cond.code yX5_changeTo cX5_changeTo 3 none, Cond.fieldLink RX5 54 "TurnedFields" "fault" "I", Cond.fieldLink RX5 74 "TurnedFields" "alignBeats" "I", Cond.fieldLink RX5 46 "TurnedFields" "changes" "LTurnedFields$Changes;", Cond.methodLink RX5 252 yX0_note, Cond.instanceMethod yX0_note, Cond.selects RX0 yX0_note yX0_note, Cond.initialized RX0, Cond.code yX0_note cX0_note 5 none, Cond.fieldLink RX0 15 "TurnedFields$Changes" "next" "I", Cond.fieldLink RX0 11 "TurnedFields$Changes" "rows" "[I", Cond.fieldLink RX0 19 "TurnedFields$Changes" "held" "I", Cond.methodLink RX0 28 Lib.Math.min.name, Cond.static Lib.Math.min.name, Cond.code Lib.Math.min.name Lib.Math.min.code 2 (some .int), Cond.methodLink RX0 22 yJ9_floorMod_7cf53, Cond.static yJ9_floorMod_7cf53, Cond.initialized RJ9, Cond.code yJ9_floorMod_7cf53 cJ9_floorMod_7cf53 3 (some .int), Cond.methodLink RX5 202 yX5_chooseVolts, Cond.instanceMethod yX5_chooseVolts]
def wsX5_passBeat_r3 : List Cond := [Cond.selects RX5 yX5_chooseVolts yX5_chooseVolts, Cond.code yX5_chooseVolts cX5_chooseVolts 1 none, Cond.constantLong RX5 225 (600), Cond.methodLink RX5 227 yX5_followPace, Cond.instanceMethod yX5_followPace, Cond.selects RX5 yX5_followPace yX5_followPace, Cond.code yX5_followPace cX5_followPace 7 none, Cond.constantLong RX5 234 (9459), Cond.fieldLink RX5 23 "TurnedFields" "loopPace" "LTurnedFields$Loop;", Cond.fieldLink RX5 167 "TurnedFields$Motor" "pace" "J", Cond.fieldLink RX5 16 "TurnedFields" "loopD" "LTurnedFields$Loop;", Cond.fieldLink RX5 20 "TurnedFields" "loopQ" "LTurnedFields$Loop;", Cond.methodLink RX5 236 yX2_step, Cond.instanceMethod yX2_step, Cond.selects RX2 yX2_step yX2_step, Cond.initialized RX2, Cond.code yX2_step cX2_step 7 (some .long), Cond.fieldLink RX2 9 "TurnedFields$Loop" "kp" "J", Cond.fieldLink RX2 17 "TurnedFields$Loop" "ki" "J", Cond.fieldLink RX2 20 "TurnedFields$Loop" "sum" "J", Cond.methodLink RX2 23 yX2_freeOut, Cond.static yX2_freeOut, Cond.code yX2_freeOut cX2_freeOut 8 (some .long), Cond.methodLink RX2 27 yX2_sumBehind]
def wsX5_passBeat_r4 : List Cond := [Cond.static yX2_sumBehind, Cond.code yX2_sumBehind cX2_sumBehind 11 (some .long), Cond.static yX5_clamp, Cond.code yX5_clamp cX5_clamp 4 (some .long), Cond.methodLink RX5 257 Lib.MathLoose.min_long.x, Cond.static Lib.MathLoose.min_long.x, Cond.code Lib.MathLoose.min_long.x Lib.MathLoose.min_long.code 4 (some .long), Cond.methodLink RX5 244 Lib.MathLoose.max_long.x, Cond.static Lib.MathLoose.max_long.x, Cond.code Lib.MathLoose.max_long.x Lib.MathLoose.max_long.code 4 (some .long), Cond.methodLink RX5 238 yX5_wantedD, Cond.instanceMethod yX5_wantedD, Cond.selects RX5 yX5_wantedD yX5_wantedD, Cond.code yX5_wantedD cX5_wantedD 3 (some .long), Cond.constantLong RX5 242 (-4000), Cond.methodLink RX5 231 yX5_cutWires, Cond.instanceMethod yX5_cutWires, Cond.selects RX5 yX5_cutWires yX5_cutWires, Cond.code yX5_cutWires cX5_cutWires 1 none, Cond.fieldLink RX5 173 "TurnedFields$Loop" "sum" "J", Cond.methodLink RX5 205 yX5_leadWires, Cond.instanceMethod yX5_leadWires, Cond.selects RX5 yX5_leadWires yX5_leadWires, Cond.code yX5_leadWires cX5_leadWires 7 none]
def wsX5_passBeat_r5 : List Cond := [Cond.fieldLink RX5 36 "TurnedFields" "onTimes" "LTurnedFields$OnTimes;", Cond.fieldLink RX5 170 "TurnedFields$Motor" "angle" "J", Cond.methodLink RX5 247 yX4_off, Cond.instanceMethod yX4_off, Cond.selects RX4 yX4_off yX4_off, Cond.initialized RX4, Cond.code yX4_off cX4_off 1 none, Cond.fieldLink RX4 7 "TurnedFields$OnTimes" "u" "J", Cond.fieldLink RX4 13 "TurnedFields$OnTimes" "v" "J", Cond.fieldLink RX4 16 "TurnedFields$OnTimes" "w" "J", Cond.fieldLink RX4 19 "TurnedFields$OnTimes" "over" "Z", Cond.methodLink RX5 112 yX1_alphaOf, Cond.static yX1_alphaOf, Cond.initialized RX1, Cond.code yX1_alphaOf cX1_alphaOf 6 (some .long), Cond.methodLink RX1 35 yX1_cosineOf, Cond.static yX1_cosineOf, Cond.code yX1_cosineOf cX1_cosineOf 2 (some .long), Cond.constantLong RX1 23 (16384), Cond.methodLink RX1 25 yX1_sineOf, Cond.static yX1_sineOf, Cond.code yX1_sineOf cX1_sineOf 8 (some .long), Cond.constantLong RX1 9 (32767), Cond.constantLong RX1 11 (32768)]
def wsX5_passBeat_r6 : List Cond := [Cond.constantLong RX1 13 (131068), Cond.constantLong RX1 15 (1342177280), Cond.constantLong RX1 21 (65535), Cond.static yX5_quotient, Cond.code yX5_quotient cX5_quotient 4 (some .long), Cond.methodLink RX5 115 yX1_betaOf, Cond.static yX1_betaOf, Cond.code yX1_betaOf cX1_betaOf 6 (some .long), Cond.methodLink RX5 118 yX4_lead, Cond.instanceMethod yX4_lead, Cond.selects RX4 yX4_lead yX4_lead, Cond.code yX4_lead cX4_lead 17 none, Cond.constantLong RX4 23 (56756), Cond.constantLong RX4 25 (32768), Cond.methodLink RX4 27 Lib.MathLoose.max_long.x, Cond.methodLink RX4 33 Lib.MathLoose.min_long.x, Cond.constantLong RX4 36 (2), Cond.methodLink RX4 38 yX4_onTime, Cond.instanceMethod yX4_onTime, Cond.selects RX4 yX4_onTime yX4_onTime, Cond.code yX4_onTime cX4_onTime 7 (some .long), Cond.constantLong RX4 41 (8192), Cond.constantLong RX4 48 (4096), Cond.methodLink RX5 208 yX3_step]
def wsX5_passBeat_r7 : List Cond := [Cond.instanceMethod yX3_step, Cond.selects RX3 yX3_step yX3_step, Cond.initialized RX3, Cond.code yX3_step cX3_step 13 none, Cond.fieldLink RX3 9 "TurnedFields$Motor" "d" "J", Cond.constantLong RX3 24 (64), Cond.fieldLink RX3 18 "TurnedFields$Motor" "pace" "J", Cond.fieldLink RX3 15 "TurnedFields$Motor" "q" "J", Cond.constantLong RX3 26 (4), Cond.constantLong RX3 28 (16), Cond.constantLong RX3 30 (32000), Cond.constantLong RX3 36 (60000), Cond.fieldLink RX3 21 "TurnedFields$Motor" "angle" "J", Cond.constantLong RX3 38 (65535), Cond.methodLink RX5 211 yX5_leaveState, Cond.instanceMethod yX5_leaveState, Cond.selects RX5 yX5_leaveState yX5_leaveState, Cond.code yX5_leaveState cX5_leaveState 1 none, Cond.constantLong RX5 250 (64)]
def wsX5_passBeat : List Cond := .code yX5_passBeat cX5_passBeat 1 none :: ((wsX5_passBeat_r1 ++ (wsX5_passBeat_r2 ++ (wsX5_passBeat_r3 ++ (wsX5_passBeat_r4 ++ (wsX5_passBeat_r5 ++ (wsX5_passBeat_r6 ++ wsX5_passBeat_r7)))))) ++ wsX50 ++ wsX30 ++ wsX00 ++ wsX20 ++ wsX40)
def wsX5_beat_r1 : List Cond := [Cond.constant RX5 96 (-1000001), Cond.fieldLink RX5 50 "TurnedFields" "state" "I", Cond.methodLink RX5 140 yX5_within, Cond.static yX5_within, Cond.initialized RX5, Cond.code yX5_within cX5_within 3 (some .boolean), Cond.methodLink RX5 158 yX5_passBeat, Cond.instanceMethod yX5_passBeat, Cond.selects RX5 yX5_passBeat yX5_passBeat, Cond.code yX5_passBeat cX5_passBeat 1 none, Cond.fieldLink RX5 29 "TurnedFields" "motor" "LTurnedFields$Motor;", Cond.fieldLink RX5 61 "TurnedFields" "voltsD" "J", Cond.fieldLink RX5 65 "TurnedFields" "voltsQ" "J", Cond.fieldLink RX5 9 "TurnedFields" "rules" "[I", Cond.fieldLink RX5 68 "TurnedFields" "heat" "J", Cond.fieldLink RX5 161 "TurnedFields$Motor" "d" "J", Cond.fieldLink RX5 164 "TurnedFields$Motor" "q" "J", Cond.fieldLink RX5 71 "TurnedFields" "beats" "I", Cond.methodLink RX5 199 yX5_stopAtFault, Cond.instanceMethod yX5_stopAtFault, Cond.selects RX5 yX5_stopAtFault yX5_stopAtFault, Cond.code yX5_stopAtFault cX5_stopAtFault 2 none, Cond.methodLink RX5 214 yX5_faultNow, Cond.instanceMethod yX5_faultNow]
def wsX5_beat_r2 : List Cond := [Cond.selects RX5 yX5_faultNow yX5_faultNow, Cond.code yX5_faultNow cX5_faultNow 1 (some .int), Cond.methodLink RX5 218 Lib.MathLoose.abs_long.x, Cond.static Lib.MathLoose.abs_long.x, Cond.initialized "java/lang/Math", Cond.code Lib.MathLoose.abs_long.x Lib.MathLoose.abs_long.code 2 (some .long), Cond.fieldLink RX5 57 "TurnedFields" "lost" "Z", Cond.constantLong RX5 223 (100000), Cond.methodLink RX5 154 yX5_changeTo, Cond.instanceMethod yX5_changeTo, Cond.selects RX5 yX5_changeTo yX5_changeTo, Cond.code yX5_changeTo cX5_changeTo 3 none, Cond.fieldLink RX5 54 "TurnedFields" "fault" "I", Cond.fieldLink RX5 74 "TurnedFields" "alignBeats" "I", Cond.fieldLink RX5 46 "TurnedFields" "changes" "LTurnedFields$Changes;", Cond.methodLink RX5 252 yX0_note, Cond.instanceMethod yX0_note, Cond.selects RX0 yX0_note yX0_note, Cond.initialized RX0, Cond.code yX0_note cX0_note 5 none, Cond.fieldLink RX0 15 "TurnedFields$Changes" "next" "I", Cond.fieldLink RX0 11 "TurnedFields$Changes" "rows" "[I", Cond.fieldLink RX0 19 "TurnedFields$Changes" "held" "I", Cond.methodLink RX0 28 Lib.Math.min.name]
def wsX5_beat_r3 : List Cond := [Cond.static Lib.Math.min.name, Cond.code Lib.Math.min.name Lib.Math.min.code 2 (some .int), Cond.methodLink RX0 22 yJ9_floorMod_7cf53, Cond.static yJ9_floorMod_7cf53, Cond.initialized RJ9, Cond.code yJ9_floorMod_7cf53 cJ9_floorMod_7cf53 3 (some .int), Cond.methodLink RX5 202 yX5_chooseVolts, Cond.instanceMethod yX5_chooseVolts, Cond.selects RX5 yX5_chooseVolts yX5_chooseVolts, Cond.code yX5_chooseVolts cX5_chooseVolts 1 none, Cond.constantLong RX5 225 (600), Cond.methodLink RX5 227 yX5_followPace, Cond.instanceMethod yX5_followPace, Cond.selects RX5 yX5_followPace yX5_followPace, Cond.code yX5_followPace cX5_followPace 7 none, Cond.constantLong RX5 234 (9459), Cond.fieldLink RX5 23 "TurnedFields" "loopPace" "LTurnedFields$Loop;", Cond.fieldLink RX5 167 "TurnedFields$Motor" "pace" "J", Cond.fieldLink RX5 16 "TurnedFields" "loopD" "LTurnedFields$Loop;", Cond.fieldLink RX5 20 "TurnedFields" "loopQ" "LTurnedFields$Loop;", Cond.methodLink RX5 236 yX2_step, Cond.instanceMethod yX2_step, Cond.selects RX2 yX2_step yX2_step, Cond.initialized RX2]
def wsX5_beat_r4 : List Cond := [Cond.code yX2_step cX2_step 7 (some .long), Cond.fieldLink RX2 9 "TurnedFields$Loop" "kp" "J", Cond.fieldLink RX2 17 "TurnedFields$Loop" "ki" "J", Cond.fieldLink RX2 20 "TurnedFields$Loop" "sum" "J", Cond.methodLink RX2 23 yX2_freeOut, Cond.static yX2_freeOut, Cond.code yX2_freeOut cX2_freeOut 8 (some .long), Cond.methodLink RX2 27 yX2_sumBehind, Cond.static yX2_sumBehind, Cond.code yX2_sumBehind cX2_sumBehind 11 (some .long), Cond.static yX5_clamp, Cond.code yX5_clamp cX5_clamp 4 (some .long), Cond.methodLink RX5 257 Lib.MathLoose.min_long.x, Cond.static Lib.MathLoose.min_long.x, Cond.code Lib.MathLoose.min_long.x Lib.MathLoose.min_long.code 4 (some .long), Cond.methodLink RX5 244 Lib.MathLoose.max_long.x, Cond.static Lib.MathLoose.max_long.x, Cond.code Lib.MathLoose.max_long.x Lib.MathLoose.max_long.code 4 (some .long), Cond.methodLink RX5 238 yX5_wantedD, Cond.instanceMethod yX5_wantedD, Cond.selects RX5 yX5_wantedD yX5_wantedD, Cond.code yX5_wantedD cX5_wantedD 3 (some .long), Cond.constantLong RX5 242 (-4000), Cond.methodLink RX5 231 yX5_cutWires]
def wsX5_beat_r5 : List Cond := [Cond.instanceMethod yX5_cutWires, Cond.selects RX5 yX5_cutWires yX5_cutWires, Cond.code yX5_cutWires cX5_cutWires 1 none, Cond.fieldLink RX5 173 "TurnedFields$Loop" "sum" "J", Cond.methodLink RX5 205 yX5_leadWires, Cond.instanceMethod yX5_leadWires, Cond.selects RX5 yX5_leadWires yX5_leadWires, Cond.code yX5_leadWires cX5_leadWires 7 none, Cond.fieldLink RX5 36 "TurnedFields" "onTimes" "LTurnedFields$OnTimes;", Cond.fieldLink RX5 170 "TurnedFields$Motor" "angle" "J", Cond.methodLink RX5 247 yX4_off, Cond.instanceMethod yX4_off, Cond.selects RX4 yX4_off yX4_off, Cond.initialized RX4, Cond.code yX4_off cX4_off 1 none, Cond.fieldLink RX4 7 "TurnedFields$OnTimes" "u" "J", Cond.fieldLink RX4 13 "TurnedFields$OnTimes" "v" "J", Cond.fieldLink RX4 16 "TurnedFields$OnTimes" "w" "J", Cond.fieldLink RX4 19 "TurnedFields$OnTimes" "over" "Z", Cond.methodLink RX5 112 yX1_alphaOf, Cond.static yX1_alphaOf, Cond.initialized RX1, Cond.code yX1_alphaOf cX1_alphaOf 6 (some .long), Cond.methodLink RX1 35 yX1_cosineOf]
def wsX5_beat_r6 : List Cond := [Cond.static yX1_cosineOf, Cond.code yX1_cosineOf cX1_cosineOf 2 (some .long), Cond.constantLong RX1 23 (16384), Cond.methodLink RX1 25 yX1_sineOf, Cond.static yX1_sineOf, Cond.code yX1_sineOf cX1_sineOf 8 (some .long), Cond.constantLong RX1 9 (32767), Cond.constantLong RX1 11 (32768), Cond.constantLong RX1 13 (131068), Cond.constantLong RX1 15 (1342177280), Cond.constantLong RX1 21 (65535), Cond.static yX5_quotient, Cond.code yX5_quotient cX5_quotient 4 (some .long), Cond.methodLink RX5 115 yX1_betaOf, Cond.static yX1_betaOf, Cond.code yX1_betaOf cX1_betaOf 6 (some .long), Cond.methodLink RX5 118 yX4_lead, Cond.instanceMethod yX4_lead, Cond.selects RX4 yX4_lead yX4_lead, Cond.code yX4_lead cX4_lead 17 none, Cond.constantLong RX4 23 (56756), Cond.constantLong RX4 25 (32768), Cond.methodLink RX4 27 Lib.MathLoose.max_long.x, Cond.methodLink RX4 33 Lib.MathLoose.min_long.x]
def wsX5_beat_r7 : List Cond := [Cond.constantLong RX4 36 (2), Cond.methodLink RX4 38 yX4_onTime, Cond.instanceMethod yX4_onTime, Cond.selects RX4 yX4_onTime yX4_onTime, Cond.code yX4_onTime cX4_onTime 7 (some .long), Cond.constantLong RX4 41 (8192), Cond.constantLong RX4 48 (4096), Cond.methodLink RX5 208 yX3_step, Cond.instanceMethod yX3_step, Cond.selects RX3 yX3_step yX3_step, Cond.initialized RX3, Cond.code yX3_step cX3_step 13 none, Cond.fieldLink RX3 9 "TurnedFields$Motor" "d" "J", Cond.constantLong RX3 24 (64), Cond.fieldLink RX3 18 "TurnedFields$Motor" "pace" "J", Cond.fieldLink RX3 15 "TurnedFields$Motor" "q" "J", Cond.constantLong RX3 26 (4), Cond.constantLong RX3 28 (16), Cond.constantLong RX3 30 (32000), Cond.constantLong RX3 36 (60000), Cond.fieldLink RX3 21 "TurnedFields$Motor" "angle" "J", Cond.constantLong RX3 38 (65535), Cond.methodLink RX5 211 yX5_leaveState, Cond.instanceMethod yX5_leaveState]
def wsX5_beat_r8 : List Cond := [Cond.selects RX5 yX5_leaveState yX5_leaveState, Cond.code yX5_leaveState cX5_leaveState 1 none, Cond.constantLong RX5 250 (64)]
def wsX5_beat : List Cond := .code yX5_beat cX5_beat 3 (some .int) :: ((wsX5_beat_r1 ++ (wsX5_beat_r2 ++ (wsX5_beat_r3 ++ (wsX5_beat_r4 ++ (wsX5_beat_r5 ++ (wsX5_beat_r6 ++ (wsX5_beat_r7 ++ wsX5_beat_r8))))))) ++ wsX50 ++ wsX30 ++ wsX00 ++ wsX20 ++ wsX40)
def wsX5_told : List Cond := .code yX5_told cX5_told 2 (some .int) :: ([.fieldLink RX5 50 "TurnedFields" "state" "I", .fieldLink RX5 54 "TurnedFields" "fault" "I", .fieldLink RX5 29 "TurnedFields" "motor" "LTurnedFields$Motor;", .fieldLink RX5 161 "TurnedFields$Motor" "d" "J", .fieldLink RX5 164 "TurnedFields$Motor" "q" "J", .fieldLink RX5 167 "TurnedFields$Motor" "pace" "J", .fieldLink RX5 170 "TurnedFields$Motor" "angle" "J", .fieldLink RX5 36 "TurnedFields" "onTimes" "LTurnedFields$OnTimes;", .fieldLink RX5 122 "TurnedFields$OnTimes" "u" "J", .fieldLink RX5 125 "TurnedFields$OnTimes" "v" "J", .fieldLink RX5 128 "TurnedFields$OnTimes" "w" "J", .fieldLink RX5 61 "TurnedFields" "voltsD" "J", .fieldLink RX5 65 "TurnedFields" "voltsQ" "J", .fieldLink RX5 68 "TurnedFields" "heat" "J", .fieldLink RX5 71 "TurnedFields" "beats" "I", .fieldLink RX5 131 "TurnedFields$OnTimes" "over" "Z", .fieldLink RX5 16 "TurnedFields" "loopD" "LTurnedFields$Loop;", .fieldLink RX5 173 "TurnedFields$Loop" "sum" "J", .fieldLink RX5 20 "TurnedFields" "loopQ" "LTurnedFields$Loop;", .fieldLink RX5 23 "TurnedFields" "loopPace" "LTurnedFields$Loop;", .fieldLink RX5 74 "TurnedFields" "alignBeats" "I", .constant RX5 96 (-1000001)] ++ wsX50 ++ wsX30 ++ wsX40 ++ wsX20)
def wsX5_ring : List Cond := .code yX5_ring cX5_ring 3 (some .int) :: ([.fieldLink RX5 46 "TurnedFields" "changes" "LTurnedFields$Changes;", .methodLink RX5 176 yX0_latest, .instanceMethod yX0_latest, .selects RX0 yX0_latest yX0_latest, .initialized RX0, .code yX0_latest cX0_latest 3 (some .int), .constant RX0 35 (-1000001), .fieldLink RX0 19 "TurnedFields$Changes" "held" "I", .fieldLink RX0 11 "TurnedFields$Changes" "rows" "[I", .fieldLink RX0 15 "TurnedFields$Changes" "next" "I", .static yX5_within, .initialized RX5, .code yX5_within cX5_within 3 (some .boolean), .methodLink RX0 22 yJ9_floorMod_7cf53, .static yJ9_floorMod_7cf53, .initialized RJ9, .code yJ9_floorMod_7cf53 cJ9_floorMod_7cf53 3 (some .int)] ++ wsX50 ++ wsX00)
def wsX5_loop_r1 : List Cond := [Cond.constant RX5 96 (-1000001), Cond.constant RX5 180 (-100000000), Cond.constant RX5 181 (100000000), Cond.constant RX5 182 (-100000), Cond.constant RX5 183 (100000), Cond.methodLink RX5 140 yX5_within, Cond.static yX5_within, Cond.initialized RX5, Cond.code yX5_within cX5_within 3 (some .boolean), Cond.methodLink RX5 184 yX2_freeOut, Cond.static yX2_freeOut, Cond.initialized RX2, Cond.code yX2_freeOut cX2_freeOut 8 (some .long), Cond.methodLink RX5 188 yX5_clamp, Cond.static yX5_clamp, Cond.code yX5_clamp cX5_clamp 4 (some .long), Cond.methodLink RX5 257 Lib.MathLoose.min_long.x, Cond.static Lib.MathLoose.min_long.x, Cond.initialized "java/lang/Math", Cond.code Lib.MathLoose.min_long.x Lib.MathLoose.min_long.code 4 (some .long), Cond.methodLink RX5 244 Lib.MathLoose.max_long.x, Cond.static Lib.MathLoose.max_long.x, Cond.code Lib.MathLoose.max_long.x Lib.MathLoose.max_long.code 4 (some .long), Cond.methodLink RX5 191 yX2_sumBehind]
def wsX5_loop_r2 : List Cond := [Cond.static yX2_sumBehind, Cond.code yX2_sumBehind cX2_sumBehind 11 (some .long)]
def wsX5_loop : List Cond := .code yX5_loop cX5_loop 9 (some .int) :: ((wsX5_loop_r1 ++ wsX5_loop_r2))
def wsX5_digest_r1 : List Cond := [Cond.methodLink RX5 195 yX5_told, Cond.instanceMethod yX5_told, Cond.selects RX5 yX5_told yX5_told, Cond.initialized RX5, Cond.code yX5_told cX5_told 2 (some .int), Cond.fieldLink RX5 50 "TurnedFields" "state" "I", Cond.fieldLink RX5 54 "TurnedFields" "fault" "I", Cond.fieldLink RX5 29 "TurnedFields" "motor" "LTurnedFields$Motor;", Cond.fieldLink RX5 161 "TurnedFields$Motor" "d" "J", Cond.fieldLink RX5 164 "TurnedFields$Motor" "q" "J", Cond.fieldLink RX5 167 "TurnedFields$Motor" "pace" "J", Cond.fieldLink RX5 170 "TurnedFields$Motor" "angle" "J", Cond.fieldLink RX5 36 "TurnedFields" "onTimes" "LTurnedFields$OnTimes;", Cond.fieldLink RX5 122 "TurnedFields$OnTimes" "u" "J", Cond.fieldLink RX5 125 "TurnedFields$OnTimes" "v" "J", Cond.fieldLink RX5 128 "TurnedFields$OnTimes" "w" "J", Cond.fieldLink RX5 61 "TurnedFields" "voltsD" "J", Cond.fieldLink RX5 65 "TurnedFields" "voltsQ" "J", Cond.fieldLink RX5 68 "TurnedFields" "heat" "J", Cond.fieldLink RX5 71 "TurnedFields" "beats" "I", Cond.fieldLink RX5 131 "TurnedFields$OnTimes" "over" "Z", Cond.fieldLink RX5 16 "TurnedFields" "loopD" "LTurnedFields$Loop;", Cond.fieldLink RX5 173 "TurnedFields$Loop" "sum" "J", Cond.fieldLink RX5 20 "TurnedFields" "loopQ" "LTurnedFields$Loop;"]
def wsX5_digest_r2 : List Cond := [Cond.fieldLink RX5 23 "TurnedFields" "loopPace" "LTurnedFields$Loop;", Cond.fieldLink RX5 74 "TurnedFields" "alignBeats" "I", Cond.constant RX5 96 (-1000001)]
def wsX5_digest : List Cond := .code yX5_digest cX5_digest 3 (some .int) :: ((wsX5_digest_r1 ++ wsX5_digest_r2) ++ wsX50 ++ wsX30 ++ wsX40 ++ wsX20)
def wsX6_init : List Cond := .code yX6_init cX6_init 2 none :: ([.methodLink RX6 1 objectInit, .instanceMethod objectInit, .code objectInit ⟨#[0xb1]⟩ 1 none, .arrayClass .int, .fieldLink RX6 7 "TurnedFieldsModel" "rules" "[I", .fieldLink RX6 13 "TurnedFieldsModel" "kps" "[I", .fieldLink RX6 16 "TurnedFieldsModel" "kis" "[I", .arrayClass .long, .fieldLink RX6 19 "TurnedFieldsModel" "sums" "[J", .fieldLink RX6 23 "TurnedFieldsModel" "onTimes" "[I", .fieldLink RX6 26 "TurnedFieldsModel" "ringBeats" "[I", .fieldLink RX6 29 "TurnedFieldsModel" "ringStates" "[I", .fieldLink RX6 32 "TurnedFieldsModel" "ringFaults" "[I", .fieldLink RX6 35 "TurnedFieldsModel" "found" "[I", .constant RX6 38 (40000)] ++ wsX60)
def wsX6_in : List Cond := .code yX6_in cX6_in 6 (some .boolean) :: ([])
def wsX6_clamp : List Cond := .code yX6_clamp cX6_clamp 4 (some .long) :: ([])
def wsX6_size : List Cond := .code yX6_size cX6_size 2 (some .long) :: ([])
def wsX6_sineOf : List Cond := .code yX6_sineOf cX6_sineOf 7 (some .long) :: ([.constant RX6 39 (32768), .constantLong RX6 40 (32768), .constantLong RX6 42 (131068), .constantLong RX6 44 (1342177280)])
def wsX6_cosineOf : List Cond := .code yX6_cosineOf cX6_cosineOf 1 (some .long) :: ([.constant RX6 46 (65536), .methodLink RX6 47 yX6_sineOf, .static yX6_sineOf, .initialized RX6, .code yX6_sineOf cX6_sineOf 7 (some .long), .constant RX6 39 (32768), .constantLong RX6 40 (32768), .constantLong RX6 42 (131068), .constantLong RX6 44 (1342177280)])
def wsX6_isAngle : List Cond := .code yX6_isAngle cX6_isAngle 1 (some .boolean) :: ([.constantLong RX6 51 (65535), .methodLink RX6 53 yX6_in, .static yX6_in, .initialized RX6, .code yX6_in cX6_in 6 (some .boolean)])
def wsX6_isCurrent : List Cond := .code yX6_isCurrent cX6_isCurrent 1 (some .boolean) :: ([.constantLong RX6 57 (-32000), .constantLong RX6 59 (32000), .methodLink RX6 53 yX6_in, .static yX6_in, .initialized RX6, .code yX6_in cX6_in 6 (some .boolean)])
def wsX6_sine : List Cond := .code yX6_sine cX6_sine 2 (some .int) :: ([.constant RX6 65 (-1000001), .methodLink RX6 61 yX6_isAngle, .static yX6_isAngle, .initialized RX6, .code yX6_isAngle cX6_isAngle 1 (some .boolean), .constantLong RX6 51 (65535), .methodLink RX6 53 yX6_in, .static yX6_in, .code yX6_in cX6_in 6 (some .boolean), .methodLink RX6 47 yX6_sineOf, .static yX6_sineOf, .code yX6_sineOf cX6_sineOf 7 (some .long), .constant RX6 39 (32768), .constantLong RX6 40 (32768), .constantLong RX6 42 (131068), .constantLong RX6 44 (1342177280)])
def wsX6_turned_r1 : List Cond := [Cond.constantLong RX6 69 (3), Cond.constant RX6 65 (-1000001), Cond.constantLong RX6 71 (2), Cond.constantLong RX6 73 (37837), Cond.methodLink RX6 66 yX6_isCurrent, Cond.static yX6_isCurrent, Cond.initialized RX6, Cond.code yX6_isCurrent cX6_isCurrent 1 (some .boolean), Cond.constantLong RX6 57 (-32000), Cond.constantLong RX6 59 (32000), Cond.methodLink RX6 53 yX6_in, Cond.static yX6_in, Cond.code yX6_in cX6_in 6 (some .boolean), Cond.methodLink RX6 61 yX6_isAngle, Cond.static yX6_isAngle, Cond.code yX6_isAngle cX6_isAngle 1 (some .boolean), Cond.constantLong RX6 51 (65535), Cond.methodLink RX6 75 yX6_cosineOf, Cond.static yX6_cosineOf, Cond.code yX6_cosineOf cX6_cosineOf 1 (some .long), Cond.constant RX6 46 (65536), Cond.methodLink RX6 47 yX6_sineOf, Cond.static yX6_sineOf, Cond.code yX6_sineOf cX6_sineOf 7 (some .long)]
def wsX6_turned_r2 : List Cond := [Cond.constant RX6 39 (32768), Cond.constantLong RX6 40 (32768), Cond.constantLong RX6 42 (131068), Cond.constantLong RX6 44 (1342177280)]
def wsX6_turned : List Cond := .code yX6_turned cX6_turned 13 (some .int) :: ((wsX6_turned_r1 ++ wsX6_turned_r2))
def wsX6_backAlpha : List Cond := .code yX6_backAlpha cX6_backAlpha 5 (some .long) :: ([.methodLink RX6 75 yX6_cosineOf, .static yX6_cosineOf, .initialized RX6, .code yX6_cosineOf cX6_cosineOf 1 (some .long), .constant RX6 46 (65536), .methodLink RX6 47 yX6_sineOf, .static yX6_sineOf, .code yX6_sineOf cX6_sineOf 7 (some .long), .constant RX6 39 (32768), .constantLong RX6 40 (32768), .constantLong RX6 42 (131068), .constantLong RX6 44 (1342177280)])
def wsX6_backBeta : List Cond := .code yX6_backBeta cX6_backBeta 5 (some .long) :: ([.methodLink RX6 47 yX6_sineOf, .static yX6_sineOf, .initialized RX6, .code yX6_sineOf cX6_sineOf 7 (some .long), .constant RX6 39 (32768), .constantLong RX6 40 (32768), .constantLong RX6 42 (131068), .constantLong RX6 44 (1342177280), .methodLink RX6 75 yX6_cosineOf, .static yX6_cosineOf, .code yX6_cosineOf cX6_cosineOf 1 (some .long), .constant RX6 46 (65536)])
def wsX6_back_r1 : List Cond := [Cond.constant RX6 65 (-1000001), Cond.methodLink RX6 66 yX6_isCurrent, Cond.static yX6_isCurrent, Cond.initialized RX6, Cond.code yX6_isCurrent cX6_isCurrent 1 (some .boolean), Cond.constantLong RX6 57 (-32000), Cond.constantLong RX6 59 (32000), Cond.methodLink RX6 53 yX6_in, Cond.static yX6_in, Cond.code yX6_in cX6_in 6 (some .boolean), Cond.methodLink RX6 61 yX6_isAngle, Cond.static yX6_isAngle, Cond.code yX6_isAngle cX6_isAngle 1 (some .boolean), Cond.constantLong RX6 51 (65535), Cond.methodLink RX6 78 yX6_backAlpha, Cond.static yX6_backAlpha, Cond.code yX6_backAlpha cX6_backAlpha 5 (some .long), Cond.methodLink RX6 75 yX6_cosineOf, Cond.static yX6_cosineOf, Cond.code yX6_cosineOf cX6_cosineOf 1 (some .long), Cond.constant RX6 46 (65536), Cond.methodLink RX6 47 yX6_sineOf, Cond.static yX6_sineOf, Cond.code yX6_sineOf cX6_sineOf 7 (some .long)]
def wsX6_back_r2 : List Cond := [Cond.constant RX6 39 (32768), Cond.constantLong RX6 40 (32768), Cond.constantLong RX6 42 (131068), Cond.constantLong RX6 44 (1342177280), Cond.methodLink RX6 82 yX6_backBeta, Cond.static yX6_backBeta, Cond.code yX6_backBeta cX6_backBeta 5 (some .long)]
def wsX6_back : List Cond := .code yX6_back cX6_back 5 (some .int) :: ((wsX6_back_r1 ++ wsX6_back_r2))
def wsX6_findTimes : List Cond := .code yX6_findTimes cX6_findTimes 22 none :: ([.constantLong RX6 85 (56756), .constantLong RX6 40 (32768), .constantLong RX6 71 (2), .fieldLink RX6 87 "TurnedFieldsModel" "foundOver" "Z", .constantLong RX6 91 (8192), .fieldLink RX6 7 "TurnedFieldsModel" "rules" "[I", .constantLong RX6 93 (4096), .fieldLink RX6 35 "TurnedFieldsModel" "found" "[I"] ++ wsX60)
def wsX6_times : List Cond := .code yX6_times cX6_times 4 (some .int) :: ([.constantLong RX6 69 (3), .constant RX6 65 (-1000001), .fieldLink RX6 35 "TurnedFieldsModel" "found" "[I", .fieldLink RX6 87 "TurnedFieldsModel" "foundOver" "Z", .methodLink RX6 66 yX6_isCurrent, .static yX6_isCurrent, .initialized RX6, .code yX6_isCurrent cX6_isCurrent 1 (some .boolean), .constantLong RX6 57 (-32000), .constantLong RX6 59 (32000), .methodLink RX6 53 yX6_in, .static yX6_in, .code yX6_in cX6_in 6 (some .boolean), .methodLink RX6 95 yX6_findTimes, .instanceMethod yX6_findTimes, .selects RX6 yX6_findTimes yX6_findTimes, .code yX6_findTimes cX6_findTimes 22 none, .constantLong RX6 85 (56756), .constantLong RX6 40 (32768), .constantLong RX6 71 (2), .constantLong RX6 91 (8192), .fieldLink RX6 7 "TurnedFieldsModel" "rules" "[I", .constantLong RX6 93 (4096)] ++ wsX60)
def wsX6_rule : List Cond := .code yX6_rule cX6_rule 6 (some .int) :: ([.constantLong RX6 99 (5), .constant RX6 65 (-1000001), .constant RX6 101 (-60000), .constant RX6 102 (60000), .fieldLink RX6 7 "TurnedFieldsModel" "rules" "[I", .methodLink RX6 53 yX6_in, .static yX6_in, .initialized RX6, .code yX6_in cX6_in 6 (some .boolean)] ++ wsX60)
def wsX6_gain : List Cond := .code yX6_gain cX6_gain 5 (some .int) :: ([.constantLong RX6 71 (2), .constantLong RX6 103 (4000), .constant RX6 65 (-1000001), .fieldLink RX6 13 "TurnedFieldsModel" "kps" "[I", .fieldLink RX6 16 "TurnedFieldsModel" "kis" "[I", .methodLink RX6 53 yX6_in, .static yX6_in, .initialized RX6, .code yX6_in cX6_in 6 (some .boolean)] ++ wsX60)
def wsX6_lose : List Cond := .code yX6_lose cX6_lose 3 (some .int) :: ([.fieldLink RX6 105 "TurnedFieldsModel" "lost" "Z"] ++ wsX60)
def wsX6_stepOf : List Cond := .code yX6_stepOf cX6_stepOf 14 (some .long) :: ([.fieldLink RX6 108 "TurnedFieldsModel" "behind" "J", .methodLink RX6 53 yX6_in, .static yX6_in, .initialized RX6, .code yX6_in cX6_in 6 (some .boolean), .methodLink RX6 112 yX6_clamp, .static yX6_clamp, .code yX6_clamp cX6_clamp 4 (some .long)] ++ wsX60)
def wsX6_led : List Cond := .code yX6_led cX6_led 8 (some .long) :: ([.fieldLink RX6 13 "TurnedFieldsModel" "kps" "[I", .fieldLink RX6 16 "TurnedFieldsModel" "kis" "[I", .fieldLink RX6 19 "TurnedFieldsModel" "sums" "[J", .fieldLink RX6 108 "TurnedFieldsModel" "behind" "J", .methodLink RX6 116 yX6_stepOf, .instanceMethod yX6_stepOf, .selects RX6 yX6_stepOf yX6_stepOf, .initialized RX6, .code yX6_stepOf cX6_stepOf 14 (some .long), .methodLink RX6 53 yX6_in, .static yX6_in, .code yX6_in cX6_in 6 (some .boolean), .methodLink RX6 112 yX6_clamp, .static yX6_clamp, .code yX6_clamp cX6_clamp 4 (some .long)] ++ wsX60)
def wsX6_loop : List Cond := .code yX6_loop cX6_loop 10 (some .int) :: ([.constantLong RX6 103 (4000), .constantLong RX6 59 (32000), .constantLong RX6 120 (-100000000), .constantLong RX6 122 (100000000), .constantLong RX6 124 (-100000), .constantLong RX6 126 (100000), .constant RX6 65 (-1000001), .fieldLink RX6 108 "TurnedFieldsModel" "behind" "J", .methodLink RX6 53 yX6_in, .static yX6_in, .initialized RX6, .code yX6_in cX6_in 6 (some .boolean), .methodLink RX6 116 yX6_stepOf, .instanceMethod yX6_stepOf, .selects RX6 yX6_stepOf yX6_stepOf, .code yX6_stepOf cX6_stepOf 14 (some .long), .methodLink RX6 112 yX6_clamp, .static yX6_clamp, .code yX6_clamp cX6_clamp 4 (some .long)] ++ wsX60)
def wsX6_become : List Cond := .code yX6_become cX6_become 4 none :: ([.fieldLink RX6 128 "TurnedFieldsModel" "state" "I", .fieldLink RX6 132 "TurnedFieldsModel" "fault" "I", .fieldLink RX6 135 "TurnedFieldsModel" "aligned" "I", .fieldLink RX6 26 "TurnedFieldsModel" "ringBeats" "[I", .fieldLink RX6 138 "TurnedFieldsModel" "changes" "I", .fieldLink RX6 29 "TurnedFieldsModel" "ringStates" "[I", .fieldLink RX6 32 "TurnedFieldsModel" "ringFaults" "[I"] ++ wsX60)
def wsX6_faultNow : List Cond := .code yX6_faultNow cX6_faultNow 1 (some .int) :: ([.fieldLink RX6 141 "TurnedFieldsModel" "currentD" "J", .fieldLink RX6 7 "TurnedFieldsModel" "rules" "[I", .fieldLink RX6 148 "TurnedFieldsModel" "currentQ" "J", .fieldLink RX6 105 "TurnedFieldsModel" "lost" "Z", .fieldLink RX6 128 "TurnedFieldsModel" "state" "I", .fieldLink RX6 151 "TurnedFieldsModel" "heat" "J", .constantLong RX6 126 (100000), .methodLink RX6 144 yX6_size, .static yX6_size, .initialized RX6, .code yX6_size cX6_size 2 (some .long)] ++ wsX60)
def wsX6_order_r1 : List Cond := [Cond.constantLong RX6 69 (3), Cond.constant RX6 65 (-1000001), Cond.fieldLink RX6 128 "TurnedFieldsModel" "state" "I", Cond.constant RX6 158 (-1000002), Cond.fieldLink RX6 159 "TurnedFieldsModel" "beats" "I", Cond.methodLink RX6 53 yX6_in, Cond.static yX6_in, Cond.initialized RX6, Cond.code yX6_in cX6_in 6 (some .boolean), Cond.methodLink RX6 154 yX6_faultNow, Cond.instanceMethod yX6_faultNow, Cond.selects RX6 yX6_faultNow yX6_faultNow, Cond.code yX6_faultNow cX6_faultNow 1 (some .int), Cond.fieldLink RX6 141 "TurnedFieldsModel" "currentD" "J", Cond.fieldLink RX6 7 "TurnedFieldsModel" "rules" "[I", Cond.fieldLink RX6 148 "TurnedFieldsModel" "currentQ" "J", Cond.fieldLink RX6 105 "TurnedFieldsModel" "lost" "Z", Cond.fieldLink RX6 151 "TurnedFieldsModel" "heat" "J", Cond.constantLong RX6 126 (100000), Cond.methodLink RX6 144 yX6_size, Cond.static yX6_size, Cond.code yX6_size cX6_size 2 (some .long), Cond.methodLink RX6 162 yX6_become, Cond.instanceMethod yX6_become]
def wsX6_order_r2 : List Cond := [Cond.selects RX6 yX6_become yX6_become, Cond.code yX6_become cX6_become 4 none, Cond.fieldLink RX6 132 "TurnedFieldsModel" "fault" "I", Cond.fieldLink RX6 135 "TurnedFieldsModel" "aligned" "I", Cond.fieldLink RX6 26 "TurnedFieldsModel" "ringBeats" "[I", Cond.fieldLink RX6 138 "TurnedFieldsModel" "changes" "I", Cond.fieldLink RX6 29 "TurnedFieldsModel" "ringStates" "[I", Cond.fieldLink RX6 32 "TurnedFieldsModel" "ringFaults" "[I"]
def wsX6_order : List Cond := .code yX6_order cX6_order 4 (some .int) :: ((wsX6_order_r1 ++ wsX6_order_r2) ++ wsX60)
def wsX6_lead_r1 : List Cond := [Cond.fieldLink RX6 7 "TurnedFieldsModel" "rules" "[I", Cond.constantLong RX6 166 (9459), Cond.fieldLink RX6 168 "TurnedFieldsModel" "pace" "J", Cond.constantLong RX6 175 (-4000), Cond.fieldLink RX6 141 "TurnedFieldsModel" "currentD" "J", Cond.fieldLink RX6 177 "TurnedFieldsModel" "voltD" "J", Cond.fieldLink RX6 148 "TurnedFieldsModel" "currentQ" "J", Cond.fieldLink RX6 180 "TurnedFieldsModel" "voltQ" "J", Cond.methodLink RX6 171 yX6_led, Cond.instanceMethod yX6_led, Cond.selects RX6 yX6_led yX6_led, Cond.initialized RX6, Cond.code yX6_led cX6_led 8 (some .long), Cond.fieldLink RX6 13 "TurnedFieldsModel" "kps" "[I", Cond.fieldLink RX6 16 "TurnedFieldsModel" "kis" "[I", Cond.fieldLink RX6 19 "TurnedFieldsModel" "sums" "[J", Cond.fieldLink RX6 108 "TurnedFieldsModel" "behind" "J", Cond.methodLink RX6 116 yX6_stepOf, Cond.instanceMethod yX6_stepOf, Cond.selects RX6 yX6_stepOf yX6_stepOf, Cond.code yX6_stepOf cX6_stepOf 14 (some .long), Cond.methodLink RX6 53 yX6_in, Cond.static yX6_in, Cond.code yX6_in cX6_in 6 (some .boolean)]
def wsX6_lead_r2 : List Cond := [Cond.methodLink RX6 112 yX6_clamp, Cond.static yX6_clamp, Cond.code yX6_clamp cX6_clamp 4 (some .long), Cond.methodLink RX6 144 yX6_size, Cond.static yX6_size, Cond.code yX6_size cX6_size 2 (some .long)]
def wsX6_lead : List Cond := .code yX6_lead cX6_lead 9 none :: ((wsX6_lead_r1 ++ wsX6_lead_r2) ++ wsX60)
def wsX6_moveOn : List Cond := .code yX6_moveOn cX6_moveOn 7 none :: ([.fieldLink RX6 141 "TurnedFieldsModel" "currentD" "J", .fieldLink RX6 177 "TurnedFieldsModel" "voltD" "J", .constantLong RX6 198 (64), .fieldLink RX6 168 "TurnedFieldsModel" "pace" "J", .fieldLink RX6 148 "TurnedFieldsModel" "currentQ" "J", .constantLong RX6 200 (4), .fieldLink RX6 180 "TurnedFieldsModel" "voltQ" "J", .fieldLink RX6 7 "TurnedFieldsModel" "rules" "[I", .constantLong RX6 202 (16), .constantLong RX6 59 (32000), .constantLong RX6 204 (60000), .fieldLink RX6 189 "TurnedFieldsModel" "angle" "I", .constant RX6 206 (65535), .methodLink RX6 112 yX6_clamp, .static yX6_clamp, .initialized RX6, .code yX6_clamp cX6_clamp 4 (some .long)] ++ wsX60)
def wsX6_oneBeat_r1 : List Cond := [Cond.fieldLink RX6 128 "TurnedFieldsModel" "state" "I", Cond.fieldLink RX6 159 "TurnedFieldsModel" "beats" "I", Cond.fieldLink RX6 177 "TurnedFieldsModel" "voltD" "J", Cond.fieldLink RX6 180 "TurnedFieldsModel" "voltQ" "J", Cond.fieldLink RX6 19 "TurnedFieldsModel" "sums" "[J", Cond.constantLong RX6 183 (600), Cond.fieldLink RX6 7 "TurnedFieldsModel" "rules" "[I", Cond.fieldLink RX6 189 "TurnedFieldsModel" "angle" "I", Cond.fieldLink RX6 23 "TurnedFieldsModel" "onTimes" "[I", Cond.fieldLink RX6 35 "TurnedFieldsModel" "found" "[I", Cond.fieldLink RX6 87 "TurnedFieldsModel" "foundOver" "Z", Cond.fieldLink RX6 192 "TurnedFieldsModel" "over" "Z", Cond.fieldLink RX6 151 "TurnedFieldsModel" "heat" "J", Cond.fieldLink RX6 141 "TurnedFieldsModel" "currentD" "J", Cond.fieldLink RX6 148 "TurnedFieldsModel" "currentQ" "J", Cond.fieldLink RX6 135 "TurnedFieldsModel" "aligned" "I", Cond.fieldLink RX6 168 "TurnedFieldsModel" "pace" "J", Cond.constantLong RX6 198 (64), Cond.methodLink RX6 154 yX6_faultNow, Cond.instanceMethod yX6_faultNow, Cond.selects RX6 yX6_faultNow yX6_faultNow, Cond.initialized RX6, Cond.code yX6_faultNow cX6_faultNow 1 (some .int), Cond.fieldLink RX6 105 "TurnedFieldsModel" "lost" "Z"]
def wsX6_oneBeat_r2 : List Cond := [Cond.constantLong RX6 126 (100000), Cond.methodLink RX6 144 yX6_size, Cond.static yX6_size, Cond.code yX6_size cX6_size 2 (some .long), Cond.methodLink RX6 162 yX6_become, Cond.instanceMethod yX6_become, Cond.selects RX6 yX6_become yX6_become, Cond.code yX6_become cX6_become 4 none, Cond.fieldLink RX6 132 "TurnedFieldsModel" "fault" "I", Cond.fieldLink RX6 26 "TurnedFieldsModel" "ringBeats" "[I", Cond.fieldLink RX6 138 "TurnedFieldsModel" "changes" "I", Cond.fieldLink RX6 29 "TurnedFieldsModel" "ringStates" "[I", Cond.fieldLink RX6 32 "TurnedFieldsModel" "ringFaults" "[I", Cond.methodLink RX6 185 yX6_lead, Cond.instanceMethod yX6_lead, Cond.selects RX6 yX6_lead yX6_lead, Cond.code yX6_lead cX6_lead 9 none, Cond.constantLong RX6 166 (9459), Cond.constantLong RX6 175 (-4000), Cond.methodLink RX6 171 yX6_led, Cond.instanceMethod yX6_led, Cond.selects RX6 yX6_led yX6_led, Cond.code yX6_led cX6_led 8 (some .long), Cond.fieldLink RX6 13 "TurnedFieldsModel" "kps" "[I"]
def wsX6_oneBeat_r3 : List Cond := [Cond.fieldLink RX6 16 "TurnedFieldsModel" "kis" "[I", Cond.fieldLink RX6 108 "TurnedFieldsModel" "behind" "J", Cond.methodLink RX6 116 yX6_stepOf, Cond.instanceMethod yX6_stepOf, Cond.selects RX6 yX6_stepOf yX6_stepOf, Cond.code yX6_stepOf cX6_stepOf 14 (some .long), Cond.methodLink RX6 53 yX6_in, Cond.static yX6_in, Cond.code yX6_in cX6_in 6 (some .boolean), Cond.methodLink RX6 112 yX6_clamp, Cond.static yX6_clamp, Cond.code yX6_clamp cX6_clamp 4 (some .long), Cond.methodLink RX6 78 yX6_backAlpha, Cond.static yX6_backAlpha, Cond.code yX6_backAlpha cX6_backAlpha 5 (some .long), Cond.methodLink RX6 75 yX6_cosineOf, Cond.static yX6_cosineOf, Cond.code yX6_cosineOf cX6_cosineOf 1 (some .long), Cond.constant RX6 46 (65536), Cond.methodLink RX6 47 yX6_sineOf, Cond.static yX6_sineOf, Cond.code yX6_sineOf cX6_sineOf 7 (some .long), Cond.constant RX6 39 (32768), Cond.constantLong RX6 40 (32768)]
def wsX6_oneBeat_r4 : List Cond := [Cond.constantLong RX6 42 (131068), Cond.constantLong RX6 44 (1342177280), Cond.methodLink RX6 82 yX6_backBeta, Cond.static yX6_backBeta, Cond.code yX6_backBeta cX6_backBeta 5 (some .long), Cond.methodLink RX6 95 yX6_findTimes, Cond.instanceMethod yX6_findTimes, Cond.selects RX6 yX6_findTimes yX6_findTimes, Cond.code yX6_findTimes cX6_findTimes 22 none, Cond.constantLong RX6 85 (56756), Cond.constantLong RX6 71 (2), Cond.constantLong RX6 91 (8192), Cond.constantLong RX6 93 (4096), Cond.methodLink RX6 195 yX6_moveOn, Cond.instanceMethod yX6_moveOn, Cond.selects RX6 yX6_moveOn yX6_moveOn, Cond.code yX6_moveOn cX6_moveOn 7 none, Cond.constantLong RX6 200 (4), Cond.constantLong RX6 202 (16), Cond.constantLong RX6 59 (32000), Cond.constantLong RX6 204 (60000), Cond.constant RX6 206 (65535)]
def wsX6_oneBeat : List Cond := .code yX6_oneBeat cX6_oneBeat 5 none :: ((wsX6_oneBeat_r1 ++ (wsX6_oneBeat_r2 ++ (wsX6_oneBeat_r3 ++ wsX6_oneBeat_r4))) ++ wsX60)
def wsX6_beat_r1 : List Cond := [Cond.constantLong RX6 207 (400), Cond.constant RX6 65 (-1000001), Cond.fieldLink RX6 128 "TurnedFieldsModel" "state" "I", Cond.methodLink RX6 53 yX6_in, Cond.static yX6_in, Cond.initialized RX6, Cond.code yX6_in cX6_in 6 (some .boolean), Cond.methodLink RX6 209 yX6_oneBeat, Cond.instanceMethod yX6_oneBeat, Cond.selects RX6 yX6_oneBeat yX6_oneBeat, Cond.code yX6_oneBeat cX6_oneBeat 5 none, Cond.fieldLink RX6 159 "TurnedFieldsModel" "beats" "I", Cond.fieldLink RX6 177 "TurnedFieldsModel" "voltD" "J", Cond.fieldLink RX6 180 "TurnedFieldsModel" "voltQ" "J", Cond.fieldLink RX6 19 "TurnedFieldsModel" "sums" "[J", Cond.constantLong RX6 183 (600), Cond.fieldLink RX6 7 "TurnedFieldsModel" "rules" "[I", Cond.fieldLink RX6 189 "TurnedFieldsModel" "angle" "I", Cond.fieldLink RX6 23 "TurnedFieldsModel" "onTimes" "[I", Cond.fieldLink RX6 35 "TurnedFieldsModel" "found" "[I", Cond.fieldLink RX6 87 "TurnedFieldsModel" "foundOver" "Z", Cond.fieldLink RX6 192 "TurnedFieldsModel" "over" "Z", Cond.fieldLink RX6 151 "TurnedFieldsModel" "heat" "J", Cond.fieldLink RX6 141 "TurnedFieldsModel" "currentD" "J"]
def wsX6_beat_r2 : List Cond := [Cond.fieldLink RX6 148 "TurnedFieldsModel" "currentQ" "J", Cond.fieldLink RX6 135 "TurnedFieldsModel" "aligned" "I", Cond.fieldLink RX6 168 "TurnedFieldsModel" "pace" "J", Cond.constantLong RX6 198 (64), Cond.methodLink RX6 154 yX6_faultNow, Cond.instanceMethod yX6_faultNow, Cond.selects RX6 yX6_faultNow yX6_faultNow, Cond.code yX6_faultNow cX6_faultNow 1 (some .int), Cond.fieldLink RX6 105 "TurnedFieldsModel" "lost" "Z", Cond.constantLong RX6 126 (100000), Cond.methodLink RX6 144 yX6_size, Cond.static yX6_size, Cond.code yX6_size cX6_size 2 (some .long), Cond.methodLink RX6 162 yX6_become, Cond.instanceMethod yX6_become, Cond.selects RX6 yX6_become yX6_become, Cond.code yX6_become cX6_become 4 none, Cond.fieldLink RX6 132 "TurnedFieldsModel" "fault" "I", Cond.fieldLink RX6 26 "TurnedFieldsModel" "ringBeats" "[I", Cond.fieldLink RX6 138 "TurnedFieldsModel" "changes" "I", Cond.fieldLink RX6 29 "TurnedFieldsModel" "ringStates" "[I", Cond.fieldLink RX6 32 "TurnedFieldsModel" "ringFaults" "[I", Cond.methodLink RX6 185 yX6_lead, Cond.instanceMethod yX6_lead]
def wsX6_beat_r3 : List Cond := [Cond.selects RX6 yX6_lead yX6_lead, Cond.code yX6_lead cX6_lead 9 none, Cond.constantLong RX6 166 (9459), Cond.constantLong RX6 175 (-4000), Cond.methodLink RX6 171 yX6_led, Cond.instanceMethod yX6_led, Cond.selects RX6 yX6_led yX6_led, Cond.code yX6_led cX6_led 8 (some .long), Cond.fieldLink RX6 13 "TurnedFieldsModel" "kps" "[I", Cond.fieldLink RX6 16 "TurnedFieldsModel" "kis" "[I", Cond.fieldLink RX6 108 "TurnedFieldsModel" "behind" "J", Cond.methodLink RX6 116 yX6_stepOf, Cond.instanceMethod yX6_stepOf, Cond.selects RX6 yX6_stepOf yX6_stepOf, Cond.code yX6_stepOf cX6_stepOf 14 (some .long), Cond.methodLink RX6 112 yX6_clamp, Cond.static yX6_clamp, Cond.code yX6_clamp cX6_clamp 4 (some .long), Cond.methodLink RX6 78 yX6_backAlpha, Cond.static yX6_backAlpha, Cond.code yX6_backAlpha cX6_backAlpha 5 (some .long), Cond.methodLink RX6 75 yX6_cosineOf, Cond.static yX6_cosineOf, Cond.code yX6_cosineOf cX6_cosineOf 1 (some .long)]
def wsX6_beat_r4 : List Cond := [Cond.constant RX6 46 (65536), Cond.methodLink RX6 47 yX6_sineOf, Cond.static yX6_sineOf, Cond.code yX6_sineOf cX6_sineOf 7 (some .long), Cond.constant RX6 39 (32768), Cond.constantLong RX6 40 (32768), Cond.constantLong RX6 42 (131068), Cond.constantLong RX6 44 (1342177280), Cond.methodLink RX6 82 yX6_backBeta, Cond.static yX6_backBeta, Cond.code yX6_backBeta cX6_backBeta 5 (some .long), Cond.methodLink RX6 95 yX6_findTimes, Cond.instanceMethod yX6_findTimes, Cond.selects RX6 yX6_findTimes yX6_findTimes, Cond.code yX6_findTimes cX6_findTimes 22 none, Cond.constantLong RX6 85 (56756), Cond.constantLong RX6 71 (2), Cond.constantLong RX6 91 (8192), Cond.constantLong RX6 93 (4096), Cond.methodLink RX6 195 yX6_moveOn, Cond.instanceMethod yX6_moveOn, Cond.selects RX6 yX6_moveOn yX6_moveOn, Cond.code yX6_moveOn cX6_moveOn 7 none, Cond.constantLong RX6 200 (4)]
def wsX6_beat_r5 : List Cond := [Cond.constantLong RX6 202 (16), Cond.constantLong RX6 59 (32000), Cond.constantLong RX6 204 (60000), Cond.constant RX6 206 (65535)]
def wsX6_beat : List Cond := .code yX6_beat cX6_beat 3 (some .int) :: ((wsX6_beat_r1 ++ (wsX6_beat_r2 ++ (wsX6_beat_r3 ++ (wsX6_beat_r4 ++ wsX6_beat_r5)))) ++ wsX60)
def wsX6_told : List Cond := .code yX6_told cX6_told 2 (some .int) :: ([.fieldLink RX6 128 "TurnedFieldsModel" "state" "I", .fieldLink RX6 132 "TurnedFieldsModel" "fault" "I", .fieldLink RX6 141 "TurnedFieldsModel" "currentD" "J", .fieldLink RX6 148 "TurnedFieldsModel" "currentQ" "J", .fieldLink RX6 168 "TurnedFieldsModel" "pace" "J", .fieldLink RX6 189 "TurnedFieldsModel" "angle" "I", .fieldLink RX6 23 "TurnedFieldsModel" "onTimes" "[I", .fieldLink RX6 177 "TurnedFieldsModel" "voltD" "J", .fieldLink RX6 180 "TurnedFieldsModel" "voltQ" "J", .fieldLink RX6 151 "TurnedFieldsModel" "heat" "J", .fieldLink RX6 159 "TurnedFieldsModel" "beats" "I", .fieldLink RX6 192 "TurnedFieldsModel" "over" "Z", .fieldLink RX6 19 "TurnedFieldsModel" "sums" "[J", .fieldLink RX6 135 "TurnedFieldsModel" "aligned" "I", .constant RX6 65 (-1000001)] ++ wsX60)
def wsX6_ring : List Cond := .code yX6_ring cX6_ring 4 (some .int) :: ([.constantLong RX6 71 (2), .constant RX6 65 (-1000001), .fieldLink RX6 138 "TurnedFieldsModel" "changes" "I", .fieldLink RX6 26 "TurnedFieldsModel" "ringBeats" "[I", .fieldLink RX6 29 "TurnedFieldsModel" "ringStates" "[I", .fieldLink RX6 32 "TurnedFieldsModel" "ringFaults" "[I", .methodLink RX6 53 yX6_in, .static yX6_in, .initialized RX6, .code yX6_in cX6_in 6 (some .boolean)] ++ wsX60)
def wsX6_digest : List Cond := .code yX6_digest cX6_digest 3 (some .int) :: ([.methodLink RX6 212 yX6_told, .instanceMethod yX6_told, .selects RX6 yX6_told yX6_told, .initialized RX6, .code yX6_told cX6_told 2 (some .int), .fieldLink RX6 128 "TurnedFieldsModel" "state" "I", .fieldLink RX6 132 "TurnedFieldsModel" "fault" "I", .fieldLink RX6 141 "TurnedFieldsModel" "currentD" "J", .fieldLink RX6 148 "TurnedFieldsModel" "currentQ" "J", .fieldLink RX6 168 "TurnedFieldsModel" "pace" "J", .fieldLink RX6 189 "TurnedFieldsModel" "angle" "I", .fieldLink RX6 23 "TurnedFieldsModel" "onTimes" "[I", .fieldLink RX6 177 "TurnedFieldsModel" "voltD" "J", .fieldLink RX6 180 "TurnedFieldsModel" "voltQ" "J", .fieldLink RX6 151 "TurnedFieldsModel" "heat" "J", .fieldLink RX6 159 "TurnedFieldsModel" "beats" "I", .fieldLink RX6 192 "TurnedFieldsModel" "over" "Z", .fieldLink RX6 19 "TurnedFieldsModel" "sums" "[J", .fieldLink RX6 135 "TurnedFieldsModel" "aligned" "I", .constant RX6 65 (-1000001)] ++ wsX60)
def wsJ9_abs_067f4 : List Cond := .code yJ9_abs_067f4 cJ9_abs_067f4 2 (some .long) :: ([])
def wsJ9_max_f86c9 : List Cond := .code yJ9_max_f86c9 cJ9_max_f86c9 4 (some .long) :: ([])
def wsJ9_min_7cf53 : List Cond := .code yJ9_min_7cf53 cJ9_min_7cf53 2 (some .int) :: ([])
def wsJ9_min_f86c9 : List Cond := .code yJ9_min_f86c9 cJ9_min_f86c9 4 (some .long) :: ([])
def wsL_law_r1 : List Cond := [Cond.classLink RL 7 RX5, Cond.instantiable RX5 16, Cond.initialized RX5, Cond.classLink RL 10 RX6, Cond.instantiable RX6 25, Cond.initialized RX6, Cond.methodLink RL 9 yX5_init, Cond.instanceMethod yX5_init, Cond.code yX5_init cX5_init 1 none, Cond.methodLink RX5 1 objectInit, Cond.instanceMethod objectInit, Cond.code objectInit ⟨#[0xb1]⟩ 1 none, Cond.arrayClass .int, Cond.fieldLink RX5 9 "TurnedFields" "rules" "[I", Cond.classLink RX5 13 RX2, Cond.instantiable RX2 3, Cond.initialized RX2, Cond.fieldLink RX5 16 "TurnedFields" "loopD" "LTurnedFields$Loop;", Cond.fieldLink RX5 20 "TurnedFields" "loopQ" "LTurnedFields$Loop;", Cond.fieldLink RX5 23 "TurnedFields" "loopPace" "LTurnedFields$Loop;", Cond.classLink RX5 26 RX3, Cond.instantiable RX3 4, Cond.initialized RX3, Cond.fieldLink RX5 29 "TurnedFields" "motor" "LTurnedFields$Motor;"]
def wsL_law_r2 : List Cond := [Cond.classLink RX5 33 RX4, Cond.instantiable RX4 4, Cond.initialized RX4, Cond.fieldLink RX5 36 "TurnedFields" "onTimes" "LTurnedFields$OnTimes;", Cond.fieldLink RX5 40 "TurnedFields" "asked" "LTurnedFields$OnTimes;", Cond.classLink RX5 43 RX0, Cond.instantiable RX0 3, Cond.initialized RX0, Cond.fieldLink RX5 46 "TurnedFields" "changes" "LTurnedFields$Changes;", Cond.fieldLink RX5 50 "TurnedFields" "state" "I", Cond.fieldLink RX5 54 "TurnedFields" "fault" "I", Cond.fieldLink RX5 57 "TurnedFields" "lost" "Z", Cond.fieldLink RX5 61 "TurnedFields" "voltsD" "J", Cond.fieldLink RX5 65 "TurnedFields" "voltsQ" "J", Cond.fieldLink RX5 68 "TurnedFields" "heat" "J", Cond.fieldLink RX5 71 "TurnedFields" "beats" "I", Cond.fieldLink RX5 74 "TurnedFields" "alignBeats" "I", Cond.fieldLink RX5 77 "TurnedFields" "RULE_FIRST" "[I", Cond.methodLink RX5 80 arraycopyName, Cond.native arraycopyName, Cond.static arraycopyName, Cond.initialized "java/lang/System", Cond.instanceMethod yX2_init, Cond.code yX2_init cX2_init 1 none]
def wsL_law_r3 : List Cond := [Cond.methodLink RX2 1 objectInit, Cond.constantLong RX2 7 (200), Cond.fieldLink RX2 9 "TurnedFields$Loop" "kp" "J", Cond.constantLong RX2 15 (20), Cond.fieldLink RX2 17 "TurnedFields$Loop" "ki" "J", Cond.fieldLink RX2 20 "TurnedFields$Loop" "sum" "J", Cond.instanceMethod yX3_init, Cond.code yX3_init cX3_init 1 none, Cond.methodLink RX3 3 objectInit, Cond.fieldLink RX3 9 "TurnedFields$Motor" "d" "J", Cond.fieldLink RX3 15 "TurnedFields$Motor" "q" "J", Cond.fieldLink RX3 18 "TurnedFields$Motor" "pace" "J", Cond.fieldLink RX3 21 "TurnedFields$Motor" "angle" "J", Cond.instanceMethod yX4_init, Cond.code yX4_init cX4_init 1 none, Cond.methodLink RX4 1 objectInit, Cond.fieldLink RX4 7 "TurnedFields$OnTimes" "u" "J", Cond.fieldLink RX4 13 "TurnedFields$OnTimes" "v" "J", Cond.fieldLink RX4 16 "TurnedFields$OnTimes" "w" "J", Cond.fieldLink RX4 19 "TurnedFields$OnTimes" "over" "Z", Cond.instanceMethod yX0_init, Cond.code yX0_init cX0_init 1 none, Cond.methodLink RX0 3 objectInit, Cond.fieldLink RX0 11 "TurnedFields$Changes" "rows" "[I"]
def wsL_law_r4 : List Cond := [Cond.fieldLink RX0 15 "TurnedFields$Changes" "next" "I", Cond.fieldLink RX0 19 "TurnedFields$Changes" "held" "I", Cond.methodLink RL 12 yX6_init, Cond.instanceMethod yX6_init, Cond.code yX6_init cX6_init 2 none, Cond.methodLink RX6 1 objectInit, Cond.fieldLink RX6 7 "TurnedFieldsModel" "rules" "[I", Cond.fieldLink RX6 13 "TurnedFieldsModel" "kps" "[I", Cond.fieldLink RX6 16 "TurnedFieldsModel" "kis" "[I", Cond.arrayClass .long, Cond.fieldLink RX6 19 "TurnedFieldsModel" "sums" "[J", Cond.fieldLink RX6 23 "TurnedFieldsModel" "onTimes" "[I", Cond.fieldLink RX6 26 "TurnedFieldsModel" "ringBeats" "[I", Cond.fieldLink RX6 29 "TurnedFieldsModel" "ringStates" "[I", Cond.fieldLink RX6 32 "TurnedFieldsModel" "ringFaults" "[I", Cond.fieldLink RX6 35 "TurnedFieldsModel" "found" "[I", Cond.constant RX6 38 (40000), Cond.methodLink RL 13 yX5_sine, Cond.instanceMethod yX5_sine, Cond.selects RX5 yX5_sine yX5_sine, Cond.code yX5_sine cX5_sine 2 (some .int), Cond.constant RX5 96 (-1000001), Cond.methodLink RX5 86 yX5_isAngle, Cond.static yX5_isAngle]
def wsL_law_r5 : List Cond := [Cond.code yX5_isAngle cX5_isAngle 1 (some .boolean), Cond.constant RX5 256 (65535), Cond.methodLink RX5 140 yX5_within, Cond.static yX5_within, Cond.code yX5_within cX5_within 3 (some .boolean), Cond.methodLink RX5 90 yX1_sineOf, Cond.static yX1_sineOf, Cond.initialized RX1, Cond.code yX1_sineOf cX1_sineOf 8 (some .long), Cond.constantLong RX1 9 (32767), Cond.constantLong RX1 11 (32768), Cond.constantLong RX1 13 (131068), Cond.constantLong RX1 15 (1342177280), Cond.constantLong RX1 21 (65535), Cond.static yX5_quotient, Cond.code yX5_quotient cX5_quotient 4 (some .long), Cond.methodLink RL 17 yX6_sine, Cond.instanceMethod yX6_sine, Cond.selects RX6 yX6_sine yX6_sine, Cond.code yX6_sine cX6_sine 2 (some .int), Cond.constant RX6 65 (-1000001), Cond.methodLink RX6 61 yX6_isAngle, Cond.static yX6_isAngle, Cond.code yX6_isAngle cX6_isAngle 1 (some .boolean)]
def wsL_law_r6 : List Cond := [Cond.constantLong RX6 51 (65535), Cond.methodLink RX6 53 yX6_in, Cond.static yX6_in, Cond.code yX6_in cX6_in 6 (some .boolean), Cond.methodLink RX6 47 yX6_sineOf, Cond.static yX6_sineOf, Cond.code yX6_sineOf cX6_sineOf 7 (some .long), Cond.constant RX6 39 (32768), Cond.constantLong RX6 40 (32768), Cond.constantLong RX6 42 (131068), Cond.constantLong RX6 44 (1342177280), Cond.methodLink RL 18 yX5_turned, Cond.instanceMethod yX5_turned, Cond.selects RX5 yX5_turned yX5_turned, Cond.code yX5_turned cX5_turned 7 (some .int), Cond.methodLink RX5 97 yX5_isVector, Cond.static yX5_isVector, Cond.code yX5_isVector cX5_isVector 2 (some .boolean), Cond.methodLink RX5 101 yX1_betaOfWires, Cond.static yX1_betaOfWires, Cond.code yX1_betaOfWires cX1_betaOfWires 4 (some .long), Cond.constantLong RX1 31 (2), Cond.constantLong RX1 33 (37837), Cond.methodLink RX5 105 yX1_dOf]
def wsL_law_r7 : List Cond := [Cond.static yX1_dOf, Cond.code yX1_dOf cX1_dOf 6 (some .long), Cond.methodLink RX1 35 yX1_cosineOf, Cond.static yX1_cosineOf, Cond.code yX1_cosineOf cX1_cosineOf 2 (some .long), Cond.constantLong RX1 23 (16384), Cond.methodLink RX1 25 yX1_sineOf, Cond.methodLink RX5 109 yX1_qOf, Cond.static yX1_qOf, Cond.code yX1_qOf cX1_qOf 6 (some .long), Cond.methodLink RL 22 yX6_turned, Cond.instanceMethod yX6_turned, Cond.selects RX6 yX6_turned yX6_turned, Cond.code yX6_turned cX6_turned 13 (some .int), Cond.constantLong RX6 69 (3), Cond.constantLong RX6 71 (2), Cond.constantLong RX6 73 (37837), Cond.methodLink RX6 66 yX6_isCurrent, Cond.static yX6_isCurrent, Cond.code yX6_isCurrent cX6_isCurrent 1 (some .boolean), Cond.constantLong RX6 57 (-32000), Cond.constantLong RX6 59 (32000), Cond.methodLink RX6 75 yX6_cosineOf, Cond.static yX6_cosineOf]
def wsL_law_r8 : List Cond := [Cond.code yX6_cosineOf cX6_cosineOf 1 (some .long), Cond.constant RX6 46 (65536), Cond.methodLink RL 23 yX5_back, Cond.instanceMethod yX5_back, Cond.selects RX5 yX5_back yX5_back, Cond.code yX5_back cX5_back 5 (some .int), Cond.methodLink RX5 112 yX1_alphaOf, Cond.static yX1_alphaOf, Cond.code yX1_alphaOf cX1_alphaOf 6 (some .long), Cond.methodLink RX5 115 yX1_betaOf, Cond.static yX1_betaOf, Cond.code yX1_betaOf cX1_betaOf 6 (some .long), Cond.methodLink RL 26 yX6_back, Cond.instanceMethod yX6_back, Cond.selects RX6 yX6_back yX6_back, Cond.code yX6_back cX6_back 5 (some .int), Cond.methodLink RX6 78 yX6_backAlpha, Cond.static yX6_backAlpha, Cond.code yX6_backAlpha cX6_backAlpha 5 (some .long), Cond.methodLink RX6 82 yX6_backBeta, Cond.static yX6_backBeta, Cond.code yX6_backBeta cX6_backBeta 5 (some .long), Cond.methodLink RL 27 yX5_times, Cond.instanceMethod yX5_times]
def wsL_law_r9 : List Cond := [Cond.selects RX5 yX5_times yX5_times, Cond.code yX5_times cX5_times 4 (some .int), Cond.fieldLink RX5 122 "TurnedFields$OnTimes" "u" "J", Cond.fieldLink RX5 125 "TurnedFields$OnTimes" "v" "J", Cond.fieldLink RX5 128 "TurnedFields$OnTimes" "w" "J", Cond.fieldLink RX5 131 "TurnedFields$OnTimes" "over" "Z", Cond.methodLink RX5 118 yX4_lead, Cond.instanceMethod yX4_lead, Cond.selects RX4 yX4_lead yX4_lead, Cond.code yX4_lead cX4_lead 17 none, Cond.constantLong RX4 23 (56756), Cond.constantLong RX4 25 (32768), Cond.methodLink RX4 27 Lib.MathLoose.max_long.x, Cond.static Lib.MathLoose.max_long.x, Cond.initialized "java/lang/Math", Cond.code Lib.MathLoose.max_long.x Lib.MathLoose.max_long.code 4 (some .long), Cond.methodLink RX4 33 Lib.MathLoose.min_long.x, Cond.static Lib.MathLoose.min_long.x, Cond.code Lib.MathLoose.min_long.x Lib.MathLoose.min_long.code 4 (some .long), Cond.constantLong RX4 36 (2), Cond.methodLink RX4 38 yX4_onTime, Cond.instanceMethod yX4_onTime, Cond.selects RX4 yX4_onTime yX4_onTime, Cond.code yX4_onTime cX4_onTime 7 (some .long)]
def wsL_law_r10 : List Cond := [Cond.constantLong RX4 41 (8192), Cond.constantLong RX4 48 (4096), Cond.methodLink RL 31 yX6_times, Cond.instanceMethod yX6_times, Cond.selects RX6 yX6_times yX6_times, Cond.code yX6_times cX6_times 4 (some .int), Cond.fieldLink RX6 87 "TurnedFieldsModel" "foundOver" "Z", Cond.methodLink RX6 95 yX6_findTimes, Cond.instanceMethod yX6_findTimes, Cond.selects RX6 yX6_findTimes yX6_findTimes, Cond.code yX6_findTimes cX6_findTimes 22 none, Cond.constantLong RX6 85 (56756), Cond.constantLong RX6 91 (8192), Cond.constantLong RX6 93 (4096), Cond.methodLink RL 32 yX5_rule, Cond.instanceMethod yX5_rule, Cond.selects RX5 yX5_rule yX5_rule, Cond.code yX5_rule cX5_rule 4 (some .int), Cond.fieldLink RX5 134 "TurnedFields" "RULE_LOW" "[I", Cond.fieldLink RX5 137 "TurnedFields" "RULE_HIGH" "[I", Cond.methodLink RL 36 yX6_rule, Cond.instanceMethod yX6_rule, Cond.selects RX6 yX6_rule yX6_rule, Cond.code yX6_rule cX6_rule 6 (some .int)]
def wsL_law_r11 : List Cond := [Cond.constantLong RX6 99 (5), Cond.constant RX6 101 (-60000), Cond.constant RX6 102 (60000), Cond.methodLink RL 37 yX5_gain, Cond.instanceMethod yX5_gain, Cond.selects RX5 yX5_gain yX5_gain, Cond.code yX5_gain cX5_gain 7 (some .int), Cond.fieldLink RX5 144 "TurnedFields$Loop" "kp" "J", Cond.fieldLink RX5 147 "TurnedFields$Loop" "ki" "J", Cond.methodLink RL 40 yX6_gain, Cond.instanceMethod yX6_gain, Cond.selects RX6 yX6_gain yX6_gain, Cond.code yX6_gain cX6_gain 5 (some .int), Cond.constantLong RX6 103 (4000), Cond.methodLink RL 41 yX5_lose, Cond.instanceMethod yX5_lose, Cond.selects RX5 yX5_lose yX5_lose, Cond.code yX5_lose cX5_lose 3 (some .int), Cond.methodLink RL 45 yX6_lose, Cond.instanceMethod yX6_lose, Cond.selects RX6 yX6_lose yX6_lose, Cond.code yX6_lose cX6_lose 3 (some .int), Cond.fieldLink RX6 105 "TurnedFieldsModel" "lost" "Z", Cond.methodLink RL 46 yX5_order]
def wsL_law_r12 : List Cond := [Cond.instanceMethod yX5_order, Cond.selects RX5 yX5_order yX5_order, Cond.code yX5_order cX5_order 3 (some .int), Cond.constant RX5 153 (-1000002), Cond.methodLink RX5 150 yX5_mayOrder, Cond.instanceMethod yX5_mayOrder, Cond.selects RX5 yX5_mayOrder yX5_mayOrder, Cond.code yX5_mayOrder cX5_mayOrder 2 (some .boolean), Cond.methodLink RX5 214 yX5_faultNow, Cond.instanceMethod yX5_faultNow, Cond.selects RX5 yX5_faultNow yX5_faultNow, Cond.code yX5_faultNow cX5_faultNow 1 (some .int), Cond.fieldLink RX5 161 "TurnedFields$Motor" "d" "J", Cond.methodLink RX5 218 Lib.MathLoose.abs_long.x, Cond.static Lib.MathLoose.abs_long.x, Cond.code Lib.MathLoose.abs_long.x Lib.MathLoose.abs_long.code 2 (some .long), Cond.fieldLink RX5 164 "TurnedFields$Motor" "q" "J", Cond.constantLong RX5 223 (100000), Cond.methodLink RX5 154 yX5_changeTo, Cond.instanceMethod yX5_changeTo, Cond.selects RX5 yX5_changeTo yX5_changeTo, Cond.code yX5_changeTo cX5_changeTo 3 none, Cond.methodLink RX5 252 yX0_note, Cond.instanceMethod yX0_note]
def wsL_law_r13 : List Cond := [Cond.selects RX0 yX0_note yX0_note, Cond.code yX0_note cX0_note 5 none, Cond.methodLink RX0 28 Lib.Math.min.name, Cond.static Lib.Math.min.name, Cond.code Lib.Math.min.name Lib.Math.min.code 2 (some .int), Cond.methodLink RX0 22 yJ9_floorMod_7cf53, Cond.static yJ9_floorMod_7cf53, Cond.initialized RJ9, Cond.code yJ9_floorMod_7cf53 cJ9_floorMod_7cf53 3 (some .int), Cond.methodLink RL 49 yX6_order, Cond.instanceMethod yX6_order, Cond.selects RX6 yX6_order yX6_order, Cond.code yX6_order cX6_order 4 (some .int), Cond.fieldLink RX6 128 "TurnedFieldsModel" "state" "I", Cond.constant RX6 158 (-1000002), Cond.fieldLink RX6 159 "TurnedFieldsModel" "beats" "I", Cond.methodLink RX6 154 yX6_faultNow, Cond.instanceMethod yX6_faultNow, Cond.selects RX6 yX6_faultNow yX6_faultNow, Cond.code yX6_faultNow cX6_faultNow 1 (some .int), Cond.fieldLink RX6 141 "TurnedFieldsModel" "currentD" "J", Cond.fieldLink RX6 148 "TurnedFieldsModel" "currentQ" "J", Cond.fieldLink RX6 151 "TurnedFieldsModel" "heat" "J", Cond.constantLong RX6 126 (100000)]
def wsL_law_r14 : List Cond := [Cond.methodLink RX6 144 yX6_size, Cond.static yX6_size, Cond.code yX6_size cX6_size 2 (some .long), Cond.methodLink RX6 162 yX6_become, Cond.instanceMethod yX6_become, Cond.selects RX6 yX6_become yX6_become, Cond.code yX6_become cX6_become 4 none, Cond.fieldLink RX6 132 "TurnedFieldsModel" "fault" "I", Cond.fieldLink RX6 135 "TurnedFieldsModel" "aligned" "I", Cond.fieldLink RX6 138 "TurnedFieldsModel" "changes" "I", Cond.methodLink RL 50 yX5_beat, Cond.instanceMethod yX5_beat, Cond.selects RX5 yX5_beat yX5_beat, Cond.code yX5_beat cX5_beat 3 (some .int), Cond.methodLink RX5 158 yX5_passBeat, Cond.instanceMethod yX5_passBeat, Cond.selects RX5 yX5_passBeat yX5_passBeat, Cond.code yX5_passBeat cX5_passBeat 1 none, Cond.methodLink RX5 199 yX5_stopAtFault, Cond.instanceMethod yX5_stopAtFault, Cond.selects RX5 yX5_stopAtFault yX5_stopAtFault, Cond.code yX5_stopAtFault cX5_stopAtFault 2 none, Cond.methodLink RX5 202 yX5_chooseVolts, Cond.instanceMethod yX5_chooseVolts]
def wsL_law_r15 : List Cond := [Cond.selects RX5 yX5_chooseVolts yX5_chooseVolts, Cond.code yX5_chooseVolts cX5_chooseVolts 1 none, Cond.constantLong RX5 225 (600), Cond.methodLink RX5 227 yX5_followPace, Cond.instanceMethod yX5_followPace, Cond.selects RX5 yX5_followPace yX5_followPace, Cond.code yX5_followPace cX5_followPace 7 none, Cond.constantLong RX5 234 (9459), Cond.fieldLink RX5 167 "TurnedFields$Motor" "pace" "J", Cond.methodLink RX5 236 yX2_step, Cond.instanceMethod yX2_step, Cond.selects RX2 yX2_step yX2_step, Cond.code yX2_step cX2_step 7 (some .long), Cond.methodLink RX2 23 yX2_freeOut, Cond.static yX2_freeOut, Cond.code yX2_freeOut cX2_freeOut 8 (some .long), Cond.methodLink RX2 27 yX2_sumBehind, Cond.static yX2_sumBehind, Cond.code yX2_sumBehind cX2_sumBehind 11 (some .long), Cond.static yX5_clamp, Cond.code yX5_clamp cX5_clamp 4 (some .long), Cond.methodLink RX5 257 Lib.MathLoose.min_long.x, Cond.methodLink RX5 244 Lib.MathLoose.max_long.x, Cond.methodLink RX5 238 yX5_wantedD]
def wsL_law_r16 : List Cond := [Cond.instanceMethod yX5_wantedD, Cond.selects RX5 yX5_wantedD yX5_wantedD, Cond.code yX5_wantedD cX5_wantedD 3 (some .long), Cond.constantLong RX5 242 (-4000), Cond.methodLink RX5 231 yX5_cutWires, Cond.instanceMethod yX5_cutWires, Cond.selects RX5 yX5_cutWires yX5_cutWires, Cond.code yX5_cutWires cX5_cutWires 1 none, Cond.fieldLink RX5 173 "TurnedFields$Loop" "sum" "J", Cond.methodLink RX5 205 yX5_leadWires, Cond.instanceMethod yX5_leadWires, Cond.selects RX5 yX5_leadWires yX5_leadWires, Cond.code yX5_leadWires cX5_leadWires 7 none, Cond.fieldLink RX5 170 "TurnedFields$Motor" "angle" "J", Cond.methodLink RX5 247 yX4_off, Cond.instanceMethod yX4_off, Cond.selects RX4 yX4_off yX4_off, Cond.code yX4_off cX4_off 1 none, Cond.methodLink RX5 208 yX3_step, Cond.instanceMethod yX3_step, Cond.selects RX3 yX3_step yX3_step, Cond.code yX3_step cX3_step 13 none, Cond.constantLong RX3 24 (64), Cond.constantLong RX3 26 (4)]
def wsL_law_r17 : List Cond := [Cond.constantLong RX3 28 (16), Cond.constantLong RX3 30 (32000), Cond.constantLong RX3 36 (60000), Cond.constantLong RX3 38 (65535), Cond.methodLink RX5 211 yX5_leaveState, Cond.instanceMethod yX5_leaveState, Cond.selects RX5 yX5_leaveState yX5_leaveState, Cond.code yX5_leaveState cX5_leaveState 1 none, Cond.constantLong RX5 250 (64), Cond.methodLink RL 53 yX6_beat, Cond.instanceMethod yX6_beat, Cond.selects RX6 yX6_beat yX6_beat, Cond.code yX6_beat cX6_beat 3 (some .int), Cond.constantLong RX6 207 (400), Cond.methodLink RX6 209 yX6_oneBeat, Cond.instanceMethod yX6_oneBeat, Cond.selects RX6 yX6_oneBeat yX6_oneBeat, Cond.code yX6_oneBeat cX6_oneBeat 5 none, Cond.fieldLink RX6 177 "TurnedFieldsModel" "voltD" "J", Cond.fieldLink RX6 180 "TurnedFieldsModel" "voltQ" "J", Cond.constantLong RX6 183 (600), Cond.fieldLink RX6 189 "TurnedFieldsModel" "angle" "I", Cond.fieldLink RX6 192 "TurnedFieldsModel" "over" "Z", Cond.fieldLink RX6 168 "TurnedFieldsModel" "pace" "J"]
def wsL_law_r18 : List Cond := [Cond.constantLong RX6 198 (64), Cond.methodLink RX6 185 yX6_lead, Cond.instanceMethod yX6_lead, Cond.selects RX6 yX6_lead yX6_lead, Cond.code yX6_lead cX6_lead 9 none, Cond.constantLong RX6 166 (9459), Cond.constantLong RX6 175 (-4000), Cond.methodLink RX6 171 yX6_led, Cond.instanceMethod yX6_led, Cond.selects RX6 yX6_led yX6_led, Cond.code yX6_led cX6_led 8 (some .long), Cond.fieldLink RX6 108 "TurnedFieldsModel" "behind" "J", Cond.methodLink RX6 116 yX6_stepOf, Cond.instanceMethod yX6_stepOf, Cond.selects RX6 yX6_stepOf yX6_stepOf, Cond.code yX6_stepOf cX6_stepOf 14 (some .long), Cond.methodLink RX6 112 yX6_clamp, Cond.static yX6_clamp, Cond.code yX6_clamp cX6_clamp 4 (some .long), Cond.methodLink RX6 195 yX6_moveOn, Cond.instanceMethod yX6_moveOn, Cond.selects RX6 yX6_moveOn yX6_moveOn, Cond.code yX6_moveOn cX6_moveOn 7 none, Cond.constantLong RX6 200 (4)]
def wsL_law_r19 : List Cond := [Cond.constantLong RX6 202 (16), Cond.constantLong RX6 204 (60000), Cond.constant RX6 206 (65535), Cond.methodLink RL 54 yX5_told, Cond.instanceMethod yX5_told, Cond.selects RX5 yX5_told yX5_told, Cond.code yX5_told cX5_told 2 (some .int), Cond.methodLink RL 57 yX6_told, Cond.instanceMethod yX6_told, Cond.selects RX6 yX6_told yX6_told, Cond.code yX6_told cX6_told 2 (some .int), Cond.methodLink RL 58 yX5_ring, Cond.instanceMethod yX5_ring, Cond.selects RX5 yX5_ring yX5_ring, Cond.code yX5_ring cX5_ring 3 (some .int), Cond.methodLink RX5 176 yX0_latest, Cond.instanceMethod yX0_latest, Cond.selects RX0 yX0_latest yX0_latest, Cond.code yX0_latest cX0_latest 3 (some .int), Cond.constant RX0 35 (-1000001), Cond.methodLink RL 61 yX6_ring, Cond.instanceMethod yX6_ring, Cond.selects RX6 yX6_ring yX6_ring, Cond.code yX6_ring cX6_ring 4 (some .int)]
def wsL_law_r20 : List Cond := [Cond.methodLink RL 62 yX5_loop, Cond.instanceMethod yX5_loop, Cond.selects RX5 yX5_loop yX5_loop, Cond.code yX5_loop cX5_loop 9 (some .int), Cond.constant RX5 180 (-100000000), Cond.constant RX5 181 (100000000), Cond.constant RX5 182 (-100000), Cond.constant RX5 183 (100000), Cond.methodLink RX5 184 yX2_freeOut, Cond.methodLink RX5 188 yX5_clamp, Cond.methodLink RX5 191 yX2_sumBehind, Cond.methodLink RL 66 yX6_loop, Cond.instanceMethod yX6_loop, Cond.selects RX6 yX6_loop yX6_loop, Cond.code yX6_loop cX6_loop 10 (some .int), Cond.constantLong RX6 120 (-100000000), Cond.constantLong RX6 122 (100000000), Cond.constantLong RX6 124 (-100000), Cond.methodLink RL 67 yX5_digest, Cond.instanceMethod yX5_digest, Cond.selects RX5 yX5_digest yX5_digest, Cond.code yX5_digest cX5_digest 3 (some .int), Cond.methodLink RX5 195 yX5_told, Cond.methodLink RL 71 yX6_digest]
def wsL_law_r21 : List Cond := [Cond.instanceMethod yX6_digest, Cond.selects RX6 yX6_digest yX6_digest, Cond.code yX6_digest cX6_digest 3 (some .int), Cond.methodLink RX6 212 yX6_told]
def wsL_law : List Cond := (wsL_law_r1 ++ (wsL_law_r2 ++ (wsL_law_r3 ++ (wsL_law_r4 ++ (wsL_law_r5 ++ (wsL_law_r6 ++ (wsL_law_r7 ++ (wsL_law_r8 ++ (wsL_law_r9 ++ (wsL_law_r10 ++ (wsL_law_r11 ++ (wsL_law_r12 ++ (wsL_law_r13 ++ (wsL_law_r14 ++ (wsL_law_r15 ++ (wsL_law_r16 ++ (wsL_law_r17 ++ (wsL_law_r18 ++ (wsL_law_r19 ++ (wsL_law_r20 ++ wsL_law_r21)))))))))))))))))))) ++ wsX50 ++ wsX60 ++ wsX20 ++ wsX30 ++ wsX40 ++ wsX00 ++ ([] : List Cond)
theorem dX0_init_0 : decode cX0_init 0 = .ok (.aload_n 0, 1) := by decide +kernel
theorem dX0_init_1 : decode cX0_init 1 = .ok (.invokespecial 3, 3) := by decide +kernel
theorem dX0_init_4 : decode cX0_init 4 = .ok (.aload_n 0, 1) := by decide +kernel
theorem dX0_init_5 : decode cX0_init 5 = .ok (.bipush 60, 2) := by decide +kernel
theorem dX0_init_7 : decode cX0_init 7 = .ok (.newarray .int, 2) := by decide +kernel
theorem dX0_init_9 : decode cX0_init 9 = .ok (.putfield 11, 3) := by decide +kernel
theorem dX0_init_12 : decode cX0_init 12 = .ok (.aload_n 0, 1) := by decide +kernel
theorem dX0_init_13 : decode cX0_init 13 = .ok (.iconst 0, 1) := by decide +kernel
theorem dX0_init_14 : decode cX0_init 14 = .ok (.putfield 15, 3) := by decide +kernel
theorem dX0_init_17 : decode cX0_init 17 = .ok (.aload_n 0, 1) := by decide +kernel
theorem dX0_init_18 : decode cX0_init 18 = .ok (.iconst 0, 1) := by decide +kernel
theorem dX0_init_19 : decode cX0_init 19 = .ok (.putfield 19, 3) := by decide +kernel
theorem dX0_init_22 : decode cX0_init 22 = .ok (.return_, 1) := by decide +kernel
set_option maxRecDepth 20000 in
theorem ggX0_note_J9_floorMod_7cf53 : GoodIn wsX0_note wsJ9_floorMod_7cf53 := goodIn_r _ [11] (by decide +kernel) (by decide +kernel)
set_option maxRecDepth 20000 in
theorem gX0_note_J9_floorMod_7cf53 : GoodIn wsX0_note (va_wsS RX0 22 yJ9_floorMod_7cf53 wsJ9_floorMod_7cf53) := goodIn_app (goodIn_of _ (by decide +kernel)) ggX0_note_J9_floorMod_7cf53
theorem dX0_note_0 : decode cX0_note 0 = .ok (.aload_n 0, 1) := by decide +kernel
theorem dX0_note_1 : decode cX0_note 1 = .ok (.getfield 15, 3) := by decide +kernel
theorem dX0_note_4 : decode cX0_note 4 = .ok (.bipush 20, 2) := by decide +kernel
theorem dX0_note_6 : decode cX0_note 6 = .ok (.invokestatic 22, 3) := by decide +kernel
theorem dX0_note_9 : decode cX0_note 9 = .ok (.iconst 3, 1) := by decide +kernel
theorem dX0_note_10 : decode cX0_note 10 = .ok (.imul, 1) := by decide +kernel
theorem dX0_note_11 : decode cX0_note 11 = .ok (.istore 4, 2) := by decide +kernel
theorem dX0_note_13 : decode cX0_note 13 = .ok (.aload_n 0, 1) := by decide +kernel
theorem dX0_note_14 : decode cX0_note 14 = .ok (.getfield 11, 3) := by decide +kernel
theorem dX0_note_17 : decode cX0_note 17 = .ok (.iload 4, 2) := by decide +kernel
theorem dX0_note_19 : decode cX0_note 19 = .ok (.iload_n 1, 1) := by decide +kernel
theorem dX0_note_20 : decode cX0_note 20 = .ok (.iastore, 1) := by decide +kernel
theorem dX0_note_21 : decode cX0_note 21 = .ok (.aload_n 0, 1) := by decide +kernel
theorem dX0_note_22 : decode cX0_note 22 = .ok (.getfield 11, 3) := by decide +kernel
theorem dX0_note_25 : decode cX0_note 25 = .ok (.iload 4, 2) := by decide +kernel
theorem dX0_note_27 : decode cX0_note 27 = .ok (.iconst 1, 1) := by decide +kernel
theorem dX0_note_28 : decode cX0_note 28 = .ok (.iadd, 1) := by decide +kernel
theorem dX0_note_29 : decode cX0_note 29 = .ok (.iload_n 2, 1) := by decide +kernel
theorem dX0_note_30 : decode cX0_note 30 = .ok (.iastore, 1) := by decide +kernel
theorem dX0_note_31 : decode cX0_note 31 = .ok (.aload_n 0, 1) := by decide +kernel
theorem dX0_note_32 : decode cX0_note 32 = .ok (.getfield 11, 3) := by decide +kernel
theorem dX0_note_35 : decode cX0_note 35 = .ok (.iload 4, 2) := by decide +kernel
theorem dX0_note_37 : decode cX0_note 37 = .ok (.iconst 2, 1) := by decide +kernel
theorem dX0_note_38 : decode cX0_note 38 = .ok (.iadd, 1) := by decide +kernel
theorem dX0_note_39 : decode cX0_note 39 = .ok (.iload_n 3, 1) := by decide +kernel
theorem dX0_note_40 : decode cX0_note 40 = .ok (.iastore, 1) := by decide +kernel
theorem dX0_note_41 : decode cX0_note 41 = .ok (.aload_n 0, 1) := by decide +kernel
theorem dX0_note_42 : decode cX0_note 42 = .ok (.aload_n 0, 1) := by decide +kernel
theorem dX0_note_43 : decode cX0_note 43 = .ok (.getfield 15, 3) := by decide +kernel
theorem dX0_note_46 : decode cX0_note 46 = .ok (.iconst 1, 1) := by decide +kernel
theorem dX0_note_47 : decode cX0_note 47 = .ok (.iadd, 1) := by decide +kernel
theorem dX0_note_48 : decode cX0_note 48 = .ok (.bipush 20, 2) := by decide +kernel
theorem dX0_note_50 : decode cX0_note 50 = .ok (.irem, 1) := by decide +kernel
theorem dX0_note_51 : decode cX0_note 51 = .ok (.putfield 15, 3) := by decide +kernel
theorem dX0_note_54 : decode cX0_note 54 = .ok (.aload_n 0, 1) := by decide +kernel
theorem dX0_note_55 : decode cX0_note 55 = .ok (.bipush 20, 2) := by decide +kernel
theorem dX0_note_57 : decode cX0_note 57 = .ok (.aload_n 0, 1) := by decide +kernel
theorem dX0_note_58 : decode cX0_note 58 = .ok (.getfield 19, 3) := by decide +kernel
theorem dX0_note_61 : decode cX0_note 61 = .ok (.iconst 1, 1) := by decide +kernel
theorem dX0_note_62 : decode cX0_note 62 = .ok (.iadd, 1) := by decide +kernel
theorem dX0_note_63 : decode cX0_note 63 = .ok (.invokestatic 28, 3) := by decide +kernel
theorem dX0_note_66 : decode cX0_note 66 = .ok (.putfield 19, 3) := by decide +kernel
theorem dX0_note_69 : decode cX0_note 69 = .ok (.return_, 1) := by decide +kernel
set_option maxRecDepth 20000 in
theorem ggX0_latest_X5_within : GoodIn wsX0_latest wsX5_within := goodIn_r _ [7] (by decide +kernel) (by decide +kernel)
set_option maxRecDepth 20000 in
theorem gX0_latest_X5_within_n31 : GoodIn wsX0_latest (wsX5_within) := ggX0_latest_X5_within
set_option maxRecDepth 20000 in
theorem ggX0_latest_J9_floorMod_7cf53 : GoodIn wsX0_latest wsJ9_floorMod_7cf53 := goodIn_r _ [11] (by decide +kernel) (by decide +kernel)
set_option maxRecDepth 20000 in
theorem gX0_latest_J9_floorMod_7cf53 : GoodIn wsX0_latest (va_wsS RX0 22 yJ9_floorMod_7cf53 wsJ9_floorMod_7cf53) := goodIn_app (goodIn_of _ (by decide +kernel)) ggX0_latest_J9_floorMod_7cf53
theorem dX0_latest_0 : decode cX0_latest 0 = .ok (.iload_n 2, 1) := by decide +kernel
theorem dX0_latest_1 : decode cX0_latest 1 = .ok (.iconst 0, 1) := by decide +kernel
theorem dX0_latest_2 : decode cX0_latest 2 = .ok (.iconst 2, 1) := by decide +kernel
theorem dX0_latest_3 : decode cX0_latest 3 = .ok (.invokestatic 31, 3) := by decide +kernel
theorem dX0_latest_6 : decode cX0_latest 6 = .ok (.ifCond .ne 6, 3) := by decide +kernel
theorem dX0_latest_9 : decode cX0_latest 9 = .ok (.ldc 35, 2) := by decide +kernel
theorem dX0_latest_11 : decode cX0_latest 11 = .ok (.ireturn, 1) := by decide +kernel
theorem dX0_latest_12 : decode cX0_latest 12 = .ok (.iload_n 1, 1) := by decide +kernel
theorem dX0_latest_13 : decode cX0_latest 13 = .ok (.ifCond .lt 11, 3) := by decide +kernel
theorem dX0_latest_16 : decode cX0_latest 16 = .ok (.iload_n 1, 1) := by decide +kernel
theorem dX0_latest_17 : decode cX0_latest 17 = .ok (.aload_n 0, 1) := by decide +kernel
theorem dX0_latest_18 : decode cX0_latest 18 = .ok (.getfield 19, 3) := by decide +kernel
theorem dX0_latest_21 : decode cX0_latest 21 = .ok (.if_icmp .lt 5, 3) := by decide +kernel
theorem dX0_latest_24 : decode cX0_latest 24 = .ok (.iconst (-1), 1) := by decide +kernel
theorem dX0_latest_25 : decode cX0_latest 25 = .ok (.ireturn, 1) := by decide +kernel
theorem dX0_latest_26 : decode cX0_latest 26 = .ok (.aload_n 0, 1) := by decide +kernel
theorem dX0_latest_27 : decode cX0_latest 27 = .ok (.getfield 11, 3) := by decide +kernel
theorem dX0_latest_30 : decode cX0_latest 30 = .ok (.aload_n 0, 1) := by decide +kernel
theorem dX0_latest_31 : decode cX0_latest 31 = .ok (.getfield 15, 3) := by decide +kernel
theorem dX0_latest_34 : decode cX0_latest 34 = .ok (.iconst 1, 1) := by decide +kernel
theorem dX0_latest_35 : decode cX0_latest 35 = .ok (.isub, 1) := by decide +kernel
theorem dX0_latest_36 : decode cX0_latest 36 = .ok (.iload_n 1, 1) := by decide +kernel
theorem dX0_latest_37 : decode cX0_latest 37 = .ok (.isub, 1) := by decide +kernel
theorem dX0_latest_38 : decode cX0_latest 38 = .ok (.bipush 20, 2) := by decide +kernel
theorem dX0_latest_40 : decode cX0_latest 40 = .ok (.invokestatic 22, 3) := by decide +kernel
theorem dX0_latest_43 : decode cX0_latest 43 = .ok (.iconst 3, 1) := by decide +kernel
theorem dX0_latest_44 : decode cX0_latest 44 = .ok (.imul, 1) := by decide +kernel
theorem dX0_latest_45 : decode cX0_latest 45 = .ok (.iload_n 2, 1) := by decide +kernel
theorem dX0_latest_46 : decode cX0_latest 46 = .ok (.iadd, 1) := by decide +kernel
theorem dX0_latest_47 : decode cX0_latest 47 = .ok (.iaload, 1) := by decide +kernel
theorem dX0_latest_48 : decode cX0_latest 48 = .ok (.ireturn, 1) := by decide +kernel
set_option maxRecDepth 20000 in
theorem ggX1_sineOf_X5_quotient : GoodIn wsX1_sineOf wsX5_quotient := goodIn_r _ [8] (by decide +kernel) (by decide +kernel)
set_option maxRecDepth 20000 in
theorem gX1_sineOf_X5_quotient_n17 : GoodIn wsX1_sineOf (wsX5_quotient) := ggX1_sineOf_X5_quotient
theorem dX1_sineOf_0 : decode cX1_sineOf 0 = .ok (.lload_n 0, 1) := by decide +kernel
theorem dX1_sineOf_1 : decode cX1_sineOf 1 = .ok (.ldc2_w 9, 3) := by decide +kernel
theorem dX1_sineOf_4 : decode cX1_sineOf 4 = .ok (.land, 1) := by decide +kernel
theorem dX1_sineOf_5 : decode cX1_sineOf 5 = .ok (.lstore_n 2, 1) := by decide +kernel
theorem dX1_sineOf_6 : decode cX1_sineOf 6 = .ok (.lload_n 2, 1) := by decide +kernel
theorem dX1_sineOf_7 : decode cX1_sineOf 7 = .ok (.ldc2_w 11, 3) := by decide +kernel
theorem dX1_sineOf_10 : decode cX1_sineOf 10 = .ok (.lload_n 2, 1) := by decide +kernel
theorem dX1_sineOf_11 : decode cX1_sineOf 11 = .ok (.lsub, 1) := by decide +kernel
theorem dX1_sineOf_12 : decode cX1_sineOf 12 = .ok (.lmul, 1) := by decide +kernel
theorem dX1_sineOf_13 : decode cX1_sineOf 13 = .ok (.lstore 4, 2) := by decide +kernel
theorem dX1_sineOf_15 : decode cX1_sineOf 15 = .ok (.ldc2_w 13, 3) := by decide +kernel
theorem dX1_sineOf_18 : decode cX1_sineOf 18 = .ok (.lload 4, 2) := by decide +kernel
theorem dX1_sineOf_20 : decode cX1_sineOf 20 = .ok (.lmul, 1) := by decide +kernel
theorem dX1_sineOf_21 : decode cX1_sineOf 21 = .ok (.ldc2_w 15, 3) := by decide +kernel
theorem dX1_sineOf_24 : decode cX1_sineOf 24 = .ok (.lload 4, 2) := by decide +kernel
theorem dX1_sineOf_26 : decode cX1_sineOf 26 = .ok (.lsub, 1) := by decide +kernel
theorem dX1_sineOf_27 : decode cX1_sineOf 27 = .ok (.invokestatic 17, 3) := by decide +kernel
theorem dX1_sineOf_30 : decode cX1_sineOf 30 = .ok (.lstore 6, 2) := by decide +kernel
theorem dX1_sineOf_32 : decode cX1_sineOf 32 = .ok (.lload_n 0, 1) := by decide +kernel
theorem dX1_sineOf_33 : decode cX1_sineOf 33 = .ok (.ldc2_w 21, 3) := by decide +kernel
theorem dX1_sineOf_36 : decode cX1_sineOf 36 = .ok (.land, 1) := by decide +kernel
theorem dX1_sineOf_37 : decode cX1_sineOf 37 = .ok (.ldc2_w 11, 3) := by decide +kernel
theorem dX1_sineOf_40 : decode cX1_sineOf 40 = .ok (.lcmp, 1) := by decide +kernel
theorem dX1_sineOf_41 : decode cX1_sineOf 41 = .ok (.ifCond .ge 8, 3) := by decide +kernel
theorem dX1_sineOf_44 : decode cX1_sineOf 44 = .ok (.lload 6, 2) := by decide +kernel
theorem dX1_sineOf_46 : decode cX1_sineOf 46 = .ok (.goto 6, 3) := by decide +kernel
theorem dX1_sineOf_49 : decode cX1_sineOf 49 = .ok (.lload 6, 2) := by decide +kernel
theorem dX1_sineOf_51 : decode cX1_sineOf 51 = .ok (.lneg, 1) := by decide +kernel
theorem dX1_sineOf_52 : decode cX1_sineOf 52 = .ok (.lreturn, 1) := by decide +kernel
set_option maxRecDepth 20000 in
theorem ggX1_cosineOf_X1_sineOf : GoodIn wsX1_cosineOf wsX1_sineOf := goodIn_r _ [5, 6, 7, 8, 9, 10, 11, 12, 13] (by decide +kernel) (by decide +kernel)
set_option maxRecDepth 20000 in
theorem gX1_cosineOf_X1_sineOf : GoodIn wsX1_cosineOf (va_wsS RX1 25 yX1_sineOf wsX1_sineOf) := goodIn_app (goodIn_of _ (by decide +kernel)) ggX1_cosineOf_X1_sineOf
theorem dX1_cosineOf_0 : decode cX1_cosineOf 0 = .ok (.lload_n 0, 1) := by decide +kernel
theorem dX1_cosineOf_1 : decode cX1_cosineOf 1 = .ok (.ldc2_w 23, 3) := by decide +kernel
theorem dX1_cosineOf_4 : decode cX1_cosineOf 4 = .ok (.ladd, 1) := by decide +kernel
theorem dX1_cosineOf_5 : decode cX1_cosineOf 5 = .ok (.invokestatic 25, 3) := by decide +kernel
theorem dX1_cosineOf_8 : decode cX1_cosineOf 8 = .ok (.lreturn, 1) := by decide +kernel
theorem dX1_betaOfWires_0 : decode cX1_betaOfWires 0 = .ok (.lload_n 0, 1) := by decide +kernel
theorem dX1_betaOfWires_1 : decode cX1_betaOfWires 1 = .ok (.ldc2_w 31, 3) := by decide +kernel
theorem dX1_betaOfWires_4 : decode cX1_betaOfWires 4 = .ok (.lload_n 2, 1) := by decide +kernel
theorem dX1_betaOfWires_5 : decode cX1_betaOfWires 5 = .ok (.lmul, 1) := by decide +kernel
theorem dX1_betaOfWires_6 : decode cX1_betaOfWires 6 = .ok (.ladd, 1) := by decide +kernel
theorem dX1_betaOfWires_7 : decode cX1_betaOfWires 7 = .ok (.ldc2_w 33, 3) := by decide +kernel
theorem dX1_betaOfWires_10 : decode cX1_betaOfWires 10 = .ok (.lmul, 1) := by decide +kernel
theorem dX1_betaOfWires_11 : decode cX1_betaOfWires 11 = .ok (.bipush 16, 2) := by decide +kernel
theorem dX1_betaOfWires_13 : decode cX1_betaOfWires 13 = .ok (.lshr, 1) := by decide +kernel
theorem dX1_betaOfWires_14 : decode cX1_betaOfWires 14 = .ok (.lreturn, 1) := by decide +kernel
set_option maxRecDepth 20000 in
theorem ggX1_dOf_X1_cosineOf : GoodIn wsX1_dOf wsX1_cosineOf := goodIn_r _ [4, 5, 6, 7, 3, 8, 9, 10, 11, 12, 13, 14, 15, 16] (by decide +kernel) (by decide +kernel)
set_option maxRecDepth 20000 in
theorem gX1_dOf_X1_cosineOf : GoodIn wsX1_dOf (va_wsS RX1 35 yX1_cosineOf wsX1_cosineOf) := goodIn_app (goodIn_of _ (by decide +kernel)) ggX1_dOf_X1_cosineOf
set_option maxRecDepth 20000 in
theorem ggX1_dOf_X1_sineOf : GoodIn wsX1_dOf wsX1_sineOf := goodIn_r _ [8, 9, 10, 11, 12, 13, 14, 15, 16] (by decide +kernel) (by decide +kernel)
set_option maxRecDepth 20000 in
theorem gX1_dOf_X1_sineOf : GoodIn wsX1_dOf (va_wsS RX1 25 yX1_sineOf wsX1_sineOf) := goodIn_app (goodIn_of _ (by decide +kernel)) ggX1_dOf_X1_sineOf
theorem dX1_dOf_0 : decode cX1_dOf 0 = .ok (.lload_n 0, 1) := by decide +kernel
theorem dX1_dOf_1 : decode cX1_dOf 1 = .ok (.lload 4, 2) := by decide +kernel
theorem dX1_dOf_3 : decode cX1_dOf 3 = .ok (.invokestatic 35, 3) := by decide +kernel
theorem dX1_dOf_6 : decode cX1_dOf 6 = .ok (.lmul, 1) := by decide +kernel
theorem dX1_dOf_7 : decode cX1_dOf 7 = .ok (.lload_n 2, 1) := by decide +kernel
theorem dX1_dOf_8 : decode cX1_dOf 8 = .ok (.lload 4, 2) := by decide +kernel
theorem dX1_dOf_10 : decode cX1_dOf 10 = .ok (.invokestatic 25, 3) := by decide +kernel
theorem dX1_dOf_13 : decode cX1_dOf 13 = .ok (.lmul, 1) := by decide +kernel
theorem dX1_dOf_14 : decode cX1_dOf 14 = .ok (.ladd, 1) := by decide +kernel
theorem dX1_dOf_15 : decode cX1_dOf 15 = .ok (.bipush 15, 2) := by decide +kernel
theorem dX1_dOf_17 : decode cX1_dOf 17 = .ok (.lshr, 1) := by decide +kernel
theorem dX1_dOf_18 : decode cX1_dOf 18 = .ok (.lreturn, 1) := by decide +kernel
set_option maxRecDepth 20000 in
theorem ggX1_qOf_X1_cosineOf : GoodIn wsX1_qOf wsX1_cosineOf := goodIn_r _ [4, 5, 6, 7, 3, 8, 9, 10, 11, 12, 13, 14, 15, 16] (by decide +kernel) (by decide +kernel)
set_option maxRecDepth 20000 in
theorem gX1_qOf_X1_cosineOf : GoodIn wsX1_qOf (va_wsS RX1 35 yX1_cosineOf wsX1_cosineOf) := goodIn_app (goodIn_of _ (by decide +kernel)) ggX1_qOf_X1_cosineOf
set_option maxRecDepth 20000 in
theorem ggX1_qOf_X1_sineOf : GoodIn wsX1_qOf wsX1_sineOf := goodIn_r _ [8, 9, 10, 11, 12, 13, 14, 15, 16] (by decide +kernel) (by decide +kernel)
set_option maxRecDepth 20000 in
theorem gX1_qOf_X1_sineOf : GoodIn wsX1_qOf (va_wsS RX1 25 yX1_sineOf wsX1_sineOf) := goodIn_app (goodIn_of _ (by decide +kernel)) ggX1_qOf_X1_sineOf
theorem dX1_qOf_0 : decode cX1_qOf 0 = .ok (.lload_n 2, 1) := by decide +kernel
theorem dX1_qOf_1 : decode cX1_qOf 1 = .ok (.lload 4, 2) := by decide +kernel
theorem dX1_qOf_3 : decode cX1_qOf 3 = .ok (.invokestatic 35, 3) := by decide +kernel
theorem dX1_qOf_6 : decode cX1_qOf 6 = .ok (.lmul, 1) := by decide +kernel
theorem dX1_qOf_7 : decode cX1_qOf 7 = .ok (.lload_n 0, 1) := by decide +kernel
theorem dX1_qOf_8 : decode cX1_qOf 8 = .ok (.lload 4, 2) := by decide +kernel
theorem dX1_qOf_10 : decode cX1_qOf 10 = .ok (.invokestatic 25, 3) := by decide +kernel
theorem dX1_qOf_13 : decode cX1_qOf 13 = .ok (.lmul, 1) := by decide +kernel
theorem dX1_qOf_14 : decode cX1_qOf 14 = .ok (.lsub, 1) := by decide +kernel
theorem dX1_qOf_15 : decode cX1_qOf 15 = .ok (.bipush 15, 2) := by decide +kernel
theorem dX1_qOf_17 : decode cX1_qOf 17 = .ok (.lshr, 1) := by decide +kernel
theorem dX1_qOf_18 : decode cX1_qOf 18 = .ok (.lreturn, 1) := by decide +kernel
set_option maxRecDepth 20000 in
theorem ggX1_alphaOf_X1_cosineOf : GoodIn wsX1_alphaOf wsX1_cosineOf := goodIn_r _ [4, 5, 6, 7, 3, 8, 9, 10, 11, 12, 13, 14, 15, 16] (by decide +kernel) (by decide +kernel)
set_option maxRecDepth 20000 in
theorem gX1_alphaOf_X1_cosineOf : GoodIn wsX1_alphaOf (va_wsS RX1 35 yX1_cosineOf wsX1_cosineOf) := goodIn_app (goodIn_of _ (by decide +kernel)) ggX1_alphaOf_X1_cosineOf
set_option maxRecDepth 20000 in
theorem ggX1_alphaOf_X1_sineOf : GoodIn wsX1_alphaOf wsX1_sineOf := goodIn_r _ [8, 9, 10, 11, 12, 13, 14, 15, 16] (by decide +kernel) (by decide +kernel)
set_option maxRecDepth 20000 in
theorem gX1_alphaOf_X1_sineOf : GoodIn wsX1_alphaOf (va_wsS RX1 25 yX1_sineOf wsX1_sineOf) := goodIn_app (goodIn_of _ (by decide +kernel)) ggX1_alphaOf_X1_sineOf
theorem dX1_alphaOf_0 : decode cX1_alphaOf 0 = .ok (.lload_n 0, 1) := by decide +kernel
theorem dX1_alphaOf_1 : decode cX1_alphaOf 1 = .ok (.lload 4, 2) := by decide +kernel
theorem dX1_alphaOf_3 : decode cX1_alphaOf 3 = .ok (.invokestatic 35, 3) := by decide +kernel
theorem dX1_alphaOf_6 : decode cX1_alphaOf 6 = .ok (.lmul, 1) := by decide +kernel
theorem dX1_alphaOf_7 : decode cX1_alphaOf 7 = .ok (.lload_n 2, 1) := by decide +kernel
theorem dX1_alphaOf_8 : decode cX1_alphaOf 8 = .ok (.lload 4, 2) := by decide +kernel
theorem dX1_alphaOf_10 : decode cX1_alphaOf 10 = .ok (.invokestatic 25, 3) := by decide +kernel
theorem dX1_alphaOf_13 : decode cX1_alphaOf 13 = .ok (.lmul, 1) := by decide +kernel
theorem dX1_alphaOf_14 : decode cX1_alphaOf 14 = .ok (.lsub, 1) := by decide +kernel
theorem dX1_alphaOf_15 : decode cX1_alphaOf 15 = .ok (.bipush 15, 2) := by decide +kernel
theorem dX1_alphaOf_17 : decode cX1_alphaOf 17 = .ok (.lshr, 1) := by decide +kernel
theorem dX1_alphaOf_18 : decode cX1_alphaOf 18 = .ok (.lreturn, 1) := by decide +kernel
set_option maxRecDepth 20000 in
theorem ggX1_betaOf_X1_sineOf : GoodIn wsX1_betaOf wsX1_sineOf := goodIn_r _ [4, 5, 6, 7, 8, 9, 10, 11, 12] (by decide +kernel) (by decide +kernel)
set_option maxRecDepth 20000 in
theorem gX1_betaOf_X1_sineOf : GoodIn wsX1_betaOf (va_wsS RX1 25 yX1_sineOf wsX1_sineOf) := goodIn_app (goodIn_of _ (by decide +kernel)) ggX1_betaOf_X1_sineOf
set_option maxRecDepth 20000 in
theorem ggX1_betaOf_X1_cosineOf : GoodIn wsX1_betaOf wsX1_cosineOf := goodIn_r _ [15, 16, 1, 2, 3, 4, 5, 6, 7, 8, 9, 10, 11, 12] (by decide +kernel) (by decide +kernel)
set_option maxRecDepth 20000 in
theorem gX1_betaOf_X1_cosineOf : GoodIn wsX1_betaOf (va_wsS RX1 35 yX1_cosineOf wsX1_cosineOf) := goodIn_app (goodIn_of _ (by decide +kernel)) ggX1_betaOf_X1_cosineOf
theorem dX1_betaOf_0 : decode cX1_betaOf 0 = .ok (.lload_n 0, 1) := by decide +kernel
theorem dX1_betaOf_1 : decode cX1_betaOf 1 = .ok (.lload 4, 2) := by decide +kernel
theorem dX1_betaOf_3 : decode cX1_betaOf 3 = .ok (.invokestatic 25, 3) := by decide +kernel
theorem dX1_betaOf_6 : decode cX1_betaOf 6 = .ok (.lmul, 1) := by decide +kernel
theorem dX1_betaOf_7 : decode cX1_betaOf 7 = .ok (.lload_n 2, 1) := by decide +kernel
theorem dX1_betaOf_8 : decode cX1_betaOf 8 = .ok (.lload 4, 2) := by decide +kernel
theorem dX1_betaOf_10 : decode cX1_betaOf 10 = .ok (.invokestatic 35, 3) := by decide +kernel
theorem dX1_betaOf_13 : decode cX1_betaOf 13 = .ok (.lmul, 1) := by decide +kernel
theorem dX1_betaOf_14 : decode cX1_betaOf 14 = .ok (.ladd, 1) := by decide +kernel
theorem dX1_betaOf_15 : decode cX1_betaOf 15 = .ok (.bipush 15, 2) := by decide +kernel
theorem dX1_betaOf_17 : decode cX1_betaOf 17 = .ok (.lshr, 1) := by decide +kernel
theorem dX1_betaOf_18 : decode cX1_betaOf 18 = .ok (.lreturn, 1) := by decide +kernel
theorem dX2_init_0 : decode cX2_init 0 = .ok (.aload_n 0, 1) := by decide +kernel
theorem dX2_init_1 : decode cX2_init 1 = .ok (.invokespecial 1, 3) := by decide +kernel
theorem dX2_init_4 : decode cX2_init 4 = .ok (.aload_n 0, 1) := by decide +kernel
theorem dX2_init_5 : decode cX2_init 5 = .ok (.ldc2_w 7, 3) := by decide +kernel
theorem dX2_init_8 : decode cX2_init 8 = .ok (.putfield 9, 3) := by decide +kernel
theorem dX2_init_11 : decode cX2_init 11 = .ok (.aload_n 0, 1) := by decide +kernel
theorem dX2_init_12 : decode cX2_init 12 = .ok (.ldc2_w 15, 3) := by decide +kernel
theorem dX2_init_15 : decode cX2_init 15 = .ok (.putfield 17, 3) := by decide +kernel
theorem dX2_init_18 : decode cX2_init 18 = .ok (.aload_n 0, 1) := by decide +kernel
theorem dX2_init_19 : decode cX2_init 19 = .ok (.lconst 0, 1) := by decide +kernel
theorem dX2_init_20 : decode cX2_init 20 = .ok (.putfield 20, 3) := by decide +kernel
theorem dX2_init_23 : decode cX2_init 23 = .ok (.return_, 1) := by decide +kernel
set_option maxRecDepth 20000 in
theorem ggX2_step_X2_freeOut : GoodIn wsX2_step wsX2_freeOut := goodIn_r _ [7] (by decide +kernel) (by decide +kernel)
set_option maxRecDepth 20000 in
theorem gX2_step_X2_freeOut : GoodIn wsX2_step (va_wsS RX2 23 yX2_freeOut wsX2_freeOut) := goodIn_app (goodIn_of _ (by decide +kernel)) ggX2_step_X2_freeOut
set_option maxRecDepth 20000 in
theorem ggX2_step_X2_sumBehind : GoodIn wsX2_step wsX2_sumBehind := goodIn_r _ [10] (by decide +kernel) (by decide +kernel)
set_option maxRecDepth 20000 in
theorem gX2_step_X2_sumBehind : GoodIn wsX2_step (va_wsS RX2 27 yX2_sumBehind wsX2_sumBehind) := goodIn_app (goodIn_of _ (by decide +kernel)) ggX2_step_X2_sumBehind
set_option maxRecDepth 20000 in
theorem ggX2_step_X5_clamp : GoodIn wsX2_step wsX5_clamp := goodIn_r _ [13, 14, 15, 16, 17, 18, 19, 20] (by decide +kernel) (by decide +kernel)
set_option maxRecDepth 20000 in
theorem gX2_step_X5_clamp_n31 : GoodIn wsX2_step (wsX5_clamp) := ggX2_step_X5_clamp
theorem dX2_step_0 : decode cX2_step 0 = .ok (.aload_n 0, 1) := by decide +kernel
theorem dX2_step_1 : decode cX2_step 1 = .ok (.getfield 9, 3) := by decide +kernel
theorem dX2_step_4 : decode cX2_step 4 = .ok (.aload_n 0, 1) := by decide +kernel
theorem dX2_step_5 : decode cX2_step 5 = .ok (.getfield 17, 3) := by decide +kernel
theorem dX2_step_8 : decode cX2_step 8 = .ok (.aload_n 0, 1) := by decide +kernel
theorem dX2_step_9 : decode cX2_step 9 = .ok (.getfield 20, 3) := by decide +kernel
theorem dX2_step_12 : decode cX2_step 12 = .ok (.lload_n 3, 1) := by decide +kernel
theorem dX2_step_13 : decode cX2_step 13 = .ok (.invokestatic 23, 3) := by decide +kernel
theorem dX2_step_16 : decode cX2_step 16 = .ok (.lstore 5, 2) := by decide +kernel
theorem dX2_step_18 : decode cX2_step 18 = .ok (.aload_n 0, 1) := by decide +kernel
theorem dX2_step_19 : decode cX2_step 19 = .ok (.aload_n 0, 1) := by decide +kernel
theorem dX2_step_20 : decode cX2_step 20 = .ok (.getfield 17, 3) := by decide +kernel
theorem dX2_step_23 : decode cX2_step 23 = .ok (.lload_n 1, 1) := by decide +kernel
theorem dX2_step_24 : decode cX2_step 24 = .ok (.aload_n 0, 1) := by decide +kernel
theorem dX2_step_25 : decode cX2_step 25 = .ok (.getfield 20, 3) := by decide +kernel
theorem dX2_step_28 : decode cX2_step 28 = .ok (.lload_n 3, 1) := by decide +kernel
theorem dX2_step_29 : decode cX2_step 29 = .ok (.lload 5, 2) := by decide +kernel
theorem dX2_step_31 : decode cX2_step 31 = .ok (.invokestatic 27, 3) := by decide +kernel
theorem dX2_step_34 : decode cX2_step 34 = .ok (.putfield 20, 3) := by decide +kernel
theorem dX2_step_37 : decode cX2_step 37 = .ok (.lload 5, 2) := by decide +kernel
theorem dX2_step_39 : decode cX2_step 39 = .ok (.lload_n 1, 1) := by decide +kernel
theorem dX2_step_40 : decode cX2_step 40 = .ok (.invokestatic 31, 3) := by decide +kernel
theorem dX2_step_43 : decode cX2_step 43 = .ok (.lreturn, 1) := by decide +kernel
theorem dX2_freeOut_0 : decode cX2_freeOut 0 = .ok (.lload_n 0, 1) := by decide +kernel
theorem dX2_freeOut_1 : decode cX2_freeOut 1 = .ok (.lload 6, 2) := by decide +kernel
theorem dX2_freeOut_3 : decode cX2_freeOut 3 = .ok (.lmul, 1) := by decide +kernel
theorem dX2_freeOut_4 : decode cX2_freeOut 4 = .ok (.lload 4, 2) := by decide +kernel
theorem dX2_freeOut_6 : decode cX2_freeOut 6 = .ok (.ladd, 1) := by decide +kernel
theorem dX2_freeOut_7 : decode cX2_freeOut 7 = .ok (.lload_n 2, 1) := by decide +kernel
theorem dX2_freeOut_8 : decode cX2_freeOut 8 = .ok (.lload 6, 2) := by decide +kernel
theorem dX2_freeOut_10 : decode cX2_freeOut 10 = .ok (.lmul, 1) := by decide +kernel
theorem dX2_freeOut_11 : decode cX2_freeOut 11 = .ok (.ladd, 1) := by decide +kernel
theorem dX2_freeOut_12 : decode cX2_freeOut 12 = .ok (.bipush 8, 2) := by decide +kernel
theorem dX2_freeOut_14 : decode cX2_freeOut 14 = .ok (.lshr, 1) := by decide +kernel
theorem dX2_freeOut_15 : decode cX2_freeOut 15 = .ok (.lreturn, 1) := by decide +kernel
theorem dX2_sumBehind_0 : decode cX2_sumBehind 0 = .ok (.lload 8, 2) := by decide +kernel
theorem dX2_sumBehind_2 : decode cX2_sumBehind 2 = .ok (.lload_n 2, 1) := by decide +kernel
theorem dX2_sumBehind_3 : decode cX2_sumBehind 3 = .ok (.lcmp, 1) := by decide +kernel
theorem dX2_sumBehind_4 : decode cX2_sumBehind 4 = .ok (.ifCond .le 10, 3) := by decide +kernel
theorem dX2_sumBehind_7 : decode cX2_sumBehind 7 = .ok (.lload 6, 2) := by decide +kernel
theorem dX2_sumBehind_9 : decode cX2_sumBehind 9 = .ok (.lconst 0, 1) := by decide +kernel
theorem dX2_sumBehind_10 : decode cX2_sumBehind 10 = .ok (.lcmp, 1) := by decide +kernel
theorem dX2_sumBehind_11 : decode cX2_sumBehind 11 = .ok (.ifCond .ge 18, 3) := by decide +kernel
theorem dX2_sumBehind_14 : decode cX2_sumBehind 14 = .ok (.lload 8, 2) := by decide +kernel
theorem dX2_sumBehind_16 : decode cX2_sumBehind 16 = .ok (.lload_n 2, 1) := by decide +kernel
theorem dX2_sumBehind_17 : decode cX2_sumBehind 17 = .ok (.lneg, 1) := by decide +kernel
theorem dX2_sumBehind_18 : decode cX2_sumBehind 18 = .ok (.lcmp, 1) := by decide +kernel
theorem dX2_sumBehind_19 : decode cX2_sumBehind 19 = .ok (.ifCond .ge 14, 3) := by decide +kernel
theorem dX2_sumBehind_22 : decode cX2_sumBehind 22 = .ok (.lload 6, 2) := by decide +kernel
theorem dX2_sumBehind_24 : decode cX2_sumBehind 24 = .ok (.lconst 0, 1) := by decide +kernel
theorem dX2_sumBehind_25 : decode cX2_sumBehind 25 = .ok (.lcmp, 1) := by decide +kernel
theorem dX2_sumBehind_26 : decode cX2_sumBehind 26 = .ok (.ifCond .gt 7, 3) := by decide +kernel
theorem dX2_sumBehind_29 : decode cX2_sumBehind 29 = .ok (.iconst 1, 1) := by decide +kernel
theorem dX2_sumBehind_30 : decode cX2_sumBehind 30 = .ok (.goto 4, 3) := by decide +kernel
theorem dX2_sumBehind_33 : decode cX2_sumBehind 33 = .ok (.iconst 0, 1) := by decide +kernel
theorem dX2_sumBehind_34 : decode cX2_sumBehind 34 = .ok (.istore 10, 2) := by decide +kernel
theorem dX2_sumBehind_36 : decode cX2_sumBehind 36 = .ok (.iload 10, 2) := by decide +kernel
theorem dX2_sumBehind_38 : decode cX2_sumBehind 38 = .ok (.ifCond .eq 8, 3) := by decide +kernel
theorem dX2_sumBehind_41 : decode cX2_sumBehind 41 = .ok (.lload 4, 2) := by decide +kernel
theorem dX2_sumBehind_43 : decode cX2_sumBehind 43 = .ok (.goto 10, 3) := by decide +kernel
theorem dX2_sumBehind_46 : decode cX2_sumBehind 46 = .ok (.lload 4, 2) := by decide +kernel
theorem dX2_sumBehind_48 : decode cX2_sumBehind 48 = .ok (.lload_n 0, 1) := by decide +kernel
theorem dX2_sumBehind_49 : decode cX2_sumBehind 49 = .ok (.lload 6, 2) := by decide +kernel
theorem dX2_sumBehind_51 : decode cX2_sumBehind 51 = .ok (.lmul, 1) := by decide +kernel
theorem dX2_sumBehind_52 : decode cX2_sumBehind 52 = .ok (.ladd, 1) := by decide +kernel
theorem dX2_sumBehind_53 : decode cX2_sumBehind 53 = .ok (.lreturn, 1) := by decide +kernel
theorem dX3_init_0 : decode cX3_init 0 = .ok (.aload_n 0, 1) := by decide +kernel
theorem dX3_init_1 : decode cX3_init 1 = .ok (.invokespecial 3, 3) := by decide +kernel
theorem dX3_init_4 : decode cX3_init 4 = .ok (.aload_n 0, 1) := by decide +kernel
theorem dX3_init_5 : decode cX3_init 5 = .ok (.lconst 0, 1) := by decide +kernel
theorem dX3_init_6 : decode cX3_init 6 = .ok (.putfield 9, 3) := by decide +kernel
theorem dX3_init_9 : decode cX3_init 9 = .ok (.aload_n 0, 1) := by decide +kernel
theorem dX3_init_10 : decode cX3_init 10 = .ok (.lconst 0, 1) := by decide +kernel
theorem dX3_init_11 : decode cX3_init 11 = .ok (.putfield 15, 3) := by decide +kernel
theorem dX3_init_14 : decode cX3_init 14 = .ok (.aload_n 0, 1) := by decide +kernel
theorem dX3_init_15 : decode cX3_init 15 = .ok (.lconst 0, 1) := by decide +kernel
theorem dX3_init_16 : decode cX3_init 16 = .ok (.putfield 18, 3) := by decide +kernel
theorem dX3_init_19 : decode cX3_init 19 = .ok (.aload_n 0, 1) := by decide +kernel
theorem dX3_init_20 : decode cX3_init 20 = .ok (.lconst 0, 1) := by decide +kernel
theorem dX3_init_21 : decode cX3_init 21 = .ok (.putfield 21, 3) := by decide +kernel
theorem dX3_init_24 : decode cX3_init 24 = .ok (.return_, 1) := by decide +kernel
set_option maxRecDepth 20000 in
theorem ggX3_step_X5_clamp : GoodIn wsX3_step wsX5_clamp := goodIn_r _ [13, 14, 15, 16, 17, 18, 19, 20] (by decide +kernel) (by decide +kernel)
set_option maxRecDepth 20000 in
theorem gX3_step_X5_clamp_n32 : GoodIn wsX3_step (wsX5_clamp) := ggX3_step_X5_clamp
theorem dX3_step_0 : decode cX3_step 0 = .ok (.aload_n 0, 1) := by decide +kernel
theorem dX3_step_1 : decode cX3_step 1 = .ok (.getfield 9, 3) := by decide +kernel
theorem dX3_step_4 : decode cX3_step 4 = .ok (.lload_n 1, 1) := by decide +kernel
theorem dX3_step_5 : decode cX3_step 5 = .ok (.aload_n 0, 1) := by decide +kernel
theorem dX3_step_6 : decode cX3_step 6 = .ok (.getfield 9, 3) := by decide +kernel
theorem dX3_step_9 : decode cX3_step 9 = .ok (.ldc2_w 24, 3) := by decide +kernel
theorem dX3_step_12 : decode cX3_step 12 = .ok (.lmul, 1) := by decide +kernel
theorem dX3_step_13 : decode cX3_step 13 = .ok (.bipush 8, 2) := by decide +kernel
theorem dX3_step_15 : decode cX3_step 15 = .ok (.lshr, 1) := by decide +kernel
theorem dX3_step_16 : decode cX3_step 16 = .ok (.lsub, 1) := by decide +kernel
theorem dX3_step_17 : decode cX3_step 17 = .ok (.aload_n 0, 1) := by decide +kernel
theorem dX3_step_18 : decode cX3_step 18 = .ok (.getfield 18, 3) := by decide +kernel
theorem dX3_step_21 : decode cX3_step 21 = .ok (.aload_n 0, 1) := by decide +kernel
theorem dX3_step_22 : decode cX3_step 22 = .ok (.getfield 15, 3) := by decide +kernel
theorem dX3_step_25 : decode cX3_step 25 = .ok (.lmul, 1) := by decide +kernel
theorem dX3_step_26 : decode cX3_step 26 = .ok (.bipush 17, 2) := by decide +kernel
theorem dX3_step_28 : decode cX3_step 28 = .ok (.lshr, 1) := by decide +kernel
theorem dX3_step_29 : decode cX3_step 29 = .ok (.ladd, 1) := by decide +kernel
theorem dX3_step_30 : decode cX3_step 30 = .ok (.ldc2_w 26, 3) := by decide +kernel
theorem dX3_step_33 : decode cX3_step 33 = .ok (.ldiv, 1) := by decide +kernel
theorem dX3_step_34 : decode cX3_step 34 = .ok (.ladd, 1) := by decide +kernel
theorem dX3_step_35 : decode cX3_step 35 = .ok (.lstore 7, 2) := by decide +kernel
theorem dX3_step_37 : decode cX3_step 37 = .ok (.aload_n 0, 1) := by decide +kernel
theorem dX3_step_38 : decode cX3_step 38 = .ok (.getfield 15, 3) := by decide +kernel
theorem dX3_step_41 : decode cX3_step 41 = .ok (.lload_n 3, 1) := by decide +kernel
theorem dX3_step_42 : decode cX3_step 42 = .ok (.aload_n 0, 1) := by decide +kernel
theorem dX3_step_43 : decode cX3_step 43 = .ok (.getfield 15, 3) := by decide +kernel
theorem dX3_step_46 : decode cX3_step 46 = .ok (.ldc2_w 24, 3) := by decide +kernel
theorem dX3_step_49 : decode cX3_step 49 = .ok (.lmul, 1) := by decide +kernel
theorem dX3_step_50 : decode cX3_step 50 = .ok (.bipush 8, 2) := by decide +kernel
theorem dX3_step_52 : decode cX3_step 52 = .ok (.lshr, 1) := by decide +kernel
theorem dX3_step_53 : decode cX3_step 53 = .ok (.lsub, 1) := by decide +kernel
theorem dX3_step_54 : decode cX3_step 54 = .ok (.aload_n 0, 1) := by decide +kernel
theorem dX3_step_55 : decode cX3_step 55 = .ok (.getfield 18, 3) := by decide +kernel
theorem dX3_step_58 : decode cX3_step 58 = .ok (.aload_n 0, 1) := by decide +kernel
theorem dX3_step_59 : decode cX3_step 59 = .ok (.getfield 9, 3) := by decide +kernel
theorem dX3_step_62 : decode cX3_step 62 = .ok (.lmul, 1) := by decide +kernel
theorem dX3_step_63 : decode cX3_step 63 = .ok (.bipush 17, 2) := by decide +kernel
theorem dX3_step_65 : decode cX3_step 65 = .ok (.lshr, 1) := by decide +kernel
theorem dX3_step_66 : decode cX3_step 66 = .ok (.lsub, 1) := by decide +kernel
theorem dX3_step_67 : decode cX3_step 67 = .ok (.aload_n 0, 1) := by decide +kernel
theorem dX3_step_68 : decode cX3_step 68 = .ok (.getfield 18, 3) := by decide +kernel
theorem dX3_step_71 : decode cX3_step 71 = .ok (.iconst 3, 1) := by decide +kernel
theorem dX3_step_72 : decode cX3_step 72 = .ok (.lshr, 1) := by decide +kernel
theorem dX3_step_73 : decode cX3_step 73 = .ok (.lsub, 1) := by decide +kernel
theorem dX3_step_74 : decode cX3_step 74 = .ok (.ldc2_w 26, 3) := by decide +kernel
theorem dX3_step_77 : decode cX3_step 77 = .ok (.ldiv, 1) := by decide +kernel
theorem dX3_step_78 : decode cX3_step 78 = .ok (.ladd, 1) := by decide +kernel
theorem dX3_step_79 : decode cX3_step 79 = .ok (.lstore 9, 2) := by decide +kernel
theorem dX3_step_81 : decode cX3_step 81 = .ok (.aload_n 0, 1) := by decide +kernel
theorem dX3_step_82 : decode cX3_step 82 = .ok (.getfield 18, 3) := by decide +kernel
theorem dX3_step_85 : decode cX3_step 85 = .ok (.aload_n 0, 1) := by decide +kernel
theorem dX3_step_86 : decode cX3_step 86 = .ok (.getfield 15, 3) := by decide +kernel
theorem dX3_step_89 : decode cX3_step 89 = .ok (.lload 5, 2) := by decide +kernel
theorem dX3_step_91 : decode cX3_step 91 = .ok (.lsub, 1) := by decide +kernel
theorem dX3_step_92 : decode cX3_step 92 = .ok (.ldc2_w 28, 3) := by decide +kernel
theorem dX3_step_95 : decode cX3_step 95 = .ok (.ldiv, 1) := by decide +kernel
theorem dX3_step_96 : decode cX3_step 96 = .ok (.ladd, 1) := by decide +kernel
theorem dX3_step_97 : decode cX3_step 97 = .ok (.lstore 11, 2) := by decide +kernel
theorem dX3_step_99 : decode cX3_step 99 = .ok (.aload_n 0, 1) := by decide +kernel
theorem dX3_step_100 : decode cX3_step 100 = .ok (.lload 7, 2) := by decide +kernel
theorem dX3_step_102 : decode cX3_step 102 = .ok (.ldc2_w 30, 3) := by decide +kernel
theorem dX3_step_105 : decode cX3_step 105 = .ok (.invokestatic 32, 3) := by decide +kernel
theorem dX3_step_108 : decode cX3_step 108 = .ok (.putfield 9, 3) := by decide +kernel
theorem dX3_step_111 : decode cX3_step 111 = .ok (.aload_n 0, 1) := by decide +kernel
theorem dX3_step_112 : decode cX3_step 112 = .ok (.lload 9, 2) := by decide +kernel
theorem dX3_step_114 : decode cX3_step 114 = .ok (.ldc2_w 30, 3) := by decide +kernel
theorem dX3_step_117 : decode cX3_step 117 = .ok (.invokestatic 32, 3) := by decide +kernel
theorem dX3_step_120 : decode cX3_step 120 = .ok (.putfield 15, 3) := by decide +kernel
theorem dX3_step_123 : decode cX3_step 123 = .ok (.aload_n 0, 1) := by decide +kernel
theorem dX3_step_124 : decode cX3_step 124 = .ok (.lload 11, 2) := by decide +kernel
theorem dX3_step_126 : decode cX3_step 126 = .ok (.ldc2_w 36, 3) := by decide +kernel
theorem dX3_step_129 : decode cX3_step 129 = .ok (.invokestatic 32, 3) := by decide +kernel
theorem dX3_step_132 : decode cX3_step 132 = .ok (.putfield 18, 3) := by decide +kernel
theorem dX3_step_135 : decode cX3_step 135 = .ok (.aload_n 0, 1) := by decide +kernel
theorem dX3_step_136 : decode cX3_step 136 = .ok (.aload_n 0, 1) := by decide +kernel
theorem dX3_step_137 : decode cX3_step 137 = .ok (.getfield 21, 3) := by decide +kernel
theorem dX3_step_140 : decode cX3_step 140 = .ok (.aload_n 0, 1) := by decide +kernel
theorem dX3_step_141 : decode cX3_step 141 = .ok (.getfield 18, 3) := by decide +kernel
theorem dX3_step_144 : decode cX3_step 144 = .ok (.iconst 2, 1) := by decide +kernel
theorem dX3_step_145 : decode cX3_step 145 = .ok (.lshr, 1) := by decide +kernel
theorem dX3_step_146 : decode cX3_step 146 = .ok (.ladd, 1) := by decide +kernel
theorem dX3_step_147 : decode cX3_step 147 = .ok (.ldc2_w 38, 3) := by decide +kernel
theorem dX3_step_150 : decode cX3_step 150 = .ok (.land, 1) := by decide +kernel
theorem dX3_step_151 : decode cX3_step 151 = .ok (.putfield 21, 3) := by decide +kernel
theorem dX3_step_154 : decode cX3_step 154 = .ok (.return_, 1) := by decide +kernel
theorem dX4_init_0 : decode cX4_init 0 = .ok (.aload_n 0, 1) := by decide +kernel
theorem dX4_init_1 : decode cX4_init 1 = .ok (.invokespecial 1, 3) := by decide +kernel
theorem dX4_init_4 : decode cX4_init 4 = .ok (.aload_n 0, 1) := by decide +kernel
theorem dX4_init_5 : decode cX4_init 5 = .ok (.lconst 0, 1) := by decide +kernel
theorem dX4_init_6 : decode cX4_init 6 = .ok (.putfield 7, 3) := by decide +kernel
theorem dX4_init_9 : decode cX4_init 9 = .ok (.aload_n 0, 1) := by decide +kernel
theorem dX4_init_10 : decode cX4_init 10 = .ok (.lconst 0, 1) := by decide +kernel
theorem dX4_init_11 : decode cX4_init 11 = .ok (.putfield 13, 3) := by decide +kernel
theorem dX4_init_14 : decode cX4_init 14 = .ok (.aload_n 0, 1) := by decide +kernel
theorem dX4_init_15 : decode cX4_init 15 = .ok (.lconst 0, 1) := by decide +kernel
theorem dX4_init_16 : decode cX4_init 16 = .ok (.putfield 16, 3) := by decide +kernel
theorem dX4_init_19 : decode cX4_init 19 = .ok (.aload_n 0, 1) := by decide +kernel
theorem dX4_init_20 : decode cX4_init 20 = .ok (.iconst 0, 1) := by decide +kernel
theorem dX4_init_21 : decode cX4_init 21 = .ok (.putfield 19, 3) := by decide +kernel
theorem dX4_init_24 : decode cX4_init 24 = .ok (.return_, 1) := by decide +kernel
theorem dX4_off_0 : decode cX4_off 0 = .ok (.aload_n 0, 1) := by decide +kernel
theorem dX4_off_1 : decode cX4_off 1 = .ok (.lconst 0, 1) := by decide +kernel
theorem dX4_off_2 : decode cX4_off 2 = .ok (.putfield 7, 3) := by decide +kernel
theorem dX4_off_5 : decode cX4_off 5 = .ok (.aload_n 0, 1) := by decide +kernel
theorem dX4_off_6 : decode cX4_off 6 = .ok (.lconst 0, 1) := by decide +kernel
theorem dX4_off_7 : decode cX4_off 7 = .ok (.putfield 13, 3) := by decide +kernel
theorem dX4_off_10 : decode cX4_off 10 = .ok (.aload_n 0, 1) := by decide +kernel
theorem dX4_off_11 : decode cX4_off 11 = .ok (.lconst 0, 1) := by decide +kernel
theorem dX4_off_12 : decode cX4_off 12 = .ok (.putfield 16, 3) := by decide +kernel
theorem dX4_off_15 : decode cX4_off 15 = .ok (.aload_n 0, 1) := by decide +kernel
theorem dX4_off_16 : decode cX4_off 16 = .ok (.iconst 0, 1) := by decide +kernel
theorem dX4_off_17 : decode cX4_off 17 = .ok (.putfield 19, 3) := by decide +kernel
theorem dX4_off_20 : decode cX4_off 20 = .ok (.return_, 1) := by decide +kernel
set_option maxRecDepth 20000 in
theorem ggX4_lead_X4_onTime : GoodIn wsX4_lead wsX4_onTime := goodIn_r _ [19, 20, 21, 11, 7, 8, 5, 9, 3, 4, 6, 22, 23, 24, 25, 26, 27, 28] (by decide +kernel) (by decide +kernel)
set_option maxRecDepth 20000 in
theorem gX4_lead_X4_onTime : GoodIn wsX4_lead (wsV RX4 38 RX4 yX4_onTime wsX4_onTime) := goodIn_app (goodIn_of _ (by decide +kernel)) ggX4_lead_X4_onTime
theorem dX4_lead_0 : decode cX4_lead 0 = .ok (.lload_n 3, 1) := by decide +kernel
theorem dX4_lead_1 : decode cX4_lead 1 = .ok (.ldc2_w 23, 3) := by decide +kernel
theorem dX4_lead_4 : decode cX4_lead 4 = .ok (.lmul, 1) := by decide +kernel
theorem dX4_lead_5 : decode cX4_lead 5 = .ok (.lload_n 1, 1) := by decide +kernel
theorem dX4_lead_6 : decode cX4_lead 6 = .ok (.ldc2_w 25, 3) := by decide +kernel
theorem dX4_lead_9 : decode cX4_lead 9 = .ok (.lmul, 1) := by decide +kernel
theorem dX4_lead_10 : decode cX4_lead 10 = .ok (.lsub, 1) := by decide +kernel
theorem dX4_lead_11 : decode cX4_lead 11 = .ok (.bipush 16, 2) := by decide +kernel
theorem dX4_lead_13 : decode cX4_lead 13 = .ok (.lshr, 1) := by decide +kernel
theorem dX4_lead_14 : decode cX4_lead 14 = .ok (.lstore 7, 2) := by decide +kernel
theorem dX4_lead_16 : decode cX4_lead 16 = .ok (.lload_n 1, 1) := by decide +kernel
theorem dX4_lead_17 : decode cX4_lead 17 = .ok (.lneg, 1) := by decide +kernel
theorem dX4_lead_18 : decode cX4_lead 18 = .ok (.lload 7, 2) := by decide +kernel
theorem dX4_lead_20 : decode cX4_lead 20 = .ok (.lsub, 1) := by decide +kernel
theorem dX4_lead_21 : decode cX4_lead 21 = .ok (.lstore 9, 2) := by decide +kernel
theorem dX4_lead_23 : decode cX4_lead 23 = .ok (.lload_n 1, 1) := by decide +kernel
theorem dX4_lead_24 : decode cX4_lead 24 = .ok (.lload 7, 2) := by decide +kernel
theorem dX4_lead_26 : decode cX4_lead 26 = .ok (.lload 9, 2) := by decide +kernel
theorem dX4_lead_28 : decode cX4_lead 28 = .ok (.invokestatic 27, 3) := by decide +kernel
theorem dX4_lead_31 : decode cX4_lead 31 = .ok (.invokestatic 27, 3) := by decide +kernel
theorem dX4_lead_34 : decode cX4_lead 34 = .ok (.lstore 11, 2) := by decide +kernel
theorem dX4_lead_36 : decode cX4_lead 36 = .ok (.lload_n 1, 1) := by decide +kernel
theorem dX4_lead_37 : decode cX4_lead 37 = .ok (.lload 7, 2) := by decide +kernel
theorem dX4_lead_39 : decode cX4_lead 39 = .ok (.lload 9, 2) := by decide +kernel
theorem dX4_lead_41 : decode cX4_lead 41 = .ok (.invokestatic 33, 3) := by decide +kernel
theorem dX4_lead_44 : decode cX4_lead 44 = .ok (.invokestatic 33, 3) := by decide +kernel
theorem dX4_lead_47 : decode cX4_lead 47 = .ok (.lstore 13, 2) := by decide +kernel
theorem dX4_lead_49 : decode cX4_lead 49 = .ok (.lload 11, 2) := by decide +kernel
theorem dX4_lead_51 : decode cX4_lead 51 = .ok (.lload 13, 2) := by decide +kernel
theorem dX4_lead_53 : decode cX4_lead 53 = .ok (.ladd, 1) := by decide +kernel
theorem dX4_lead_54 : decode cX4_lead 54 = .ok (.ldc2_w 36, 3) := by decide +kernel
theorem dX4_lead_57 : decode cX4_lead 57 = .ok (.ldiv, 1) := by decide +kernel
theorem dX4_lead_58 : decode cX4_lead 58 = .ok (.lstore 15, 2) := by decide +kernel
theorem dX4_lead_60 : decode cX4_lead 60 = .ok (.aload_n 0, 1) := by decide +kernel
theorem dX4_lead_61 : decode cX4_lead 61 = .ok (.iconst 0, 1) := by decide +kernel
theorem dX4_lead_62 : decode cX4_lead 62 = .ok (.putfield 19, 3) := by decide +kernel
theorem dX4_lead_65 : decode cX4_lead 65 = .ok (.aload_n 0, 1) := by decide +kernel
theorem dX4_lead_66 : decode cX4_lead 66 = .ok (.aload_n 0, 1) := by decide +kernel
theorem dX4_lead_67 : decode cX4_lead 67 = .ok (.lload_n 1, 1) := by decide +kernel
theorem dX4_lead_68 : decode cX4_lead 68 = .ok (.lload 15, 2) := by decide +kernel
theorem dX4_lead_70 : decode cX4_lead 70 = .ok (.lsub, 1) := by decide +kernel
theorem dX4_lead_71 : decode cX4_lead 71 = .ok (.lload 5, 2) := by decide +kernel
theorem dX4_lead_73 : decode cX4_lead 73 = .ok (.invokevirtual 38, 3) := by decide +kernel
theorem dX4_lead_76 : decode cX4_lead 76 = .ok (.putfield 7, 3) := by decide +kernel
theorem dX4_lead_79 : decode cX4_lead 79 = .ok (.aload_n 0, 1) := by decide +kernel
theorem dX4_lead_80 : decode cX4_lead 80 = .ok (.aload_n 0, 1) := by decide +kernel
theorem dX4_lead_81 : decode cX4_lead 81 = .ok (.lload 7, 2) := by decide +kernel
theorem dX4_lead_83 : decode cX4_lead 83 = .ok (.lload 15, 2) := by decide +kernel
theorem dX4_lead_85 : decode cX4_lead 85 = .ok (.lsub, 1) := by decide +kernel
theorem dX4_lead_86 : decode cX4_lead 86 = .ok (.lload 5, 2) := by decide +kernel
theorem dX4_lead_88 : decode cX4_lead 88 = .ok (.invokevirtual 38, 3) := by decide +kernel
theorem dX4_lead_91 : decode cX4_lead 91 = .ok (.putfield 13, 3) := by decide +kernel
theorem dX4_lead_94 : decode cX4_lead 94 = .ok (.aload_n 0, 1) := by decide +kernel
theorem dX4_lead_95 : decode cX4_lead 95 = .ok (.aload_n 0, 1) := by decide +kernel
theorem dX4_lead_96 : decode cX4_lead 96 = .ok (.lload 9, 2) := by decide +kernel
theorem dX4_lead_98 : decode cX4_lead 98 = .ok (.lload 15, 2) := by decide +kernel
theorem dX4_lead_100 : decode cX4_lead 100 = .ok (.lsub, 1) := by decide +kernel
theorem dX4_lead_101 : decode cX4_lead 101 = .ok (.lload 5, 2) := by decide +kernel
theorem dX4_lead_103 : decode cX4_lead 103 = .ok (.invokevirtual 38, 3) := by decide +kernel
theorem dX4_lead_106 : decode cX4_lead 106 = .ok (.putfield 16, 3) := by decide +kernel
theorem dX4_lead_109 : decode cX4_lead 109 = .ok (.return_, 1) := by decide +kernel
set_option maxRecDepth 20000 in
theorem ggX4_onTime_X5_quotient : GoodIn wsX4_onTime wsX5_quotient := goodIn_r _ [13] (by decide +kernel) (by decide +kernel)
set_option maxRecDepth 20000 in
theorem gX4_onTime_X5_quotient_n43 : GoodIn wsX4_onTime (wsX5_quotient) := ggX4_onTime_X5_quotient
theorem dX4_onTime_0 : decode cX4_onTime 0 = .ok (.lload_n 1, 1) := by decide +kernel
theorem dX4_onTime_1 : decode cX4_onTime 1 = .ok (.ldc2_w 41, 3) := by decide +kernel
theorem dX4_onTime_4 : decode cX4_onTime 4 = .ok (.lmul, 1) := by decide +kernel
theorem dX4_onTime_5 : decode cX4_onTime 5 = .ok (.lload_n 3, 1) := by decide +kernel
theorem dX4_onTime_6 : decode cX4_onTime 6 = .ok (.invokestatic 43, 3) := by decide +kernel
theorem dX4_onTime_9 : decode cX4_onTime 9 = .ok (.ldc2_w 48, 3) := by decide +kernel
theorem dX4_onTime_12 : decode cX4_onTime 12 = .ok (.ladd, 1) := by decide +kernel
theorem dX4_onTime_13 : decode cX4_onTime 13 = .ok (.lstore 5, 2) := by decide +kernel
theorem dX4_onTime_15 : decode cX4_onTime 15 = .ok (.lload 5, 2) := by decide +kernel
theorem dX4_onTime_17 : decode cX4_onTime 17 = .ok (.lconst 0, 1) := by decide +kernel
theorem dX4_onTime_18 : decode cX4_onTime 18 = .ok (.lcmp, 1) := by decide +kernel
theorem dX4_onTime_19 : decode cX4_onTime 19 = .ok (.ifCond .lt 12, 3) := by decide +kernel
theorem dX4_onTime_22 : decode cX4_onTime 22 = .ok (.lload 5, 2) := by decide +kernel
theorem dX4_onTime_24 : decode cX4_onTime 24 = .ok (.ldc2_w 41, 3) := by decide +kernel
theorem dX4_onTime_27 : decode cX4_onTime 27 = .ok (.lcmp, 1) := by decide +kernel
theorem dX4_onTime_28 : decode cX4_onTime 28 = .ok (.ifCond .le 8, 3) := by decide +kernel
theorem dX4_onTime_31 : decode cX4_onTime 31 = .ok (.aload_n 0, 1) := by decide +kernel
theorem dX4_onTime_32 : decode cX4_onTime 32 = .ok (.iconst 1, 1) := by decide +kernel
theorem dX4_onTime_33 : decode cX4_onTime 33 = .ok (.putfield 19, 3) := by decide +kernel
theorem dX4_onTime_36 : decode cX4_onTime 36 = .ok (.lconst 0, 1) := by decide +kernel
theorem dX4_onTime_37 : decode cX4_onTime 37 = .ok (.ldc2_w 41, 3) := by decide +kernel
theorem dX4_onTime_40 : decode cX4_onTime 40 = .ok (.lload 5, 2) := by decide +kernel
theorem dX4_onTime_42 : decode cX4_onTime 42 = .ok (.invokestatic 33, 3) := by decide +kernel
theorem dX4_onTime_45 : decode cX4_onTime 45 = .ok (.invokestatic 27, 3) := by decide +kernel
theorem dX4_onTime_48 : decode cX4_onTime 48 = .ok (.lreturn, 1) := by decide +kernel
set_option maxRecDepth 20000 in
theorem ggX5_init_X2_init : GoodIn wsX5_init wsX2_init := goodIn_r _ [39, 40, 2, 3, 41, 42, 43, 44, 45, 82, 83, 84] (by decide +kernel) (by decide +kernel)
set_option maxRecDepth 20000 in
theorem gX5_init_X2_init_n15 : GoodIn wsX5_init (wsX2_init) := ggX5_init_X2_init
set_option maxRecDepth 20000 in
theorem ggX5_init_X3_init : GoodIn wsX5_init wsX3_init := goodIn_r _ [47, 48, 2, 3, 49, 50, 51, 52, 85, 86, 87, 88] (by decide +kernel) (by decide +kernel)
set_option maxRecDepth 20000 in
theorem gX5_init_X3_init_n28 : GoodIn wsX5_init (wsX3_init) := ggX5_init_X3_init
set_option maxRecDepth 20000 in
theorem ggX5_init_X4_init : GoodIn wsX5_init wsX4_init := goodIn_r _ [54, 55, 2, 3, 56, 57, 58, 59, 89, 90, 91, 92] (by decide +kernel) (by decide +kernel)
set_option maxRecDepth 20000 in
theorem gX5_init_X4_init_n35 : GoodIn wsX5_init (wsX4_init) := ggX5_init_X4_init
set_option maxRecDepth 20000 in
theorem ggX5_init_X0_init : GoodIn wsX5_init wsX0_init := goodIn_r _ [61, 62, 2, 3, 4, 63, 64, 65, 93, 94, 95] (by decide +kernel) (by decide +kernel)
set_option maxRecDepth 20000 in
theorem gX5_init_X0_init_n45 : GoodIn wsX5_init (wsX0_init) := ggX5_init_X0_init
theorem dX5_init_0 : decode cX5_init 0 = .ok (.aload_n 0, 1) := by decide +kernel
theorem dX5_init_1 : decode cX5_init 1 = .ok (.invokespecial 1, 3) := by decide +kernel
theorem dX5_init_4 : decode cX5_init 4 = .ok (.aload_n 0, 1) := by decide +kernel
theorem dX5_init_5 : decode cX5_init 5 = .ok (.bipush 6, 2) := by decide +kernel
theorem dX5_init_7 : decode cX5_init 7 = .ok (.newarray .int, 2) := by decide +kernel
theorem dX5_init_9 : decode cX5_init 9 = .ok (.putfield 9, 3) := by decide +kernel
theorem dX5_init_12 : decode cX5_init 12 = .ok (.aload_n 0, 1) := by decide +kernel
theorem dX5_init_13 : decode cX5_init 13 = .ok (.new 13, 3) := by decide +kernel
theorem dX5_init_16 : decode cX5_init 16 = .ok (.dup, 1) := by decide +kernel
theorem dX5_init_17 : decode cX5_init 17 = .ok (.invokespecial 15, 3) := by decide +kernel
theorem dX5_init_20 : decode cX5_init 20 = .ok (.putfield 16, 3) := by decide +kernel
theorem dX5_init_23 : decode cX5_init 23 = .ok (.aload_n 0, 1) := by decide +kernel
theorem dX5_init_24 : decode cX5_init 24 = .ok (.new 13, 3) := by decide +kernel
theorem dX5_init_27 : decode cX5_init 27 = .ok (.dup, 1) := by decide +kernel
theorem dX5_init_28 : decode cX5_init 28 = .ok (.invokespecial 15, 3) := by decide +kernel
theorem dX5_init_31 : decode cX5_init 31 = .ok (.putfield 20, 3) := by decide +kernel
theorem dX5_init_34 : decode cX5_init 34 = .ok (.aload_n 0, 1) := by decide +kernel
theorem dX5_init_35 : decode cX5_init 35 = .ok (.new 13, 3) := by decide +kernel
theorem dX5_init_38 : decode cX5_init 38 = .ok (.dup, 1) := by decide +kernel
theorem dX5_init_39 : decode cX5_init 39 = .ok (.invokespecial 15, 3) := by decide +kernel
theorem dX5_init_42 : decode cX5_init 42 = .ok (.putfield 23, 3) := by decide +kernel
theorem dX5_init_45 : decode cX5_init 45 = .ok (.aload_n 0, 1) := by decide +kernel
theorem dX5_init_46 : decode cX5_init 46 = .ok (.new 26, 3) := by decide +kernel
theorem dX5_init_49 : decode cX5_init 49 = .ok (.dup, 1) := by decide +kernel
theorem dX5_init_50 : decode cX5_init 50 = .ok (.invokespecial 28, 3) := by decide +kernel
theorem dX5_init_53 : decode cX5_init 53 = .ok (.putfield 29, 3) := by decide +kernel
theorem dX5_init_56 : decode cX5_init 56 = .ok (.aload_n 0, 1) := by decide +kernel
theorem dX5_init_57 : decode cX5_init 57 = .ok (.new 33, 3) := by decide +kernel
theorem dX5_init_60 : decode cX5_init 60 = .ok (.dup, 1) := by decide +kernel
theorem dX5_init_61 : decode cX5_init 61 = .ok (.invokespecial 35, 3) := by decide +kernel
theorem dX5_init_64 : decode cX5_init 64 = .ok (.putfield 36, 3) := by decide +kernel
theorem dX5_init_67 : decode cX5_init 67 = .ok (.aload_n 0, 1) := by decide +kernel
theorem dX5_init_68 : decode cX5_init 68 = .ok (.new 33, 3) := by decide +kernel
theorem dX5_init_71 : decode cX5_init 71 = .ok (.dup, 1) := by decide +kernel
theorem dX5_init_72 : decode cX5_init 72 = .ok (.invokespecial 35, 3) := by decide +kernel
theorem dX5_init_75 : decode cX5_init 75 = .ok (.putfield 40, 3) := by decide +kernel
theorem dX5_init_78 : decode cX5_init 78 = .ok (.aload_n 0, 1) := by decide +kernel
theorem dX5_init_79 : decode cX5_init 79 = .ok (.new 43, 3) := by decide +kernel
theorem dX5_init_82 : decode cX5_init 82 = .ok (.dup, 1) := by decide +kernel
theorem dX5_init_83 : decode cX5_init 83 = .ok (.invokespecial 45, 3) := by decide +kernel
theorem dX5_init_86 : decode cX5_init 86 = .ok (.putfield 46, 3) := by decide +kernel
theorem dX5_init_89 : decode cX5_init 89 = .ok (.aload_n 0, 1) := by decide +kernel
theorem dX5_init_90 : decode cX5_init 90 = .ok (.iconst 0, 1) := by decide +kernel
theorem dX5_init_91 : decode cX5_init 91 = .ok (.putfield 50, 3) := by decide +kernel
theorem dX5_init_94 : decode cX5_init 94 = .ok (.aload_n 0, 1) := by decide +kernel
theorem dX5_init_95 : decode cX5_init 95 = .ok (.iconst 0, 1) := by decide +kernel
theorem dX5_init_96 : decode cX5_init 96 = .ok (.putfield 54, 3) := by decide +kernel
theorem dX5_init_99 : decode cX5_init 99 = .ok (.aload_n 0, 1) := by decide +kernel
theorem dX5_init_100 : decode cX5_init 100 = .ok (.iconst 0, 1) := by decide +kernel
theorem dX5_init_101 : decode cX5_init 101 = .ok (.putfield 57, 3) := by decide +kernel
theorem dX5_init_104 : decode cX5_init 104 = .ok (.aload_n 0, 1) := by decide +kernel
theorem dX5_init_105 : decode cX5_init 105 = .ok (.lconst 0, 1) := by decide +kernel
theorem dX5_init_106 : decode cX5_init 106 = .ok (.putfield 61, 3) := by decide +kernel
theorem dX5_init_109 : decode cX5_init 109 = .ok (.aload_n 0, 1) := by decide +kernel
theorem dX5_init_110 : decode cX5_init 110 = .ok (.lconst 0, 1) := by decide +kernel
theorem dX5_init_111 : decode cX5_init 111 = .ok (.putfield 65, 3) := by decide +kernel
theorem dX5_init_114 : decode cX5_init 114 = .ok (.aload_n 0, 1) := by decide +kernel
theorem dX5_init_115 : decode cX5_init 115 = .ok (.lconst 0, 1) := by decide +kernel
theorem dX5_init_116 : decode cX5_init 116 = .ok (.putfield 68, 3) := by decide +kernel
theorem dX5_init_119 : decode cX5_init 119 = .ok (.aload_n 0, 1) := by decide +kernel
theorem dX5_init_120 : decode cX5_init 120 = .ok (.iconst 0, 1) := by decide +kernel
theorem dX5_init_121 : decode cX5_init 121 = .ok (.putfield 71, 3) := by decide +kernel
theorem dX5_init_124 : decode cX5_init 124 = .ok (.aload_n 0, 1) := by decide +kernel
theorem dX5_init_125 : decode cX5_init 125 = .ok (.iconst 0, 1) := by decide +kernel
theorem dX5_init_126 : decode cX5_init 126 = .ok (.putfield 74, 3) := by decide +kernel
theorem dX5_init_129 : decode cX5_init 129 = .ok (.getstatic 77, 3) := by decide +kernel
theorem dX5_init_132 : decode cX5_init 132 = .ok (.iconst 0, 1) := by decide +kernel
theorem dX5_init_133 : decode cX5_init 133 = .ok (.aload_n 0, 1) := by decide +kernel
theorem dX5_init_134 : decode cX5_init 134 = .ok (.getfield 9, 3) := by decide +kernel
theorem dX5_init_137 : decode cX5_init 137 = .ok (.iconst 0, 1) := by decide +kernel
theorem dX5_init_138 : decode cX5_init 138 = .ok (.bipush 6, 2) := by decide +kernel
theorem dX5_init_140 : decode cX5_init 140 = .ok (.invokestatic 80, 3) := by decide +kernel
theorem dX5_init_143 : decode cX5_init 143 = .ok (.return_, 1) := by decide +kernel
set_option maxRecDepth 20000 in
theorem ggX5_sine_X5_isAngle : GoodIn wsX5_sine wsX5_isAngle := goodIn_r _ [5, 6, 7, 8, 4, 9] (by decide +kernel) (by decide +kernel)
set_option maxRecDepth 20000 in
theorem gX5_sine_X5_isAngle : GoodIn wsX5_sine (va_wsS RX5 86 yX5_isAngle wsX5_isAngle) := goodIn_app (goodIn_of _ (by decide +kernel)) ggX5_sine_X5_isAngle
set_option maxRecDepth 20000 in
theorem ggX5_sine_X1_sineOf : GoodIn wsX5_sine wsX1_sineOf := goodIn_r _ [13, 14, 15, 16, 17, 18, 19, 4, 20] (by decide +kernel) (by decide +kernel)
set_option maxRecDepth 20000 in
theorem gX5_sine_X1_sineOf : GoodIn wsX5_sine (va_wsS RX5 90 yX1_sineOf wsX1_sineOf) := goodIn_app (goodIn_of _ (by decide +kernel)) ggX5_sine_X1_sineOf
theorem dX5_sine_0 : decode cX5_sine 0 = .ok (.iload_n 1, 1) := by decide +kernel
theorem dX5_sine_1 : decode cX5_sine 1 = .ok (.invokestatic 86, 3) := by decide +kernel
theorem dX5_sine_4 : decode cX5_sine 4 = .ok (.ifCond .eq 12, 3) := by decide +kernel
theorem dX5_sine_7 : decode cX5_sine 7 = .ok (.iload_n 1, 1) := by decide +kernel
theorem dX5_sine_8 : decode cX5_sine 8 = .ok (.i2l, 1) := by decide +kernel
theorem dX5_sine_9 : decode cX5_sine 9 = .ok (.invokestatic 90, 3) := by decide +kernel
theorem dX5_sine_12 : decode cX5_sine 12 = .ok (.l2i, 1) := by decide +kernel
theorem dX5_sine_13 : decode cX5_sine 13 = .ok (.goto 5, 3) := by decide +kernel
theorem dX5_sine_16 : decode cX5_sine 16 = .ok (.ldc 96, 2) := by decide +kernel
theorem dX5_sine_18 : decode cX5_sine 18 = .ok (.ireturn, 1) := by decide +kernel
set_option maxRecDepth 20000 in
theorem ggX5_turned_X5_isVector : GoodIn wsX5_turned wsX5_isVector := goodIn_r _ [5, 6, 7, 4, 8] (by decide +kernel) (by decide +kernel)
set_option maxRecDepth 20000 in
theorem gX5_turned_X5_isVector : GoodIn wsX5_turned (va_wsS RX5 97 yX5_isVector wsX5_isVector) := goodIn_app (goodIn_of _ (by decide +kernel)) ggX5_turned_X5_isVector
set_option maxRecDepth 20000 in
theorem ggX5_turned_X5_isAngle : GoodIn wsX5_turned wsX5_isAngle := goodIn_r _ [11, 12, 6, 7, 4, 8] (by decide +kernel) (by decide +kernel)
set_option maxRecDepth 20000 in
theorem gX5_turned_X5_isAngle : GoodIn wsX5_turned (va_wsS RX5 86 yX5_isAngle wsX5_isAngle) := goodIn_app (goodIn_of _ (by decide +kernel)) ggX5_turned_X5_isAngle
set_option maxRecDepth 20000 in
theorem ggX5_turned_X1_betaOfWires : GoodIn wsX5_turned wsX1_betaOfWires := goodIn_r _ [16, 17, 18] (by decide +kernel) (by decide +kernel)
set_option maxRecDepth 20000 in
theorem gX5_turned_X1_betaOfWires : GoodIn wsX5_turned (va_wsS RX5 101 yX1_betaOfWires wsX1_betaOfWires) := goodIn_app (goodIn_of _ (by decide +kernel)) ggX5_turned_X1_betaOfWires
set_option maxRecDepth 20000 in
theorem ggX5_turned_X1_dOf : GoodIn wsX5_turned wsX1_dOf := goodIn_r _ [21, 22, 23, 15, 24, 25, 26, 27, 28, 29, 30, 31, 32, 33, 34, 4, 35] (by decide +kernel) (by decide +kernel)
set_option maxRecDepth 20000 in
theorem gX5_turned_X1_dOf : GoodIn wsX5_turned (va_wsS RX5 105 yX1_dOf wsX1_dOf) := goodIn_app (goodIn_of _ (by decide +kernel)) ggX5_turned_X1_dOf
set_option maxRecDepth 20000 in
theorem ggX5_turned_X1_qOf : GoodIn wsX5_turned wsX1_qOf := goodIn_r _ [38, 22, 23, 15, 24, 25, 26, 27, 28, 29, 30, 31, 32, 33, 34, 4, 35] (by decide +kernel) (by decide +kernel)
set_option maxRecDepth 20000 in
theorem gX5_turned_X1_qOf : GoodIn wsX5_turned (va_wsS RX5 109 yX1_qOf wsX1_qOf) := goodIn_app (goodIn_of _ (by decide +kernel)) ggX5_turned_X1_qOf
theorem dX5_turned_0 : decode cX5_turned 0 = .ok (.iload_n 1, 1) := by decide +kernel
theorem dX5_turned_1 : decode cX5_turned 1 = .ok (.iload_n 2, 1) := by decide +kernel
theorem dX5_turned_2 : decode cX5_turned 2 = .ok (.invokestatic 97, 3) := by decide +kernel
theorem dX5_turned_5 : decode cX5_turned 5 = .ok (.ifCond .eq 10, 3) := by decide +kernel
theorem dX5_turned_8 : decode cX5_turned 8 = .ok (.iload_n 3, 1) := by decide +kernel
theorem dX5_turned_9 : decode cX5_turned 9 = .ok (.invokestatic 86, 3) := by decide +kernel
theorem dX5_turned_12 : decode cX5_turned 12 = .ok (.ifCond .ne 6, 3) := by decide +kernel
theorem dX5_turned_15 : decode cX5_turned 15 = .ok (.ldc 96, 2) := by decide +kernel
theorem dX5_turned_17 : decode cX5_turned 17 = .ok (.ireturn, 1) := by decide +kernel
theorem dX5_turned_18 : decode cX5_turned 18 = .ok (.iload_n 1, 1) := by decide +kernel
theorem dX5_turned_19 : decode cX5_turned 19 = .ok (.i2l, 1) := by decide +kernel
theorem dX5_turned_20 : decode cX5_turned 20 = .ok (.iload_n 2, 1) := by decide +kernel
theorem dX5_turned_21 : decode cX5_turned 21 = .ok (.i2l, 1) := by decide +kernel
theorem dX5_turned_22 : decode cX5_turned 22 = .ok (.invokestatic 101, 3) := by decide +kernel
theorem dX5_turned_25 : decode cX5_turned 25 = .ok (.lstore 5, 2) := by decide +kernel
theorem dX5_turned_27 : decode cX5_turned 27 = .ok (.iload 4, 2) := by decide +kernel
theorem dX5_turned_29 : decode cX5_turned 29 = .ok (.tableswitch 59 0 3 #[31, 33, 37, 48], 31) := by decide +kernel
theorem dX5_turned_60 : decode cX5_turned 60 = .ok (.iload_n 1, 1) := by decide +kernel
theorem dX5_turned_61 : decode cX5_turned 61 = .ok (.ireturn, 1) := by decide +kernel
theorem dX5_turned_62 : decode cX5_turned 62 = .ok (.lload 5, 2) := by decide +kernel
theorem dX5_turned_64 : decode cX5_turned 64 = .ok (.l2i, 1) := by decide +kernel
theorem dX5_turned_65 : decode cX5_turned 65 = .ok (.ireturn, 1) := by decide +kernel
theorem dX5_turned_66 : decode cX5_turned 66 = .ok (.iload_n 1, 1) := by decide +kernel
theorem dX5_turned_67 : decode cX5_turned 67 = .ok (.i2l, 1) := by decide +kernel
theorem dX5_turned_68 : decode cX5_turned 68 = .ok (.lload 5, 2) := by decide +kernel
theorem dX5_turned_70 : decode cX5_turned 70 = .ok (.iload_n 3, 1) := by decide +kernel
theorem dX5_turned_71 : decode cX5_turned 71 = .ok (.i2l, 1) := by decide +kernel
theorem dX5_turned_72 : decode cX5_turned 72 = .ok (.invokestatic 105, 3) := by decide +kernel
theorem dX5_turned_75 : decode cX5_turned 75 = .ok (.l2i, 1) := by decide +kernel
theorem dX5_turned_76 : decode cX5_turned 76 = .ok (.ireturn, 1) := by decide +kernel
theorem dX5_turned_77 : decode cX5_turned 77 = .ok (.iload_n 1, 1) := by decide +kernel
theorem dX5_turned_78 : decode cX5_turned 78 = .ok (.i2l, 1) := by decide +kernel
theorem dX5_turned_79 : decode cX5_turned 79 = .ok (.lload 5, 2) := by decide +kernel
theorem dX5_turned_81 : decode cX5_turned 81 = .ok (.iload_n 3, 1) := by decide +kernel
theorem dX5_turned_82 : decode cX5_turned 82 = .ok (.i2l, 1) := by decide +kernel
theorem dX5_turned_83 : decode cX5_turned 83 = .ok (.invokestatic 109, 3) := by decide +kernel
theorem dX5_turned_86 : decode cX5_turned 86 = .ok (.l2i, 1) := by decide +kernel
theorem dX5_turned_87 : decode cX5_turned 87 = .ok (.ireturn, 1) := by decide +kernel
theorem dX5_turned_88 : decode cX5_turned 88 = .ok (.ldc 96, 2) := by decide +kernel
theorem dX5_turned_90 : decode cX5_turned 90 = .ok (.ireturn, 1) := by decide +kernel
set_option maxRecDepth 20000 in
theorem ggX5_back_X5_isVector : GoodIn wsX5_back wsX5_isVector := goodIn_r _ [5, 6, 7, 4, 8] (by decide +kernel) (by decide +kernel)
set_option maxRecDepth 20000 in
theorem gX5_back_X5_isVector : GoodIn wsX5_back (va_wsS RX5 97 yX5_isVector wsX5_isVector) := goodIn_app (goodIn_of _ (by decide +kernel)) ggX5_back_X5_isVector
set_option maxRecDepth 20000 in
theorem ggX5_back_X5_isAngle : GoodIn wsX5_back wsX5_isAngle := goodIn_r _ [11, 12, 6, 7, 4, 8] (by decide +kernel) (by decide +kernel)
set_option maxRecDepth 20000 in
theorem gX5_back_X5_isAngle : GoodIn wsX5_back (va_wsS RX5 86 yX5_isAngle wsX5_isAngle) := goodIn_app (goodIn_of _ (by decide +kernel)) ggX5_back_X5_isAngle
set_option maxRecDepth 20000 in
theorem ggX5_back_X1_alphaOf : GoodIn wsX5_back wsX1_alphaOf := goodIn_r _ [16, 17, 18, 15, 19, 20, 21, 22, 23, 24, 25, 26, 27, 28, 29, 4, 30] (by decide +kernel) (by decide +kernel)
set_option maxRecDepth 20000 in
theorem gX5_back_X1_alphaOf : GoodIn wsX5_back (va_wsS RX5 112 yX1_alphaOf wsX1_alphaOf) := goodIn_app (goodIn_of _ (by decide +kernel)) ggX5_back_X1_alphaOf
set_option maxRecDepth 20000 in
theorem ggX5_back_X1_betaOf : GoodIn wsX5_back wsX1_betaOf := goodIn_r _ [33, 21, 22, 15, 23, 24, 25, 26, 27, 28, 29, 4, 30, 17, 18, 19, 20] (by decide +kernel) (by decide +kernel)
set_option maxRecDepth 20000 in
theorem gX5_back_X1_betaOf : GoodIn wsX5_back (va_wsS RX5 115 yX1_betaOf wsX1_betaOf) := goodIn_app (goodIn_of _ (by decide +kernel)) ggX5_back_X1_betaOf
theorem dX5_back_0 : decode cX5_back 0 = .ok (.iload_n 1, 1) := by decide +kernel
theorem dX5_back_1 : decode cX5_back 1 = .ok (.iload_n 2, 1) := by decide +kernel
theorem dX5_back_2 : decode cX5_back 2 = .ok (.invokestatic 97, 3) := by decide +kernel
theorem dX5_back_5 : decode cX5_back 5 = .ok (.ifCond .eq 10, 3) := by decide +kernel
theorem dX5_back_8 : decode cX5_back 8 = .ok (.iload_n 3, 1) := by decide +kernel
theorem dX5_back_9 : decode cX5_back 9 = .ok (.invokestatic 86, 3) := by decide +kernel
theorem dX5_back_12 : decode cX5_back 12 = .ok (.ifCond .ne 6, 3) := by decide +kernel
theorem dX5_back_15 : decode cX5_back 15 = .ok (.ldc 96, 2) := by decide +kernel
theorem dX5_back_17 : decode cX5_back 17 = .ok (.ireturn, 1) := by decide +kernel
theorem dX5_back_18 : decode cX5_back 18 = .ok (.iload 4, 2) := by decide +kernel
theorem dX5_back_20 : decode cX5_back 20 = .ok (.lookupswitch 50 #[(0, 28), (1, 39)], 28) := by decide +kernel
theorem dX5_back_48 : decode cX5_back 48 = .ok (.iload_n 1, 1) := by decide +kernel
theorem dX5_back_49 : decode cX5_back 49 = .ok (.i2l, 1) := by decide +kernel
theorem dX5_back_50 : decode cX5_back 50 = .ok (.iload_n 2, 1) := by decide +kernel
theorem dX5_back_51 : decode cX5_back 51 = .ok (.i2l, 1) := by decide +kernel
theorem dX5_back_52 : decode cX5_back 52 = .ok (.iload_n 3, 1) := by decide +kernel
theorem dX5_back_53 : decode cX5_back 53 = .ok (.i2l, 1) := by decide +kernel
theorem dX5_back_54 : decode cX5_back 54 = .ok (.invokestatic 112, 3) := by decide +kernel
theorem dX5_back_57 : decode cX5_back 57 = .ok (.l2i, 1) := by decide +kernel
theorem dX5_back_58 : decode cX5_back 58 = .ok (.ireturn, 1) := by decide +kernel
theorem dX5_back_59 : decode cX5_back 59 = .ok (.iload_n 1, 1) := by decide +kernel
theorem dX5_back_60 : decode cX5_back 60 = .ok (.i2l, 1) := by decide +kernel
theorem dX5_back_61 : decode cX5_back 61 = .ok (.iload_n 2, 1) := by decide +kernel
theorem dX5_back_62 : decode cX5_back 62 = .ok (.i2l, 1) := by decide +kernel
theorem dX5_back_63 : decode cX5_back 63 = .ok (.iload_n 3, 1) := by decide +kernel
theorem dX5_back_64 : decode cX5_back 64 = .ok (.i2l, 1) := by decide +kernel
theorem dX5_back_65 : decode cX5_back 65 = .ok (.invokestatic 115, 3) := by decide +kernel
theorem dX5_back_68 : decode cX5_back 68 = .ok (.l2i, 1) := by decide +kernel
theorem dX5_back_69 : decode cX5_back 69 = .ok (.ireturn, 1) := by decide +kernel
theorem dX5_back_70 : decode cX5_back 70 = .ok (.ldc 96, 2) := by decide +kernel
theorem dX5_back_72 : decode cX5_back 72 = .ok (.ireturn, 1) := by decide +kernel
set_option maxRecDepth 20000 in
theorem ggX5_times_X5_isVector : GoodIn wsX5_times wsX5_isVector := goodIn_r _ [11, 12, 13, 10, 14] (by decide +kernel) (by decide +kernel)
set_option maxRecDepth 20000 in
theorem gX5_times_X5_isVector : GoodIn wsX5_times (va_wsS RX5 97 yX5_isVector wsX5_isVector) := goodIn_app (goodIn_of _ (by decide +kernel)) ggX5_times_X5_isVector
set_option maxRecDepth 20000 in
theorem ggX5_times_X4_lead : GoodIn wsX5_times wsX4_lead := goodIn_r _ [19, 20, 21, 22, 23, 24, 25, 26, 27, 28, 29, 30, 31, 32, 33, 34, 35, 36, 18, 37, 38, 39, 40, 10, 41, 58, 59, 60, 61] (by decide +kernel) (by decide +kernel)
set_option maxRecDepth 20000 in
theorem gX5_times_X4_lead : GoodIn wsX5_times (wsV RX5 118 RX4 yX4_lead wsX4_lead) := goodIn_app (goodIn_of _ (by decide +kernel)) ggX5_times_X4_lead
theorem dX5_times_0 : decode cX5_times 0 = .ok (.iload_n 1, 1) := by decide +kernel
theorem dX5_times_1 : decode cX5_times 1 = .ok (.iload_n 2, 1) := by decide +kernel
theorem dX5_times_2 : decode cX5_times 2 = .ok (.invokestatic 97, 3) := by decide +kernel
theorem dX5_times_5 : decode cX5_times 5 = .ok (.ifCond .ne 6, 3) := by decide +kernel
theorem dX5_times_8 : decode cX5_times 8 = .ok (.ldc 96, 2) := by decide +kernel
theorem dX5_times_10 : decode cX5_times 10 = .ok (.ireturn, 1) := by decide +kernel
theorem dX5_times_11 : decode cX5_times 11 = .ok (.aload_n 0, 1) := by decide +kernel
theorem dX5_times_12 : decode cX5_times 12 = .ok (.getfield 40, 3) := by decide +kernel
theorem dX5_times_15 : decode cX5_times 15 = .ok (.iload_n 1, 1) := by decide +kernel
theorem dX5_times_16 : decode cX5_times 16 = .ok (.i2l, 1) := by decide +kernel
theorem dX5_times_17 : decode cX5_times 17 = .ok (.iload_n 2, 1) := by decide +kernel
theorem dX5_times_18 : decode cX5_times 18 = .ok (.i2l, 1) := by decide +kernel
theorem dX5_times_19 : decode cX5_times 19 = .ok (.aload_n 0, 1) := by decide +kernel
theorem dX5_times_20 : decode cX5_times 20 = .ok (.getfield 9, 3) := by decide +kernel
theorem dX5_times_23 : decode cX5_times 23 = .ok (.iconst 0, 1) := by decide +kernel
theorem dX5_times_24 : decode cX5_times 24 = .ok (.iaload, 1) := by decide +kernel
theorem dX5_times_25 : decode cX5_times 25 = .ok (.i2l, 1) := by decide +kernel
theorem dX5_times_26 : decode cX5_times 26 = .ok (.invokevirtual 118, 3) := by decide +kernel
theorem dX5_times_29 : decode cX5_times 29 = .ok (.iload_n 3, 1) := by decide +kernel
theorem dX5_times_30 : decode cX5_times 30 = .ok (.tableswitch 73 0 3 #[30, 39, 48, 57], 30) := by decide +kernel
theorem dX5_times_60 : decode cX5_times 60 = .ok (.aload_n 0, 1) := by decide +kernel
theorem dX5_times_61 : decode cX5_times 61 = .ok (.getfield 40, 3) := by decide +kernel
theorem dX5_times_64 : decode cX5_times 64 = .ok (.getfield 122, 3) := by decide +kernel
theorem dX5_times_67 : decode cX5_times 67 = .ok (.l2i, 1) := by decide +kernel
theorem dX5_times_68 : decode cX5_times 68 = .ok (.ireturn, 1) := by decide +kernel
theorem dX5_times_69 : decode cX5_times 69 = .ok (.aload_n 0, 1) := by decide +kernel
theorem dX5_times_70 : decode cX5_times 70 = .ok (.getfield 40, 3) := by decide +kernel
theorem dX5_times_73 : decode cX5_times 73 = .ok (.getfield 125, 3) := by decide +kernel
theorem dX5_times_76 : decode cX5_times 76 = .ok (.l2i, 1) := by decide +kernel
theorem dX5_times_77 : decode cX5_times 77 = .ok (.ireturn, 1) := by decide +kernel
theorem dX5_times_78 : decode cX5_times 78 = .ok (.aload_n 0, 1) := by decide +kernel
theorem dX5_times_79 : decode cX5_times 79 = .ok (.getfield 40, 3) := by decide +kernel
theorem dX5_times_82 : decode cX5_times 82 = .ok (.getfield 128, 3) := by decide +kernel
theorem dX5_times_85 : decode cX5_times 85 = .ok (.l2i, 1) := by decide +kernel
theorem dX5_times_86 : decode cX5_times 86 = .ok (.ireturn, 1) := by decide +kernel
theorem dX5_times_87 : decode cX5_times 87 = .ok (.aload_n 0, 1) := by decide +kernel
theorem dX5_times_88 : decode cX5_times 88 = .ok (.getfield 40, 3) := by decide +kernel
theorem dX5_times_91 : decode cX5_times 91 = .ok (.getfield 131, 3) := by decide +kernel
theorem dX5_times_94 : decode cX5_times 94 = .ok (.ifCond .eq 7, 3) := by decide +kernel
theorem dX5_times_97 : decode cX5_times 97 = .ok (.iconst 1, 1) := by decide +kernel
theorem dX5_times_98 : decode cX5_times 98 = .ok (.goto 4, 3) := by decide +kernel
theorem dX5_times_101 : decode cX5_times 101 = .ok (.iconst 0, 1) := by decide +kernel
theorem dX5_times_102 : decode cX5_times 102 = .ok (.ireturn, 1) := by decide +kernel
theorem dX5_times_103 : decode cX5_times 103 = .ok (.ldc 96, 2) := by decide +kernel
theorem dX5_times_105 : decode cX5_times 105 = .ok (.ireturn, 1) := by decide +kernel
set_option maxRecDepth 20000 in
theorem ggX5_rule_X5_within : GoodIn wsX5_rule wsX5_within := goodIn_r _ [8] (by decide +kernel) (by decide +kernel)
set_option maxRecDepth 20000 in
theorem gX5_rule_X5_within : GoodIn wsX5_rule (va_wsS RX5 140 yX5_within wsX5_within) := goodIn_app (goodIn_of _ (by decide +kernel)) ggX5_rule_X5_within
theorem dX5_rule_0 : decode cX5_rule 0 = .ok (.iload_n 1, 1) := by decide +kernel
theorem dX5_rule_1 : decode cX5_rule 1 = .ok (.ifCond .lt 9, 3) := by decide +kernel
theorem dX5_rule_4 : decode cX5_rule 4 = .ok (.iload_n 1, 1) := by decide +kernel
theorem dX5_rule_5 : decode cX5_rule 5 = .ok (.bipush 6, 2) := by decide +kernel
theorem dX5_rule_7 : decode cX5_rule 7 = .ok (.if_icmp .lt 6, 3) := by decide +kernel
theorem dX5_rule_10 : decode cX5_rule 10 = .ok (.ldc 96, 2) := by decide +kernel
theorem dX5_rule_12 : decode cX5_rule 12 = .ok (.ireturn, 1) := by decide +kernel
theorem dX5_rule_13 : decode cX5_rule 13 = .ok (.iload_n 2, 1) := by decide +kernel
theorem dX5_rule_14 : decode cX5_rule 14 = .ok (.getstatic 134, 3) := by decide +kernel
theorem dX5_rule_17 : decode cX5_rule 17 = .ok (.iload_n 1, 1) := by decide +kernel
theorem dX5_rule_18 : decode cX5_rule 18 = .ok (.iaload, 1) := by decide +kernel
theorem dX5_rule_19 : decode cX5_rule 19 = .ok (.getstatic 137, 3) := by decide +kernel
theorem dX5_rule_22 : decode cX5_rule 22 = .ok (.iload_n 1, 1) := by decide +kernel
theorem dX5_rule_23 : decode cX5_rule 23 = .ok (.iaload, 1) := by decide +kernel
theorem dX5_rule_24 : decode cX5_rule 24 = .ok (.invokestatic 140, 3) := by decide +kernel
theorem dX5_rule_27 : decode cX5_rule 27 = .ok (.ifCond .ne 6, 3) := by decide +kernel
theorem dX5_rule_30 : decode cX5_rule 30 = .ok (.ldc 96, 2) := by decide +kernel
theorem dX5_rule_32 : decode cX5_rule 32 = .ok (.ireturn, 1) := by decide +kernel
theorem dX5_rule_33 : decode cX5_rule 33 = .ok (.aload_n 0, 1) := by decide +kernel
theorem dX5_rule_34 : decode cX5_rule 34 = .ok (.getfield 9, 3) := by decide +kernel
theorem dX5_rule_37 : decode cX5_rule 37 = .ok (.iload_n 1, 1) := by decide +kernel
theorem dX5_rule_38 : decode cX5_rule 38 = .ok (.iaload, 1) := by decide +kernel
theorem dX5_rule_39 : decode cX5_rule 39 = .ok (.istore_n 3, 1) := by decide +kernel
theorem dX5_rule_40 : decode cX5_rule 40 = .ok (.aload_n 0, 1) := by decide +kernel
theorem dX5_rule_41 : decode cX5_rule 41 = .ok (.getfield 9, 3) := by decide +kernel
theorem dX5_rule_44 : decode cX5_rule 44 = .ok (.iload_n 1, 1) := by decide +kernel
theorem dX5_rule_45 : decode cX5_rule 45 = .ok (.iload_n 2, 1) := by decide +kernel
theorem dX5_rule_46 : decode cX5_rule 46 = .ok (.iastore, 1) := by decide +kernel
theorem dX5_rule_47 : decode cX5_rule 47 = .ok (.iload_n 3, 1) := by decide +kernel
theorem dX5_rule_48 : decode cX5_rule 48 = .ok (.ireturn, 1) := by decide +kernel
set_option maxRecDepth 20000 in
theorem ggX5_gain_X5_within : GoodIn wsX5_gain wsX5_within := goodIn_r _ [10] (by decide +kernel) (by decide +kernel)
set_option maxRecDepth 20000 in
theorem gX5_gain_X5_within : GoodIn wsX5_gain (va_wsS RX5 140 yX5_within wsX5_within) := goodIn_app (goodIn_of _ (by decide +kernel)) ggX5_gain_X5_within
theorem dX5_gain_0 : decode cX5_gain 0 = .ok (.iload_n 1, 1) := by decide +kernel
theorem dX5_gain_1 : decode cX5_gain 1 = .ok (.iconst 0, 1) := by decide +kernel
theorem dX5_gain_2 : decode cX5_gain 2 = .ok (.iconst 2, 1) := by decide +kernel
theorem dX5_gain_3 : decode cX5_gain 3 = .ok (.invokestatic 140, 3) := by decide +kernel
theorem dX5_gain_6 : decode cX5_gain 6 = .ok (.ifCond .eq 23, 3) := by decide +kernel
theorem dX5_gain_9 : decode cX5_gain 9 = .ok (.iload_n 2, 1) := by decide +kernel
theorem dX5_gain_10 : decode cX5_gain 10 = .ok (.iconst 0, 1) := by decide +kernel
theorem dX5_gain_11 : decode cX5_gain 11 = .ok (.iconst 1, 1) := by decide +kernel
theorem dX5_gain_12 : decode cX5_gain 12 = .ok (.invokestatic 140, 3) := by decide +kernel
theorem dX5_gain_15 : decode cX5_gain 15 = .ok (.ifCond .eq 14, 3) := by decide +kernel
theorem dX5_gain_18 : decode cX5_gain 18 = .ok (.iload_n 3, 1) := by decide +kernel
theorem dX5_gain_19 : decode cX5_gain 19 = .ok (.iconst 0, 1) := by decide +kernel
theorem dX5_gain_20 : decode cX5_gain 20 = .ok (.sipush 4000, 3) := by decide +kernel
theorem dX5_gain_23 : decode cX5_gain 23 = .ok (.invokestatic 140, 3) := by decide +kernel
theorem dX5_gain_26 : decode cX5_gain 26 = .ok (.ifCond .ne 6, 3) := by decide +kernel
theorem dX5_gain_29 : decode cX5_gain 29 = .ok (.ldc 96, 2) := by decide +kernel
theorem dX5_gain_31 : decode cX5_gain 31 = .ok (.ireturn, 1) := by decide +kernel
theorem dX5_gain_32 : decode cX5_gain 32 = .ok (.iload_n 1, 1) := by decide +kernel
theorem dX5_gain_33 : decode cX5_gain 33 = .ok (.ifCond .ne 10, 3) := by decide +kernel
theorem dX5_gain_36 : decode cX5_gain 36 = .ok (.aload_n 0, 1) := by decide +kernel
theorem dX5_gain_37 : decode cX5_gain 37 = .ok (.getfield 16, 3) := by decide +kernel
theorem dX5_gain_40 : decode cX5_gain 40 = .ok (.goto 19, 3) := by decide +kernel
theorem dX5_gain_43 : decode cX5_gain 43 = .ok (.iload_n 1, 1) := by decide +kernel
theorem dX5_gain_44 : decode cX5_gain 44 = .ok (.iconst 1, 1) := by decide +kernel
theorem dX5_gain_45 : decode cX5_gain 45 = .ok (.if_icmp .ne 10, 3) := by decide +kernel
theorem dX5_gain_48 : decode cX5_gain 48 = .ok (.aload_n 0, 1) := by decide +kernel
theorem dX5_gain_49 : decode cX5_gain 49 = .ok (.getfield 20, 3) := by decide +kernel
theorem dX5_gain_52 : decode cX5_gain 52 = .ok (.goto 7, 3) := by decide +kernel
theorem dX5_gain_55 : decode cX5_gain 55 = .ok (.aload_n 0, 1) := by decide +kernel
theorem dX5_gain_56 : decode cX5_gain 56 = .ok (.getfield 23, 3) := by decide +kernel
theorem dX5_gain_59 : decode cX5_gain 59 = .ok (.astore 4, 2) := by decide +kernel
theorem dX5_gain_61 : decode cX5_gain 61 = .ok (.iload_n 2, 1) := by decide +kernel
theorem dX5_gain_62 : decode cX5_gain 62 = .ok (.ifCond .ne 11, 3) := by decide +kernel
theorem dX5_gain_65 : decode cX5_gain 65 = .ok (.aload 4, 2) := by decide +kernel
theorem dX5_gain_67 : decode cX5_gain 67 = .ok (.getfield 144, 3) := by decide +kernel
theorem dX5_gain_70 : decode cX5_gain 70 = .ok (.goto 8, 3) := by decide +kernel
theorem dX5_gain_73 : decode cX5_gain 73 = .ok (.aload 4, 2) := by decide +kernel
theorem dX5_gain_75 : decode cX5_gain 75 = .ok (.getfield 147, 3) := by decide +kernel
theorem dX5_gain_78 : decode cX5_gain 78 = .ok (.lstore 5, 2) := by decide +kernel
theorem dX5_gain_80 : decode cX5_gain 80 = .ok (.iload_n 2, 1) := by decide +kernel
theorem dX5_gain_81 : decode cX5_gain 81 = .ok (.ifCond .ne 13, 3) := by decide +kernel
theorem dX5_gain_84 : decode cX5_gain 84 = .ok (.aload 4, 2) := by decide +kernel
theorem dX5_gain_86 : decode cX5_gain 86 = .ok (.iload_n 3, 1) := by decide +kernel
theorem dX5_gain_87 : decode cX5_gain 87 = .ok (.i2l, 1) := by decide +kernel
theorem dX5_gain_88 : decode cX5_gain 88 = .ok (.putfield 144, 3) := by decide +kernel
theorem dX5_gain_91 : decode cX5_gain 91 = .ok (.goto 10, 3) := by decide +kernel
theorem dX5_gain_94 : decode cX5_gain 94 = .ok (.aload 4, 2) := by decide +kernel
theorem dX5_gain_96 : decode cX5_gain 96 = .ok (.iload_n 3, 1) := by decide +kernel
theorem dX5_gain_97 : decode cX5_gain 97 = .ok (.i2l, 1) := by decide +kernel
theorem dX5_gain_98 : decode cX5_gain 98 = .ok (.putfield 147, 3) := by decide +kernel
theorem dX5_gain_101 : decode cX5_gain 101 = .ok (.lload 5, 2) := by decide +kernel
theorem dX5_gain_103 : decode cX5_gain 103 = .ok (.l2i, 1) := by decide +kernel
theorem dX5_gain_104 : decode cX5_gain 104 = .ok (.ireturn, 1) := by decide +kernel
theorem dX5_lose_0 : decode cX5_lose 0 = .ok (.aload_n 0, 1) := by decide +kernel
theorem dX5_lose_1 : decode cX5_lose 1 = .ok (.getfield 57, 3) := by decide +kernel
theorem dX5_lose_4 : decode cX5_lose 4 = .ok (.ifCond .eq 7, 3) := by decide +kernel
theorem dX5_lose_7 : decode cX5_lose 7 = .ok (.iconst 1, 1) := by decide +kernel
theorem dX5_lose_8 : decode cX5_lose 8 = .ok (.goto 4, 3) := by decide +kernel
theorem dX5_lose_11 : decode cX5_lose 11 = .ok (.iconst 0, 1) := by decide +kernel
theorem dX5_lose_12 : decode cX5_lose 12 = .ok (.istore_n 2, 1) := by decide +kernel
theorem dX5_lose_13 : decode cX5_lose 13 = .ok (.aload_n 0, 1) := by decide +kernel
theorem dX5_lose_14 : decode cX5_lose 14 = .ok (.iload_n 1, 1) := by decide +kernel
theorem dX5_lose_15 : decode cX5_lose 15 = .ok (.putfield 57, 3) := by decide +kernel
theorem dX5_lose_18 : decode cX5_lose 18 = .ok (.iload_n 2, 1) := by decide +kernel
theorem dX5_lose_19 : decode cX5_lose 19 = .ok (.ireturn, 1) := by decide +kernel
set_option maxRecDepth 20000 in
theorem ggX5_order_X5_within : GoodIn wsX5_order wsX5_within := goodIn_r _ [7] (by decide +kernel) (by decide +kernel)
set_option maxRecDepth 20000 in
theorem gX5_order_X5_within : GoodIn wsX5_order (va_wsS RX5 140 yX5_within wsX5_within) := goodIn_app (goodIn_of _ (by decide +kernel)) ggX5_order_X5_within
set_option maxRecDepth 20000 in
theorem ggX5_order_X5_mayOrder : GoodIn wsX5_order wsX5_mayOrder := goodIn_r _ [11, 3, 12, 13, 14, 6, 15, 16, 17, 18, 19, 20, 21, 22, 23, 24, 25, 26, 50, 51, 52, 53, 54, 55, 56, 57, 58, 59, 60, 61, 62, 63, 64, 65, 66, 67, 68, 69] (by decide +kernel) (by decide +kernel)
set_option maxRecDepth 20000 in
theorem gX5_order_X5_mayOrder : GoodIn wsX5_order (wsV RX5 150 RX5 yX5_mayOrder wsX5_mayOrder) := goodIn_app (goodIn_of _ (by decide +kernel)) ggX5_order_X5_mayOrder
set_option maxRecDepth 20000 in
theorem ggX5_order_X5_changeTo : GoodIn wsX5_order wsX5_changeTo := goodIn_r _ [30, 3, 31, 32, 33, 34, 35, 36, 37, 38, 39, 40, 41, 42, 43, 44, 20, 45, 46, 47, 48, 49, 50, 51, 52, 53, 54, 55, 56, 57, 58, 59, 60, 61, 62, 63, 64, 65, 70, 71, 72] (by decide +kernel) (by decide +kernel)
set_option maxRecDepth 20000 in
theorem gX5_order_X5_changeTo : GoodIn wsX5_order (wsV RX5 154 RX5 yX5_changeTo wsX5_changeTo) := goodIn_app (goodIn_of _ (by decide +kernel)) ggX5_order_X5_changeTo
theorem dX5_order_0 : decode cX5_order 0 = .ok (.iload_n 1, 1) := by decide +kernel
theorem dX5_order_1 : decode cX5_order 1 = .ok (.iconst 0, 1) := by decide +kernel
theorem dX5_order_2 : decode cX5_order 2 = .ok (.iconst 3, 1) := by decide +kernel
theorem dX5_order_3 : decode cX5_order 3 = .ok (.invokestatic 140, 3) := by decide +kernel
theorem dX5_order_6 : decode cX5_order 6 = .ok (.ifCond .ne 6, 3) := by decide +kernel
theorem dX5_order_9 : decode cX5_order 9 = .ok (.ldc 96, 2) := by decide +kernel
theorem dX5_order_11 : decode cX5_order 11 = .ok (.ireturn, 1) := by decide +kernel
theorem dX5_order_12 : decode cX5_order 12 = .ok (.aload_n 0, 1) := by decide +kernel
theorem dX5_order_13 : decode cX5_order 13 = .ok (.iload_n 1, 1) := by decide +kernel
theorem dX5_order_14 : decode cX5_order 14 = .ok (.invokevirtual 150, 3) := by decide +kernel
theorem dX5_order_17 : decode cX5_order 17 = .ok (.ifCond .ne 6, 3) := by decide +kernel
theorem dX5_order_20 : decode cX5_order 20 = .ok (.ldc 153, 2) := by decide +kernel
theorem dX5_order_22 : decode cX5_order 22 = .ok (.ireturn, 1) := by decide +kernel
theorem dX5_order_23 : decode cX5_order 23 = .ok (.aload_n 0, 1) := by decide +kernel
theorem dX5_order_24 : decode cX5_order 24 = .ok (.getfield 50, 3) := by decide +kernel
theorem dX5_order_27 : decode cX5_order 27 = .ok (.istore_n 2, 1) := by decide +kernel
theorem dX5_order_28 : decode cX5_order 28 = .ok (.aload_n 0, 1) := by decide +kernel
theorem dX5_order_29 : decode cX5_order 29 = .ok (.iload_n 1, 1) := by decide +kernel
theorem dX5_order_30 : decode cX5_order 30 = .ok (.ifCond .ne 7, 3) := by decide +kernel
theorem dX5_order_33 : decode cX5_order 33 = .ok (.iconst 1, 1) := by decide +kernel
theorem dX5_order_34 : decode cX5_order 34 = .ok (.goto 13, 3) := by decide +kernel
theorem dX5_order_37 : decode cX5_order 37 = .ok (.iload_n 1, 1) := by decide +kernel
theorem dX5_order_38 : decode cX5_order 38 = .ok (.iconst 1, 1) := by decide +kernel
theorem dX5_order_39 : decode cX5_order 39 = .ok (.if_icmp .ne 7, 3) := by decide +kernel
theorem dX5_order_42 : decode cX5_order 42 = .ok (.iconst 3, 1) := by decide +kernel
theorem dX5_order_43 : decode cX5_order 43 = .ok (.goto 4, 3) := by decide +kernel
theorem dX5_order_46 : decode cX5_order 46 = .ok (.iconst 0, 1) := by decide +kernel
theorem dX5_order_47 : decode cX5_order 47 = .ok (.iconst 0, 1) := by decide +kernel
theorem dX5_order_48 : decode cX5_order 48 = .ok (.invokevirtual 154, 3) := by decide +kernel
theorem dX5_order_51 : decode cX5_order 51 = .ok (.iload_n 2, 1) := by decide +kernel
theorem dX5_order_52 : decode cX5_order 52 = .ok (.ireturn, 1) := by decide +kernel
set_option maxRecDepth 20000 in
theorem ggX5_beat_X5_within : GoodIn wsX5_beat wsX5_within := goodIn_r _ [6] (by decide +kernel) (by decide +kernel)
set_option maxRecDepth 20000 in
theorem gX5_beat_X5_within : GoodIn wsX5_beat (va_wsS RX5 140 yX5_within wsX5_within) := goodIn_app (goodIn_of _ (by decide +kernel)) ggX5_beat_X5_within
set_option maxRecDepth 20000 in
theorem ggX5_beat_X5_passBeat : GoodIn wsX5_beat wsX5_passBeat := goodIn_r _ [10, 11, 12, 13, 14, 15, 16, 17, 18, 19, 20, 21, 5, 22, 2, 23, 24, 25, 26, 27, 28, 29, 30, 31, 32, 33, 34, 35, 36, 37, 38, 39, 40, 41, 42, 43, 44, 45, 46, 47, 48, 49, 50, 51, 52, 53, 54, 55, 56, 57, 58, 59, 60, 61, 62, 63, 64, 65, 66, 67, 68, 69, 70, 71, 72, 73, 74, 75, 76, 77, 78, 79, 80, 81, 82, 83, 84, 85, 86, 87, 88, 89, 90, 91, 92, 93, 94, 95, 96, 97, 98, 99, 100, 101, 102, 103, 104, 105, 106, 107, 108, 109, 110, 111, 112, 113, 114, 115, 116, 117, 118, 119, 120, 121, 122, 123, 124, 125, 126, 127, 128, 129, 130, 131, 132, 133, 134, 135, 136, 137, 138, 139, 140, 141, 142, 143, 144, 145, 146, 147, 148, 149, 150, 151, 152, 153, 154, 155, 156, 157, 158, 159, 160, 161, 162, 163, 164, 165, 166, 167, 168, 169, 170, 171, 172, 173, 174, 175, 176, 177, 178, 179, 180, 181, 182, 183, 184, 185, 186, 187, 188, 189, 190, 191, 192, 193, 194, 195, 196, 197, 198, 199, 200, 201] (by decide +kernel) (by decide +kernel)
set_option maxRecDepth 20000 in
theorem gX5_beat_X5_passBeat : GoodIn wsX5_beat (wsV RX5 158 RX5 yX5_passBeat wsX5_passBeat) := goodIn_app (goodIn_of _ (by decide +kernel)) ggX5_beat_X5_passBeat
theorem dX5_beat_0 : decode cX5_beat 0 = .ok (.iload_n 1, 1) := by decide +kernel
theorem dX5_beat_1 : decode cX5_beat 1 = .ok (.iconst 0, 1) := by decide +kernel
theorem dX5_beat_2 : decode cX5_beat 2 = .ok (.sipush 400, 3) := by decide +kernel
theorem dX5_beat_5 : decode cX5_beat 5 = .ok (.invokestatic 140, 3) := by decide +kernel
theorem dX5_beat_8 : decode cX5_beat 8 = .ok (.ifCond .ne 6, 3) := by decide +kernel
theorem dX5_beat_11 : decode cX5_beat 11 = .ok (.ldc 96, 2) := by decide +kernel
theorem dX5_beat_13 : decode cX5_beat 13 = .ok (.ireturn, 1) := by decide +kernel
theorem dX5_beat_14 : decode cX5_beat 14 = .ok (.iconst 0, 1) := by decide +kernel
theorem dX5_beat_15 : decode cX5_beat 15 = .ok (.istore_n 2, 1) := by decide +kernel
theorem dX5_beat_16 : decode cX5_beat 16 = .ok (.iload_n 2, 1) := by decide +kernel
theorem dX5_beat_17 : decode cX5_beat 17 = .ok (.iload_n 1, 1) := by decide +kernel
theorem dX5_beat_18 : decode cX5_beat 18 = .ok (.if_icmp .ge 13, 3) := by decide +kernel
theorem dX5_beat_21 : decode cX5_beat 21 = .ok (.aload_n 0, 1) := by decide +kernel
theorem dX5_beat_22 : decode cX5_beat 22 = .ok (.invokevirtual 158, 3) := by decide +kernel
theorem dX5_beat_25 : decode cX5_beat 25 = .ok (.iinc 2 1, 3) := by decide +kernel
theorem dX5_beat_28 : decode cX5_beat 28 = .ok (.goto (-12), 3) := by decide +kernel
theorem dX5_beat_31 : decode cX5_beat 31 = .ok (.aload_n 0, 1) := by decide +kernel
theorem dX5_beat_32 : decode cX5_beat 32 = .ok (.getfield 50, 3) := by decide +kernel
theorem dX5_beat_35 : decode cX5_beat 35 = .ok (.ireturn, 1) := by decide +kernel
theorem dX5_told_0 : decode cX5_told 0 = .ok (.iload_n 1, 1) := by decide +kernel
theorem dX5_told_1 : decode cX5_told 1 = .ok (.tableswitch 231 0 17 #[87, 92, 97, 106, 115, 124, 133, 142, 151, 160, 166, 172, 178, 183, 199, 208, 217, 226], 87) := by decide +kernel
theorem dX5_told_88 : decode cX5_told 88 = .ok (.aload_n 0, 1) := by decide +kernel
theorem dX5_told_89 : decode cX5_told 89 = .ok (.getfield 50, 3) := by decide +kernel
theorem dX5_told_92 : decode cX5_told 92 = .ok (.ireturn, 1) := by decide +kernel
theorem dX5_told_93 : decode cX5_told 93 = .ok (.aload_n 0, 1) := by decide +kernel
theorem dX5_told_94 : decode cX5_told 94 = .ok (.getfield 54, 3) := by decide +kernel
theorem dX5_told_97 : decode cX5_told 97 = .ok (.ireturn, 1) := by decide +kernel
theorem dX5_told_98 : decode cX5_told 98 = .ok (.aload_n 0, 1) := by decide +kernel
theorem dX5_told_99 : decode cX5_told 99 = .ok (.getfield 29, 3) := by decide +kernel
theorem dX5_told_102 : decode cX5_told 102 = .ok (.getfield 161, 3) := by decide +kernel
theorem dX5_told_105 : decode cX5_told 105 = .ok (.l2i, 1) := by decide +kernel
theorem dX5_told_106 : decode cX5_told 106 = .ok (.ireturn, 1) := by decide +kernel
theorem dX5_told_107 : decode cX5_told 107 = .ok (.aload_n 0, 1) := by decide +kernel
theorem dX5_told_108 : decode cX5_told 108 = .ok (.getfield 29, 3) := by decide +kernel
theorem dX5_told_111 : decode cX5_told 111 = .ok (.getfield 164, 3) := by decide +kernel
theorem dX5_told_114 : decode cX5_told 114 = .ok (.l2i, 1) := by decide +kernel
theorem dX5_told_115 : decode cX5_told 115 = .ok (.ireturn, 1) := by decide +kernel
theorem dX5_told_116 : decode cX5_told 116 = .ok (.aload_n 0, 1) := by decide +kernel
theorem dX5_told_117 : decode cX5_told 117 = .ok (.getfield 29, 3) := by decide +kernel
theorem dX5_told_120 : decode cX5_told 120 = .ok (.getfield 167, 3) := by decide +kernel
theorem dX5_told_123 : decode cX5_told 123 = .ok (.l2i, 1) := by decide +kernel
theorem dX5_told_124 : decode cX5_told 124 = .ok (.ireturn, 1) := by decide +kernel
theorem dX5_told_125 : decode cX5_told 125 = .ok (.aload_n 0, 1) := by decide +kernel
theorem dX5_told_126 : decode cX5_told 126 = .ok (.getfield 29, 3) := by decide +kernel
theorem dX5_told_129 : decode cX5_told 129 = .ok (.getfield 170, 3) := by decide +kernel
theorem dX5_told_132 : decode cX5_told 132 = .ok (.l2i, 1) := by decide +kernel
theorem dX5_told_133 : decode cX5_told 133 = .ok (.ireturn, 1) := by decide +kernel
theorem dX5_told_134 : decode cX5_told 134 = .ok (.aload_n 0, 1) := by decide +kernel
theorem dX5_told_135 : decode cX5_told 135 = .ok (.getfield 36, 3) := by decide +kernel
theorem dX5_told_138 : decode cX5_told 138 = .ok (.getfield 122, 3) := by decide +kernel
theorem dX5_told_141 : decode cX5_told 141 = .ok (.l2i, 1) := by decide +kernel
theorem dX5_told_142 : decode cX5_told 142 = .ok (.ireturn, 1) := by decide +kernel
theorem dX5_told_143 : decode cX5_told 143 = .ok (.aload_n 0, 1) := by decide +kernel
theorem dX5_told_144 : decode cX5_told 144 = .ok (.getfield 36, 3) := by decide +kernel
theorem dX5_told_147 : decode cX5_told 147 = .ok (.getfield 125, 3) := by decide +kernel
theorem dX5_told_150 : decode cX5_told 150 = .ok (.l2i, 1) := by decide +kernel
theorem dX5_told_151 : decode cX5_told 151 = .ok (.ireturn, 1) := by decide +kernel
theorem dX5_told_152 : decode cX5_told 152 = .ok (.aload_n 0, 1) := by decide +kernel
theorem dX5_told_153 : decode cX5_told 153 = .ok (.getfield 36, 3) := by decide +kernel
theorem dX5_told_156 : decode cX5_told 156 = .ok (.getfield 128, 3) := by decide +kernel
theorem dX5_told_159 : decode cX5_told 159 = .ok (.l2i, 1) := by decide +kernel
theorem dX5_told_160 : decode cX5_told 160 = .ok (.ireturn, 1) := by decide +kernel
theorem dX5_told_161 : decode cX5_told 161 = .ok (.aload_n 0, 1) := by decide +kernel
theorem dX5_told_162 : decode cX5_told 162 = .ok (.getfield 61, 3) := by decide +kernel
theorem dX5_told_165 : decode cX5_told 165 = .ok (.l2i, 1) := by decide +kernel
theorem dX5_told_166 : decode cX5_told 166 = .ok (.ireturn, 1) := by decide +kernel
theorem dX5_told_167 : decode cX5_told 167 = .ok (.aload_n 0, 1) := by decide +kernel
theorem dX5_told_168 : decode cX5_told 168 = .ok (.getfield 65, 3) := by decide +kernel
theorem dX5_told_171 : decode cX5_told 171 = .ok (.l2i, 1) := by decide +kernel
theorem dX5_told_172 : decode cX5_told 172 = .ok (.ireturn, 1) := by decide +kernel
theorem dX5_told_173 : decode cX5_told 173 = .ok (.aload_n 0, 1) := by decide +kernel
theorem dX5_told_174 : decode cX5_told 174 = .ok (.getfield 68, 3) := by decide +kernel
theorem dX5_told_177 : decode cX5_told 177 = .ok (.l2i, 1) := by decide +kernel
theorem dX5_told_178 : decode cX5_told 178 = .ok (.ireturn, 1) := by decide +kernel
theorem dX5_told_179 : decode cX5_told 179 = .ok (.aload_n 0, 1) := by decide +kernel
theorem dX5_told_180 : decode cX5_told 180 = .ok (.getfield 71, 3) := by decide +kernel
theorem dX5_told_183 : decode cX5_told 183 = .ok (.ireturn, 1) := by decide +kernel
theorem dX5_told_184 : decode cX5_told 184 = .ok (.aload_n 0, 1) := by decide +kernel
theorem dX5_told_185 : decode cX5_told 185 = .ok (.getfield 36, 3) := by decide +kernel
theorem dX5_told_188 : decode cX5_told 188 = .ok (.getfield 131, 3) := by decide +kernel
theorem dX5_told_191 : decode cX5_told 191 = .ok (.ifCond .eq 7, 3) := by decide +kernel
theorem dX5_told_194 : decode cX5_told 194 = .ok (.iconst 1, 1) := by decide +kernel
theorem dX5_told_195 : decode cX5_told 195 = .ok (.goto 4, 3) := by decide +kernel
theorem dX5_told_198 : decode cX5_told 198 = .ok (.iconst 0, 1) := by decide +kernel
theorem dX5_told_199 : decode cX5_told 199 = .ok (.ireturn, 1) := by decide +kernel
theorem dX5_told_200 : decode cX5_told 200 = .ok (.aload_n 0, 1) := by decide +kernel
theorem dX5_told_201 : decode cX5_told 201 = .ok (.getfield 16, 3) := by decide +kernel
theorem dX5_told_204 : decode cX5_told 204 = .ok (.getfield 173, 3) := by decide +kernel
theorem dX5_told_207 : decode cX5_told 207 = .ok (.l2i, 1) := by decide +kernel
theorem dX5_told_208 : decode cX5_told 208 = .ok (.ireturn, 1) := by decide +kernel
theorem dX5_told_209 : decode cX5_told 209 = .ok (.aload_n 0, 1) := by decide +kernel
theorem dX5_told_210 : decode cX5_told 210 = .ok (.getfield 20, 3) := by decide +kernel
theorem dX5_told_213 : decode cX5_told 213 = .ok (.getfield 173, 3) := by decide +kernel
theorem dX5_told_216 : decode cX5_told 216 = .ok (.l2i, 1) := by decide +kernel
theorem dX5_told_217 : decode cX5_told 217 = .ok (.ireturn, 1) := by decide +kernel
theorem dX5_told_218 : decode cX5_told 218 = .ok (.aload_n 0, 1) := by decide +kernel
theorem dX5_told_219 : decode cX5_told 219 = .ok (.getfield 23, 3) := by decide +kernel
theorem dX5_told_222 : decode cX5_told 222 = .ok (.getfield 173, 3) := by decide +kernel
theorem dX5_told_225 : decode cX5_told 225 = .ok (.l2i, 1) := by decide +kernel
theorem dX5_told_226 : decode cX5_told 226 = .ok (.ireturn, 1) := by decide +kernel
theorem dX5_told_227 : decode cX5_told 227 = .ok (.aload_n 0, 1) := by decide +kernel
theorem dX5_told_228 : decode cX5_told 228 = .ok (.getfield 74, 3) := by decide +kernel
theorem dX5_told_231 : decode cX5_told 231 = .ok (.ireturn, 1) := by decide +kernel
theorem dX5_told_232 : decode cX5_told 232 = .ok (.ldc 96, 2) := by decide +kernel
theorem dX5_told_234 : decode cX5_told 234 = .ok (.ireturn, 1) := by decide +kernel
set_option maxRecDepth 20000 in
theorem ggX5_ring_X0_latest : GoodIn wsX5_ring wsX0_latest := goodIn_r _ [6, 7, 8, 9, 10, 11, 12, 13, 14, 15, 16, 17, 34, 35, 36] (by decide +kernel) (by decide +kernel)
set_option maxRecDepth 20000 in
theorem gX5_ring_X0_latest : GoodIn wsX5_ring (wsV RX5 176 RX0 yX0_latest wsX0_latest) := goodIn_app (goodIn_of _ (by decide +kernel)) ggX5_ring_X0_latest
theorem dX5_ring_0 : decode cX5_ring 0 = .ok (.aload_n 0, 1) := by decide +kernel
theorem dX5_ring_1 : decode cX5_ring 1 = .ok (.getfield 46, 3) := by decide +kernel
theorem dX5_ring_4 : decode cX5_ring 4 = .ok (.iload_n 1, 1) := by decide +kernel
theorem dX5_ring_5 : decode cX5_ring 5 = .ok (.iload_n 2, 1) := by decide +kernel
theorem dX5_ring_6 : decode cX5_ring 6 = .ok (.invokevirtual 176, 3) := by decide +kernel
theorem dX5_ring_9 : decode cX5_ring 9 = .ok (.ireturn, 1) := by decide +kernel
set_option maxRecDepth 20000 in
theorem ggX5_loop_X5_within : GoodIn wsX5_loop wsX5_within := goodIn_r _ [9] (by decide +kernel) (by decide +kernel)
set_option maxRecDepth 20000 in
theorem gX5_loop_X5_within : GoodIn wsX5_loop (va_wsS RX5 140 yX5_within wsX5_within) := goodIn_app (goodIn_of _ (by decide +kernel)) ggX5_loop_X5_within
set_option maxRecDepth 20000 in
theorem ggX5_loop_X2_freeOut : GoodIn wsX5_loop wsX2_freeOut := goodIn_r _ [13] (by decide +kernel) (by decide +kernel)
set_option maxRecDepth 20000 in
theorem gX5_loop_X2_freeOut : GoodIn wsX5_loop (va_wsS RX5 184 yX2_freeOut wsX2_freeOut) := goodIn_app (goodIn_of _ (by decide +kernel)) ggX5_loop_X2_freeOut
set_option maxRecDepth 20000 in
theorem ggX5_loop_X5_clamp : GoodIn wsX5_loop wsX5_clamp := goodIn_r _ [16, 17, 18, 19, 20, 21, 22, 23] (by decide +kernel) (by decide +kernel)
set_option maxRecDepth 20000 in
theorem gX5_loop_X5_clamp : GoodIn wsX5_loop (va_wsS RX5 188 yX5_clamp wsX5_clamp) := goodIn_app (goodIn_of _ (by decide +kernel)) ggX5_loop_X5_clamp
set_option maxRecDepth 20000 in
theorem ggX5_loop_X2_sumBehind : GoodIn wsX5_loop wsX2_sumBehind := goodIn_r _ [26] (by decide +kernel) (by decide +kernel)
set_option maxRecDepth 20000 in
theorem gX5_loop_X2_sumBehind : GoodIn wsX5_loop (va_wsS RX5 191 yX2_sumBehind wsX2_sumBehind) := goodIn_app (goodIn_of _ (by decide +kernel)) ggX5_loop_X2_sumBehind
theorem dX5_loop_0 : decode cX5_loop 0 = .ok (.iload_n 1, 1) := by decide +kernel
theorem dX5_loop_1 : decode cX5_loop 1 = .ok (.iconst 0, 1) := by decide +kernel
theorem dX5_loop_2 : decode cX5_loop 2 = .ok (.sipush 4000, 3) := by decide +kernel
theorem dX5_loop_5 : decode cX5_loop 5 = .ok (.invokestatic 140, 3) := by decide +kernel
theorem dX5_loop_8 : decode cX5_loop 8 = .ok (.ifCond .eq 14, 3) := by decide +kernel
theorem dX5_loop_11 : decode cX5_loop 11 = .ok (.iload_n 2, 1) := by decide +kernel
theorem dX5_loop_12 : decode cX5_loop 12 = .ok (.iconst 0, 1) := by decide +kernel
theorem dX5_loop_13 : decode cX5_loop 13 = .ok (.sipush 4000, 3) := by decide +kernel
theorem dX5_loop_16 : decode cX5_loop 16 = .ok (.invokestatic 140, 3) := by decide +kernel
theorem dX5_loop_19 : decode cX5_loop 19 = .ok (.ifCond .ne 6, 3) := by decide +kernel
theorem dX5_loop_22 : decode cX5_loop 22 = .ok (.ldc 96, 2) := by decide +kernel
theorem dX5_loop_24 : decode cX5_loop 24 = .ok (.ireturn, 1) := by decide +kernel
theorem dX5_loop_25 : decode cX5_loop 25 = .ok (.iload_n 3, 1) := by decide +kernel
theorem dX5_loop_26 : decode cX5_loop 26 = .ok (.iconst 0, 1) := by decide +kernel
theorem dX5_loop_27 : decode cX5_loop 27 = .ok (.sipush 32000, 3) := by decide +kernel
theorem dX5_loop_30 : decode cX5_loop 30 = .ok (.invokestatic 140, 3) := by decide +kernel
theorem dX5_loop_33 : decode cX5_loop 33 = .ok (.ifCond .eq 15, 3) := by decide +kernel
theorem dX5_loop_36 : decode cX5_loop 36 = .ok (.iload 4, 2) := by decide +kernel
theorem dX5_loop_38 : decode cX5_loop 38 = .ok (.ldc 180, 2) := by decide +kernel
theorem dX5_loop_40 : decode cX5_loop 40 = .ok (.ldc 181, 2) := by decide +kernel
theorem dX5_loop_42 : decode cX5_loop 42 = .ok (.invokestatic 140, 3) := by decide +kernel
theorem dX5_loop_45 : decode cX5_loop 45 = .ok (.ifCond .ne 6, 3) := by decide +kernel
theorem dX5_loop_48 : decode cX5_loop 48 = .ok (.ldc 96, 2) := by decide +kernel
theorem dX5_loop_50 : decode cX5_loop 50 = .ok (.ireturn, 1) := by decide +kernel
theorem dX5_loop_51 : decode cX5_loop 51 = .ok (.iload 5, 2) := by decide +kernel
theorem dX5_loop_53 : decode cX5_loop 53 = .ok (.ldc 182, 2) := by decide +kernel
theorem dX5_loop_55 : decode cX5_loop 55 = .ok (.ldc 183, 2) := by decide +kernel
theorem dX5_loop_57 : decode cX5_loop 57 = .ok (.invokestatic 140, 3) := by decide +kernel
theorem dX5_loop_60 : decode cX5_loop 60 = .ok (.ifCond .eq 13, 3) := by decide +kernel
theorem dX5_loop_63 : decode cX5_loop 63 = .ok (.iload 6, 2) := by decide +kernel
theorem dX5_loop_65 : decode cX5_loop 65 = .ok (.iconst 0, 1) := by decide +kernel
theorem dX5_loop_66 : decode cX5_loop 66 = .ok (.iconst 1, 1) := by decide +kernel
theorem dX5_loop_67 : decode cX5_loop 67 = .ok (.invokestatic 140, 3) := by decide +kernel
theorem dX5_loop_70 : decode cX5_loop 70 = .ok (.ifCond .ne 6, 3) := by decide +kernel
theorem dX5_loop_73 : decode cX5_loop 73 = .ok (.ldc 96, 2) := by decide +kernel
theorem dX5_loop_75 : decode cX5_loop 75 = .ok (.ireturn, 1) := by decide +kernel
theorem dX5_loop_76 : decode cX5_loop 76 = .ok (.iload_n 1, 1) := by decide +kernel
theorem dX5_loop_77 : decode cX5_loop 77 = .ok (.i2l, 1) := by decide +kernel
theorem dX5_loop_78 : decode cX5_loop 78 = .ok (.iload_n 2, 1) := by decide +kernel
theorem dX5_loop_79 : decode cX5_loop 79 = .ok (.i2l, 1) := by decide +kernel
theorem dX5_loop_80 : decode cX5_loop 80 = .ok (.iload 4, 2) := by decide +kernel
theorem dX5_loop_82 : decode cX5_loop 82 = .ok (.i2l, 1) := by decide +kernel
theorem dX5_loop_83 : decode cX5_loop 83 = .ok (.iload 5, 2) := by decide +kernel
theorem dX5_loop_85 : decode cX5_loop 85 = .ok (.i2l, 1) := by decide +kernel
theorem dX5_loop_86 : decode cX5_loop 86 = .ok (.invokestatic 184, 3) := by decide +kernel
theorem dX5_loop_89 : decode cX5_loop 89 = .ok (.lstore 7, 2) := by decide +kernel
theorem dX5_loop_91 : decode cX5_loop 91 = .ok (.iload 6, 2) := by decide +kernel
theorem dX5_loop_93 : decode cX5_loop 93 = .ok (.ifCond .ne 13, 3) := by decide +kernel
theorem dX5_loop_96 : decode cX5_loop 96 = .ok (.lload 7, 2) := by decide +kernel
theorem dX5_loop_98 : decode cX5_loop 98 = .ok (.iload_n 3, 1) := by decide +kernel
theorem dX5_loop_99 : decode cX5_loop 99 = .ok (.i2l, 1) := by decide +kernel
theorem dX5_loop_100 : decode cX5_loop 100 = .ok (.invokestatic 188, 3) := by decide +kernel
theorem dX5_loop_103 : decode cX5_loop 103 = .ok (.goto 18, 3) := by decide +kernel
theorem dX5_loop_106 : decode cX5_loop 106 = .ok (.iload_n 2, 1) := by decide +kernel
theorem dX5_loop_107 : decode cX5_loop 107 = .ok (.i2l, 1) := by decide +kernel
theorem dX5_loop_108 : decode cX5_loop 108 = .ok (.iload_n 3, 1) := by decide +kernel
theorem dX5_loop_109 : decode cX5_loop 109 = .ok (.i2l, 1) := by decide +kernel
theorem dX5_loop_110 : decode cX5_loop 110 = .ok (.iload 4, 2) := by decide +kernel
theorem dX5_loop_112 : decode cX5_loop 112 = .ok (.i2l, 1) := by decide +kernel
theorem dX5_loop_113 : decode cX5_loop 113 = .ok (.iload 5, 2) := by decide +kernel
theorem dX5_loop_115 : decode cX5_loop 115 = .ok (.i2l, 1) := by decide +kernel
theorem dX5_loop_116 : decode cX5_loop 116 = .ok (.lload 7, 2) := by decide +kernel
theorem dX5_loop_118 : decode cX5_loop 118 = .ok (.invokestatic 191, 3) := by decide +kernel
theorem dX5_loop_121 : decode cX5_loop 121 = .ok (.l2i, 1) := by decide +kernel
theorem dX5_loop_122 : decode cX5_loop 122 = .ok (.ireturn, 1) := by decide +kernel
set_option maxRecDepth 20000 in
theorem ggX5_digest_X5_told : GoodIn wsX5_digest wsX5_told := goodIn_r _ [5, 6, 7, 8, 9, 10, 11, 12, 13, 14, 15, 16, 17, 18, 19, 20, 21, 22, 23, 24, 25, 26, 27, 28, 29, 30, 31, 32, 33, 34, 35, 36, 37, 38, 39, 40, 41, 42, 43, 44, 45, 46, 47, 48, 49, 50, 51, 52, 53, 54] (by decide +kernel) (by decide +kernel)
set_option maxRecDepth 20000 in
theorem gX5_digest_X5_told : GoodIn wsX5_digest (wsV RX5 195 RX5 yX5_told wsX5_told) := goodIn_app (goodIn_of _ (by decide +kernel)) ggX5_digest_X5_told
theorem dX5_digest_0 : decode cX5_digest 0 = .ok (.bipush 7, 2) := by decide +kernel
theorem dX5_digest_2 : decode cX5_digest 2 = .ok (.istore_n 1, 1) := by decide +kernel
theorem dX5_digest_3 : decode cX5_digest 3 = .ok (.iconst 0, 1) := by decide +kernel
theorem dX5_digest_4 : decode cX5_digest 4 = .ok (.istore_n 2, 1) := by decide +kernel
theorem dX5_digest_5 : decode cX5_digest 5 = .ok (.iload_n 2, 1) := by decide +kernel
theorem dX5_digest_6 : decode cX5_digest 6 = .ok (.bipush 17, 2) := by decide +kernel
theorem dX5_digest_8 : decode cX5_digest 8 = .ok (.if_icmp .gt 20, 3) := by decide +kernel
theorem dX5_digest_11 : decode cX5_digest 11 = .ok (.bipush 31, 2) := by decide +kernel
theorem dX5_digest_13 : decode cX5_digest 13 = .ok (.iload_n 1, 1) := by decide +kernel
theorem dX5_digest_14 : decode cX5_digest 14 = .ok (.imul, 1) := by decide +kernel
theorem dX5_digest_15 : decode cX5_digest 15 = .ok (.aload_n 0, 1) := by decide +kernel
theorem dX5_digest_16 : decode cX5_digest 16 = .ok (.iload_n 2, 1) := by decide +kernel
theorem dX5_digest_17 : decode cX5_digest 17 = .ok (.invokevirtual 195, 3) := by decide +kernel
theorem dX5_digest_20 : decode cX5_digest 20 = .ok (.iadd, 1) := by decide +kernel
theorem dX5_digest_21 : decode cX5_digest 21 = .ok (.istore_n 1, 1) := by decide +kernel
theorem dX5_digest_22 : decode cX5_digest 22 = .ok (.iinc 2 1, 3) := by decide +kernel
theorem dX5_digest_25 : decode cX5_digest 25 = .ok (.goto (-20), 3) := by decide +kernel
theorem dX5_digest_28 : decode cX5_digest 28 = .ok (.iload_n 1, 1) := by decide +kernel
theorem dX5_digest_29 : decode cX5_digest 29 = .ok (.ireturn, 1) := by decide +kernel
set_option maxRecDepth 20000 in
theorem ggX5_passBeat_X5_stopAtFault : GoodIn wsX5_passBeat wsX5_stopAtFault := goodIn_r _ [13, 14, 15, 16, 17, 12, 18, 1, 6, 19, 20, 21, 22, 4, 7, 23, 5, 24, 25, 26, 27, 28, 29, 30, 31, 8, 32, 33, 34, 35, 36, 37, 38, 39, 40, 41, 42, 43, 44, 45, 46, 164, 165, 166, 167, 168, 169, 170, 171, 172, 173, 174, 175, 176, 177, 178, 179, 180, 181, 182, 183, 184, 185, 186] (by decide +kernel) (by decide +kernel)
set_option maxRecDepth 20000 in
theorem gX5_passBeat_X5_stopAtFault : GoodIn wsX5_passBeat (wsV RX5 199 RX5 yX5_stopAtFault wsX5_stopAtFault) := goodIn_app (goodIn_of _ (by decide +kernel)) ggX5_passBeat_X5_stopAtFault
set_option maxRecDepth 20000 in
theorem ggX5_passBeat_X5_chooseVolts : GoodIn wsX5_passBeat wsX5_chooseVolts := goodIn_r _ [50, 14, 30, 51, 2, 3, 4, 52, 53, 54, 12, 55, 56, 57, 1, 58, 59, 6, 60, 7, 61, 62, 63, 64, 65, 66, 67, 68, 69, 70, 71, 72, 73, 74, 75, 76, 77, 78, 21, 79, 80, 81, 82, 83, 84, 85, 86, 19, 20, 22, 87, 88, 89, 90, 91, 92, 164, 165, 166, 167, 168, 169, 170, 171, 172, 173, 174, 175, 176, 177, 178, 179, 180, 181, 182, 183, 187, 188, 189] (by decide +kernel) (by decide +kernel)
set_option maxRecDepth 20000 in
theorem gX5_passBeat_X5_chooseVolts : GoodIn wsX5_passBeat (wsV RX5 202 RX5 yX5_chooseVolts wsX5_chooseVolts) := goodIn_app (goodIn_of _ (by decide +kernel)) ggX5_passBeat_X5_chooseVolts
set_option maxRecDepth 20000 in
theorem ggX5_passBeat_X5_leadWires : GoodIn wsX5_passBeat wsX5_leadWires := goodIn_r _ [96, 14, 97, 1, 98, 2, 3, 4, 99, 100, 101, 102, 103, 104, 105, 106, 107, 108, 109, 110, 111, 112, 113, 114, 115, 116, 117, 118, 119, 120, 121, 122, 123, 124, 12, 125, 126, 127, 128, 129, 130, 131, 132, 133, 134, 135, 81, 21, 82, 136, 78, 79, 137, 138, 139, 140, 141, 142, 143, 164, 165, 166, 167, 168, 169, 170, 171, 172, 173, 174, 175, 176, 177, 178, 179, 180, 181, 182, 183, 190, 191, 192, 193] (by decide +kernel) (by decide +kernel)
set_option maxRecDepth 20000 in
theorem gX5_passBeat_X5_leadWires : GoodIn wsX5_passBeat (wsV RX5 205 RX5 yX5_leadWires wsX5_leadWires) := goodIn_app (goodIn_of _ (by decide +kernel)) ggX5_passBeat_X5_leadWires
set_option maxRecDepth 20000 in
theorem ggX5_passBeat_X3_step : GoodIn wsX5_passBeat wsX3_step := goodIn_r _ [148, 149, 150, 151, 152, 153, 154, 155, 156, 157, 158, 75, 12, 76, 77, 78, 21, 79, 80, 81, 82, 180, 181, 182, 183] (by decide +kernel) (by decide +kernel)
set_option maxRecDepth 20000 in
theorem gX5_passBeat_X3_step : GoodIn wsX5_passBeat (wsV RX5 208 RX3 yX3_step wsX3_step) := goodIn_app (goodIn_of _ (by decide +kernel)) ggX5_passBeat_X3_step
set_option maxRecDepth 20000 in
theorem ggX5_passBeat_X5_leaveState : GoodIn wsX5_passBeat wsX5_leaveState := goodIn_r _ [162, 14, 30, 1, 98, 58, 19, 20, 21, 22, 163, 25, 26, 27, 12, 28, 29, 31, 8, 32, 33, 34, 35, 36, 37, 38, 39, 40, 41, 42, 43, 44, 45, 46, 164, 165, 166, 167, 168, 169, 170, 171, 172, 173, 174, 175, 176, 177, 178, 179, 180, 181, 182, 183, 184, 185, 186] (by decide +kernel) (by decide +kernel)
set_option maxRecDepth 20000 in
theorem gX5_passBeat_X5_leaveState : GoodIn wsX5_passBeat (wsV RX5 211 RX5 yX5_leaveState wsX5_leaveState) := goodIn_app (goodIn_of _ (by decide +kernel)) ggX5_passBeat_X5_leaveState
theorem dX5_passBeat_0 : decode cX5_passBeat 0 = .ok (.aload_n 0, 1) := by decide +kernel
theorem dX5_passBeat_1 : decode cX5_passBeat 1 = .ok (.invokevirtual 199, 3) := by decide +kernel
theorem dX5_passBeat_4 : decode cX5_passBeat 4 = .ok (.aload_n 0, 1) := by decide +kernel
theorem dX5_passBeat_5 : decode cX5_passBeat 5 = .ok (.invokevirtual 202, 3) := by decide +kernel
theorem dX5_passBeat_8 : decode cX5_passBeat 8 = .ok (.aload_n 0, 1) := by decide +kernel
theorem dX5_passBeat_9 : decode cX5_passBeat 9 = .ok (.invokevirtual 205, 3) := by decide +kernel
theorem dX5_passBeat_12 : decode cX5_passBeat 12 = .ok (.aload_n 0, 1) := by decide +kernel
theorem dX5_passBeat_13 : decode cX5_passBeat 13 = .ok (.getfield 29, 3) := by decide +kernel
theorem dX5_passBeat_16 : decode cX5_passBeat 16 = .ok (.aload_n 0, 1) := by decide +kernel
theorem dX5_passBeat_17 : decode cX5_passBeat 17 = .ok (.getfield 61, 3) := by decide +kernel
theorem dX5_passBeat_20 : decode cX5_passBeat 20 = .ok (.aload_n 0, 1) := by decide +kernel
theorem dX5_passBeat_21 : decode cX5_passBeat 21 = .ok (.getfield 65, 3) := by decide +kernel
theorem dX5_passBeat_24 : decode cX5_passBeat 24 = .ok (.aload_n 0, 1) := by decide +kernel
theorem dX5_passBeat_25 : decode cX5_passBeat 25 = .ok (.getfield 9, 3) := by decide +kernel
theorem dX5_passBeat_28 : decode cX5_passBeat 28 = .ok (.iconst 2, 1) := by decide +kernel
theorem dX5_passBeat_29 : decode cX5_passBeat 29 = .ok (.iaload, 1) := by decide +kernel
theorem dX5_passBeat_30 : decode cX5_passBeat 30 = .ok (.i2l, 1) := by decide +kernel
theorem dX5_passBeat_31 : decode cX5_passBeat 31 = .ok (.invokevirtual 208, 3) := by decide +kernel
theorem dX5_passBeat_34 : decode cX5_passBeat 34 = .ok (.aload_n 0, 1) := by decide +kernel
theorem dX5_passBeat_35 : decode cX5_passBeat 35 = .ok (.aload_n 0, 1) := by decide +kernel
theorem dX5_passBeat_36 : decode cX5_passBeat 36 = .ok (.getfield 68, 3) := by decide +kernel
theorem dX5_passBeat_39 : decode cX5_passBeat 39 = .ok (.aload_n 0, 1) := by decide +kernel
theorem dX5_passBeat_40 : decode cX5_passBeat 40 = .ok (.getfield 29, 3) := by decide +kernel
theorem dX5_passBeat_43 : decode cX5_passBeat 43 = .ok (.getfield 161, 3) := by decide +kernel
theorem dX5_passBeat_46 : decode cX5_passBeat 46 = .ok (.aload_n 0, 1) := by decide +kernel
theorem dX5_passBeat_47 : decode cX5_passBeat 47 = .ok (.getfield 29, 3) := by decide +kernel
theorem dX5_passBeat_50 : decode cX5_passBeat 50 = .ok (.getfield 161, 3) := by decide +kernel
theorem dX5_passBeat_53 : decode cX5_passBeat 53 = .ok (.lmul, 1) := by decide +kernel
theorem dX5_passBeat_54 : decode cX5_passBeat 54 = .ok (.aload_n 0, 1) := by decide +kernel
theorem dX5_passBeat_55 : decode cX5_passBeat 55 = .ok (.getfield 29, 3) := by decide +kernel
theorem dX5_passBeat_58 : decode cX5_passBeat 58 = .ok (.getfield 164, 3) := by decide +kernel
theorem dX5_passBeat_61 : decode cX5_passBeat 61 = .ok (.aload_n 0, 1) := by decide +kernel
theorem dX5_passBeat_62 : decode cX5_passBeat 62 = .ok (.getfield 29, 3) := by decide +kernel
theorem dX5_passBeat_65 : decode cX5_passBeat 65 = .ok (.getfield 164, 3) := by decide +kernel
theorem dX5_passBeat_68 : decode cX5_passBeat 68 = .ok (.lmul, 1) := by decide +kernel
theorem dX5_passBeat_69 : decode cX5_passBeat 69 = .ok (.ladd, 1) := by decide +kernel
theorem dX5_passBeat_70 : decode cX5_passBeat 70 = .ok (.bipush 16, 2) := by decide +kernel
theorem dX5_passBeat_72 : decode cX5_passBeat 72 = .ok (.lshr, 1) := by decide +kernel
theorem dX5_passBeat_73 : decode cX5_passBeat 73 = .ok (.ladd, 1) := by decide +kernel
theorem dX5_passBeat_74 : decode cX5_passBeat 74 = .ok (.aload_n 0, 1) := by decide +kernel
theorem dX5_passBeat_75 : decode cX5_passBeat 75 = .ok (.getfield 68, 3) := by decide +kernel
theorem dX5_passBeat_78 : decode cX5_passBeat 78 = .ok (.bipush 8, 2) := by decide +kernel
theorem dX5_passBeat_80 : decode cX5_passBeat 80 = .ok (.lshr, 1) := by decide +kernel
theorem dX5_passBeat_81 : decode cX5_passBeat 81 = .ok (.lsub, 1) := by decide +kernel
theorem dX5_passBeat_82 : decode cX5_passBeat 82 = .ok (.putfield 68, 3) := by decide +kernel
theorem dX5_passBeat_85 : decode cX5_passBeat 85 = .ok (.aload_n 0, 1) := by decide +kernel
theorem dX5_passBeat_86 : decode cX5_passBeat 86 = .ok (.invokevirtual 211, 3) := by decide +kernel
theorem dX5_passBeat_89 : decode cX5_passBeat 89 = .ok (.aload_n 0, 1) := by decide +kernel
theorem dX5_passBeat_90 : decode cX5_passBeat 90 = .ok (.dup, 1) := by decide +kernel
theorem dX5_passBeat_91 : decode cX5_passBeat 91 = .ok (.getfield 71, 3) := by decide +kernel
theorem dX5_passBeat_94 : decode cX5_passBeat 94 = .ok (.iconst 1, 1) := by decide +kernel
theorem dX5_passBeat_95 : decode cX5_passBeat 95 = .ok (.iadd, 1) := by decide +kernel
theorem dX5_passBeat_96 : decode cX5_passBeat 96 = .ok (.putfield 71, 3) := by decide +kernel
theorem dX5_passBeat_99 : decode cX5_passBeat 99 = .ok (.return_, 1) := by decide +kernel
set_option maxRecDepth 20000 in
theorem ggX5_stopAtFault_X5_faultNow : GoodIn wsX5_stopAtFault wsX5_faultNow := goodIn_r _ [6, 7, 8, 9, 10, 11, 12, 13, 14, 15, 1, 16, 17, 41, 42, 43, 44, 45, 46, 47, 48, 49, 50, 51, 52, 53, 54, 55, 56, 57, 58, 59, 60] (by decide +kernel) (by decide +kernel)
set_option maxRecDepth 20000 in
theorem gX5_stopAtFault_X5_faultNow : GoodIn wsX5_stopAtFault (wsV RX5 214 RX5 yX5_faultNow wsX5_faultNow) := goodIn_app (goodIn_of _ (by decide +kernel)) ggX5_stopAtFault_X5_faultNow
set_option maxRecDepth 20000 in
theorem ggX5_stopAtFault_X5_changeTo : GoodIn wsX5_stopAtFault wsX5_changeTo := goodIn_r _ [21, 1, 22, 23, 24, 25, 26, 27, 28, 29, 30, 31, 32, 33, 34, 35, 11, 36, 37, 38, 39, 40, 41, 42, 43, 44, 45, 46, 47, 48, 49, 50, 51, 52, 53, 54, 55, 56, 61, 62, 63] (by decide +kernel) (by decide +kernel)
set_option maxRecDepth 20000 in
theorem gX5_stopAtFault_X5_changeTo : GoodIn wsX5_stopAtFault (wsV RX5 154 RX5 yX5_changeTo wsX5_changeTo) := goodIn_app (goodIn_of _ (by decide +kernel)) ggX5_stopAtFault_X5_changeTo
theorem dX5_stopAtFault_0 : decode cX5_stopAtFault 0 = .ok (.aload_n 0, 1) := by decide +kernel
theorem dX5_stopAtFault_1 : decode cX5_stopAtFault 1 = .ok (.invokevirtual 214, 3) := by decide +kernel
theorem dX5_stopAtFault_4 : decode cX5_stopAtFault 4 = .ok (.istore_n 1, 1) := by decide +kernel
theorem dX5_stopAtFault_5 : decode cX5_stopAtFault 5 = .ok (.iload_n 1, 1) := by decide +kernel
theorem dX5_stopAtFault_6 : decode cX5_stopAtFault 6 = .ok (.ifCond .eq 17, 3) := by decide +kernel
theorem dX5_stopAtFault_9 : decode cX5_stopAtFault 9 = .ok (.aload_n 0, 1) := by decide +kernel
theorem dX5_stopAtFault_10 : decode cX5_stopAtFault 10 = .ok (.getfield 50, 3) := by decide +kernel
theorem dX5_stopAtFault_13 : decode cX5_stopAtFault 13 = .ok (.iconst 4, 1) := by decide +kernel
theorem dX5_stopAtFault_14 : decode cX5_stopAtFault 14 = .ok (.if_icmp .eq 9, 3) := by decide +kernel
theorem dX5_stopAtFault_17 : decode cX5_stopAtFault 17 = .ok (.aload_n 0, 1) := by decide +kernel
theorem dX5_stopAtFault_18 : decode cX5_stopAtFault 18 = .ok (.iconst 4, 1) := by decide +kernel
theorem dX5_stopAtFault_19 : decode cX5_stopAtFault 19 = .ok (.iload_n 1, 1) := by decide +kernel
theorem dX5_stopAtFault_20 : decode cX5_stopAtFault 20 = .ok (.invokevirtual 154, 3) := by decide +kernel
theorem dX5_stopAtFault_23 : decode cX5_stopAtFault 23 = .ok (.return_, 1) := by decide +kernel
theorem dX5_faultNow_0 : decode cX5_faultNow 0 = .ok (.aload_n 0, 1) := by decide +kernel
theorem dX5_faultNow_1 : decode cX5_faultNow 1 = .ok (.getfield 29, 3) := by decide +kernel
theorem dX5_faultNow_4 : decode cX5_faultNow 4 = .ok (.getfield 161, 3) := by decide +kernel
theorem dX5_faultNow_7 : decode cX5_faultNow 7 = .ok (.invokestatic 218, 3) := by decide +kernel
theorem dX5_faultNow_10 : decode cX5_faultNow 10 = .ok (.aload_n 0, 1) := by decide +kernel
theorem dX5_faultNow_11 : decode cX5_faultNow 11 = .ok (.getfield 9, 3) := by decide +kernel
theorem dX5_faultNow_14 : decode cX5_faultNow 14 = .ok (.iconst 3, 1) := by decide +kernel
theorem dX5_faultNow_15 : decode cX5_faultNow 15 = .ok (.iaload, 1) := by decide +kernel
theorem dX5_faultNow_16 : decode cX5_faultNow 16 = .ok (.i2l, 1) := by decide +kernel
theorem dX5_faultNow_17 : decode cX5_faultNow 17 = .ok (.lcmp, 1) := by decide +kernel
theorem dX5_faultNow_18 : decode cX5_faultNow 18 = .ok (.ifCond .gt 24, 3) := by decide +kernel
theorem dX5_faultNow_21 : decode cX5_faultNow 21 = .ok (.aload_n 0, 1) := by decide +kernel
theorem dX5_faultNow_22 : decode cX5_faultNow 22 = .ok (.getfield 29, 3) := by decide +kernel
theorem dX5_faultNow_25 : decode cX5_faultNow 25 = .ok (.getfield 164, 3) := by decide +kernel
theorem dX5_faultNow_28 : decode cX5_faultNow 28 = .ok (.invokestatic 218, 3) := by decide +kernel
theorem dX5_faultNow_31 : decode cX5_faultNow 31 = .ok (.aload_n 0, 1) := by decide +kernel
theorem dX5_faultNow_32 : decode cX5_faultNow 32 = .ok (.getfield 9, 3) := by decide +kernel
theorem dX5_faultNow_35 : decode cX5_faultNow 35 = .ok (.iconst 3, 1) := by decide +kernel
theorem dX5_faultNow_36 : decode cX5_faultNow 36 = .ok (.iaload, 1) := by decide +kernel
theorem dX5_faultNow_37 : decode cX5_faultNow 37 = .ok (.i2l, 1) := by decide +kernel
theorem dX5_faultNow_38 : decode cX5_faultNow 38 = .ok (.lcmp, 1) := by decide +kernel
theorem dX5_faultNow_39 : decode cX5_faultNow 39 = .ok (.ifCond .le 5, 3) := by decide +kernel
theorem dX5_faultNow_42 : decode cX5_faultNow 42 = .ok (.iconst 1, 1) := by decide +kernel
theorem dX5_faultNow_43 : decode cX5_faultNow 43 = .ok (.ireturn, 1) := by decide +kernel
theorem dX5_faultNow_44 : decode cX5_faultNow 44 = .ok (.aload_n 0, 1) := by decide +kernel
theorem dX5_faultNow_45 : decode cX5_faultNow 45 = .ok (.getfield 9, 3) := by decide +kernel
theorem dX5_faultNow_48 : decode cX5_faultNow 48 = .ok (.iconst 0, 1) := by decide +kernel
theorem dX5_faultNow_49 : decode cX5_faultNow 49 = .ok (.iaload, 1) := by decide +kernel
theorem dX5_faultNow_50 : decode cX5_faultNow 50 = .ok (.sipush 25000, 3) := by decide +kernel
theorem dX5_faultNow_53 : decode cX5_faultNow 53 = .ok (.if_icmp .le 5, 3) := by decide +kernel
theorem dX5_faultNow_56 : decode cX5_faultNow 56 = .ok (.iconst 2, 1) := by decide +kernel
theorem dX5_faultNow_57 : decode cX5_faultNow 57 = .ok (.ireturn, 1) := by decide +kernel
theorem dX5_faultNow_58 : decode cX5_faultNow 58 = .ok (.aload_n 0, 1) := by decide +kernel
theorem dX5_faultNow_59 : decode cX5_faultNow 59 = .ok (.getfield 57, 3) := by decide +kernel
theorem dX5_faultNow_62 : decode cX5_faultNow 62 = .ok (.ifCond .eq 21, 3) := by decide +kernel
theorem dX5_faultNow_65 : decode cX5_faultNow 65 = .ok (.aload_n 0, 1) := by decide +kernel
theorem dX5_faultNow_66 : decode cX5_faultNow 66 = .ok (.getfield 50, 3) := by decide +kernel
theorem dX5_faultNow_69 : decode cX5_faultNow 69 = .ok (.iconst 2, 1) := by decide +kernel
theorem dX5_faultNow_70 : decode cX5_faultNow 70 = .ok (.if_icmp .eq 11, 3) := by decide +kernel
theorem dX5_faultNow_73 : decode cX5_faultNow 73 = .ok (.aload_n 0, 1) := by decide +kernel
theorem dX5_faultNow_74 : decode cX5_faultNow 74 = .ok (.getfield 50, 3) := by decide +kernel
theorem dX5_faultNow_77 : decode cX5_faultNow 77 = .ok (.iconst 3, 1) := by decide +kernel
theorem dX5_faultNow_78 : decode cX5_faultNow 78 = .ok (.if_icmp .ne 5, 3) := by decide +kernel
theorem dX5_faultNow_81 : decode cX5_faultNow 81 = .ok (.iconst 3, 1) := by decide +kernel
theorem dX5_faultNow_82 : decode cX5_faultNow 82 = .ok (.ireturn, 1) := by decide +kernel
theorem dX5_faultNow_83 : decode cX5_faultNow 83 = .ok (.aload_n 0, 1) := by decide +kernel
theorem dX5_faultNow_84 : decode cX5_faultNow 84 = .ok (.getfield 68, 3) := by decide +kernel
theorem dX5_faultNow_87 : decode cX5_faultNow 87 = .ok (.ldc2_w 223, 3) := by decide +kernel
theorem dX5_faultNow_90 : decode cX5_faultNow 90 = .ok (.lcmp, 1) := by decide +kernel
theorem dX5_faultNow_91 : decode cX5_faultNow 91 = .ok (.ifCond .le 5, 3) := by decide +kernel
theorem dX5_faultNow_94 : decode cX5_faultNow 94 = .ok (.iconst 4, 1) := by decide +kernel
theorem dX5_faultNow_95 : decode cX5_faultNow 95 = .ok (.ireturn, 1) := by decide +kernel
theorem dX5_faultNow_96 : decode cX5_faultNow 96 = .ok (.iconst 0, 1) := by decide +kernel
theorem dX5_faultNow_97 : decode cX5_faultNow 97 = .ok (.ireturn, 1) := by decide +kernel
set_option maxRecDepth 20000 in
theorem ggX5_chooseVolts_X5_followPace : GoodIn wsX5_chooseVolts wsX5_followPace := goodIn_r _ [11, 6, 12, 13, 14, 15, 16, 17, 4, 18, 19, 5, 20, 21, 22, 23, 24, 25, 26, 27, 28, 29, 30, 31, 32, 33, 34, 10, 35, 36, 37, 38, 39, 40, 41, 42, 43, 44, 45, 46, 47, 48, 49, 50, 56, 57, 58, 59, 60, 61, 62, 63, 64, 65, 66, 67, 68, 69, 70, 71, 72, 73, 74, 75, 76, 77, 78] (by decide +kernel) (by decide +kernel)
set_option maxRecDepth 20000 in
theorem gX5_chooseVolts_X5_followPace : GoodIn wsX5_chooseVolts (wsV RX5 227 RX5 yX5_followPace wsX5_followPace) := goodIn_app (goodIn_of _ (by decide +kernel)) ggX5_chooseVolts_X5_followPace
set_option maxRecDepth 20000 in
theorem ggX5_chooseVolts_X5_cutWires : GoodIn wsX5_chooseVolts wsX5_cutWires := goodIn_r _ [54, 4, 5, 16, 55, 18, 13, 56, 57, 58, 59, 60, 61, 62, 63, 64, 65, 66, 67, 68, 69, 70, 71, 76, 77, 78] (by decide +kernel) (by decide +kernel)
set_option maxRecDepth 20000 in
theorem gX5_chooseVolts_X5_cutWires : GoodIn wsX5_chooseVolts (wsV RX5 231 RX5 yX5_cutWires wsX5_cutWires) := goodIn_app (goodIn_of _ (by decide +kernel)) ggX5_chooseVolts_X5_cutWires
theorem dX5_chooseVolts_0 : decode cX5_chooseVolts 0 = .ok (.aload_n 0, 1) := by decide +kernel
theorem dX5_chooseVolts_1 : decode cX5_chooseVolts 1 = .ok (.getfield 50, 3) := by decide +kernel
theorem dX5_chooseVolts_4 : decode cX5_chooseVolts 4 = .ok (.tableswitch 75 1 3 #[28, 53, 67], 28) := by decide +kernel
theorem dX5_chooseVolts_32 : decode cX5_chooseVolts 32 = .ok (.aload_n 0, 1) := by decide +kernel
theorem dX5_chooseVolts_33 : decode cX5_chooseVolts 33 = .ok (.dup, 1) := by decide +kernel
theorem dX5_chooseVolts_34 : decode cX5_chooseVolts 34 = .ok (.getfield 74, 3) := by decide +kernel
theorem dX5_chooseVolts_37 : decode cX5_chooseVolts 37 = .ok (.iconst 1, 1) := by decide +kernel
theorem dX5_chooseVolts_38 : decode cX5_chooseVolts 38 = .ok (.iadd, 1) := by decide +kernel
theorem dX5_chooseVolts_39 : decode cX5_chooseVolts 39 = .ok (.putfield 74, 3) := by decide +kernel
theorem dX5_chooseVolts_42 : decode cX5_chooseVolts 42 = .ok (.aload_n 0, 1) := by decide +kernel
theorem dX5_chooseVolts_43 : decode cX5_chooseVolts 43 = .ok (.ldc2_w 225, 3) := by decide +kernel
theorem dX5_chooseVolts_46 : decode cX5_chooseVolts 46 = .ok (.putfield 61, 3) := by decide +kernel
theorem dX5_chooseVolts_49 : decode cX5_chooseVolts 49 = .ok (.aload_n 0, 1) := by decide +kernel
theorem dX5_chooseVolts_50 : decode cX5_chooseVolts 50 = .ok (.lconst 0, 1) := by decide +kernel
theorem dX5_chooseVolts_51 : decode cX5_chooseVolts 51 = .ok (.putfield 65, 3) := by decide +kernel
theorem dX5_chooseVolts_54 : decode cX5_chooseVolts 54 = .ok (.goto 29, 3) := by decide +kernel
theorem dX5_chooseVolts_57 : decode cX5_chooseVolts 57 = .ok (.aload_n 0, 1) := by decide +kernel
theorem dX5_chooseVolts_58 : decode cX5_chooseVolts 58 = .ok (.aload_n 0, 1) := by decide +kernel
theorem dX5_chooseVolts_59 : decode cX5_chooseVolts 59 = .ok (.getfield 9, 3) := by decide +kernel
theorem dX5_chooseVolts_62 : decode cX5_chooseVolts 62 = .ok (.iconst 5, 1) := by decide +kernel
theorem dX5_chooseVolts_63 : decode cX5_chooseVolts 63 = .ok (.iaload, 1) := by decide +kernel
theorem dX5_chooseVolts_64 : decode cX5_chooseVolts 64 = .ok (.i2l, 1) := by decide +kernel
theorem dX5_chooseVolts_65 : decode cX5_chooseVolts 65 = .ok (.invokevirtual 227, 3) := by decide +kernel
theorem dX5_chooseVolts_68 : decode cX5_chooseVolts 68 = .ok (.goto 15, 3) := by decide +kernel
theorem dX5_chooseVolts_71 : decode cX5_chooseVolts 71 = .ok (.aload_n 0, 1) := by decide +kernel
theorem dX5_chooseVolts_72 : decode cX5_chooseVolts 72 = .ok (.lconst 0, 1) := by decide +kernel
theorem dX5_chooseVolts_73 : decode cX5_chooseVolts 73 = .ok (.invokevirtual 227, 3) := by decide +kernel
theorem dX5_chooseVolts_76 : decode cX5_chooseVolts 76 = .ok (.goto 7, 3) := by decide +kernel
theorem dX5_chooseVolts_79 : decode cX5_chooseVolts 79 = .ok (.aload_n 0, 1) := by decide +kernel
theorem dX5_chooseVolts_80 : decode cX5_chooseVolts 80 = .ok (.invokevirtual 231, 3) := by decide +kernel
theorem dX5_chooseVolts_83 : decode cX5_chooseVolts 83 = .ok (.return_, 1) := by decide +kernel
theorem dX5_cutWires_0 : decode cX5_cutWires 0 = .ok (.aload_n 0, 1) := by decide +kernel
theorem dX5_cutWires_1 : decode cX5_cutWires 1 = .ok (.lconst 0, 1) := by decide +kernel
theorem dX5_cutWires_2 : decode cX5_cutWires 2 = .ok (.putfield 61, 3) := by decide +kernel
theorem dX5_cutWires_5 : decode cX5_cutWires 5 = .ok (.aload_n 0, 1) := by decide +kernel
theorem dX5_cutWires_6 : decode cX5_cutWires 6 = .ok (.lconst 0, 1) := by decide +kernel
theorem dX5_cutWires_7 : decode cX5_cutWires 7 = .ok (.putfield 65, 3) := by decide +kernel
theorem dX5_cutWires_10 : decode cX5_cutWires 10 = .ok (.aload_n 0, 1) := by decide +kernel
theorem dX5_cutWires_11 : decode cX5_cutWires 11 = .ok (.getfield 16, 3) := by decide +kernel
theorem dX5_cutWires_14 : decode cX5_cutWires 14 = .ok (.lconst 0, 1) := by decide +kernel
theorem dX5_cutWires_15 : decode cX5_cutWires 15 = .ok (.putfield 173, 3) := by decide +kernel
theorem dX5_cutWires_18 : decode cX5_cutWires 18 = .ok (.aload_n 0, 1) := by decide +kernel
theorem dX5_cutWires_19 : decode cX5_cutWires 19 = .ok (.getfield 20, 3) := by decide +kernel
theorem dX5_cutWires_22 : decode cX5_cutWires 22 = .ok (.lconst 0, 1) := by decide +kernel
theorem dX5_cutWires_23 : decode cX5_cutWires 23 = .ok (.putfield 173, 3) := by decide +kernel
theorem dX5_cutWires_26 : decode cX5_cutWires 26 = .ok (.aload_n 0, 1) := by decide +kernel
theorem dX5_cutWires_27 : decode cX5_cutWires 27 = .ok (.getfield 23, 3) := by decide +kernel
theorem dX5_cutWires_30 : decode cX5_cutWires 30 = .ok (.lconst 0, 1) := by decide +kernel
theorem dX5_cutWires_31 : decode cX5_cutWires 31 = .ok (.putfield 173, 3) := by decide +kernel
theorem dX5_cutWires_34 : decode cX5_cutWires 34 = .ok (.return_, 1) := by decide +kernel
set_option maxRecDepth 20000 in
theorem ggX5_followPace_X2_step : GoodIn wsX5_followPace wsX2_step := goodIn_r _ [16, 17, 18, 19, 20, 21, 15, 22, 23, 24, 25, 26, 27, 28, 29, 30, 31, 32, 33, 34, 35, 64, 65, 66] (by decide +kernel) (by decide +kernel)
set_option maxRecDepth 20000 in
theorem gX5_followPace_X2_step : GoodIn wsX5_followPace (wsV RX5 236 RX2 yX2_step wsX2_step) := goodIn_app (goodIn_of _ (by decide +kernel)) ggX5_followPace_X2_step
set_option maxRecDepth 20000 in
theorem ggX5_followPace_X5_wantedD : GoodIn wsX5_followPace wsX5_wantedD := goodIn_r _ [39, 1, 4, 5, 40, 41, 31, 42, 43, 33, 34, 35, 44, 45, 46, 47, 48, 49, 50, 51, 52, 53, 54, 55, 56, 57, 58, 59, 60, 61, 62, 63] (by decide +kernel) (by decide +kernel)
set_option maxRecDepth 20000 in
theorem gX5_followPace_X5_wantedD : GoodIn wsX5_followPace (wsV RX5 238 RX5 yX5_wantedD wsX5_wantedD) := goodIn_app (goodIn_of _ (by decide +kernel)) ggX5_followPace_X5_wantedD
theorem dX5_followPace_0 : decode cX5_followPace 0 = .ok (.aload_n 0, 1) := by decide +kernel
theorem dX5_followPace_1 : decode cX5_followPace 1 = .ok (.getfield 9, 3) := by decide +kernel
theorem dX5_followPace_4 : decode cX5_followPace 4 = .ok (.iconst 0, 1) := by decide +kernel
theorem dX5_followPace_5 : decode cX5_followPace 5 = .ok (.iaload, 1) := by decide +kernel
theorem dX5_followPace_6 : decode cX5_followPace 6 = .ok (.i2l, 1) := by decide +kernel
theorem dX5_followPace_7 : decode cX5_followPace 7 = .ok (.ldc2_w 234, 3) := by decide +kernel
theorem dX5_followPace_10 : decode cX5_followPace 10 = .ok (.lmul, 1) := by decide +kernel
theorem dX5_followPace_11 : decode cX5_followPace 11 = .ok (.bipush 14, 2) := by decide +kernel
theorem dX5_followPace_13 : decode cX5_followPace 13 = .ok (.lshr, 1) := by decide +kernel
theorem dX5_followPace_14 : decode cX5_followPace 14 = .ok (.lstore_n 3, 1) := by decide +kernel
theorem dX5_followPace_15 : decode cX5_followPace 15 = .ok (.aload_n 0, 1) := by decide +kernel
theorem dX5_followPace_16 : decode cX5_followPace 16 = .ok (.getfield 23, 3) := by decide +kernel
theorem dX5_followPace_19 : decode cX5_followPace 19 = .ok (.aload_n 0, 1) := by decide +kernel
theorem dX5_followPace_20 : decode cX5_followPace 20 = .ok (.getfield 9, 3) := by decide +kernel
theorem dX5_followPace_23 : decode cX5_followPace 23 = .ok (.iconst 1, 1) := by decide +kernel
theorem dX5_followPace_24 : decode cX5_followPace 24 = .ok (.iaload, 1) := by decide +kernel
theorem dX5_followPace_25 : decode cX5_followPace 25 = .ok (.i2l, 1) := by decide +kernel
theorem dX5_followPace_26 : decode cX5_followPace 26 = .ok (.lload_n 1, 1) := by decide +kernel
theorem dX5_followPace_27 : decode cX5_followPace 27 = .ok (.aload_n 0, 1) := by decide +kernel
theorem dX5_followPace_28 : decode cX5_followPace 28 = .ok (.getfield 29, 3) := by decide +kernel
theorem dX5_followPace_31 : decode cX5_followPace 31 = .ok (.getfield 167, 3) := by decide +kernel
theorem dX5_followPace_34 : decode cX5_followPace 34 = .ok (.lsub, 1) := by decide +kernel
theorem dX5_followPace_35 : decode cX5_followPace 35 = .ok (.invokevirtual 236, 3) := by decide +kernel
theorem dX5_followPace_38 : decode cX5_followPace 38 = .ok (.lstore 5, 2) := by decide +kernel
theorem dX5_followPace_40 : decode cX5_followPace 40 = .ok (.aload_n 0, 1) := by decide +kernel
theorem dX5_followPace_41 : decode cX5_followPace 41 = .ok (.aload_n 0, 1) := by decide +kernel
theorem dX5_followPace_42 : decode cX5_followPace 42 = .ok (.getfield 16, 3) := by decide +kernel
theorem dX5_followPace_45 : decode cX5_followPace 45 = .ok (.lload_n 3, 1) := by decide +kernel
theorem dX5_followPace_46 : decode cX5_followPace 46 = .ok (.aload_n 0, 1) := by decide +kernel
theorem dX5_followPace_47 : decode cX5_followPace 47 = .ok (.invokevirtual 238, 3) := by decide +kernel
theorem dX5_followPace_50 : decode cX5_followPace 50 = .ok (.aload_n 0, 1) := by decide +kernel
theorem dX5_followPace_51 : decode cX5_followPace 51 = .ok (.getfield 29, 3) := by decide +kernel
theorem dX5_followPace_54 : decode cX5_followPace 54 = .ok (.getfield 161, 3) := by decide +kernel
theorem dX5_followPace_57 : decode cX5_followPace 57 = .ok (.lsub, 1) := by decide +kernel
theorem dX5_followPace_58 : decode cX5_followPace 58 = .ok (.invokevirtual 236, 3) := by decide +kernel
theorem dX5_followPace_61 : decode cX5_followPace 61 = .ok (.putfield 61, 3) := by decide +kernel
theorem dX5_followPace_64 : decode cX5_followPace 64 = .ok (.aload_n 0, 1) := by decide +kernel
theorem dX5_followPace_65 : decode cX5_followPace 65 = .ok (.aload_n 0, 1) := by decide +kernel
theorem dX5_followPace_66 : decode cX5_followPace 66 = .ok (.getfield 20, 3) := by decide +kernel
theorem dX5_followPace_69 : decode cX5_followPace 69 = .ok (.lload_n 3, 1) := by decide +kernel
theorem dX5_followPace_70 : decode cX5_followPace 70 = .ok (.lload 5, 2) := by decide +kernel
theorem dX5_followPace_72 : decode cX5_followPace 72 = .ok (.aload_n 0, 1) := by decide +kernel
theorem dX5_followPace_73 : decode cX5_followPace 73 = .ok (.getfield 29, 3) := by decide +kernel
theorem dX5_followPace_76 : decode cX5_followPace 76 = .ok (.getfield 164, 3) := by decide +kernel
theorem dX5_followPace_79 : decode cX5_followPace 79 = .ok (.lsub, 1) := by decide +kernel
theorem dX5_followPace_80 : decode cX5_followPace 80 = .ok (.invokevirtual 236, 3) := by decide +kernel
theorem dX5_followPace_83 : decode cX5_followPace 83 = .ok (.putfield 65, 3) := by decide +kernel
theorem dX5_followPace_86 : decode cX5_followPace 86 = .ok (.return_, 1) := by decide +kernel
theorem dX5_wantedD_0 : decode cX5_wantedD 0 = .ok (.aload_n 0, 1) := by decide +kernel
theorem dX5_wantedD_1 : decode cX5_wantedD 1 = .ok (.getfield 9, 3) := by decide +kernel
theorem dX5_wantedD_4 : decode cX5_wantedD 4 = .ok (.iconst 4, 1) := by decide +kernel
theorem dX5_wantedD_5 : decode cX5_wantedD 5 = .ok (.iaload, 1) := by decide +kernel
theorem dX5_wantedD_6 : decode cX5_wantedD 6 = .ok (.i2l, 1) := by decide +kernel
theorem dX5_wantedD_7 : decode cX5_wantedD 7 = .ok (.aload_n 0, 1) := by decide +kernel
theorem dX5_wantedD_8 : decode cX5_wantedD 8 = .ok (.getfield 29, 3) := by decide +kernel
theorem dX5_wantedD_11 : decode cX5_wantedD 11 = .ok (.getfield 167, 3) := by decide +kernel
theorem dX5_wantedD_14 : decode cX5_wantedD 14 = .ok (.invokestatic 218, 3) := by decide +kernel
theorem dX5_wantedD_17 : decode cX5_wantedD 17 = .ok (.lsub, 1) := by decide +kernel
theorem dX5_wantedD_18 : decode cX5_wantedD 18 = .ok (.lstore_n 1, 1) := by decide +kernel
theorem dX5_wantedD_19 : decode cX5_wantedD 19 = .ok (.lload_n 1, 1) := by decide +kernel
theorem dX5_wantedD_20 : decode cX5_wantedD 20 = .ok (.lconst 0, 1) := by decide +kernel
theorem dX5_wantedD_21 : decode cX5_wantedD 21 = .ok (.lcmp, 1) := by decide +kernel
theorem dX5_wantedD_22 : decode cX5_wantedD 22 = .ok (.ifCond .ge 15, 3) := by decide +kernel
theorem dX5_wantedD_25 : decode cX5_wantedD 25 = .ok (.ldc2_w 242, 3) := by decide +kernel
theorem dX5_wantedD_28 : decode cX5_wantedD 28 = .ok (.lload_n 1, 1) := by decide +kernel
theorem dX5_wantedD_29 : decode cX5_wantedD 29 = .ok (.iconst 4, 1) := by decide +kernel
theorem dX5_wantedD_30 : decode cX5_wantedD 30 = .ok (.lshr, 1) := by decide +kernel
theorem dX5_wantedD_31 : decode cX5_wantedD 31 = .ok (.invokestatic 244, 3) := by decide +kernel
theorem dX5_wantedD_34 : decode cX5_wantedD 34 = .ok (.goto 4, 3) := by decide +kernel
theorem dX5_wantedD_37 : decode cX5_wantedD 37 = .ok (.lconst 0, 1) := by decide +kernel
theorem dX5_wantedD_38 : decode cX5_wantedD 38 = .ok (.lreturn, 1) := by decide +kernel
set_option maxRecDepth 20000 in
theorem ggX5_leadWires_X4_off : GoodIn wsX5_leadWires wsX4_off := goodIn_r _ [12, 13, 14, 15, 16, 79, 80, 81, 82] (by decide +kernel) (by decide +kernel)
set_option maxRecDepth 20000 in
theorem gX5_leadWires_X4_off : GoodIn wsX5_leadWires (wsV RX5 247 RX4 yX4_off wsX4_off) := goodIn_app (goodIn_of _ (by decide +kernel)) ggX5_leadWires_X4_off
set_option maxRecDepth 20000 in
theorem ggX5_leadWires_X1_alphaOf : GoodIn wsX5_leadWires wsX1_alphaOf := goodIn_r _ [20, 21, 22, 19, 23, 24, 25, 26, 27, 28, 29, 30, 31, 32, 33, 34, 35] (by decide +kernel) (by decide +kernel)
set_option maxRecDepth 20000 in
theorem gX5_leadWires_X1_alphaOf : GoodIn wsX5_leadWires (va_wsS RX5 112 yX1_alphaOf wsX1_alphaOf) := goodIn_app (goodIn_of _ (by decide +kernel)) ggX5_leadWires_X1_alphaOf
set_option maxRecDepth 20000 in
theorem ggX5_leadWires_X1_betaOf : GoodIn wsX5_leadWires wsX1_betaOf := goodIn_r _ [38, 25, 26, 19, 27, 28, 29, 30, 31, 32, 33, 34, 35, 21, 22, 23, 24] (by decide +kernel) (by decide +kernel)
set_option maxRecDepth 20000 in
theorem gX5_leadWires_X1_betaOf : GoodIn wsX5_leadWires (va_wsS RX5 115 yX1_betaOf wsX1_betaOf) := goodIn_app (goodIn_of _ (by decide +kernel)) ggX5_leadWires_X1_betaOf
set_option maxRecDepth 20000 in
theorem ggX5_leadWires_X4_lead : GoodIn wsX5_leadWires wsX4_lead := goodIn_r _ [42, 43, 44, 45, 46, 47, 48, 49, 50, 51, 52, 16, 13, 14, 15, 53, 54, 55, 11, 56, 57, 58, 33, 34, 35, 79, 80, 81, 82] (by decide +kernel) (by decide +kernel)
set_option maxRecDepth 20000 in
theorem gX5_leadWires_X4_lead : GoodIn wsX5_leadWires (wsV RX5 118 RX4 yX4_lead wsX4_lead) := goodIn_app (goodIn_of _ (by decide +kernel)) ggX5_leadWires_X4_lead
theorem dX5_leadWires_0 : decode cX5_leadWires 0 = .ok (.aload_n 0, 1) := by decide +kernel
theorem dX5_leadWires_1 : decode cX5_leadWires 1 = .ok (.getfield 50, 3) := by decide +kernel
theorem dX5_leadWires_4 : decode cX5_leadWires 4 = .ok (.ifCond .eq 11, 3) := by decide +kernel
theorem dX5_leadWires_7 : decode cX5_leadWires 7 = .ok (.aload_n 0, 1) := by decide +kernel
theorem dX5_leadWires_8 : decode cX5_leadWires 8 = .ok (.getfield 50, 3) := by decide +kernel
theorem dX5_leadWires_11 : decode cX5_leadWires 11 = .ok (.iconst 4, 1) := by decide +kernel
theorem dX5_leadWires_12 : decode cX5_leadWires 12 = .ok (.if_icmp .ne 11, 3) := by decide +kernel
theorem dX5_leadWires_15 : decode cX5_leadWires 15 = .ok (.aload_n 0, 1) := by decide +kernel
theorem dX5_leadWires_16 : decode cX5_leadWires 16 = .ok (.getfield 36, 3) := by decide +kernel
theorem dX5_leadWires_19 : decode cX5_leadWires 19 = .ok (.invokevirtual 247, 3) := by decide +kernel
theorem dX5_leadWires_22 : decode cX5_leadWires 22 = .ok (.return_, 1) := by decide +kernel
theorem dX5_leadWires_23 : decode cX5_leadWires 23 = .ok (.aload_n 0, 1) := by decide +kernel
theorem dX5_leadWires_24 : decode cX5_leadWires 24 = .ok (.getfield 50, 3) := by decide +kernel
theorem dX5_leadWires_27 : decode cX5_leadWires 27 = .ok (.iconst 1, 1) := by decide +kernel
theorem dX5_leadWires_28 : decode cX5_leadWires 28 = .ok (.if_icmp .ne 7, 3) := by decide +kernel
theorem dX5_leadWires_31 : decode cX5_leadWires 31 = .ok (.lconst 0, 1) := by decide +kernel
theorem dX5_leadWires_32 : decode cX5_leadWires 32 = .ok (.goto 10, 3) := by decide +kernel
theorem dX5_leadWires_35 : decode cX5_leadWires 35 = .ok (.aload_n 0, 1) := by decide +kernel
theorem dX5_leadWires_36 : decode cX5_leadWires 36 = .ok (.getfield 29, 3) := by decide +kernel
theorem dX5_leadWires_39 : decode cX5_leadWires 39 = .ok (.getfield 170, 3) := by decide +kernel
theorem dX5_leadWires_42 : decode cX5_leadWires 42 = .ok (.lstore_n 1, 1) := by decide +kernel
theorem dX5_leadWires_43 : decode cX5_leadWires 43 = .ok (.aload_n 0, 1) := by decide +kernel
theorem dX5_leadWires_44 : decode cX5_leadWires 44 = .ok (.getfield 61, 3) := by decide +kernel
theorem dX5_leadWires_47 : decode cX5_leadWires 47 = .ok (.aload_n 0, 1) := by decide +kernel
theorem dX5_leadWires_48 : decode cX5_leadWires 48 = .ok (.getfield 65, 3) := by decide +kernel
theorem dX5_leadWires_51 : decode cX5_leadWires 51 = .ok (.lload_n 1, 1) := by decide +kernel
theorem dX5_leadWires_52 : decode cX5_leadWires 52 = .ok (.invokestatic 112, 3) := by decide +kernel
theorem dX5_leadWires_55 : decode cX5_leadWires 55 = .ok (.lstore_n 3, 1) := by decide +kernel
theorem dX5_leadWires_56 : decode cX5_leadWires 56 = .ok (.aload_n 0, 1) := by decide +kernel
theorem dX5_leadWires_57 : decode cX5_leadWires 57 = .ok (.getfield 61, 3) := by decide +kernel
theorem dX5_leadWires_60 : decode cX5_leadWires 60 = .ok (.aload_n 0, 1) := by decide +kernel
theorem dX5_leadWires_61 : decode cX5_leadWires 61 = .ok (.getfield 65, 3) := by decide +kernel
theorem dX5_leadWires_64 : decode cX5_leadWires 64 = .ok (.lload_n 1, 1) := by decide +kernel
theorem dX5_leadWires_65 : decode cX5_leadWires 65 = .ok (.invokestatic 115, 3) := by decide +kernel
theorem dX5_leadWires_68 : decode cX5_leadWires 68 = .ok (.lstore 5, 2) := by decide +kernel
theorem dX5_leadWires_70 : decode cX5_leadWires 70 = .ok (.aload_n 0, 1) := by decide +kernel
theorem dX5_leadWires_71 : decode cX5_leadWires 71 = .ok (.getfield 36, 3) := by decide +kernel
theorem dX5_leadWires_74 : decode cX5_leadWires 74 = .ok (.lload_n 3, 1) := by decide +kernel
theorem dX5_leadWires_75 : decode cX5_leadWires 75 = .ok (.lload 5, 2) := by decide +kernel
theorem dX5_leadWires_77 : decode cX5_leadWires 77 = .ok (.aload_n 0, 1) := by decide +kernel
theorem dX5_leadWires_78 : decode cX5_leadWires 78 = .ok (.getfield 9, 3) := by decide +kernel
theorem dX5_leadWires_81 : decode cX5_leadWires 81 = .ok (.iconst 0, 1) := by decide +kernel
theorem dX5_leadWires_82 : decode cX5_leadWires 82 = .ok (.iaload, 1) := by decide +kernel
theorem dX5_leadWires_83 : decode cX5_leadWires 83 = .ok (.i2l, 1) := by decide +kernel
theorem dX5_leadWires_84 : decode cX5_leadWires 84 = .ok (.invokevirtual 118, 3) := by decide +kernel
theorem dX5_leadWires_87 : decode cX5_leadWires 87 = .ok (.return_, 1) := by decide +kernel
set_option maxRecDepth 20000 in
theorem ggX5_leaveState_X5_changeTo : GoodIn wsX5_leaveState wsX5_changeTo := goodIn_r _ [15, 1, 16, 2, 17, 18, 19, 20, 21, 22, 23, 24, 25, 26, 27, 28, 8, 29, 30, 31, 32, 33, 34, 35, 36, 37, 38, 39, 40, 41, 42, 43, 44, 45, 46, 47, 48, 49, 54, 55, 56] (by decide +kernel) (by decide +kernel)
set_option maxRecDepth 20000 in
theorem gX5_leaveState_X5_changeTo : GoodIn wsX5_leaveState (wsV RX5 154 RX5 yX5_changeTo wsX5_changeTo) := goodIn_app (goodIn_of _ (by decide +kernel)) ggX5_leaveState_X5_changeTo
theorem dX5_leaveState_0 : decode cX5_leaveState 0 = .ok (.aload_n 0, 1) := by decide +kernel
theorem dX5_leaveState_1 : decode cX5_leaveState 1 = .ok (.getfield 50, 3) := by decide +kernel
theorem dX5_leaveState_4 : decode cX5_leaveState 4 = .ok (.iconst 1, 1) := by decide +kernel
theorem dX5_leaveState_5 : decode cX5_leaveState 5 = .ok (.if_icmp .ne 29, 3) := by decide +kernel
theorem dX5_leaveState_8 : decode cX5_leaveState 8 = .ok (.aload_n 0, 1) := by decide +kernel
theorem dX5_leaveState_9 : decode cX5_leaveState 9 = .ok (.getfield 74, 3) := by decide +kernel
theorem dX5_leaveState_12 : decode cX5_leaveState 12 = .ok (.bipush 64, 2) := by decide +kernel
theorem dX5_leaveState_14 : decode cX5_leaveState 14 = .ok (.if_icmp .lt 20, 3) := by decide +kernel
theorem dX5_leaveState_17 : decode cX5_leaveState 17 = .ok (.aload_n 0, 1) := by decide +kernel
theorem dX5_leaveState_18 : decode cX5_leaveState 18 = .ok (.iconst 2, 1) := by decide +kernel
theorem dX5_leaveState_19 : decode cX5_leaveState 19 = .ok (.iconst 0, 1) := by decide +kernel
theorem dX5_leaveState_20 : decode cX5_leaveState 20 = .ok (.invokevirtual 154, 3) := by decide +kernel
theorem dX5_leaveState_23 : decode cX5_leaveState 23 = .ok (.aload_n 0, 1) := by decide +kernel
theorem dX5_leaveState_24 : decode cX5_leaveState 24 = .ok (.getfield 29, 3) := by decide +kernel
theorem dX5_leaveState_27 : decode cX5_leaveState 27 = .ok (.lconst 0, 1) := by decide +kernel
theorem dX5_leaveState_28 : decode cX5_leaveState 28 = .ok (.putfield 170, 3) := by decide +kernel
theorem dX5_leaveState_31 : decode cX5_leaveState 31 = .ok (.goto 34, 3) := by decide +kernel
theorem dX5_leaveState_34 : decode cX5_leaveState 34 = .ok (.aload_n 0, 1) := by decide +kernel
theorem dX5_leaveState_35 : decode cX5_leaveState 35 = .ok (.getfield 50, 3) := by decide +kernel
theorem dX5_leaveState_38 : decode cX5_leaveState 38 = .ok (.iconst 3, 1) := by decide +kernel
theorem dX5_leaveState_39 : decode cX5_leaveState 39 = .ok (.if_icmp .ne 26, 3) := by decide +kernel
theorem dX5_leaveState_42 : decode cX5_leaveState 42 = .ok (.aload_n 0, 1) := by decide +kernel
theorem dX5_leaveState_43 : decode cX5_leaveState 43 = .ok (.getfield 29, 3) := by decide +kernel
theorem dX5_leaveState_46 : decode cX5_leaveState 46 = .ok (.getfield 167, 3) := by decide +kernel
theorem dX5_leaveState_49 : decode cX5_leaveState 49 = .ok (.invokestatic 218, 3) := by decide +kernel
theorem dX5_leaveState_52 : decode cX5_leaveState 52 = .ok (.ldc2_w 250, 3) := by decide +kernel
theorem dX5_leaveState_55 : decode cX5_leaveState 55 = .ok (.lcmp, 1) := by decide +kernel
theorem dX5_leaveState_56 : decode cX5_leaveState 56 = .ok (.ifCond .ge 9, 3) := by decide +kernel
theorem dX5_leaveState_59 : decode cX5_leaveState 59 = .ok (.aload_n 0, 1) := by decide +kernel
theorem dX5_leaveState_60 : decode cX5_leaveState 60 = .ok (.iconst 0, 1) := by decide +kernel
theorem dX5_leaveState_61 : decode cX5_leaveState 61 = .ok (.iconst 0, 1) := by decide +kernel
theorem dX5_leaveState_62 : decode cX5_leaveState 62 = .ok (.invokevirtual 154, 3) := by decide +kernel
theorem dX5_leaveState_65 : decode cX5_leaveState 65 = .ok (.return_, 1) := by decide +kernel
set_option maxRecDepth 20000 in
theorem ggX5_mayOrder_X5_faultNow : GoodIn wsX5_mayOrder wsX5_faultNow := goodIn_r _ [6, 7, 8, 9, 10, 11, 12, 13, 14, 15, 1, 16, 17, 18, 19, 20, 21, 22, 23, 24, 25, 26, 27, 28, 29, 30, 31, 32, 33, 34, 35, 36, 37] (by decide +kernel) (by decide +kernel)
set_option maxRecDepth 20000 in
theorem gX5_mayOrder_X5_faultNow : GoodIn wsX5_mayOrder (wsV RX5 214 RX5 yX5_faultNow wsX5_faultNow) := goodIn_app (goodIn_of _ (by decide +kernel)) ggX5_mayOrder_X5_faultNow
theorem dX5_mayOrder_0 : decode cX5_mayOrder 0 = .ok (.iload_n 1, 1) := by decide +kernel
theorem dX5_mayOrder_1 : decode cX5_mayOrder 1 = .ok (.tableswitch 75 0 2 #[27, 40, 54], 27) := by decide +kernel
theorem dX5_mayOrder_28 : decode cX5_mayOrder 28 = .ok (.aload_n 0, 1) := by decide +kernel
theorem dX5_mayOrder_29 : decode cX5_mayOrder 29 = .ok (.getfield 50, 3) := by decide +kernel
theorem dX5_mayOrder_32 : decode cX5_mayOrder 32 = .ok (.ifCond .ne 7, 3) := by decide +kernel
theorem dX5_mayOrder_35 : decode cX5_mayOrder 35 = .ok (.iconst 1, 1) := by decide +kernel
theorem dX5_mayOrder_36 : decode cX5_mayOrder 36 = .ok (.goto 4, 3) := by decide +kernel
theorem dX5_mayOrder_39 : decode cX5_mayOrder 39 = .ok (.iconst 0, 1) := by decide +kernel
theorem dX5_mayOrder_40 : decode cX5_mayOrder 40 = .ok (.ireturn, 1) := by decide +kernel
theorem dX5_mayOrder_41 : decode cX5_mayOrder 41 = .ok (.aload_n 0, 1) := by decide +kernel
theorem dX5_mayOrder_42 : decode cX5_mayOrder 42 = .ok (.getfield 50, 3) := by decide +kernel
theorem dX5_mayOrder_45 : decode cX5_mayOrder 45 = .ok (.iconst 2, 1) := by decide +kernel
theorem dX5_mayOrder_46 : decode cX5_mayOrder 46 = .ok (.if_icmp .ne 7, 3) := by decide +kernel
theorem dX5_mayOrder_49 : decode cX5_mayOrder 49 = .ok (.iconst 1, 1) := by decide +kernel
theorem dX5_mayOrder_50 : decode cX5_mayOrder 50 = .ok (.goto 4, 3) := by decide +kernel
theorem dX5_mayOrder_53 : decode cX5_mayOrder 53 = .ok (.iconst 0, 1) := by decide +kernel
theorem dX5_mayOrder_54 : decode cX5_mayOrder 54 = .ok (.ireturn, 1) := by decide +kernel
theorem dX5_mayOrder_55 : decode cX5_mayOrder 55 = .ok (.aload_n 0, 1) := by decide +kernel
theorem dX5_mayOrder_56 : decode cX5_mayOrder 56 = .ok (.getfield 50, 3) := by decide +kernel
theorem dX5_mayOrder_59 : decode cX5_mayOrder 59 = .ok (.iconst 4, 1) := by decide +kernel
theorem dX5_mayOrder_60 : decode cX5_mayOrder 60 = .ok (.if_icmp .ne 14, 3) := by decide +kernel
theorem dX5_mayOrder_63 : decode cX5_mayOrder 63 = .ok (.aload_n 0, 1) := by decide +kernel
theorem dX5_mayOrder_64 : decode cX5_mayOrder 64 = .ok (.invokevirtual 214, 3) := by decide +kernel
theorem dX5_mayOrder_67 : decode cX5_mayOrder 67 = .ok (.ifCond .ne 7, 3) := by decide +kernel
theorem dX5_mayOrder_70 : decode cX5_mayOrder 70 = .ok (.iconst 1, 1) := by decide +kernel
theorem dX5_mayOrder_71 : decode cX5_mayOrder 71 = .ok (.goto 4, 3) := by decide +kernel
theorem dX5_mayOrder_74 : decode cX5_mayOrder 74 = .ok (.iconst 0, 1) := by decide +kernel
theorem dX5_mayOrder_75 : decode cX5_mayOrder 75 = .ok (.ireturn, 1) := by decide +kernel
theorem dX5_mayOrder_76 : decode cX5_mayOrder 76 = .ok (.aload_n 0, 1) := by decide +kernel
theorem dX5_mayOrder_77 : decode cX5_mayOrder 77 = .ok (.getfield 50, 3) := by decide +kernel
theorem dX5_mayOrder_80 : decode cX5_mayOrder 80 = .ok (.iconst 1, 1) := by decide +kernel
theorem dX5_mayOrder_81 : decode cX5_mayOrder 81 = .ok (.if_icmp .eq 19, 3) := by decide +kernel
theorem dX5_mayOrder_84 : decode cX5_mayOrder 84 = .ok (.aload_n 0, 1) := by decide +kernel
theorem dX5_mayOrder_85 : decode cX5_mayOrder 85 = .ok (.getfield 50, 3) := by decide +kernel
theorem dX5_mayOrder_88 : decode cX5_mayOrder 88 = .ok (.iconst 2, 1) := by decide +kernel
theorem dX5_mayOrder_89 : decode cX5_mayOrder 89 = .ok (.if_icmp .eq 11, 3) := by decide +kernel
theorem dX5_mayOrder_92 : decode cX5_mayOrder 92 = .ok (.aload_n 0, 1) := by decide +kernel
theorem dX5_mayOrder_93 : decode cX5_mayOrder 93 = .ok (.getfield 50, 3) := by decide +kernel
theorem dX5_mayOrder_96 : decode cX5_mayOrder 96 = .ok (.iconst 3, 1) := by decide +kernel
theorem dX5_mayOrder_97 : decode cX5_mayOrder 97 = .ok (.if_icmp .ne 7, 3) := by decide +kernel
theorem dX5_mayOrder_100 : decode cX5_mayOrder 100 = .ok (.iconst 1, 1) := by decide +kernel
theorem dX5_mayOrder_101 : decode cX5_mayOrder 101 = .ok (.goto 4, 3) := by decide +kernel
theorem dX5_mayOrder_104 : decode cX5_mayOrder 104 = .ok (.iconst 0, 1) := by decide +kernel
theorem dX5_mayOrder_105 : decode cX5_mayOrder 105 = .ok (.ireturn, 1) := by decide +kernel
set_option maxRecDepth 20000 in
theorem ggX5_changeTo_X0_note : GoodIn wsX5_changeTo wsX0_note := goodIn_r _ [10, 11, 12, 13, 14, 15, 16, 17, 18, 19, 20, 21, 38, 39, 40] (by decide +kernel) (by decide +kernel)
set_option maxRecDepth 20000 in
theorem gX5_changeTo_X0_note : GoodIn wsX5_changeTo (wsV RX5 252 RX0 yX0_note wsX0_note) := goodIn_app (goodIn_of _ (by decide +kernel)) ggX5_changeTo_X0_note
theorem dX5_changeTo_0 : decode cX5_changeTo 0 = .ok (.aload_n 0, 1) := by decide +kernel
theorem dX5_changeTo_1 : decode cX5_changeTo 1 = .ok (.iload_n 1, 1) := by decide +kernel
theorem dX5_changeTo_2 : decode cX5_changeTo 2 = .ok (.putfield 50, 3) := by decide +kernel
theorem dX5_changeTo_5 : decode cX5_changeTo 5 = .ok (.aload_n 0, 1) := by decide +kernel
theorem dX5_changeTo_6 : decode cX5_changeTo 6 = .ok (.iload_n 2, 1) := by decide +kernel
theorem dX5_changeTo_7 : decode cX5_changeTo 7 = .ok (.putfield 54, 3) := by decide +kernel
theorem dX5_changeTo_10 : decode cX5_changeTo 10 = .ok (.aload_n 0, 1) := by decide +kernel
theorem dX5_changeTo_11 : decode cX5_changeTo 11 = .ok (.iconst 0, 1) := by decide +kernel
theorem dX5_changeTo_12 : decode cX5_changeTo 12 = .ok (.putfield 74, 3) := by decide +kernel
theorem dX5_changeTo_15 : decode cX5_changeTo 15 = .ok (.aload_n 0, 1) := by decide +kernel
theorem dX5_changeTo_16 : decode cX5_changeTo 16 = .ok (.getfield 46, 3) := by decide +kernel
theorem dX5_changeTo_19 : decode cX5_changeTo 19 = .ok (.aload_n 0, 1) := by decide +kernel
theorem dX5_changeTo_20 : decode cX5_changeTo 20 = .ok (.getfield 71, 3) := by decide +kernel
theorem dX5_changeTo_23 : decode cX5_changeTo 23 = .ok (.iload_n 1, 1) := by decide +kernel
theorem dX5_changeTo_24 : decode cX5_changeTo 24 = .ok (.iload_n 2, 1) := by decide +kernel
theorem dX5_changeTo_25 : decode cX5_changeTo 25 = .ok (.invokevirtual 252, 3) := by decide +kernel
theorem dX5_changeTo_28 : decode cX5_changeTo 28 = .ok (.return_, 1) := by decide +kernel
theorem dX5_within_0 : decode cX5_within 0 = .ok (.iload_n 0, 1) := by decide +kernel
theorem dX5_within_1 : decode cX5_within 1 = .ok (.iload_n 1, 1) := by decide +kernel
theorem dX5_within_2 : decode cX5_within 2 = .ok (.if_icmp .lt 12, 3) := by decide +kernel
theorem dX5_within_5 : decode cX5_within 5 = .ok (.iload_n 0, 1) := by decide +kernel
theorem dX5_within_6 : decode cX5_within 6 = .ok (.iload_n 2, 1) := by decide +kernel
theorem dX5_within_7 : decode cX5_within 7 = .ok (.if_icmp .gt 7, 3) := by decide +kernel
theorem dX5_within_10 : decode cX5_within 10 = .ok (.iconst 1, 1) := by decide +kernel
theorem dX5_within_11 : decode cX5_within 11 = .ok (.goto 4, 3) := by decide +kernel
theorem dX5_within_14 : decode cX5_within 14 = .ok (.iconst 0, 1) := by decide +kernel
theorem dX5_within_15 : decode cX5_within 15 = .ok (.ireturn, 1) := by decide +kernel
set_option maxRecDepth 20000 in
theorem ggX5_isAngle_X5_within : GoodIn wsX5_isAngle wsX5_within := goodIn_r _ [5] (by decide +kernel) (by decide +kernel)
set_option maxRecDepth 20000 in
theorem gX5_isAngle_X5_within : GoodIn wsX5_isAngle (va_wsS RX5 140 yX5_within wsX5_within) := goodIn_app (goodIn_of _ (by decide +kernel)) ggX5_isAngle_X5_within
theorem dX5_isAngle_0 : decode cX5_isAngle 0 = .ok (.iload_n 0, 1) := by decide +kernel
theorem dX5_isAngle_1 : decode cX5_isAngle 1 = .ok (.iconst 0, 1) := by decide +kernel
theorem dX5_isAngle_2 : decode cX5_isAngle 2 = .ok (.ldc_w 256, 3) := by decide +kernel
theorem dX5_isAngle_5 : decode cX5_isAngle 5 = .ok (.invokestatic 140, 3) := by decide +kernel
theorem dX5_isAngle_8 : decode cX5_isAngle 8 = .ok (.ireturn, 1) := by decide +kernel
set_option maxRecDepth 20000 in
theorem ggX5_isVector_X5_within : GoodIn wsX5_isVector wsX5_within := goodIn_r _ [4] (by decide +kernel) (by decide +kernel)
set_option maxRecDepth 20000 in
theorem gX5_isVector_X5_within : GoodIn wsX5_isVector (va_wsS RX5 140 yX5_within wsX5_within) := goodIn_app (goodIn_of _ (by decide +kernel)) ggX5_isVector_X5_within
theorem dX5_isVector_0 : decode cX5_isVector 0 = .ok (.iload_n 0, 1) := by decide +kernel
theorem dX5_isVector_1 : decode cX5_isVector 1 = .ok (.sipush (-32000), 3) := by decide +kernel
theorem dX5_isVector_4 : decode cX5_isVector 4 = .ok (.sipush 32000, 3) := by decide +kernel
theorem dX5_isVector_7 : decode cX5_isVector 7 = .ok (.invokestatic 140, 3) := by decide +kernel
theorem dX5_isVector_10 : decode cX5_isVector 10 = .ok (.ifCond .eq 20, 3) := by decide +kernel
theorem dX5_isVector_13 : decode cX5_isVector 13 = .ok (.iload_n 1, 1) := by decide +kernel
theorem dX5_isVector_14 : decode cX5_isVector 14 = .ok (.sipush (-32000), 3) := by decide +kernel
theorem dX5_isVector_17 : decode cX5_isVector 17 = .ok (.sipush 32000, 3) := by decide +kernel
theorem dX5_isVector_20 : decode cX5_isVector 20 = .ok (.invokestatic 140, 3) := by decide +kernel
theorem dX5_isVector_23 : decode cX5_isVector 23 = .ok (.ifCond .eq 7, 3) := by decide +kernel
theorem dX5_isVector_26 : decode cX5_isVector 26 = .ok (.iconst 1, 1) := by decide +kernel
theorem dX5_isVector_27 : decode cX5_isVector 27 = .ok (.goto 4, 3) := by decide +kernel
theorem dX5_isVector_30 : decode cX5_isVector 30 = .ok (.iconst 0, 1) := by decide +kernel
theorem dX5_isVector_31 : decode cX5_isVector 31 = .ok (.ireturn, 1) := by decide +kernel
theorem dX5_clamp_0 : decode cX5_clamp 0 = .ok (.lload_n 2, 1) := by decide +kernel
theorem dX5_clamp_1 : decode cX5_clamp 1 = .ok (.lneg, 1) := by decide +kernel
theorem dX5_clamp_2 : decode cX5_clamp 2 = .ok (.lload_n 2, 1) := by decide +kernel
theorem dX5_clamp_3 : decode cX5_clamp 3 = .ok (.lload_n 0, 1) := by decide +kernel
theorem dX5_clamp_4 : decode cX5_clamp 4 = .ok (.invokestatic 257, 3) := by decide +kernel
theorem dX5_clamp_7 : decode cX5_clamp 7 = .ok (.invokestatic 244, 3) := by decide +kernel
theorem dX5_clamp_10 : decode cX5_clamp 10 = .ok (.lreturn, 1) := by decide +kernel
theorem dX5_quotient_0 : decode cX5_quotient 0 = .ok (.lload_n 2, 1) := by decide +kernel
theorem dX5_quotient_1 : decode cX5_quotient 1 = .ok (.lconst 0, 1) := by decide +kernel
theorem dX5_quotient_2 : decode cX5_quotient 2 = .ok (.lcmp, 1) := by decide +kernel
theorem dX5_quotient_3 : decode cX5_quotient 3 = .ok (.ifCond .ne 7, 3) := by decide +kernel
theorem dX5_quotient_6 : decode cX5_quotient 6 = .ok (.lconst 0, 1) := by decide +kernel
theorem dX5_quotient_7 : decode cX5_quotient 7 = .ok (.goto 6, 3) := by decide +kernel
theorem dX5_quotient_10 : decode cX5_quotient 10 = .ok (.lload_n 0, 1) := by decide +kernel
theorem dX5_quotient_11 : decode cX5_quotient 11 = .ok (.lload_n 2, 1) := by decide +kernel
theorem dX5_quotient_12 : decode cX5_quotient 12 = .ok (.ldiv, 1) := by decide +kernel
theorem dX5_quotient_13 : decode cX5_quotient 13 = .ok (.lreturn, 1) := by decide +kernel
theorem dX6_init_0 : decode cX6_init 0 = .ok (.aload_n 0, 1) := by decide +kernel
theorem dX6_init_1 : decode cX6_init 1 = .ok (.invokespecial 1, 3) := by decide +kernel
theorem dX6_init_4 : decode cX6_init 4 = .ok (.aload_n 0, 1) := by decide +kernel
theorem dX6_init_5 : decode cX6_init 5 = .ok (.bipush 6, 2) := by decide +kernel
theorem dX6_init_7 : decode cX6_init 7 = .ok (.newarray .int, 2) := by decide +kernel
theorem dX6_init_9 : decode cX6_init 9 = .ok (.putfield 7, 3) := by decide +kernel
theorem dX6_init_12 : decode cX6_init 12 = .ok (.aload_n 0, 1) := by decide +kernel
theorem dX6_init_13 : decode cX6_init 13 = .ok (.iconst 3, 1) := by decide +kernel
theorem dX6_init_14 : decode cX6_init 14 = .ok (.newarray .int, 2) := by decide +kernel
theorem dX6_init_16 : decode cX6_init 16 = .ok (.putfield 13, 3) := by decide +kernel
theorem dX6_init_19 : decode cX6_init 19 = .ok (.aload_n 0, 1) := by decide +kernel
theorem dX6_init_20 : decode cX6_init 20 = .ok (.iconst 3, 1) := by decide +kernel
theorem dX6_init_21 : decode cX6_init 21 = .ok (.newarray .int, 2) := by decide +kernel
theorem dX6_init_23 : decode cX6_init 23 = .ok (.putfield 16, 3) := by decide +kernel
theorem dX6_init_26 : decode cX6_init 26 = .ok (.aload_n 0, 1) := by decide +kernel
theorem dX6_init_27 : decode cX6_init 27 = .ok (.iconst 3, 1) := by decide +kernel
theorem dX6_init_28 : decode cX6_init 28 = .ok (.newarray .long, 2) := by decide +kernel
theorem dX6_init_30 : decode cX6_init 30 = .ok (.putfield 19, 3) := by decide +kernel
theorem dX6_init_33 : decode cX6_init 33 = .ok (.aload_n 0, 1) := by decide +kernel
theorem dX6_init_34 : decode cX6_init 34 = .ok (.iconst 3, 1) := by decide +kernel
theorem dX6_init_35 : decode cX6_init 35 = .ok (.newarray .int, 2) := by decide +kernel
theorem dX6_init_37 : decode cX6_init 37 = .ok (.putfield 23, 3) := by decide +kernel
theorem dX6_init_40 : decode cX6_init 40 = .ok (.aload_n 0, 1) := by decide +kernel
theorem dX6_init_41 : decode cX6_init 41 = .ok (.bipush 20, 2) := by decide +kernel
theorem dX6_init_43 : decode cX6_init 43 = .ok (.newarray .int, 2) := by decide +kernel
theorem dX6_init_45 : decode cX6_init 45 = .ok (.putfield 26, 3) := by decide +kernel
theorem dX6_init_48 : decode cX6_init 48 = .ok (.aload_n 0, 1) := by decide +kernel
theorem dX6_init_49 : decode cX6_init 49 = .ok (.bipush 20, 2) := by decide +kernel
theorem dX6_init_51 : decode cX6_init 51 = .ok (.newarray .int, 2) := by decide +kernel
theorem dX6_init_53 : decode cX6_init 53 = .ok (.putfield 29, 3) := by decide +kernel
theorem dX6_init_56 : decode cX6_init 56 = .ok (.aload_n 0, 1) := by decide +kernel
theorem dX6_init_57 : decode cX6_init 57 = .ok (.bipush 20, 2) := by decide +kernel
theorem dX6_init_59 : decode cX6_init 59 = .ok (.newarray .int, 2) := by decide +kernel
theorem dX6_init_61 : decode cX6_init 61 = .ok (.putfield 32, 3) := by decide +kernel
theorem dX6_init_64 : decode cX6_init 64 = .ok (.aload_n 0, 1) := by decide +kernel
theorem dX6_init_65 : decode cX6_init 65 = .ok (.iconst 3, 1) := by decide +kernel
theorem dX6_init_66 : decode cX6_init 66 = .ok (.newarray .int, 2) := by decide +kernel
theorem dX6_init_68 : decode cX6_init 68 = .ok (.putfield 35, 3) := by decide +kernel
theorem dX6_init_71 : decode cX6_init 71 = .ok (.aload_n 0, 1) := by decide +kernel
theorem dX6_init_72 : decode cX6_init 72 = .ok (.getfield 7, 3) := by decide +kernel
theorem dX6_init_75 : decode cX6_init 75 = .ok (.iconst 0, 1) := by decide +kernel
theorem dX6_init_76 : decode cX6_init 76 = .ok (.sipush 10000, 3) := by decide +kernel
theorem dX6_init_79 : decode cX6_init 79 = .ok (.iastore, 1) := by decide +kernel
theorem dX6_init_80 : decode cX6_init 80 = .ok (.aload_n 0, 1) := by decide +kernel
theorem dX6_init_81 : decode cX6_init 81 = .ok (.getfield 7, 3) := by decide +kernel
theorem dX6_init_84 : decode cX6_init 84 = .ok (.iconst 1, 1) := by decide +kernel
theorem dX6_init_85 : decode cX6_init 85 = .ok (.sipush 4000, 3) := by decide +kernel
theorem dX6_init_88 : decode cX6_init 88 = .ok (.iastore, 1) := by decide +kernel
theorem dX6_init_89 : decode cX6_init 89 = .ok (.aload_n 0, 1) := by decide +kernel
theorem dX6_init_90 : decode cX6_init 90 = .ok (.getfield 7, 3) := by decide +kernel
theorem dX6_init_93 : decode cX6_init 93 = .ok (.iconst 3, 1) := by decide +kernel
theorem dX6_init_94 : decode cX6_init 94 = .ok (.sipush 20000, 3) := by decide +kernel
theorem dX6_init_97 : decode cX6_init 97 = .ok (.iastore, 1) := by decide +kernel
theorem dX6_init_98 : decode cX6_init 98 = .ok (.aload_n 0, 1) := by decide +kernel
theorem dX6_init_99 : decode cX6_init 99 = .ok (.getfield 7, 3) := by decide +kernel
theorem dX6_init_102 : decode cX6_init 102 = .ok (.iconst 4, 1) := by decide +kernel
theorem dX6_init_103 : decode cX6_init 103 = .ok (.ldc 38, 2) := by decide +kernel
theorem dX6_init_105 : decode cX6_init 105 = .ok (.iastore, 1) := by decide +kernel
theorem dX6_init_106 : decode cX6_init 106 = .ok (.iconst 0, 1) := by decide +kernel
theorem dX6_init_107 : decode cX6_init 107 = .ok (.istore_n 1, 1) := by decide +kernel
theorem dX6_init_108 : decode cX6_init 108 = .ok (.iload_n 1, 1) := by decide +kernel
theorem dX6_init_109 : decode cX6_init 109 = .ok (.iconst 3, 1) := by decide +kernel
theorem dX6_init_110 : decode cX6_init 110 = .ok (.if_icmp .ge 26, 3) := by decide +kernel
theorem dX6_init_113 : decode cX6_init 113 = .ok (.aload_n 0, 1) := by decide +kernel
theorem dX6_init_114 : decode cX6_init 114 = .ok (.getfield 13, 3) := by decide +kernel
theorem dX6_init_117 : decode cX6_init 117 = .ok (.iload_n 1, 1) := by decide +kernel
theorem dX6_init_118 : decode cX6_init 118 = .ok (.sipush 200, 3) := by decide +kernel
theorem dX6_init_121 : decode cX6_init 121 = .ok (.iastore, 1) := by decide +kernel
theorem dX6_init_122 : decode cX6_init 122 = .ok (.aload_n 0, 1) := by decide +kernel
theorem dX6_init_123 : decode cX6_init 123 = .ok (.getfield 16, 3) := by decide +kernel
theorem dX6_init_126 : decode cX6_init 126 = .ok (.iload_n 1, 1) := by decide +kernel
theorem dX6_init_127 : decode cX6_init 127 = .ok (.bipush 20, 2) := by decide +kernel
theorem dX6_init_129 : decode cX6_init 129 = .ok (.iastore, 1) := by decide +kernel
theorem dX6_init_130 : decode cX6_init 130 = .ok (.iinc 1 1, 3) := by decide +kernel
theorem dX6_init_133 : decode cX6_init 133 = .ok (.goto (-25), 3) := by decide +kernel
theorem dX6_init_136 : decode cX6_init 136 = .ok (.return_, 1) := by decide +kernel
theorem dX6_in_0 : decode cX6_in 0 = .ok (.lload_n 0, 1) := by decide +kernel
theorem dX6_in_1 : decode cX6_in 1 = .ok (.lload_n 2, 1) := by decide +kernel
theorem dX6_in_2 : decode cX6_in 2 = .ok (.lcmp, 1) := by decide +kernel
theorem dX6_in_3 : decode cX6_in 3 = .ok (.ifCond .lt 14, 3) := by decide +kernel
theorem dX6_in_6 : decode cX6_in 6 = .ok (.lload_n 0, 1) := by decide +kernel
theorem dX6_in_7 : decode cX6_in 7 = .ok (.lload 4, 2) := by decide +kernel
theorem dX6_in_9 : decode cX6_in 9 = .ok (.lcmp, 1) := by decide +kernel
theorem dX6_in_10 : decode cX6_in 10 = .ok (.ifCond .gt 7, 3) := by decide +kernel
theorem dX6_in_13 : decode cX6_in 13 = .ok (.iconst 1, 1) := by decide +kernel
theorem dX6_in_14 : decode cX6_in 14 = .ok (.goto 4, 3) := by decide +kernel
theorem dX6_in_17 : decode cX6_in 17 = .ok (.iconst 0, 1) := by decide +kernel
theorem dX6_in_18 : decode cX6_in 18 = .ok (.ireturn, 1) := by decide +kernel
theorem dX6_clamp_0 : decode cX6_clamp 0 = .ok (.lload_n 0, 1) := by decide +kernel
theorem dX6_clamp_1 : decode cX6_clamp 1 = .ok (.lload_n 2, 1) := by decide +kernel
theorem dX6_clamp_2 : decode cX6_clamp 2 = .ok (.lcmp, 1) := by decide +kernel
theorem dX6_clamp_3 : decode cX6_clamp 3 = .ok (.ifCond .le 7, 3) := by decide +kernel
theorem dX6_clamp_6 : decode cX6_clamp 6 = .ok (.lload_n 2, 1) := by decide +kernel
theorem dX6_clamp_7 : decode cX6_clamp 7 = .ok (.goto 16, 3) := by decide +kernel
theorem dX6_clamp_10 : decode cX6_clamp 10 = .ok (.lload_n 0, 1) := by decide +kernel
theorem dX6_clamp_11 : decode cX6_clamp 11 = .ok (.lload_n 2, 1) := by decide +kernel
theorem dX6_clamp_12 : decode cX6_clamp 12 = .ok (.lneg, 1) := by decide +kernel
theorem dX6_clamp_13 : decode cX6_clamp 13 = .ok (.lcmp, 1) := by decide +kernel
theorem dX6_clamp_14 : decode cX6_clamp 14 = .ok (.ifCond .ge 8, 3) := by decide +kernel
theorem dX6_clamp_17 : decode cX6_clamp 17 = .ok (.lload_n 2, 1) := by decide +kernel
theorem dX6_clamp_18 : decode cX6_clamp 18 = .ok (.lneg, 1) := by decide +kernel
theorem dX6_clamp_19 : decode cX6_clamp 19 = .ok (.goto 4, 3) := by decide +kernel
theorem dX6_clamp_22 : decode cX6_clamp 22 = .ok (.lload_n 0, 1) := by decide +kernel
theorem dX6_clamp_23 : decode cX6_clamp 23 = .ok (.lreturn, 1) := by decide +kernel
theorem dX6_size_0 : decode cX6_size 0 = .ok (.lload_n 0, 1) := by decide +kernel
theorem dX6_size_1 : decode cX6_size 1 = .ok (.lconst 0, 1) := by decide +kernel
theorem dX6_size_2 : decode cX6_size 2 = .ok (.lcmp, 1) := by decide +kernel
theorem dX6_size_3 : decode cX6_size 3 = .ok (.ifCond .ge 8, 3) := by decide +kernel
theorem dX6_size_6 : decode cX6_size 6 = .ok (.lload_n 0, 1) := by decide +kernel
theorem dX6_size_7 : decode cX6_size 7 = .ok (.lneg, 1) := by decide +kernel
theorem dX6_size_8 : decode cX6_size 8 = .ok (.goto 4, 3) := by decide +kernel
theorem dX6_size_11 : decode cX6_size 11 = .ok (.lload_n 0, 1) := by decide +kernel
theorem dX6_size_12 : decode cX6_size 12 = .ok (.lreturn, 1) := by decide +kernel
theorem dX6_sineOf_0 : decode cX6_sineOf 0 = .ok (.iload_n 0, 1) := by decide +kernel
theorem dX6_sineOf_1 : decode cX6_sineOf 1 = .ok (.ldc 39, 2) := by decide +kernel
theorem dX6_sineOf_3 : decode cX6_sineOf 3 = .ok (.irem, 1) := by decide +kernel
theorem dX6_sineOf_4 : decode cX6_sineOf 4 = .ok (.i2l, 1) := by decide +kernel
theorem dX6_sineOf_5 : decode cX6_sineOf 5 = .ok (.lstore_n 1, 1) := by decide +kernel
theorem dX6_sineOf_6 : decode cX6_sineOf 6 = .ok (.lload_n 1, 1) := by decide +kernel
theorem dX6_sineOf_7 : decode cX6_sineOf 7 = .ok (.ldc2_w 40, 3) := by decide +kernel
theorem dX6_sineOf_10 : decode cX6_sineOf 10 = .ok (.lload_n 1, 1) := by decide +kernel
theorem dX6_sineOf_11 : decode cX6_sineOf 11 = .ok (.lsub, 1) := by decide +kernel
theorem dX6_sineOf_12 : decode cX6_sineOf 12 = .ok (.lmul, 1) := by decide +kernel
theorem dX6_sineOf_13 : decode cX6_sineOf 13 = .ok (.lstore_n 3, 1) := by decide +kernel
theorem dX6_sineOf_14 : decode cX6_sineOf 14 = .ok (.ldc2_w 42, 3) := by decide +kernel
theorem dX6_sineOf_17 : decode cX6_sineOf 17 = .ok (.lload_n 3, 1) := by decide +kernel
theorem dX6_sineOf_18 : decode cX6_sineOf 18 = .ok (.lmul, 1) := by decide +kernel
theorem dX6_sineOf_19 : decode cX6_sineOf 19 = .ok (.ldc2_w 44, 3) := by decide +kernel
theorem dX6_sineOf_22 : decode cX6_sineOf 22 = .ok (.lload_n 3, 1) := by decide +kernel
theorem dX6_sineOf_23 : decode cX6_sineOf 23 = .ok (.lsub, 1) := by decide +kernel
theorem dX6_sineOf_24 : decode cX6_sineOf 24 = .ok (.ldiv, 1) := by decide +kernel
theorem dX6_sineOf_25 : decode cX6_sineOf 25 = .ok (.lstore 5, 2) := by decide +kernel
theorem dX6_sineOf_27 : decode cX6_sineOf 27 = .ok (.iload_n 0, 1) := by decide +kernel
theorem dX6_sineOf_28 : decode cX6_sineOf 28 = .ok (.ldc 39, 2) := by decide +kernel
theorem dX6_sineOf_30 : decode cX6_sineOf 30 = .ok (.if_icmp .ge 8, 3) := by decide +kernel
theorem dX6_sineOf_33 : decode cX6_sineOf 33 = .ok (.lload 5, 2) := by decide +kernel
theorem dX6_sineOf_35 : decode cX6_sineOf 35 = .ok (.goto 6, 3) := by decide +kernel
theorem dX6_sineOf_38 : decode cX6_sineOf 38 = .ok (.lload 5, 2) := by decide +kernel
theorem dX6_sineOf_40 : decode cX6_sineOf 40 = .ok (.lneg, 1) := by decide +kernel
theorem dX6_sineOf_41 : decode cX6_sineOf 41 = .ok (.lreturn, 1) := by decide +kernel
set_option maxRecDepth 20000 in
theorem ggX6_cosineOf_X6_sineOf : GoodIn wsX6_cosineOf wsX6_sineOf := goodIn_r _ [5, 6, 7, 8, 9] (by decide +kernel) (by decide +kernel)
set_option maxRecDepth 20000 in
theorem gX6_cosineOf_X6_sineOf : GoodIn wsX6_cosineOf (va_wsS RX6 47 yX6_sineOf wsX6_sineOf) := goodIn_app (goodIn_of _ (by decide +kernel)) ggX6_cosineOf_X6_sineOf
theorem dX6_cosineOf_0 : decode cX6_cosineOf 0 = .ok (.iload_n 0, 1) := by decide +kernel
theorem dX6_cosineOf_1 : decode cX6_cosineOf 1 = .ok (.sipush 16384, 3) := by decide +kernel
theorem dX6_cosineOf_4 : decode cX6_cosineOf 4 = .ok (.iadd, 1) := by decide +kernel
theorem dX6_cosineOf_5 : decode cX6_cosineOf 5 = .ok (.ldc 46, 2) := by decide +kernel
theorem dX6_cosineOf_7 : decode cX6_cosineOf 7 = .ok (.irem, 1) := by decide +kernel
theorem dX6_cosineOf_8 : decode cX6_cosineOf 8 = .ok (.invokestatic 47, 3) := by decide +kernel
theorem dX6_cosineOf_11 : decode cX6_cosineOf 11 = .ok (.lreturn, 1) := by decide +kernel
set_option maxRecDepth 20000 in
theorem ggX6_isAngle_X6_in : GoodIn wsX6_isAngle wsX6_in := goodIn_r _ [5] (by decide +kernel) (by decide +kernel)
set_option maxRecDepth 20000 in
theorem gX6_isAngle_X6_in : GoodIn wsX6_isAngle (va_wsS RX6 53 yX6_in wsX6_in) := goodIn_app (goodIn_of _ (by decide +kernel)) ggX6_isAngle_X6_in
theorem dX6_isAngle_0 : decode cX6_isAngle 0 = .ok (.iload_n 0, 1) := by decide +kernel
theorem dX6_isAngle_1 : decode cX6_isAngle 1 = .ok (.i2l, 1) := by decide +kernel
theorem dX6_isAngle_2 : decode cX6_isAngle 2 = .ok (.lconst 0, 1) := by decide +kernel
theorem dX6_isAngle_3 : decode cX6_isAngle 3 = .ok (.ldc2_w 51, 3) := by decide +kernel
theorem dX6_isAngle_6 : decode cX6_isAngle 6 = .ok (.invokestatic 53, 3) := by decide +kernel
theorem dX6_isAngle_9 : decode cX6_isAngle 9 = .ok (.ireturn, 1) := by decide +kernel
set_option maxRecDepth 20000 in
theorem ggX6_isCurrent_X6_in : GoodIn wsX6_isCurrent wsX6_in := goodIn_r _ [6] (by decide +kernel) (by decide +kernel)
set_option maxRecDepth 20000 in
theorem gX6_isCurrent_X6_in : GoodIn wsX6_isCurrent (va_wsS RX6 53 yX6_in wsX6_in) := goodIn_app (goodIn_of _ (by decide +kernel)) ggX6_isCurrent_X6_in
theorem dX6_isCurrent_0 : decode cX6_isCurrent 0 = .ok (.iload_n 0, 1) := by decide +kernel
theorem dX6_isCurrent_1 : decode cX6_isCurrent 1 = .ok (.i2l, 1) := by decide +kernel
theorem dX6_isCurrent_2 : decode cX6_isCurrent 2 = .ok (.ldc2_w 57, 3) := by decide +kernel
theorem dX6_isCurrent_5 : decode cX6_isCurrent 5 = .ok (.ldc2_w 59, 3) := by decide +kernel
theorem dX6_isCurrent_8 : decode cX6_isCurrent 8 = .ok (.invokestatic 53, 3) := by decide +kernel
theorem dX6_isCurrent_11 : decode cX6_isCurrent 11 = .ok (.ireturn, 1) := by decide +kernel
set_option maxRecDepth 20000 in
theorem ggX6_sine_X6_isAngle : GoodIn wsX6_sine wsX6_isAngle := goodIn_r _ [5, 6, 7, 8, 4, 9] (by decide +kernel) (by decide +kernel)
set_option maxRecDepth 20000 in
theorem gX6_sine_X6_isAngle : GoodIn wsX6_sine (va_wsS RX6 61 yX6_isAngle wsX6_isAngle) := goodIn_app (goodIn_of _ (by decide +kernel)) ggX6_sine_X6_isAngle
set_option maxRecDepth 20000 in
theorem ggX6_sine_X6_sineOf : GoodIn wsX6_sine wsX6_sineOf := goodIn_r _ [12, 13, 14, 15, 16] (by decide +kernel) (by decide +kernel)
set_option maxRecDepth 20000 in
theorem gX6_sine_X6_sineOf : GoodIn wsX6_sine (va_wsS RX6 47 yX6_sineOf wsX6_sineOf) := goodIn_app (goodIn_of _ (by decide +kernel)) ggX6_sine_X6_sineOf
theorem dX6_sine_0 : decode cX6_sine 0 = .ok (.iload_n 1, 1) := by decide +kernel
theorem dX6_sine_1 : decode cX6_sine 1 = .ok (.invokestatic 61, 3) := by decide +kernel
theorem dX6_sine_4 : decode cX6_sine 4 = .ok (.ifCond .eq 11, 3) := by decide +kernel
theorem dX6_sine_7 : decode cX6_sine 7 = .ok (.iload_n 1, 1) := by decide +kernel
theorem dX6_sine_8 : decode cX6_sine 8 = .ok (.invokestatic 47, 3) := by decide +kernel
theorem dX6_sine_11 : decode cX6_sine 11 = .ok (.l2i, 1) := by decide +kernel
theorem dX6_sine_12 : decode cX6_sine 12 = .ok (.goto 5, 3) := by decide +kernel
theorem dX6_sine_15 : decode cX6_sine 15 = .ok (.ldc 65, 2) := by decide +kernel
theorem dX6_sine_17 : decode cX6_sine 17 = .ok (.ireturn, 1) := by decide +kernel
set_option maxRecDepth 20000 in
theorem ggX6_turned_X6_isCurrent : GoodIn wsX6_turned wsX6_isCurrent := goodIn_r _ [8, 9, 10, 11, 12, 7, 13] (by decide +kernel) (by decide +kernel)
set_option maxRecDepth 20000 in
theorem gX6_turned_X6_isCurrent : GoodIn wsX6_turned (va_wsS RX6 66 yX6_isCurrent wsX6_isCurrent) := goodIn_app (goodIn_of _ (by decide +kernel)) ggX6_turned_X6_isCurrent
set_option maxRecDepth 20000 in
theorem ggX6_turned_X6_isAngle : GoodIn wsX6_turned wsX6_isAngle := goodIn_r _ [16, 17, 11, 12, 7, 13] (by decide +kernel) (by decide +kernel)
set_option maxRecDepth 20000 in
theorem gX6_turned_X6_isAngle : GoodIn wsX6_turned (va_wsS RX6 61 yX6_isAngle wsX6_isAngle) := goodIn_app (goodIn_of _ (by decide +kernel)) ggX6_turned_X6_isAngle
set_option maxRecDepth 20000 in
theorem ggX6_turned_X6_in : GoodIn wsX6_turned wsX6_in := goodIn_r _ [13] (by decide +kernel) (by decide +kernel)
set_option maxRecDepth 20000 in
theorem gX6_turned_X6_in : GoodIn wsX6_turned (va_wsS RX6 53 yX6_in wsX6_in) := goodIn_app (goodIn_of _ (by decide +kernel)) ggX6_turned_X6_in
set_option maxRecDepth 20000 in
theorem ggX6_turned_X6_cosineOf : GoodIn wsX6_turned wsX6_cosineOf := goodIn_r _ [20, 21, 22, 23, 7, 24, 25, 26, 27, 28] (by decide +kernel) (by decide +kernel)
set_option maxRecDepth 20000 in
theorem gX6_turned_X6_cosineOf : GoodIn wsX6_turned (va_wsS RX6 75 yX6_cosineOf wsX6_cosineOf) := goodIn_app (goodIn_of _ (by decide +kernel)) ggX6_turned_X6_cosineOf
set_option maxRecDepth 20000 in
theorem ggX6_turned_X6_sineOf : GoodIn wsX6_turned wsX6_sineOf := goodIn_r _ [24, 25, 26, 27, 28] (by decide +kernel) (by decide +kernel)
set_option maxRecDepth 20000 in
theorem gX6_turned_X6_sineOf : GoodIn wsX6_turned (va_wsS RX6 47 yX6_sineOf wsX6_sineOf) := goodIn_app (goodIn_of _ (by decide +kernel)) ggX6_turned_X6_sineOf
theorem dX6_turned_0 : decode cX6_turned 0 = .ok (.iload_n 1, 1) := by decide +kernel
theorem dX6_turned_1 : decode cX6_turned 1 = .ok (.invokestatic 66, 3) := by decide +kernel
theorem dX6_turned_4 : decode cX6_turned 4 = .ok (.ifCond .eq 30, 3) := by decide +kernel
theorem dX6_turned_7 : decode cX6_turned 7 = .ok (.iload_n 2, 1) := by decide +kernel
theorem dX6_turned_8 : decode cX6_turned 8 = .ok (.invokestatic 66, 3) := by decide +kernel
theorem dX6_turned_11 : decode cX6_turned 11 = .ok (.ifCond .eq 23, 3) := by decide +kernel
theorem dX6_turned_14 : decode cX6_turned 14 = .ok (.iload_n 3, 1) := by decide +kernel
theorem dX6_turned_15 : decode cX6_turned 15 = .ok (.invokestatic 61, 3) := by decide +kernel
theorem dX6_turned_18 : decode cX6_turned 18 = .ok (.ifCond .eq 16, 3) := by decide +kernel
theorem dX6_turned_21 : decode cX6_turned 21 = .ok (.iload 4, 2) := by decide +kernel
theorem dX6_turned_23 : decode cX6_turned 23 = .ok (.i2l, 1) := by decide +kernel
theorem dX6_turned_24 : decode cX6_turned 24 = .ok (.lconst 0, 1) := by decide +kernel
theorem dX6_turned_25 : decode cX6_turned 25 = .ok (.ldc2_w 69, 3) := by decide +kernel
theorem dX6_turned_28 : decode cX6_turned 28 = .ok (.invokestatic 53, 3) := by decide +kernel
theorem dX6_turned_31 : decode cX6_turned 31 = .ok (.ifCond .ne 6, 3) := by decide +kernel
theorem dX6_turned_34 : decode cX6_turned 34 = .ok (.ldc 65, 2) := by decide +kernel
theorem dX6_turned_36 : decode cX6_turned 36 = .ok (.ireturn, 1) := by decide +kernel
theorem dX6_turned_37 : decode cX6_turned 37 = .ok (.iload_n 1, 1) := by decide +kernel
theorem dX6_turned_38 : decode cX6_turned 38 = .ok (.i2l, 1) := by decide +kernel
theorem dX6_turned_39 : decode cX6_turned 39 = .ok (.lstore 5, 2) := by decide +kernel
theorem dX6_turned_41 : decode cX6_turned 41 = .ok (.iload_n 1, 1) := by decide +kernel
theorem dX6_turned_42 : decode cX6_turned 42 = .ok (.i2l, 1) := by decide +kernel
theorem dX6_turned_43 : decode cX6_turned 43 = .ok (.ldc2_w 71, 3) := by decide +kernel
theorem dX6_turned_46 : decode cX6_turned 46 = .ok (.iload_n 2, 1) := by decide +kernel
theorem dX6_turned_47 : decode cX6_turned 47 = .ok (.i2l, 1) := by decide +kernel
theorem dX6_turned_48 : decode cX6_turned 48 = .ok (.lmul, 1) := by decide +kernel
theorem dX6_turned_49 : decode cX6_turned 49 = .ok (.ladd, 1) := by decide +kernel
theorem dX6_turned_50 : decode cX6_turned 50 = .ok (.ldc2_w 73, 3) := by decide +kernel
theorem dX6_turned_53 : decode cX6_turned 53 = .ok (.lmul, 1) := by decide +kernel
theorem dX6_turned_54 : decode cX6_turned 54 = .ok (.bipush 16, 2) := by decide +kernel
theorem dX6_turned_56 : decode cX6_turned 56 = .ok (.lshr, 1) := by decide +kernel
theorem dX6_turned_57 : decode cX6_turned 57 = .ok (.lstore 7, 2) := by decide +kernel
theorem dX6_turned_59 : decode cX6_turned 59 = .ok (.lload 5, 2) := by decide +kernel
theorem dX6_turned_61 : decode cX6_turned 61 = .ok (.iload_n 3, 1) := by decide +kernel
theorem dX6_turned_62 : decode cX6_turned 62 = .ok (.invokestatic 75, 3) := by decide +kernel
theorem dX6_turned_65 : decode cX6_turned 65 = .ok (.lmul, 1) := by decide +kernel
theorem dX6_turned_66 : decode cX6_turned 66 = .ok (.lload 7, 2) := by decide +kernel
theorem dX6_turned_68 : decode cX6_turned 68 = .ok (.iload_n 3, 1) := by decide +kernel
theorem dX6_turned_69 : decode cX6_turned 69 = .ok (.invokestatic 47, 3) := by decide +kernel
theorem dX6_turned_72 : decode cX6_turned 72 = .ok (.lmul, 1) := by decide +kernel
theorem dX6_turned_73 : decode cX6_turned 73 = .ok (.ladd, 1) := by decide +kernel
theorem dX6_turned_74 : decode cX6_turned 74 = .ok (.bipush 15, 2) := by decide +kernel
theorem dX6_turned_76 : decode cX6_turned 76 = .ok (.lshr, 1) := by decide +kernel
theorem dX6_turned_77 : decode cX6_turned 77 = .ok (.lstore 9, 2) := by decide +kernel
theorem dX6_turned_79 : decode cX6_turned 79 = .ok (.lload 7, 2) := by decide +kernel
theorem dX6_turned_81 : decode cX6_turned 81 = .ok (.iload_n 3, 1) := by decide +kernel
theorem dX6_turned_82 : decode cX6_turned 82 = .ok (.invokestatic 75, 3) := by decide +kernel
theorem dX6_turned_85 : decode cX6_turned 85 = .ok (.lmul, 1) := by decide +kernel
theorem dX6_turned_86 : decode cX6_turned 86 = .ok (.lload 5, 2) := by decide +kernel
theorem dX6_turned_88 : decode cX6_turned 88 = .ok (.iload_n 3, 1) := by decide +kernel
theorem dX6_turned_89 : decode cX6_turned 89 = .ok (.invokestatic 47, 3) := by decide +kernel
theorem dX6_turned_92 : decode cX6_turned 92 = .ok (.lmul, 1) := by decide +kernel
theorem dX6_turned_93 : decode cX6_turned 93 = .ok (.lsub, 1) := by decide +kernel
theorem dX6_turned_94 : decode cX6_turned 94 = .ok (.bipush 15, 2) := by decide +kernel
theorem dX6_turned_96 : decode cX6_turned 96 = .ok (.lshr, 1) := by decide +kernel
theorem dX6_turned_97 : decode cX6_turned 97 = .ok (.lstore 11, 2) := by decide +kernel
theorem dX6_turned_99 : decode cX6_turned 99 = .ok (.iload 4, 2) := by decide +kernel
theorem dX6_turned_101 : decode cX6_turned 101 = .ok (.ifCond .ne 8, 3) := by decide +kernel
theorem dX6_turned_104 : decode cX6_turned 104 = .ok (.lload 5, 2) := by decide +kernel
theorem dX6_turned_106 : decode cX6_turned 106 = .ok (.goto 27, 3) := by decide +kernel
theorem dX6_turned_109 : decode cX6_turned 109 = .ok (.iload 4, 2) := by decide +kernel
theorem dX6_turned_111 : decode cX6_turned 111 = .ok (.iconst 1, 1) := by decide +kernel
theorem dX6_turned_112 : decode cX6_turned 112 = .ok (.if_icmp .ne 8, 3) := by decide +kernel
theorem dX6_turned_115 : decode cX6_turned 115 = .ok (.lload 7, 2) := by decide +kernel
theorem dX6_turned_117 : decode cX6_turned 117 = .ok (.goto 16, 3) := by decide +kernel
theorem dX6_turned_120 : decode cX6_turned 120 = .ok (.iload 4, 2) := by decide +kernel
theorem dX6_turned_122 : decode cX6_turned 122 = .ok (.iconst 2, 1) := by decide +kernel
theorem dX6_turned_123 : decode cX6_turned 123 = .ok (.if_icmp .ne 8, 3) := by decide +kernel
theorem dX6_turned_126 : decode cX6_turned 126 = .ok (.lload 9, 2) := by decide +kernel
theorem dX6_turned_128 : decode cX6_turned 128 = .ok (.goto 5, 3) := by decide +kernel
theorem dX6_turned_131 : decode cX6_turned 131 = .ok (.lload 11, 2) := by decide +kernel
theorem dX6_turned_133 : decode cX6_turned 133 = .ok (.l2i, 1) := by decide +kernel
theorem dX6_turned_134 : decode cX6_turned 134 = .ok (.ireturn, 1) := by decide +kernel
set_option maxRecDepth 20000 in
theorem ggX6_backAlpha_X6_cosineOf : GoodIn wsX6_backAlpha wsX6_cosineOf := goodIn_r _ [4, 5, 6, 7, 3, 8, 9, 10, 11, 12] (by decide +kernel) (by decide +kernel)
set_option maxRecDepth 20000 in
theorem gX6_backAlpha_X6_cosineOf : GoodIn wsX6_backAlpha (va_wsS RX6 75 yX6_cosineOf wsX6_cosineOf) := goodIn_app (goodIn_of _ (by decide +kernel)) ggX6_backAlpha_X6_cosineOf
set_option maxRecDepth 20000 in
theorem ggX6_backAlpha_X6_sineOf : GoodIn wsX6_backAlpha wsX6_sineOf := goodIn_r _ [8, 9, 10, 11, 12] (by decide +kernel) (by decide +kernel)
set_option maxRecDepth 20000 in
theorem gX6_backAlpha_X6_sineOf : GoodIn wsX6_backAlpha (va_wsS RX6 47 yX6_sineOf wsX6_sineOf) := goodIn_app (goodIn_of _ (by decide +kernel)) ggX6_backAlpha_X6_sineOf
theorem dX6_backAlpha_0 : decode cX6_backAlpha 0 = .ok (.lload_n 0, 1) := by decide +kernel
theorem dX6_backAlpha_1 : decode cX6_backAlpha 1 = .ok (.iload 4, 2) := by decide +kernel
theorem dX6_backAlpha_3 : decode cX6_backAlpha 3 = .ok (.invokestatic 75, 3) := by decide +kernel
theorem dX6_backAlpha_6 : decode cX6_backAlpha 6 = .ok (.lmul, 1) := by decide +kernel
theorem dX6_backAlpha_7 : decode cX6_backAlpha 7 = .ok (.lload_n 2, 1) := by decide +kernel
theorem dX6_backAlpha_8 : decode cX6_backAlpha 8 = .ok (.iload 4, 2) := by decide +kernel
theorem dX6_backAlpha_10 : decode cX6_backAlpha 10 = .ok (.invokestatic 47, 3) := by decide +kernel
theorem dX6_backAlpha_13 : decode cX6_backAlpha 13 = .ok (.lmul, 1) := by decide +kernel
theorem dX6_backAlpha_14 : decode cX6_backAlpha 14 = .ok (.lsub, 1) := by decide +kernel
theorem dX6_backAlpha_15 : decode cX6_backAlpha 15 = .ok (.bipush 15, 2) := by decide +kernel
theorem dX6_backAlpha_17 : decode cX6_backAlpha 17 = .ok (.lshr, 1) := by decide +kernel
theorem dX6_backAlpha_18 : decode cX6_backAlpha 18 = .ok (.lreturn, 1) := by decide +kernel
set_option maxRecDepth 20000 in
theorem ggX6_backBeta_X6_sineOf : GoodIn wsX6_backBeta wsX6_sineOf := goodIn_r _ [4, 5, 6, 7, 8] (by decide +kernel) (by decide +kernel)
set_option maxRecDepth 20000 in
theorem gX6_backBeta_X6_sineOf : GoodIn wsX6_backBeta (va_wsS RX6 47 yX6_sineOf wsX6_sineOf) := goodIn_app (goodIn_of _ (by decide +kernel)) ggX6_backBeta_X6_sineOf
set_option maxRecDepth 20000 in
theorem ggX6_backBeta_X6_cosineOf : GoodIn wsX6_backBeta wsX6_cosineOf := goodIn_r _ [11, 12, 1, 2, 3, 4, 5, 6, 7, 8] (by decide +kernel) (by decide +kernel)
set_option maxRecDepth 20000 in
theorem gX6_backBeta_X6_cosineOf : GoodIn wsX6_backBeta (va_wsS RX6 75 yX6_cosineOf wsX6_cosineOf) := goodIn_app (goodIn_of _ (by decide +kernel)) ggX6_backBeta_X6_cosineOf
theorem dX6_backBeta_0 : decode cX6_backBeta 0 = .ok (.lload_n 0, 1) := by decide +kernel
theorem dX6_backBeta_1 : decode cX6_backBeta 1 = .ok (.iload 4, 2) := by decide +kernel
theorem dX6_backBeta_3 : decode cX6_backBeta 3 = .ok (.invokestatic 47, 3) := by decide +kernel
theorem dX6_backBeta_6 : decode cX6_backBeta 6 = .ok (.lmul, 1) := by decide +kernel
theorem dX6_backBeta_7 : decode cX6_backBeta 7 = .ok (.lload_n 2, 1) := by decide +kernel
theorem dX6_backBeta_8 : decode cX6_backBeta 8 = .ok (.iload 4, 2) := by decide +kernel
theorem dX6_backBeta_10 : decode cX6_backBeta 10 = .ok (.invokestatic 75, 3) := by decide +kernel
theorem dX6_backBeta_13 : decode cX6_backBeta 13 = .ok (.lmul, 1) := by decide +kernel
theorem dX6_backBeta_14 : decode cX6_backBeta 14 = .ok (.ladd, 1) := by decide +kernel
theorem dX6_backBeta_15 : decode cX6_backBeta 15 = .ok (.bipush 15, 2) := by decide +kernel
theorem dX6_backBeta_17 : decode cX6_backBeta 17 = .ok (.lshr, 1) := by decide +kernel
theorem dX6_backBeta_18 : decode cX6_backBeta 18 = .ok (.lreturn, 1) := by decide +kernel
set_option maxRecDepth 20000 in
theorem ggX6_back_X6_isCurrent : GoodIn wsX6_back wsX6_isCurrent := goodIn_r _ [5, 6, 7, 8, 9, 4, 10] (by decide +kernel) (by decide +kernel)
set_option maxRecDepth 20000 in
theorem gX6_back_X6_isCurrent : GoodIn wsX6_back (va_wsS RX6 66 yX6_isCurrent wsX6_isCurrent) := goodIn_app (goodIn_of _ (by decide +kernel)) ggX6_back_X6_isCurrent
set_option maxRecDepth 20000 in
theorem ggX6_back_X6_isAngle : GoodIn wsX6_back wsX6_isAngle := goodIn_r _ [13, 14, 8, 9, 4, 10] (by decide +kernel) (by decide +kernel)
set_option maxRecDepth 20000 in
theorem gX6_back_X6_isAngle : GoodIn wsX6_back (va_wsS RX6 61 yX6_isAngle wsX6_isAngle) := goodIn_app (goodIn_of _ (by decide +kernel)) ggX6_back_X6_isAngle
set_option maxRecDepth 20000 in
theorem ggX6_back_X6_in : GoodIn wsX6_back wsX6_in := goodIn_r _ [10] (by decide +kernel) (by decide +kernel)
set_option maxRecDepth 20000 in
theorem gX6_back_X6_in : GoodIn wsX6_back (va_wsS RX6 53 yX6_in wsX6_in) := goodIn_app (goodIn_of _ (by decide +kernel)) ggX6_back_X6_in
set_option maxRecDepth 20000 in
theorem ggX6_back_X6_backAlpha : GoodIn wsX6_back wsX6_backAlpha := goodIn_r _ [17, 18, 19, 4, 20, 21, 22, 23, 24, 25, 26, 27, 28] (by decide +kernel) (by decide +kernel)
set_option maxRecDepth 20000 in
theorem gX6_back_X6_backAlpha : GoodIn wsX6_back (va_wsS RX6 78 yX6_backAlpha wsX6_backAlpha) := goodIn_app (goodIn_of _ (by decide +kernel)) ggX6_back_X6_backAlpha
set_option maxRecDepth 20000 in
theorem ggX6_back_X6_backBeta : GoodIn wsX6_back wsX6_backBeta := goodIn_r _ [31, 22, 23, 4, 24, 25, 26, 27, 28, 18, 19, 20, 21] (by decide +kernel) (by decide +kernel)
set_option maxRecDepth 20000 in
theorem gX6_back_X6_backBeta : GoodIn wsX6_back (va_wsS RX6 82 yX6_backBeta wsX6_backBeta) := goodIn_app (goodIn_of _ (by decide +kernel)) ggX6_back_X6_backBeta
theorem dX6_back_0 : decode cX6_back 0 = .ok (.iload_n 1, 1) := by decide +kernel
theorem dX6_back_1 : decode cX6_back 1 = .ok (.invokestatic 66, 3) := by decide +kernel
theorem dX6_back_4 : decode cX6_back 4 = .ok (.ifCond .eq 28, 3) := by decide +kernel
theorem dX6_back_7 : decode cX6_back 7 = .ok (.iload_n 2, 1) := by decide +kernel
theorem dX6_back_8 : decode cX6_back 8 = .ok (.invokestatic 66, 3) := by decide +kernel
theorem dX6_back_11 : decode cX6_back 11 = .ok (.ifCond .eq 21, 3) := by decide +kernel
theorem dX6_back_14 : decode cX6_back 14 = .ok (.iload_n 3, 1) := by decide +kernel
theorem dX6_back_15 : decode cX6_back 15 = .ok (.invokestatic 61, 3) := by decide +kernel
theorem dX6_back_18 : decode cX6_back 18 = .ok (.ifCond .eq 14, 3) := by decide +kernel
theorem dX6_back_21 : decode cX6_back 21 = .ok (.iload 4, 2) := by decide +kernel
theorem dX6_back_23 : decode cX6_back 23 = .ok (.i2l, 1) := by decide +kernel
theorem dX6_back_24 : decode cX6_back 24 = .ok (.lconst 0, 1) := by decide +kernel
theorem dX6_back_25 : decode cX6_back 25 = .ok (.lconst 1, 1) := by decide +kernel
theorem dX6_back_26 : decode cX6_back 26 = .ok (.invokestatic 53, 3) := by decide +kernel
theorem dX6_back_29 : decode cX6_back 29 = .ok (.ifCond .ne 6, 3) := by decide +kernel
theorem dX6_back_32 : decode cX6_back 32 = .ok (.ldc 65, 2) := by decide +kernel
theorem dX6_back_34 : decode cX6_back 34 = .ok (.ireturn, 1) := by decide +kernel
theorem dX6_back_35 : decode cX6_back 35 = .ok (.iload 4, 2) := by decide +kernel
theorem dX6_back_37 : decode cX6_back 37 = .ok (.ifCond .ne 14, 3) := by decide +kernel
theorem dX6_back_40 : decode cX6_back 40 = .ok (.iload_n 1, 1) := by decide +kernel
theorem dX6_back_41 : decode cX6_back 41 = .ok (.i2l, 1) := by decide +kernel
theorem dX6_back_42 : decode cX6_back 42 = .ok (.iload_n 2, 1) := by decide +kernel
theorem dX6_back_43 : decode cX6_back 43 = .ok (.i2l, 1) := by decide +kernel
theorem dX6_back_44 : decode cX6_back 44 = .ok (.iload_n 3, 1) := by decide +kernel
theorem dX6_back_45 : decode cX6_back 45 = .ok (.invokestatic 78, 3) := by decide +kernel
theorem dX6_back_48 : decode cX6_back 48 = .ok (.goto 11, 3) := by decide +kernel
theorem dX6_back_51 : decode cX6_back 51 = .ok (.iload_n 1, 1) := by decide +kernel
theorem dX6_back_52 : decode cX6_back 52 = .ok (.i2l, 1) := by decide +kernel
theorem dX6_back_53 : decode cX6_back 53 = .ok (.iload_n 2, 1) := by decide +kernel
theorem dX6_back_54 : decode cX6_back 54 = .ok (.i2l, 1) := by decide +kernel
theorem dX6_back_55 : decode cX6_back 55 = .ok (.iload_n 3, 1) := by decide +kernel
theorem dX6_back_56 : decode cX6_back 56 = .ok (.invokestatic 82, 3) := by decide +kernel
theorem dX6_back_59 : decode cX6_back 59 = .ok (.l2i, 1) := by decide +kernel
theorem dX6_back_60 : decode cX6_back 60 = .ok (.ireturn, 1) := by decide +kernel
theorem dX6_findTimes_0 : decode cX6_findTimes 0 = .ok (.lload_n 1, 1) := by decide +kernel
theorem dX6_findTimes_1 : decode cX6_findTimes 1 = .ok (.lstore 5, 2) := by decide +kernel
theorem dX6_findTimes_3 : decode cX6_findTimes 3 = .ok (.lload_n 3, 1) := by decide +kernel
theorem dX6_findTimes_4 : decode cX6_findTimes 4 = .ok (.ldc2_w 85, 3) := by decide +kernel
theorem dX6_findTimes_7 : decode cX6_findTimes 7 = .ok (.lmul, 1) := by decide +kernel
theorem dX6_findTimes_8 : decode cX6_findTimes 8 = .ok (.lload_n 1, 1) := by decide +kernel
theorem dX6_findTimes_9 : decode cX6_findTimes 9 = .ok (.ldc2_w 40, 3) := by decide +kernel
theorem dX6_findTimes_12 : decode cX6_findTimes 12 = .ok (.lmul, 1) := by decide +kernel
theorem dX6_findTimes_13 : decode cX6_findTimes 13 = .ok (.lsub, 1) := by decide +kernel
theorem dX6_findTimes_14 : decode cX6_findTimes 14 = .ok (.bipush 16, 2) := by decide +kernel
theorem dX6_findTimes_16 : decode cX6_findTimes 16 = .ok (.lshr, 1) := by decide +kernel
theorem dX6_findTimes_17 : decode cX6_findTimes 17 = .ok (.lstore 7, 2) := by decide +kernel
theorem dX6_findTimes_19 : decode cX6_findTimes 19 = .ok (.lload 5, 2) := by decide +kernel
theorem dX6_findTimes_21 : decode cX6_findTimes 21 = .ok (.lneg, 1) := by decide +kernel
theorem dX6_findTimes_22 : decode cX6_findTimes 22 = .ok (.lload 7, 2) := by decide +kernel
theorem dX6_findTimes_24 : decode cX6_findTimes 24 = .ok (.lsub, 1) := by decide +kernel
theorem dX6_findTimes_25 : decode cX6_findTimes 25 = .ok (.lstore 9, 2) := by decide +kernel
theorem dX6_findTimes_27 : decode cX6_findTimes 27 = .ok (.lload 5, 2) := by decide +kernel
theorem dX6_findTimes_29 : decode cX6_findTimes 29 = .ok (.lload 7, 2) := by decide +kernel
theorem dX6_findTimes_31 : decode cX6_findTimes 31 = .ok (.lcmp, 1) := by decide +kernel
theorem dX6_findTimes_32 : decode cX6_findTimes 32 = .ok (.ifCond .le 21, 3) := by decide +kernel
theorem dX6_findTimes_35 : decode cX6_findTimes 35 = .ok (.lload 5, 2) := by decide +kernel
theorem dX6_findTimes_37 : decode cX6_findTimes 37 = .ok (.lload 9, 2) := by decide +kernel
theorem dX6_findTimes_39 : decode cX6_findTimes 39 = .ok (.lcmp, 1) := by decide +kernel
theorem dX6_findTimes_40 : decode cX6_findTimes 40 = .ok (.ifCond .le 8, 3) := by decide +kernel
theorem dX6_findTimes_43 : decode cX6_findTimes 43 = .ok (.lload 5, 2) := by decide +kernel
theorem dX6_findTimes_45 : decode cX6_findTimes 45 = .ok (.goto 23, 3) := by decide +kernel
theorem dX6_findTimes_48 : decode cX6_findTimes 48 = .ok (.lload 9, 2) := by decide +kernel
theorem dX6_findTimes_50 : decode cX6_findTimes 50 = .ok (.goto 18, 3) := by decide +kernel
theorem dX6_findTimes_53 : decode cX6_findTimes 53 = .ok (.lload 7, 2) := by decide +kernel
theorem dX6_findTimes_55 : decode cX6_findTimes 55 = .ok (.lload 9, 2) := by decide +kernel
theorem dX6_findTimes_57 : decode cX6_findTimes 57 = .ok (.lcmp, 1) := by decide +kernel
theorem dX6_findTimes_58 : decode cX6_findTimes 58 = .ok (.ifCond .le 8, 3) := by decide +kernel
theorem dX6_findTimes_61 : decode cX6_findTimes 61 = .ok (.lload 7, 2) := by decide +kernel
theorem dX6_findTimes_63 : decode cX6_findTimes 63 = .ok (.goto 5, 3) := by decide +kernel
theorem dX6_findTimes_66 : decode cX6_findTimes 66 = .ok (.lload 9, 2) := by decide +kernel
theorem dX6_findTimes_68 : decode cX6_findTimes 68 = .ok (.lstore 11, 2) := by decide +kernel
theorem dX6_findTimes_70 : decode cX6_findTimes 70 = .ok (.lload 5, 2) := by decide +kernel
theorem dX6_findTimes_72 : decode cX6_findTimes 72 = .ok (.lload 7, 2) := by decide +kernel
theorem dX6_findTimes_74 : decode cX6_findTimes 74 = .ok (.lcmp, 1) := by decide +kernel
theorem dX6_findTimes_75 : decode cX6_findTimes 75 = .ok (.ifCond .ge 21, 3) := by decide +kernel
theorem dX6_findTimes_78 : decode cX6_findTimes 78 = .ok (.lload 5, 2) := by decide +kernel
theorem dX6_findTimes_80 : decode cX6_findTimes 80 = .ok (.lload 9, 2) := by decide +kernel
theorem dX6_findTimes_82 : decode cX6_findTimes 82 = .ok (.lcmp, 1) := by decide +kernel
theorem dX6_findTimes_83 : decode cX6_findTimes 83 = .ok (.ifCond .ge 8, 3) := by decide +kernel
theorem dX6_findTimes_86 : decode cX6_findTimes 86 = .ok (.lload 5, 2) := by decide +kernel
theorem dX6_findTimes_88 : decode cX6_findTimes 88 = .ok (.goto 23, 3) := by decide +kernel
theorem dX6_findTimes_91 : decode cX6_findTimes 91 = .ok (.lload 9, 2) := by decide +kernel
theorem dX6_findTimes_93 : decode cX6_findTimes 93 = .ok (.goto 18, 3) := by decide +kernel
theorem dX6_findTimes_96 : decode cX6_findTimes 96 = .ok (.lload 7, 2) := by decide +kernel
theorem dX6_findTimes_98 : decode cX6_findTimes 98 = .ok (.lload 9, 2) := by decide +kernel
theorem dX6_findTimes_100 : decode cX6_findTimes 100 = .ok (.lcmp, 1) := by decide +kernel
theorem dX6_findTimes_101 : decode cX6_findTimes 101 = .ok (.ifCond .ge 8, 3) := by decide +kernel
theorem dX6_findTimes_104 : decode cX6_findTimes 104 = .ok (.lload 7, 2) := by decide +kernel
theorem dX6_findTimes_106 : decode cX6_findTimes 106 = .ok (.goto 5, 3) := by decide +kernel
theorem dX6_findTimes_109 : decode cX6_findTimes 109 = .ok (.lload 9, 2) := by decide +kernel
theorem dX6_findTimes_111 : decode cX6_findTimes 111 = .ok (.lstore 13, 2) := by decide +kernel
theorem dX6_findTimes_113 : decode cX6_findTimes 113 = .ok (.lload 11, 2) := by decide +kernel
theorem dX6_findTimes_115 : decode cX6_findTimes 115 = .ok (.lload 13, 2) := by decide +kernel
theorem dX6_findTimes_117 : decode cX6_findTimes 117 = .ok (.ladd, 1) := by decide +kernel
theorem dX6_findTimes_118 : decode cX6_findTimes 118 = .ok (.ldc2_w 71, 3) := by decide +kernel
theorem dX6_findTimes_121 : decode cX6_findTimes 121 = .ok (.ldiv, 1) := by decide +kernel
theorem dX6_findTimes_122 : decode cX6_findTimes 122 = .ok (.lstore 15, 2) := by decide +kernel
theorem dX6_findTimes_124 : decode cX6_findTimes 124 = .ok (.aload_n 0, 1) := by decide +kernel
theorem dX6_findTimes_125 : decode cX6_findTimes 125 = .ok (.iconst 0, 1) := by decide +kernel
theorem dX6_findTimes_126 : decode cX6_findTimes 126 = .ok (.putfield 87, 3) := by decide +kernel
theorem dX6_findTimes_129 : decode cX6_findTimes 129 = .ok (.iconst 0, 1) := by decide +kernel
theorem dX6_findTimes_130 : decode cX6_findTimes 130 = .ok (.istore 17, 2) := by decide +kernel
theorem dX6_findTimes_132 : decode cX6_findTimes 132 = .ok (.iload 17, 2) := by decide +kernel
theorem dX6_findTimes_134 : decode cX6_findTimes 134 = .ok (.iconst 3, 1) := by decide +kernel
theorem dX6_findTimes_135 : decode cX6_findTimes 135 = .ok (.if_icmp .ge 125, 3) := by decide +kernel
theorem dX6_findTimes_138 : decode cX6_findTimes 138 = .ok (.iload 17, 2) := by decide +kernel
theorem dX6_findTimes_140 : decode cX6_findTimes 140 = .ok (.ifCond .ne 8, 3) := by decide +kernel
theorem dX6_findTimes_143 : decode cX6_findTimes 143 = .ok (.lload 5, 2) := by decide +kernel
theorem dX6_findTimes_145 : decode cX6_findTimes 145 = .ok (.goto 16, 3) := by decide +kernel
theorem dX6_findTimes_148 : decode cX6_findTimes 148 = .ok (.iload 17, 2) := by decide +kernel
theorem dX6_findTimes_150 : decode cX6_findTimes 150 = .ok (.iconst 1, 1) := by decide +kernel
theorem dX6_findTimes_151 : decode cX6_findTimes 151 = .ok (.if_icmp .ne 8, 3) := by decide +kernel
theorem dX6_findTimes_154 : decode cX6_findTimes 154 = .ok (.lload 7, 2) := by decide +kernel
theorem dX6_findTimes_156 : decode cX6_findTimes 156 = .ok (.goto 5, 3) := by decide +kernel
theorem dX6_findTimes_159 : decode cX6_findTimes 159 = .ok (.lload 9, 2) := by decide +kernel
theorem dX6_findTimes_161 : decode cX6_findTimes 161 = .ok (.lstore 18, 2) := by decide +kernel
theorem dX6_findTimes_163 : decode cX6_findTimes 163 = .ok (.lload 18, 2) := by decide +kernel
theorem dX6_findTimes_165 : decode cX6_findTimes 165 = .ok (.lload 15, 2) := by decide +kernel
theorem dX6_findTimes_167 : decode cX6_findTimes 167 = .ok (.lsub, 1) := by decide +kernel
theorem dX6_findTimes_168 : decode cX6_findTimes 168 = .ok (.ldc2_w 91, 3) := by decide +kernel
theorem dX6_findTimes_171 : decode cX6_findTimes 171 = .ok (.lmul, 1) := by decide +kernel
theorem dX6_findTimes_172 : decode cX6_findTimes 172 = .ok (.aload_n 0, 1) := by decide +kernel
theorem dX6_findTimes_173 : decode cX6_findTimes 173 = .ok (.getfield 7, 3) := by decide +kernel
theorem dX6_findTimes_176 : decode cX6_findTimes 176 = .ok (.iconst 0, 1) := by decide +kernel
theorem dX6_findTimes_177 : decode cX6_findTimes 177 = .ok (.iaload, 1) := by decide +kernel
theorem dX6_findTimes_178 : decode cX6_findTimes 178 = .ok (.i2l, 1) := by decide +kernel
theorem dX6_findTimes_179 : decode cX6_findTimes 179 = .ok (.ldiv, 1) := by decide +kernel
theorem dX6_findTimes_180 : decode cX6_findTimes 180 = .ok (.ldc2_w 93, 3) := by decide +kernel
theorem dX6_findTimes_183 : decode cX6_findTimes 183 = .ok (.ladd, 1) := by decide +kernel
theorem dX6_findTimes_184 : decode cX6_findTimes 184 = .ok (.lstore 20, 2) := by decide +kernel
theorem dX6_findTimes_186 : decode cX6_findTimes 186 = .ok (.aload_n 0, 1) := by decide +kernel
theorem dX6_findTimes_187 : decode cX6_findTimes 187 = .ok (.aload_n 0, 1) := by decide +kernel
theorem dX6_findTimes_188 : decode cX6_findTimes 188 = .ok (.getfield 87, 3) := by decide +kernel
theorem dX6_findTimes_191 : decode cX6_findTimes 191 = .ok (.ifCond .ne 19, 3) := by decide +kernel
theorem dX6_findTimes_194 : decode cX6_findTimes 194 = .ok (.lload 20, 2) := by decide +kernel
theorem dX6_findTimes_196 : decode cX6_findTimes 196 = .ok (.lconst 0, 1) := by decide +kernel
theorem dX6_findTimes_197 : decode cX6_findTimes 197 = .ok (.lcmp, 1) := by decide +kernel
theorem dX6_findTimes_198 : decode cX6_findTimes 198 = .ok (.ifCond .lt 12, 3) := by decide +kernel
theorem dX6_findTimes_201 : decode cX6_findTimes 201 = .ok (.lload 20, 2) := by decide +kernel
theorem dX6_findTimes_203 : decode cX6_findTimes 203 = .ok (.ldc2_w 91, 3) := by decide +kernel
theorem dX6_findTimes_206 : decode cX6_findTimes 206 = .ok (.lcmp, 1) := by decide +kernel
theorem dX6_findTimes_207 : decode cX6_findTimes 207 = .ok (.ifCond .le 7, 3) := by decide +kernel
theorem dX6_findTimes_210 : decode cX6_findTimes 210 = .ok (.iconst 1, 1) := by decide +kernel
theorem dX6_findTimes_211 : decode cX6_findTimes 211 = .ok (.goto 4, 3) := by decide +kernel
theorem dX6_findTimes_214 : decode cX6_findTimes 214 = .ok (.iconst 0, 1) := by decide +kernel
theorem dX6_findTimes_215 : decode cX6_findTimes 215 = .ok (.putfield 87, 3) := by decide +kernel
theorem dX6_findTimes_218 : decode cX6_findTimes 218 = .ok (.aload_n 0, 1) := by decide +kernel
theorem dX6_findTimes_219 : decode cX6_findTimes 219 = .ok (.getfield 35, 3) := by decide +kernel
theorem dX6_findTimes_222 : decode cX6_findTimes 222 = .ok (.iload 17, 2) := by decide +kernel
theorem dX6_findTimes_224 : decode cX6_findTimes 224 = .ok (.lload 20, 2) := by decide +kernel
theorem dX6_findTimes_226 : decode cX6_findTimes 226 = .ok (.lconst 0, 1) := by decide +kernel
theorem dX6_findTimes_227 : decode cX6_findTimes 227 = .ok (.lcmp, 1) := by decide +kernel
theorem dX6_findTimes_228 : decode cX6_findTimes 228 = .ok (.ifCond .ge 7, 3) := by decide +kernel
theorem dX6_findTimes_231 : decode cX6_findTimes 231 = .ok (.lconst 0, 1) := by decide +kernel
theorem dX6_findTimes_232 : decode cX6_findTimes 232 = .ok (.goto 20, 3) := by decide +kernel
theorem dX6_findTimes_235 : decode cX6_findTimes 235 = .ok (.lload 20, 2) := by decide +kernel
theorem dX6_findTimes_237 : decode cX6_findTimes 237 = .ok (.ldc2_w 91, 3) := by decide +kernel
theorem dX6_findTimes_240 : decode cX6_findTimes 240 = .ok (.lcmp, 1) := by decide +kernel
theorem dX6_findTimes_241 : decode cX6_findTimes 241 = .ok (.ifCond .le 9, 3) := by decide +kernel
theorem dX6_findTimes_244 : decode cX6_findTimes 244 = .ok (.ldc2_w 91, 3) := by decide +kernel
theorem dX6_findTimes_247 : decode cX6_findTimes 247 = .ok (.goto 5, 3) := by decide +kernel
theorem dX6_findTimes_250 : decode cX6_findTimes 250 = .ok (.lload 20, 2) := by decide +kernel
theorem dX6_findTimes_252 : decode cX6_findTimes 252 = .ok (.l2i, 1) := by decide +kernel
theorem dX6_findTimes_253 : decode cX6_findTimes 253 = .ok (.iastore, 1) := by decide +kernel
theorem dX6_findTimes_254 : decode cX6_findTimes 254 = .ok (.iinc 17 1, 3) := by decide +kernel
theorem dX6_findTimes_257 : decode cX6_findTimes 257 = .ok (.goto (-125), 3) := by decide +kernel
theorem dX6_findTimes_260 : decode cX6_findTimes 260 = .ok (.return_, 1) := by decide +kernel
set_option maxRecDepth 20000 in
theorem ggX6_times_X6_isCurrent : GoodIn wsX6_times wsX6_isCurrent := goodIn_r _ [8, 9, 10, 11, 12, 7, 13] (by decide +kernel) (by decide +kernel)
set_option maxRecDepth 20000 in
theorem gX6_times_X6_isCurrent : GoodIn wsX6_times (va_wsS RX6 66 yX6_isCurrent wsX6_isCurrent) := goodIn_app (goodIn_of _ (by decide +kernel)) ggX6_times_X6_isCurrent
set_option maxRecDepth 20000 in
theorem ggX6_times_X6_in : GoodIn wsX6_times wsX6_in := goodIn_r _ [13] (by decide +kernel) (by decide +kernel)
set_option maxRecDepth 20000 in
theorem gX6_times_X6_in : GoodIn wsX6_times (va_wsS RX6 53 yX6_in wsX6_in) := goodIn_app (goodIn_of _ (by decide +kernel)) ggX6_times_X6_in
set_option maxRecDepth 20000 in
theorem ggX6_times_X6_findTimes : GoodIn wsX6_times wsX6_findTimes := goodIn_r _ [17, 18, 19, 20, 4, 21, 22, 23, 3, 24, 25, 26, 27, 28, 29, 30, 31, 32, 33, 34, 35, 36, 37, 38, 39, 40, 41, 42, 43, 44, 45, 46, 47, 48] (by decide +kernel) (by decide +kernel)
set_option maxRecDepth 20000 in
theorem gX6_times_X6_findTimes : GoodIn wsX6_times (wsV RX6 95 RX6 yX6_findTimes wsX6_findTimes) := goodIn_app (goodIn_of _ (by decide +kernel)) ggX6_times_X6_findTimes
theorem dX6_times_0 : decode cX6_times 0 = .ok (.iload_n 1, 1) := by decide +kernel
theorem dX6_times_1 : decode cX6_times 1 = .ok (.invokestatic 66, 3) := by decide +kernel
theorem dX6_times_4 : decode cX6_times 4 = .ok (.ifCond .eq 22, 3) := by decide +kernel
theorem dX6_times_7 : decode cX6_times 7 = .ok (.iload_n 2, 1) := by decide +kernel
theorem dX6_times_8 : decode cX6_times 8 = .ok (.invokestatic 66, 3) := by decide +kernel
theorem dX6_times_11 : decode cX6_times 11 = .ok (.ifCond .eq 15, 3) := by decide +kernel
theorem dX6_times_14 : decode cX6_times 14 = .ok (.iload_n 3, 1) := by decide +kernel
theorem dX6_times_15 : decode cX6_times 15 = .ok (.i2l, 1) := by decide +kernel
theorem dX6_times_16 : decode cX6_times 16 = .ok (.lconst 0, 1) := by decide +kernel
theorem dX6_times_17 : decode cX6_times 17 = .ok (.ldc2_w 69, 3) := by decide +kernel
theorem dX6_times_20 : decode cX6_times 20 = .ok (.invokestatic 53, 3) := by decide +kernel
theorem dX6_times_23 : decode cX6_times 23 = .ok (.ifCond .ne 6, 3) := by decide +kernel
theorem dX6_times_26 : decode cX6_times 26 = .ok (.ldc 65, 2) := by decide +kernel
theorem dX6_times_28 : decode cX6_times 28 = .ok (.ireturn, 1) := by decide +kernel
theorem dX6_times_29 : decode cX6_times 29 = .ok (.aload_n 0, 1) := by decide +kernel
theorem dX6_times_30 : decode cX6_times 30 = .ok (.iload_n 1, 1) := by decide +kernel
theorem dX6_times_31 : decode cX6_times 31 = .ok (.i2l, 1) := by decide +kernel
theorem dX6_times_32 : decode cX6_times 32 = .ok (.iload_n 2, 1) := by decide +kernel
theorem dX6_times_33 : decode cX6_times 33 = .ok (.i2l, 1) := by decide +kernel
theorem dX6_times_34 : decode cX6_times 34 = .ok (.invokevirtual 95, 3) := by decide +kernel
theorem dX6_times_37 : decode cX6_times 37 = .ok (.iload_n 3, 1) := by decide +kernel
theorem dX6_times_38 : decode cX6_times 38 = .ok (.iconst 3, 1) := by decide +kernel
theorem dX6_times_39 : decode cX6_times 39 = .ok (.if_icmp .ge 12, 3) := by decide +kernel
theorem dX6_times_42 : decode cX6_times 42 = .ok (.aload_n 0, 1) := by decide +kernel
theorem dX6_times_43 : decode cX6_times 43 = .ok (.getfield 35, 3) := by decide +kernel
theorem dX6_times_46 : decode cX6_times 46 = .ok (.iload_n 3, 1) := by decide +kernel
theorem dX6_times_47 : decode cX6_times 47 = .ok (.iaload, 1) := by decide +kernel
theorem dX6_times_48 : decode cX6_times 48 = .ok (.goto 15, 3) := by decide +kernel
theorem dX6_times_51 : decode cX6_times 51 = .ok (.aload_n 0, 1) := by decide +kernel
theorem dX6_times_52 : decode cX6_times 52 = .ok (.getfield 87, 3) := by decide +kernel
theorem dX6_times_55 : decode cX6_times 55 = .ok (.ifCond .eq 7, 3) := by decide +kernel
theorem dX6_times_58 : decode cX6_times 58 = .ok (.iconst 1, 1) := by decide +kernel
theorem dX6_times_59 : decode cX6_times 59 = .ok (.goto 4, 3) := by decide +kernel
theorem dX6_times_62 : decode cX6_times 62 = .ok (.iconst 0, 1) := by decide +kernel
theorem dX6_times_63 : decode cX6_times 63 = .ok (.ireturn, 1) := by decide +kernel
set_option maxRecDepth 20000 in
theorem ggX6_rule_X6_in : GoodIn wsX6_rule wsX6_in := goodIn_r _ [9] (by decide +kernel) (by decide +kernel)
set_option maxRecDepth 20000 in
theorem gX6_rule_X6_in : GoodIn wsX6_rule (va_wsS RX6 53 yX6_in wsX6_in) := goodIn_app (goodIn_of _ (by decide +kernel)) ggX6_rule_X6_in
theorem dX6_rule_0 : decode cX6_rule 0 = .ok (.iload_n 1, 1) := by decide +kernel
theorem dX6_rule_1 : decode cX6_rule 1 = .ok (.i2l, 1) := by decide +kernel
theorem dX6_rule_2 : decode cX6_rule 2 = .ok (.lconst 0, 1) := by decide +kernel
theorem dX6_rule_3 : decode cX6_rule 3 = .ok (.ldc2_w 99, 3) := by decide +kernel
theorem dX6_rule_6 : decode cX6_rule 6 = .ok (.invokestatic 53, 3) := by decide +kernel
theorem dX6_rule_9 : decode cX6_rule 9 = .ok (.ifCond .ne 6, 3) := by decide +kernel
theorem dX6_rule_12 : decode cX6_rule 12 = .ok (.ldc 65, 2) := by decide +kernel
theorem dX6_rule_14 : decode cX6_rule 14 = .ok (.ireturn, 1) := by decide +kernel
theorem dX6_rule_15 : decode cX6_rule 15 = .ok (.iload_n 1, 1) := by decide +kernel
theorem dX6_rule_16 : decode cX6_rule 16 = .ok (.ifCond .eq 8, 3) := by decide +kernel
theorem dX6_rule_19 : decode cX6_rule 19 = .ok (.iload_n 1, 1) := by decide +kernel
theorem dX6_rule_20 : decode cX6_rule 20 = .ok (.iconst 3, 1) := by decide +kernel
theorem dX6_rule_21 : decode cX6_rule 21 = .ok (.if_icmp .ne 8, 3) := by decide +kernel
theorem dX6_rule_24 : decode cX6_rule 24 = .ok (.bipush 100, 2) := by decide +kernel
theorem dX6_rule_26 : decode cX6_rule 26 = .ok (.goto 25, 3) := by decide +kernel
theorem dX6_rule_29 : decode cX6_rule 29 = .ok (.iload_n 1, 1) := by decide +kernel
theorem dX6_rule_30 : decode cX6_rule 30 = .ok (.iconst 2, 1) := by decide +kernel
theorem dX6_rule_31 : decode cX6_rule 31 = .ok (.if_icmp .ne 9, 3) := by decide +kernel
theorem dX6_rule_34 : decode cX6_rule 34 = .ok (.sipush (-2000), 3) := by decide +kernel
theorem dX6_rule_37 : decode cX6_rule 37 = .ok (.goto 14, 3) := by decide +kernel
theorem dX6_rule_40 : decode cX6_rule 40 = .ok (.iload_n 1, 1) := by decide +kernel
theorem dX6_rule_41 : decode cX6_rule 41 = .ok (.iconst 5, 1) := by decide +kernel
theorem dX6_rule_42 : decode cX6_rule 42 = .ok (.if_icmp .ne 8, 3) := by decide +kernel
theorem dX6_rule_45 : decode cX6_rule 45 = .ok (.ldc 101, 2) := by decide +kernel
theorem dX6_rule_47 : decode cX6_rule 47 = .ok (.goto 4, 3) := by decide +kernel
theorem dX6_rule_50 : decode cX6_rule 50 = .ok (.iconst 0, 1) := by decide +kernel
theorem dX6_rule_51 : decode cX6_rule 51 = .ok (.istore_n 3, 1) := by decide +kernel
theorem dX6_rule_52 : decode cX6_rule 52 = .ok (.iload_n 1, 1) := by decide +kernel
theorem dX6_rule_53 : decode cX6_rule 53 = .ok (.ifCond .ne 9, 3) := by decide +kernel
theorem dX6_rule_56 : decode cX6_rule 56 = .ok (.sipush 30000, 3) := by decide +kernel
theorem dX6_rule_59 : decode cX6_rule 59 = .ok (.goto 38, 3) := by decide +kernel
theorem dX6_rule_62 : decode cX6_rule 62 = .ok (.iload_n 1, 1) := by decide +kernel
theorem dX6_rule_63 : decode cX6_rule 63 = .ok (.iconst 1, 1) := by decide +kernel
theorem dX6_rule_64 : decode cX6_rule 64 = .ok (.if_icmp .ne 9, 3) := by decide +kernel
theorem dX6_rule_67 : decode cX6_rule 67 = .ok (.sipush 20000, 3) := by decide +kernel
theorem dX6_rule_70 : decode cX6_rule 70 = .ok (.goto 27, 3) := by decide +kernel
theorem dX6_rule_73 : decode cX6_rule 73 = .ok (.iload_n 1, 1) := by decide +kernel
theorem dX6_rule_74 : decode cX6_rule 74 = .ok (.iconst 2, 1) := by decide +kernel
theorem dX6_rule_75 : decode cX6_rule 75 = .ok (.if_icmp .ne 9, 3) := by decide +kernel
theorem dX6_rule_78 : decode cX6_rule 78 = .ok (.sipush 2000, 3) := by decide +kernel
theorem dX6_rule_81 : decode cX6_rule 81 = .ok (.goto 16, 3) := by decide +kernel
theorem dX6_rule_84 : decode cX6_rule 84 = .ok (.iload_n 1, 1) := by decide +kernel
theorem dX6_rule_85 : decode cX6_rule 85 = .ok (.iconst 3, 1) := by decide +kernel
theorem dX6_rule_86 : decode cX6_rule 86 = .ok (.if_icmp .ne 9, 3) := by decide +kernel
theorem dX6_rule_89 : decode cX6_rule 89 = .ok (.sipush 32000, 3) := by decide +kernel
theorem dX6_rule_92 : decode cX6_rule 92 = .ok (.goto 5, 3) := by decide +kernel
theorem dX6_rule_95 : decode cX6_rule 95 = .ok (.ldc 102, 2) := by decide +kernel
theorem dX6_rule_97 : decode cX6_rule 97 = .ok (.istore 4, 2) := by decide +kernel
theorem dX6_rule_99 : decode cX6_rule 99 = .ok (.iload_n 2, 1) := by decide +kernel
theorem dX6_rule_100 : decode cX6_rule 100 = .ok (.i2l, 1) := by decide +kernel
theorem dX6_rule_101 : decode cX6_rule 101 = .ok (.iload_n 3, 1) := by decide +kernel
theorem dX6_rule_102 : decode cX6_rule 102 = .ok (.i2l, 1) := by decide +kernel
theorem dX6_rule_103 : decode cX6_rule 103 = .ok (.iload 4, 2) := by decide +kernel
theorem dX6_rule_105 : decode cX6_rule 105 = .ok (.i2l, 1) := by decide +kernel
theorem dX6_rule_106 : decode cX6_rule 106 = .ok (.invokestatic 53, 3) := by decide +kernel
theorem dX6_rule_109 : decode cX6_rule 109 = .ok (.ifCond .ne 6, 3) := by decide +kernel
theorem dX6_rule_112 : decode cX6_rule 112 = .ok (.ldc 65, 2) := by decide +kernel
theorem dX6_rule_114 : decode cX6_rule 114 = .ok (.ireturn, 1) := by decide +kernel
theorem dX6_rule_115 : decode cX6_rule 115 = .ok (.aload_n 0, 1) := by decide +kernel
theorem dX6_rule_116 : decode cX6_rule 116 = .ok (.getfield 7, 3) := by decide +kernel
theorem dX6_rule_119 : decode cX6_rule 119 = .ok (.iload_n 1, 1) := by decide +kernel
theorem dX6_rule_120 : decode cX6_rule 120 = .ok (.iaload, 1) := by decide +kernel
theorem dX6_rule_121 : decode cX6_rule 121 = .ok (.istore 5, 2) := by decide +kernel
theorem dX6_rule_123 : decode cX6_rule 123 = .ok (.aload_n 0, 1) := by decide +kernel
theorem dX6_rule_124 : decode cX6_rule 124 = .ok (.getfield 7, 3) := by decide +kernel
theorem dX6_rule_127 : decode cX6_rule 127 = .ok (.iload_n 1, 1) := by decide +kernel
theorem dX6_rule_128 : decode cX6_rule 128 = .ok (.iload_n 2, 1) := by decide +kernel
theorem dX6_rule_129 : decode cX6_rule 129 = .ok (.iastore, 1) := by decide +kernel
theorem dX6_rule_130 : decode cX6_rule 130 = .ok (.iload 5, 2) := by decide +kernel
theorem dX6_rule_132 : decode cX6_rule 132 = .ok (.ireturn, 1) := by decide +kernel
set_option maxRecDepth 20000 in
theorem ggX6_gain_X6_in : GoodIn wsX6_gain wsX6_in := goodIn_r _ [9] (by decide +kernel) (by decide +kernel)
set_option maxRecDepth 20000 in
theorem gX6_gain_X6_in : GoodIn wsX6_gain (va_wsS RX6 53 yX6_in wsX6_in) := goodIn_app (goodIn_of _ (by decide +kernel)) ggX6_gain_X6_in
theorem dX6_gain_0 : decode cX6_gain 0 = .ok (.iload_n 1, 1) := by decide +kernel
theorem dX6_gain_1 : decode cX6_gain 1 = .ok (.i2l, 1) := by decide +kernel
theorem dX6_gain_2 : decode cX6_gain 2 = .ok (.lconst 0, 1) := by decide +kernel
theorem dX6_gain_3 : decode cX6_gain 3 = .ok (.ldc2_w 71, 3) := by decide +kernel
theorem dX6_gain_6 : decode cX6_gain 6 = .ok (.invokestatic 53, 3) := by decide +kernel
theorem dX6_gain_9 : decode cX6_gain 9 = .ok (.ifCond .eq 25, 3) := by decide +kernel
theorem dX6_gain_12 : decode cX6_gain 12 = .ok (.iload_n 2, 1) := by decide +kernel
theorem dX6_gain_13 : decode cX6_gain 13 = .ok (.i2l, 1) := by decide +kernel
theorem dX6_gain_14 : decode cX6_gain 14 = .ok (.lconst 0, 1) := by decide +kernel
theorem dX6_gain_15 : decode cX6_gain 15 = .ok (.lconst 1, 1) := by decide +kernel
theorem dX6_gain_16 : decode cX6_gain 16 = .ok (.invokestatic 53, 3) := by decide +kernel
theorem dX6_gain_19 : decode cX6_gain 19 = .ok (.ifCond .eq 15, 3) := by decide +kernel
theorem dX6_gain_22 : decode cX6_gain 22 = .ok (.iload_n 3, 1) := by decide +kernel
theorem dX6_gain_23 : decode cX6_gain 23 = .ok (.i2l, 1) := by decide +kernel
theorem dX6_gain_24 : decode cX6_gain 24 = .ok (.lconst 0, 1) := by decide +kernel
theorem dX6_gain_25 : decode cX6_gain 25 = .ok (.ldc2_w 103, 3) := by decide +kernel
theorem dX6_gain_28 : decode cX6_gain 28 = .ok (.invokestatic 53, 3) := by decide +kernel
theorem dX6_gain_31 : decode cX6_gain 31 = .ok (.ifCond .ne 6, 3) := by decide +kernel
theorem dX6_gain_34 : decode cX6_gain 34 = .ok (.ldc 65, 2) := by decide +kernel
theorem dX6_gain_36 : decode cX6_gain 36 = .ok (.ireturn, 1) := by decide +kernel
theorem dX6_gain_37 : decode cX6_gain 37 = .ok (.iload_n 2, 1) := by decide +kernel
theorem dX6_gain_38 : decode cX6_gain 38 = .ok (.ifCond .ne 12, 3) := by decide +kernel
theorem dX6_gain_41 : decode cX6_gain 41 = .ok (.aload_n 0, 1) := by decide +kernel
theorem dX6_gain_42 : decode cX6_gain 42 = .ok (.getfield 13, 3) := by decide +kernel
theorem dX6_gain_45 : decode cX6_gain 45 = .ok (.iload_n 1, 1) := by decide +kernel
theorem dX6_gain_46 : decode cX6_gain 46 = .ok (.iaload, 1) := by decide +kernel
theorem dX6_gain_47 : decode cX6_gain 47 = .ok (.goto 9, 3) := by decide +kernel
theorem dX6_gain_50 : decode cX6_gain 50 = .ok (.aload_n 0, 1) := by decide +kernel
theorem dX6_gain_51 : decode cX6_gain 51 = .ok (.getfield 16, 3) := by decide +kernel
theorem dX6_gain_54 : decode cX6_gain 54 = .ok (.iload_n 1, 1) := by decide +kernel
theorem dX6_gain_55 : decode cX6_gain 55 = .ok (.iaload, 1) := by decide +kernel
theorem dX6_gain_56 : decode cX6_gain 56 = .ok (.istore 4, 2) := by decide +kernel
theorem dX6_gain_58 : decode cX6_gain 58 = .ok (.iload_n 2, 1) := by decide +kernel
theorem dX6_gain_59 : decode cX6_gain 59 = .ok (.ifCond .ne 13, 3) := by decide +kernel
theorem dX6_gain_62 : decode cX6_gain 62 = .ok (.aload_n 0, 1) := by decide +kernel
theorem dX6_gain_63 : decode cX6_gain 63 = .ok (.getfield 13, 3) := by decide +kernel
theorem dX6_gain_66 : decode cX6_gain 66 = .ok (.iload_n 1, 1) := by decide +kernel
theorem dX6_gain_67 : decode cX6_gain 67 = .ok (.iload_n 3, 1) := by decide +kernel
theorem dX6_gain_68 : decode cX6_gain 68 = .ok (.iastore, 1) := by decide +kernel
theorem dX6_gain_69 : decode cX6_gain 69 = .ok (.goto 10, 3) := by decide +kernel
theorem dX6_gain_72 : decode cX6_gain 72 = .ok (.aload_n 0, 1) := by decide +kernel
theorem dX6_gain_73 : decode cX6_gain 73 = .ok (.getfield 16, 3) := by decide +kernel
theorem dX6_gain_76 : decode cX6_gain 76 = .ok (.iload_n 1, 1) := by decide +kernel
theorem dX6_gain_77 : decode cX6_gain 77 = .ok (.iload_n 3, 1) := by decide +kernel
theorem dX6_gain_78 : decode cX6_gain 78 = .ok (.iastore, 1) := by decide +kernel
theorem dX6_gain_79 : decode cX6_gain 79 = .ok (.iload 4, 2) := by decide +kernel
theorem dX6_gain_81 : decode cX6_gain 81 = .ok (.ireturn, 1) := by decide +kernel
theorem dX6_lose_0 : decode cX6_lose 0 = .ok (.aload_n 0, 1) := by decide +kernel
theorem dX6_lose_1 : decode cX6_lose 1 = .ok (.getfield 105, 3) := by decide +kernel
theorem dX6_lose_4 : decode cX6_lose 4 = .ok (.ifCond .eq 7, 3) := by decide +kernel
theorem dX6_lose_7 : decode cX6_lose 7 = .ok (.iconst 1, 1) := by decide +kernel
theorem dX6_lose_8 : decode cX6_lose 8 = .ok (.goto 4, 3) := by decide +kernel
theorem dX6_lose_11 : decode cX6_lose 11 = .ok (.iconst 0, 1) := by decide +kernel
theorem dX6_lose_12 : decode cX6_lose 12 = .ok (.istore_n 2, 1) := by decide +kernel
theorem dX6_lose_13 : decode cX6_lose 13 = .ok (.aload_n 0, 1) := by decide +kernel
theorem dX6_lose_14 : decode cX6_lose 14 = .ok (.iload_n 1, 1) := by decide +kernel
theorem dX6_lose_15 : decode cX6_lose 15 = .ok (.putfield 105, 3) := by decide +kernel
theorem dX6_lose_18 : decode cX6_lose 18 = .ok (.iload_n 2, 1) := by decide +kernel
theorem dX6_lose_19 : decode cX6_lose 19 = .ok (.ireturn, 1) := by decide +kernel
set_option maxRecDepth 20000 in
theorem ggX6_stepOf_X6_in : GoodIn wsX6_stepOf wsX6_in := goodIn_r _ [5] (by decide +kernel) (by decide +kernel)
set_option maxRecDepth 20000 in
theorem gX6_stepOf_X6_in : GoodIn wsX6_stepOf (va_wsS RX6 53 yX6_in wsX6_in) := goodIn_app (goodIn_of _ (by decide +kernel)) ggX6_stepOf_X6_in
set_option maxRecDepth 20000 in
theorem ggX6_stepOf_X6_clamp : GoodIn wsX6_stepOf wsX6_clamp := goodIn_r _ [8] (by decide +kernel) (by decide +kernel)
set_option maxRecDepth 20000 in
theorem gX6_stepOf_X6_clamp : GoodIn wsX6_stepOf (va_wsS RX6 112 yX6_clamp wsX6_clamp) := goodIn_app (goodIn_of _ (by decide +kernel)) ggX6_stepOf_X6_clamp
theorem dX6_stepOf_0 : decode cX6_stepOf 0 = .ok (.lload_n 1, 1) := by decide +kernel
theorem dX6_stepOf_1 : decode cX6_stepOf 1 = .ok (.lload 9, 2) := by decide +kernel
theorem dX6_stepOf_3 : decode cX6_stepOf 3 = .ok (.lmul, 1) := by decide +kernel
theorem dX6_stepOf_4 : decode cX6_stepOf 4 = .ok (.lload 7, 2) := by decide +kernel
theorem dX6_stepOf_6 : decode cX6_stepOf 6 = .ok (.ladd, 1) := by decide +kernel
theorem dX6_stepOf_7 : decode cX6_stepOf 7 = .ok (.lload_n 3, 1) := by decide +kernel
theorem dX6_stepOf_8 : decode cX6_stepOf 8 = .ok (.lload 9, 2) := by decide +kernel
theorem dX6_stepOf_10 : decode cX6_stepOf 10 = .ok (.lmul, 1) := by decide +kernel
theorem dX6_stepOf_11 : decode cX6_stepOf 11 = .ok (.ladd, 1) := by decide +kernel
theorem dX6_stepOf_12 : decode cX6_stepOf 12 = .ok (.bipush 8, 2) := by decide +kernel
theorem dX6_stepOf_14 : decode cX6_stepOf 14 = .ok (.lshr, 1) := by decide +kernel
theorem dX6_stepOf_15 : decode cX6_stepOf 15 = .ok (.lstore 11, 2) := by decide +kernel
theorem dX6_stepOf_17 : decode cX6_stepOf 17 = .ok (.lload 11, 2) := by decide +kernel
theorem dX6_stepOf_19 : decode cX6_stepOf 19 = .ok (.lload 5, 2) := by decide +kernel
theorem dX6_stepOf_21 : decode cX6_stepOf 21 = .ok (.lneg, 1) := by decide +kernel
theorem dX6_stepOf_22 : decode cX6_stepOf 22 = .ok (.lload 5, 2) := by decide +kernel
theorem dX6_stepOf_24 : decode cX6_stepOf 24 = .ok (.invokestatic 53, 3) := by decide +kernel
theorem dX6_stepOf_27 : decode cX6_stepOf 27 = .ok (.ifCond .ne 34, 3) := by decide +kernel
theorem dX6_stepOf_30 : decode cX6_stepOf 30 = .ok (.lload 9, 2) := by decide +kernel
theorem dX6_stepOf_32 : decode cX6_stepOf 32 = .ok (.lconst 0, 1) := by decide +kernel
theorem dX6_stepOf_33 : decode cX6_stepOf 33 = .ok (.lcmp, 1) := by decide +kernel
theorem dX6_stepOf_34 : decode cX6_stepOf 34 = .ok (.ifCond .ge 11, 3) := by decide +kernel
theorem dX6_stepOf_37 : decode cX6_stepOf 37 = .ok (.lload 11, 2) := by decide +kernel
theorem dX6_stepOf_39 : decode cX6_stepOf 39 = .ok (.lload 5, 2) := by decide +kernel
theorem dX6_stepOf_41 : decode cX6_stepOf 41 = .ok (.lcmp, 1) := by decide +kernel
theorem dX6_stepOf_42 : decode cX6_stepOf 42 = .ok (.ifCond .gt 19, 3) := by decide +kernel
theorem dX6_stepOf_45 : decode cX6_stepOf 45 = .ok (.lload 9, 2) := by decide +kernel
theorem dX6_stepOf_47 : decode cX6_stepOf 47 = .ok (.lconst 0, 1) := by decide +kernel
theorem dX6_stepOf_48 : decode cX6_stepOf 48 = .ok (.lcmp, 1) := by decide +kernel
theorem dX6_stepOf_49 : decode cX6_stepOf 49 = .ok (.ifCond .le 16, 3) := by decide +kernel
theorem dX6_stepOf_52 : decode cX6_stepOf 52 = .ok (.lload 11, 2) := by decide +kernel
theorem dX6_stepOf_54 : decode cX6_stepOf 54 = .ok (.lload 5, 2) := by decide +kernel
theorem dX6_stepOf_56 : decode cX6_stepOf 56 = .ok (.lneg, 1) := by decide +kernel
theorem dX6_stepOf_57 : decode cX6_stepOf 57 = .ok (.lcmp, 1) := by decide +kernel
theorem dX6_stepOf_58 : decode cX6_stepOf 58 = .ok (.ifCond .ge 7, 3) := by decide +kernel
theorem dX6_stepOf_61 : decode cX6_stepOf 61 = .ok (.iconst 1, 1) := by decide +kernel
theorem dX6_stepOf_62 : decode cX6_stepOf 62 = .ok (.goto 4, 3) := by decide +kernel
theorem dX6_stepOf_65 : decode cX6_stepOf 65 = .ok (.iconst 0, 1) := by decide +kernel
theorem dX6_stepOf_66 : decode cX6_stepOf 66 = .ok (.istore 13, 2) := by decide +kernel
theorem dX6_stepOf_68 : decode cX6_stepOf 68 = .ok (.aload_n 0, 1) := by decide +kernel
theorem dX6_stepOf_69 : decode cX6_stepOf 69 = .ok (.iload 13, 2) := by decide +kernel
theorem dX6_stepOf_71 : decode cX6_stepOf 71 = .ok (.ifCond .eq 13, 3) := by decide +kernel
theorem dX6_stepOf_74 : decode cX6_stepOf 74 = .ok (.lload 7, 2) := by decide +kernel
theorem dX6_stepOf_76 : decode cX6_stepOf 76 = .ok (.lload_n 3, 1) := by decide +kernel
theorem dX6_stepOf_77 : decode cX6_stepOf 77 = .ok (.lload 9, 2) := by decide +kernel
theorem dX6_stepOf_79 : decode cX6_stepOf 79 = .ok (.lmul, 1) := by decide +kernel
theorem dX6_stepOf_80 : decode cX6_stepOf 80 = .ok (.ladd, 1) := by decide +kernel
theorem dX6_stepOf_81 : decode cX6_stepOf 81 = .ok (.goto 5, 3) := by decide +kernel
theorem dX6_stepOf_84 : decode cX6_stepOf 84 = .ok (.lload 7, 2) := by decide +kernel
theorem dX6_stepOf_86 : decode cX6_stepOf 86 = .ok (.putfield 108, 3) := by decide +kernel
theorem dX6_stepOf_89 : decode cX6_stepOf 89 = .ok (.lload 11, 2) := by decide +kernel
theorem dX6_stepOf_91 : decode cX6_stepOf 91 = .ok (.lload 5, 2) := by decide +kernel
theorem dX6_stepOf_93 : decode cX6_stepOf 93 = .ok (.invokestatic 112, 3) := by decide +kernel
theorem dX6_stepOf_96 : decode cX6_stepOf 96 = .ok (.lreturn, 1) := by decide +kernel
set_option maxRecDepth 20000 in
theorem ggX6_led_X6_stepOf : GoodIn wsX6_led wsX6_stepOf := goodIn_r _ [9, 4, 10, 11, 8, 12, 13, 14, 15, 16, 17, 18, 19, 20, 21, 22, 23, 24, 25, 26, 27, 28, 29, 30, 31, 32, 33, 34, 35, 36, 37, 38, 39, 40] (by decide +kernel) (by decide +kernel)
set_option maxRecDepth 20000 in
theorem gX6_led_X6_stepOf : GoodIn wsX6_led (wsV RX6 116 RX6 yX6_stepOf wsX6_stepOf) := goodIn_app (goodIn_of _ (by decide +kernel)) ggX6_led_X6_stepOf
theorem dX6_led_0 : decode cX6_led 0 = .ok (.aload_n 0, 1) := by decide +kernel
theorem dX6_led_1 : decode cX6_led 1 = .ok (.aload_n 0, 1) := by decide +kernel
theorem dX6_led_2 : decode cX6_led 2 = .ok (.getfield 13, 3) := by decide +kernel
theorem dX6_led_5 : decode cX6_led 5 = .ok (.iload_n 1, 1) := by decide +kernel
theorem dX6_led_6 : decode cX6_led 6 = .ok (.iaload, 1) := by decide +kernel
theorem dX6_led_7 : decode cX6_led 7 = .ok (.i2l, 1) := by decide +kernel
theorem dX6_led_8 : decode cX6_led 8 = .ok (.aload_n 0, 1) := by decide +kernel
theorem dX6_led_9 : decode cX6_led 9 = .ok (.getfield 16, 3) := by decide +kernel
theorem dX6_led_12 : decode cX6_led 12 = .ok (.iload_n 1, 1) := by decide +kernel
theorem dX6_led_13 : decode cX6_led 13 = .ok (.iaload, 1) := by decide +kernel
theorem dX6_led_14 : decode cX6_led 14 = .ok (.i2l, 1) := by decide +kernel
theorem dX6_led_15 : decode cX6_led 15 = .ok (.lload_n 2, 1) := by decide +kernel
theorem dX6_led_16 : decode cX6_led 16 = .ok (.aload_n 0, 1) := by decide +kernel
theorem dX6_led_17 : decode cX6_led 17 = .ok (.getfield 19, 3) := by decide +kernel
theorem dX6_led_20 : decode cX6_led 20 = .ok (.iload_n 1, 1) := by decide +kernel
theorem dX6_led_21 : decode cX6_led 21 = .ok (.laload, 1) := by decide +kernel
theorem dX6_led_22 : decode cX6_led 22 = .ok (.lload 4, 2) := by decide +kernel
theorem dX6_led_24 : decode cX6_led 24 = .ok (.invokevirtual 116, 3) := by decide +kernel
theorem dX6_led_27 : decode cX6_led 27 = .ok (.lstore 6, 2) := by decide +kernel
theorem dX6_led_29 : decode cX6_led 29 = .ok (.aload_n 0, 1) := by decide +kernel
theorem dX6_led_30 : decode cX6_led 30 = .ok (.getfield 19, 3) := by decide +kernel
theorem dX6_led_33 : decode cX6_led 33 = .ok (.iload_n 1, 1) := by decide +kernel
theorem dX6_led_34 : decode cX6_led 34 = .ok (.aload_n 0, 1) := by decide +kernel
theorem dX6_led_35 : decode cX6_led 35 = .ok (.getfield 108, 3) := by decide +kernel
theorem dX6_led_38 : decode cX6_led 38 = .ok (.lastore, 1) := by decide +kernel
theorem dX6_led_39 : decode cX6_led 39 = .ok (.lload 6, 2) := by decide +kernel
theorem dX6_led_41 : decode cX6_led 41 = .ok (.lreturn, 1) := by decide +kernel
set_option maxRecDepth 20000 in
theorem ggX6_loop_X6_in : GoodIn wsX6_loop wsX6_in := goodIn_r _ [12] (by decide +kernel) (by decide +kernel)
set_option maxRecDepth 20000 in
theorem gX6_loop_X6_in : GoodIn wsX6_loop (va_wsS RX6 53 yX6_in wsX6_in) := goodIn_app (goodIn_of _ (by decide +kernel)) ggX6_loop_X6_in
set_option maxRecDepth 20000 in
theorem ggX6_loop_X6_stepOf : GoodIn wsX6_loop wsX6_stepOf := goodIn_r _ [16, 8, 9, 10, 11, 12, 17, 18, 19, 20, 21, 22, 23, 24, 25, 26, 27, 28, 29, 30, 31, 32, 33, 34, 35, 36, 37, 38, 39, 40, 41, 42, 43, 44] (by decide +kernel) (by decide +kernel)
set_option maxRecDepth 20000 in
theorem gX6_loop_X6_stepOf : GoodIn wsX6_loop (wsV RX6 116 RX6 yX6_stepOf wsX6_stepOf) := goodIn_app (goodIn_of _ (by decide +kernel)) ggX6_loop_X6_stepOf
theorem dX6_loop_0 : decode cX6_loop 0 = .ok (.iload_n 1, 1) := by decide +kernel
theorem dX6_loop_1 : decode cX6_loop 1 = .ok (.i2l, 1) := by decide +kernel
theorem dX6_loop_2 : decode cX6_loop 2 = .ok (.lconst 0, 1) := by decide +kernel
theorem dX6_loop_3 : decode cX6_loop 3 = .ok (.ldc2_w 103, 3) := by decide +kernel
theorem dX6_loop_6 : decode cX6_loop 6 = .ok (.invokestatic 53, 3) := by decide +kernel
theorem dX6_loop_9 : decode cX6_loop 9 = .ok (.ifCond .eq 46, 3) := by decide +kernel
theorem dX6_loop_12 : decode cX6_loop 12 = .ok (.iload_n 2, 1) := by decide +kernel
theorem dX6_loop_13 : decode cX6_loop 13 = .ok (.i2l, 1) := by decide +kernel
theorem dX6_loop_14 : decode cX6_loop 14 = .ok (.lconst 0, 1) := by decide +kernel
theorem dX6_loop_15 : decode cX6_loop 15 = .ok (.ldc2_w 103, 3) := by decide +kernel
theorem dX6_loop_18 : decode cX6_loop 18 = .ok (.invokestatic 53, 3) := by decide +kernel
theorem dX6_loop_21 : decode cX6_loop 21 = .ok (.ifCond .eq 34, 3) := by decide +kernel
theorem dX6_loop_24 : decode cX6_loop 24 = .ok (.iload_n 3, 1) := by decide +kernel
theorem dX6_loop_25 : decode cX6_loop 25 = .ok (.i2l, 1) := by decide +kernel
theorem dX6_loop_26 : decode cX6_loop 26 = .ok (.lconst 0, 1) := by decide +kernel
theorem dX6_loop_27 : decode cX6_loop 27 = .ok (.ldc2_w 59, 3) := by decide +kernel
theorem dX6_loop_30 : decode cX6_loop 30 = .ok (.invokestatic 53, 3) := by decide +kernel
theorem dX6_loop_33 : decode cX6_loop 33 = .ok (.ifCond .eq 22, 3) := by decide +kernel
theorem dX6_loop_36 : decode cX6_loop 36 = .ok (.iload 4, 2) := by decide +kernel
theorem dX6_loop_38 : decode cX6_loop 38 = .ok (.i2l, 1) := by decide +kernel
theorem dX6_loop_39 : decode cX6_loop 39 = .ok (.ldc2_w 120, 3) := by decide +kernel
theorem dX6_loop_42 : decode cX6_loop 42 = .ok (.ldc2_w 122, 3) := by decide +kernel
theorem dX6_loop_45 : decode cX6_loop 45 = .ok (.invokestatic 53, 3) := by decide +kernel
theorem dX6_loop_48 : decode cX6_loop 48 = .ok (.ifCond .eq 7, 3) := by decide +kernel
theorem dX6_loop_51 : decode cX6_loop 51 = .ok (.iconst 1, 1) := by decide +kernel
theorem dX6_loop_52 : decode cX6_loop 52 = .ok (.goto 4, 3) := by decide +kernel
theorem dX6_loop_55 : decode cX6_loop 55 = .ok (.iconst 0, 1) := by decide +kernel
theorem dX6_loop_56 : decode cX6_loop 56 = .ok (.istore 7, 2) := by decide +kernel
theorem dX6_loop_58 : decode cX6_loop 58 = .ok (.iload 7, 2) := by decide +kernel
theorem dX6_loop_60 : decode cX6_loop 60 = .ok (.ifCond .eq 29, 3) := by decide +kernel
theorem dX6_loop_63 : decode cX6_loop 63 = .ok (.iload 5, 2) := by decide +kernel
theorem dX6_loop_65 : decode cX6_loop 65 = .ok (.i2l, 1) := by decide +kernel
theorem dX6_loop_66 : decode cX6_loop 66 = .ok (.ldc2_w 124, 3) := by decide +kernel
theorem dX6_loop_69 : decode cX6_loop 69 = .ok (.ldc2_w 126, 3) := by decide +kernel
theorem dX6_loop_72 : decode cX6_loop 72 = .ok (.invokestatic 53, 3) := by decide +kernel
theorem dX6_loop_75 : decode cX6_loop 75 = .ok (.ifCond .eq 14, 3) := by decide +kernel
theorem dX6_loop_78 : decode cX6_loop 78 = .ok (.iload 6, 2) := by decide +kernel
theorem dX6_loop_80 : decode cX6_loop 80 = .ok (.i2l, 1) := by decide +kernel
theorem dX6_loop_81 : decode cX6_loop 81 = .ok (.lconst 0, 1) := by decide +kernel
theorem dX6_loop_82 : decode cX6_loop 82 = .ok (.lconst 1, 1) := by decide +kernel
theorem dX6_loop_83 : decode cX6_loop 83 = .ok (.invokestatic 53, 3) := by decide +kernel
theorem dX6_loop_86 : decode cX6_loop 86 = .ok (.ifCond .ne 6, 3) := by decide +kernel
theorem dX6_loop_89 : decode cX6_loop 89 = .ok (.ldc 65, 2) := by decide +kernel
theorem dX6_loop_91 : decode cX6_loop 91 = .ok (.ireturn, 1) := by decide +kernel
theorem dX6_loop_92 : decode cX6_loop 92 = .ok (.aload_n 0, 1) := by decide +kernel
theorem dX6_loop_93 : decode cX6_loop 93 = .ok (.iload_n 1, 1) := by decide +kernel
theorem dX6_loop_94 : decode cX6_loop 94 = .ok (.i2l, 1) := by decide +kernel
theorem dX6_loop_95 : decode cX6_loop 95 = .ok (.iload_n 2, 1) := by decide +kernel
theorem dX6_loop_96 : decode cX6_loop 96 = .ok (.i2l, 1) := by decide +kernel
theorem dX6_loop_97 : decode cX6_loop 97 = .ok (.iload_n 3, 1) := by decide +kernel
theorem dX6_loop_98 : decode cX6_loop 98 = .ok (.i2l, 1) := by decide +kernel
theorem dX6_loop_99 : decode cX6_loop 99 = .ok (.iload 4, 2) := by decide +kernel
theorem dX6_loop_101 : decode cX6_loop 101 = .ok (.i2l, 1) := by decide +kernel
theorem dX6_loop_102 : decode cX6_loop 102 = .ok (.iload 5, 2) := by decide +kernel
theorem dX6_loop_104 : decode cX6_loop 104 = .ok (.i2l, 1) := by decide +kernel
theorem dX6_loop_105 : decode cX6_loop 105 = .ok (.invokevirtual 116, 3) := by decide +kernel
theorem dX6_loop_108 : decode cX6_loop 108 = .ok (.lstore 8, 2) := by decide +kernel
theorem dX6_loop_110 : decode cX6_loop 110 = .ok (.iload 6, 2) := by decide +kernel
theorem dX6_loop_112 : decode cX6_loop 112 = .ok (.ifCond .ne 8, 3) := by decide +kernel
theorem dX6_loop_115 : decode cX6_loop 115 = .ok (.lload 8, 2) := by decide +kernel
theorem dX6_loop_117 : decode cX6_loop 117 = .ok (.goto 7, 3) := by decide +kernel
theorem dX6_loop_120 : decode cX6_loop 120 = .ok (.aload_n 0, 1) := by decide +kernel
theorem dX6_loop_121 : decode cX6_loop 121 = .ok (.getfield 108, 3) := by decide +kernel
theorem dX6_loop_124 : decode cX6_loop 124 = .ok (.l2i, 1) := by decide +kernel
theorem dX6_loop_125 : decode cX6_loop 125 = .ok (.ireturn, 1) := by decide +kernel
theorem dX6_become_0 : decode cX6_become 0 = .ok (.aload_n 0, 1) := by decide +kernel
theorem dX6_become_1 : decode cX6_become 1 = .ok (.iload_n 1, 1) := by decide +kernel
theorem dX6_become_2 : decode cX6_become 2 = .ok (.putfield 128, 3) := by decide +kernel
theorem dX6_become_5 : decode cX6_become 5 = .ok (.aload_n 0, 1) := by decide +kernel
theorem dX6_become_6 : decode cX6_become 6 = .ok (.iload_n 2, 1) := by decide +kernel
theorem dX6_become_7 : decode cX6_become 7 = .ok (.putfield 132, 3) := by decide +kernel
theorem dX6_become_10 : decode cX6_become 10 = .ok (.aload_n 0, 1) := by decide +kernel
theorem dX6_become_11 : decode cX6_become 11 = .ok (.iconst 0, 1) := by decide +kernel
theorem dX6_become_12 : decode cX6_become 12 = .ok (.putfield 135, 3) := by decide +kernel
theorem dX6_become_15 : decode cX6_become 15 = .ok (.aload_n 0, 1) := by decide +kernel
theorem dX6_become_16 : decode cX6_become 16 = .ok (.getfield 26, 3) := by decide +kernel
theorem dX6_become_19 : decode cX6_become 19 = .ok (.aload_n 0, 1) := by decide +kernel
theorem dX6_become_20 : decode cX6_become 20 = .ok (.getfield 138, 3) := by decide +kernel
theorem dX6_become_23 : decode cX6_become 23 = .ok (.bipush 20, 2) := by decide +kernel
theorem dX6_become_25 : decode cX6_become 25 = .ok (.irem, 1) := by decide +kernel
theorem dX6_become_26 : decode cX6_become 26 = .ok (.iload_n 3, 1) := by decide +kernel
theorem dX6_become_27 : decode cX6_become 27 = .ok (.iastore, 1) := by decide +kernel
theorem dX6_become_28 : decode cX6_become 28 = .ok (.aload_n 0, 1) := by decide +kernel
theorem dX6_become_29 : decode cX6_become 29 = .ok (.getfield 29, 3) := by decide +kernel
theorem dX6_become_32 : decode cX6_become 32 = .ok (.aload_n 0, 1) := by decide +kernel
theorem dX6_become_33 : decode cX6_become 33 = .ok (.getfield 138, 3) := by decide +kernel
theorem dX6_become_36 : decode cX6_become 36 = .ok (.bipush 20, 2) := by decide +kernel
theorem dX6_become_38 : decode cX6_become 38 = .ok (.irem, 1) := by decide +kernel
theorem dX6_become_39 : decode cX6_become 39 = .ok (.iload_n 1, 1) := by decide +kernel
theorem dX6_become_40 : decode cX6_become 40 = .ok (.iastore, 1) := by decide +kernel
theorem dX6_become_41 : decode cX6_become 41 = .ok (.aload_n 0, 1) := by decide +kernel
theorem dX6_become_42 : decode cX6_become 42 = .ok (.getfield 32, 3) := by decide +kernel
theorem dX6_become_45 : decode cX6_become 45 = .ok (.aload_n 0, 1) := by decide +kernel
theorem dX6_become_46 : decode cX6_become 46 = .ok (.getfield 138, 3) := by decide +kernel
theorem dX6_become_49 : decode cX6_become 49 = .ok (.bipush 20, 2) := by decide +kernel
theorem dX6_become_51 : decode cX6_become 51 = .ok (.irem, 1) := by decide +kernel
theorem dX6_become_52 : decode cX6_become 52 = .ok (.iload_n 2, 1) := by decide +kernel
theorem dX6_become_53 : decode cX6_become 53 = .ok (.iastore, 1) := by decide +kernel
theorem dX6_become_54 : decode cX6_become 54 = .ok (.aload_n 0, 1) := by decide +kernel
theorem dX6_become_55 : decode cX6_become 55 = .ok (.dup, 1) := by decide +kernel
theorem dX6_become_56 : decode cX6_become 56 = .ok (.getfield 138, 3) := by decide +kernel
theorem dX6_become_59 : decode cX6_become 59 = .ok (.iconst 1, 1) := by decide +kernel
theorem dX6_become_60 : decode cX6_become 60 = .ok (.iadd, 1) := by decide +kernel
theorem dX6_become_61 : decode cX6_become 61 = .ok (.putfield 138, 3) := by decide +kernel
theorem dX6_become_64 : decode cX6_become 64 = .ok (.return_, 1) := by decide +kernel
set_option maxRecDepth 20000 in
theorem ggX6_faultNow_X6_size : GoodIn wsX6_faultNow wsX6_size := goodIn_r _ [11] (by decide +kernel) (by decide +kernel)
set_option maxRecDepth 20000 in
theorem gX6_faultNow_X6_size : GoodIn wsX6_faultNow (va_wsS RX6 144 yX6_size wsX6_size) := goodIn_app (goodIn_of _ (by decide +kernel)) ggX6_faultNow_X6_size
theorem dX6_faultNow_0 : decode cX6_faultNow 0 = .ok (.aload_n 0, 1) := by decide +kernel
theorem dX6_faultNow_1 : decode cX6_faultNow 1 = .ok (.getfield 141, 3) := by decide +kernel
theorem dX6_faultNow_4 : decode cX6_faultNow 4 = .ok (.invokestatic 144, 3) := by decide +kernel
theorem dX6_faultNow_7 : decode cX6_faultNow 7 = .ok (.aload_n 0, 1) := by decide +kernel
theorem dX6_faultNow_8 : decode cX6_faultNow 8 = .ok (.getfield 7, 3) := by decide +kernel
theorem dX6_faultNow_11 : decode cX6_faultNow 11 = .ok (.iconst 3, 1) := by decide +kernel
theorem dX6_faultNow_12 : decode cX6_faultNow 12 = .ok (.iaload, 1) := by decide +kernel
theorem dX6_faultNow_13 : decode cX6_faultNow 13 = .ok (.i2l, 1) := by decide +kernel
theorem dX6_faultNow_14 : decode cX6_faultNow 14 = .ok (.lcmp, 1) := by decide +kernel
theorem dX6_faultNow_15 : decode cX6_faultNow 15 = .ok (.ifCond .gt 21, 3) := by decide +kernel
theorem dX6_faultNow_18 : decode cX6_faultNow 18 = .ok (.aload_n 0, 1) := by decide +kernel
theorem dX6_faultNow_19 : decode cX6_faultNow 19 = .ok (.getfield 148, 3) := by decide +kernel
theorem dX6_faultNow_22 : decode cX6_faultNow 22 = .ok (.invokestatic 144, 3) := by decide +kernel
theorem dX6_faultNow_25 : decode cX6_faultNow 25 = .ok (.aload_n 0, 1) := by decide +kernel
theorem dX6_faultNow_26 : decode cX6_faultNow 26 = .ok (.getfield 7, 3) := by decide +kernel
theorem dX6_faultNow_29 : decode cX6_faultNow 29 = .ok (.iconst 3, 1) := by decide +kernel
theorem dX6_faultNow_30 : decode cX6_faultNow 30 = .ok (.iaload, 1) := by decide +kernel
theorem dX6_faultNow_31 : decode cX6_faultNow 31 = .ok (.i2l, 1) := by decide +kernel
theorem dX6_faultNow_32 : decode cX6_faultNow 32 = .ok (.lcmp, 1) := by decide +kernel
theorem dX6_faultNow_33 : decode cX6_faultNow 33 = .ok (.ifCond .le 5, 3) := by decide +kernel
theorem dX6_faultNow_36 : decode cX6_faultNow 36 = .ok (.iconst 1, 1) := by decide +kernel
theorem dX6_faultNow_37 : decode cX6_faultNow 37 = .ok (.ireturn, 1) := by decide +kernel
theorem dX6_faultNow_38 : decode cX6_faultNow 38 = .ok (.aload_n 0, 1) := by decide +kernel
theorem dX6_faultNow_39 : decode cX6_faultNow 39 = .ok (.getfield 7, 3) := by decide +kernel
theorem dX6_faultNow_42 : decode cX6_faultNow 42 = .ok (.iconst 0, 1) := by decide +kernel
theorem dX6_faultNow_43 : decode cX6_faultNow 43 = .ok (.iaload, 1) := by decide +kernel
theorem dX6_faultNow_44 : decode cX6_faultNow 44 = .ok (.sipush 25000, 3) := by decide +kernel
theorem dX6_faultNow_47 : decode cX6_faultNow 47 = .ok (.if_icmp .le 5, 3) := by decide +kernel
theorem dX6_faultNow_50 : decode cX6_faultNow 50 = .ok (.iconst 2, 1) := by decide +kernel
theorem dX6_faultNow_51 : decode cX6_faultNow 51 = .ok (.ireturn, 1) := by decide +kernel
theorem dX6_faultNow_52 : decode cX6_faultNow 52 = .ok (.aload_n 0, 1) := by decide +kernel
theorem dX6_faultNow_53 : decode cX6_faultNow 53 = .ok (.getfield 105, 3) := by decide +kernel
theorem dX6_faultNow_56 : decode cX6_faultNow 56 = .ok (.ifCond .eq 21, 3) := by decide +kernel
theorem dX6_faultNow_59 : decode cX6_faultNow 59 = .ok (.aload_n 0, 1) := by decide +kernel
theorem dX6_faultNow_60 : decode cX6_faultNow 60 = .ok (.getfield 128, 3) := by decide +kernel
theorem dX6_faultNow_63 : decode cX6_faultNow 63 = .ok (.iconst 2, 1) := by decide +kernel
theorem dX6_faultNow_64 : decode cX6_faultNow 64 = .ok (.if_icmp .eq 11, 3) := by decide +kernel
theorem dX6_faultNow_67 : decode cX6_faultNow 67 = .ok (.aload_n 0, 1) := by decide +kernel
theorem dX6_faultNow_68 : decode cX6_faultNow 68 = .ok (.getfield 128, 3) := by decide +kernel
theorem dX6_faultNow_71 : decode cX6_faultNow 71 = .ok (.iconst 3, 1) := by decide +kernel
theorem dX6_faultNow_72 : decode cX6_faultNow 72 = .ok (.if_icmp .ne 5, 3) := by decide +kernel
theorem dX6_faultNow_75 : decode cX6_faultNow 75 = .ok (.iconst 3, 1) := by decide +kernel
theorem dX6_faultNow_76 : decode cX6_faultNow 76 = .ok (.ireturn, 1) := by decide +kernel
theorem dX6_faultNow_77 : decode cX6_faultNow 77 = .ok (.aload_n 0, 1) := by decide +kernel
theorem dX6_faultNow_78 : decode cX6_faultNow 78 = .ok (.getfield 151, 3) := by decide +kernel
theorem dX6_faultNow_81 : decode cX6_faultNow 81 = .ok (.ldc2_w 126, 3) := by decide +kernel
theorem dX6_faultNow_84 : decode cX6_faultNow 84 = .ok (.lcmp, 1) := by decide +kernel
theorem dX6_faultNow_85 : decode cX6_faultNow 85 = .ok (.ifCond .le 7, 3) := by decide +kernel
theorem dX6_faultNow_88 : decode cX6_faultNow 88 = .ok (.iconst 4, 1) := by decide +kernel
theorem dX6_faultNow_89 : decode cX6_faultNow 89 = .ok (.goto 4, 3) := by decide +kernel
theorem dX6_faultNow_92 : decode cX6_faultNow 92 = .ok (.iconst 0, 1) := by decide +kernel
theorem dX6_faultNow_93 : decode cX6_faultNow 93 = .ok (.ireturn, 1) := by decide +kernel
set_option maxRecDepth 20000 in
theorem ggX6_order_X6_in : GoodIn wsX6_order wsX6_in := goodIn_r _ [9] (by decide +kernel) (by decide +kernel)
set_option maxRecDepth 20000 in
theorem gX6_order_X6_in : GoodIn wsX6_order (va_wsS RX6 53 yX6_in wsX6_in) := goodIn_app (goodIn_of _ (by decide +kernel)) ggX6_order_X6_in
set_option maxRecDepth 20000 in
theorem ggX6_order_X6_faultNow : GoodIn wsX6_order wsX6_faultNow := goodIn_r _ [13, 14, 15, 16, 17, 3, 18, 19, 20, 21, 8, 22, 33, 34, 35, 36, 37, 38, 39, 40, 41, 42, 43, 44, 45, 46, 47, 48, 49, 50, 51, 52, 53, 54, 55, 56, 57] (by decide +kernel) (by decide +kernel)
set_option maxRecDepth 20000 in
theorem gX6_order_X6_faultNow : GoodIn wsX6_order (wsV RX6 154 RX6 yX6_faultNow wsX6_faultNow) := goodIn_app (goodIn_of _ (by decide +kernel)) ggX6_order_X6_faultNow
set_option maxRecDepth 20000 in
theorem ggX6_order_X6_become : GoodIn wsX6_order wsX6_become := goodIn_r _ [26, 3, 27, 28, 29, 30, 31, 32, 33, 34, 35, 36, 37, 38, 39, 40, 41, 42, 43, 44, 45, 46, 47, 48, 49, 50, 51, 52, 53, 54, 55, 56, 57] (by decide +kernel) (by decide +kernel)
set_option maxRecDepth 20000 in
theorem gX6_order_X6_become : GoodIn wsX6_order (wsV RX6 162 RX6 yX6_become wsX6_become) := goodIn_app (goodIn_of _ (by decide +kernel)) ggX6_order_X6_become
theorem dX6_order_0 : decode cX6_order 0 = .ok (.iload_n 1, 1) := by decide +kernel
theorem dX6_order_1 : decode cX6_order 1 = .ok (.i2l, 1) := by decide +kernel
theorem dX6_order_2 : decode cX6_order 2 = .ok (.lconst 0, 1) := by decide +kernel
theorem dX6_order_3 : decode cX6_order 3 = .ok (.ldc2_w 69, 3) := by decide +kernel
theorem dX6_order_6 : decode cX6_order 6 = .ok (.invokestatic 53, 3) := by decide +kernel
theorem dX6_order_9 : decode cX6_order 9 = .ok (.ifCond .ne 6, 3) := by decide +kernel
theorem dX6_order_12 : decode cX6_order 12 = .ok (.ldc 65, 2) := by decide +kernel
theorem dX6_order_14 : decode cX6_order 14 = .ok (.ireturn, 1) := by decide +kernel
theorem dX6_order_15 : decode cX6_order 15 = .ok (.aload_n 0, 1) := by decide +kernel
theorem dX6_order_16 : decode cX6_order 16 = .ok (.getfield 128, 3) := by decide +kernel
theorem dX6_order_19 : decode cX6_order 19 = .ok (.istore_n 2, 1) := by decide +kernel
theorem dX6_order_20 : decode cX6_order 20 = .ok (.iload_n 1, 1) := by decide +kernel
theorem dX6_order_21 : decode cX6_order 21 = .ok (.ifCond .ne 15, 3) := by decide +kernel
theorem dX6_order_24 : decode cX6_order 24 = .ok (.iload_n 2, 1) := by decide +kernel
theorem dX6_order_25 : decode cX6_order 25 = .ok (.ifCond .ne 7, 3) := by decide +kernel
theorem dX6_order_28 : decode cX6_order 28 = .ok (.iconst 1, 1) := by decide +kernel
theorem dX6_order_29 : decode cX6_order 29 = .ok (.goto 70, 3) := by decide +kernel
theorem dX6_order_32 : decode cX6_order 32 = .ok (.iconst 0, 1) := by decide +kernel
theorem dX6_order_33 : decode cX6_order 33 = .ok (.goto 66, 3) := by decide +kernel
theorem dX6_order_36 : decode cX6_order 36 = .ok (.iload_n 1, 1) := by decide +kernel
theorem dX6_order_37 : decode cX6_order 37 = .ok (.iconst 1, 1) := by decide +kernel
theorem dX6_order_38 : decode cX6_order 38 = .ok (.if_icmp .ne 16, 3) := by decide +kernel
theorem dX6_order_41 : decode cX6_order 41 = .ok (.iload_n 2, 1) := by decide +kernel
theorem dX6_order_42 : decode cX6_order 42 = .ok (.iconst 2, 1) := by decide +kernel
theorem dX6_order_43 : decode cX6_order 43 = .ok (.if_icmp .ne 7, 3) := by decide +kernel
theorem dX6_order_46 : decode cX6_order 46 = .ok (.iconst 1, 1) := by decide +kernel
theorem dX6_order_47 : decode cX6_order 47 = .ok (.goto 52, 3) := by decide +kernel
theorem dX6_order_50 : decode cX6_order 50 = .ok (.iconst 0, 1) := by decide +kernel
theorem dX6_order_51 : decode cX6_order 51 = .ok (.goto 48, 3) := by decide +kernel
theorem dX6_order_54 : decode cX6_order 54 = .ok (.iload_n 1, 1) := by decide +kernel
theorem dX6_order_55 : decode cX6_order 55 = .ok (.iconst 2, 1) := by decide +kernel
theorem dX6_order_56 : decode cX6_order 56 = .ok (.if_icmp .ne 23, 3) := by decide +kernel
theorem dX6_order_59 : decode cX6_order 59 = .ok (.iload_n 2, 1) := by decide +kernel
theorem dX6_order_60 : decode cX6_order 60 = .ok (.iconst 4, 1) := by decide +kernel
theorem dX6_order_61 : decode cX6_order 61 = .ok (.if_icmp .ne 14, 3) := by decide +kernel
theorem dX6_order_64 : decode cX6_order 64 = .ok (.aload_n 0, 1) := by decide +kernel
theorem dX6_order_65 : decode cX6_order 65 = .ok (.invokevirtual 154, 3) := by decide +kernel
theorem dX6_order_68 : decode cX6_order 68 = .ok (.ifCond .ne 7, 3) := by decide +kernel
theorem dX6_order_71 : decode cX6_order 71 = .ok (.iconst 1, 1) := by decide +kernel
theorem dX6_order_72 : decode cX6_order 72 = .ok (.goto 27, 3) := by decide +kernel
theorem dX6_order_75 : decode cX6_order 75 = .ok (.iconst 0, 1) := by decide +kernel
theorem dX6_order_76 : decode cX6_order 76 = .ok (.goto 23, 3) := by decide +kernel
theorem dX6_order_79 : decode cX6_order 79 = .ok (.iload_n 2, 1) := by decide +kernel
theorem dX6_order_80 : decode cX6_order 80 = .ok (.iconst 1, 1) := by decide +kernel
theorem dX6_order_81 : decode cX6_order 81 = .ok (.if_icmp .eq 13, 3) := by decide +kernel
theorem dX6_order_84 : decode cX6_order 84 = .ok (.iload_n 2, 1) := by decide +kernel
theorem dX6_order_85 : decode cX6_order 85 = .ok (.iconst 2, 1) := by decide +kernel
theorem dX6_order_86 : decode cX6_order 86 = .ok (.if_icmp .eq 8, 3) := by decide +kernel
theorem dX6_order_89 : decode cX6_order 89 = .ok (.iload_n 2, 1) := by decide +kernel
theorem dX6_order_90 : decode cX6_order 90 = .ok (.iconst 3, 1) := by decide +kernel
theorem dX6_order_91 : decode cX6_order 91 = .ok (.if_icmp .ne 7, 3) := by decide +kernel
theorem dX6_order_94 : decode cX6_order 94 = .ok (.iconst 1, 1) := by decide +kernel
theorem dX6_order_95 : decode cX6_order 95 = .ok (.goto 4, 3) := by decide +kernel
theorem dX6_order_98 : decode cX6_order 98 = .ok (.iconst 0, 1) := by decide +kernel
theorem dX6_order_99 : decode cX6_order 99 = .ok (.istore_n 3, 1) := by decide +kernel
theorem dX6_order_100 : decode cX6_order 100 = .ok (.iload_n 3, 1) := by decide +kernel
theorem dX6_order_101 : decode cX6_order 101 = .ok (.ifCond .ne 6, 3) := by decide +kernel
theorem dX6_order_104 : decode cX6_order 104 = .ok (.ldc 158, 2) := by decide +kernel
theorem dX6_order_106 : decode cX6_order 106 = .ok (.ireturn, 1) := by decide +kernel
theorem dX6_order_107 : decode cX6_order 107 = .ok (.aload_n 0, 1) := by decide +kernel
theorem dX6_order_108 : decode cX6_order 108 = .ok (.iload_n 1, 1) := by decide +kernel
theorem dX6_order_109 : decode cX6_order 109 = .ok (.ifCond .ne 7, 3) := by decide +kernel
theorem dX6_order_112 : decode cX6_order 112 = .ok (.iconst 1, 1) := by decide +kernel
theorem dX6_order_113 : decode cX6_order 113 = .ok (.goto 13, 3) := by decide +kernel
theorem dX6_order_116 : decode cX6_order 116 = .ok (.iload_n 1, 1) := by decide +kernel
theorem dX6_order_117 : decode cX6_order 117 = .ok (.iconst 1, 1) := by decide +kernel
theorem dX6_order_118 : decode cX6_order 118 = .ok (.if_icmp .ne 7, 3) := by decide +kernel
theorem dX6_order_121 : decode cX6_order 121 = .ok (.iconst 3, 1) := by decide +kernel
theorem dX6_order_122 : decode cX6_order 122 = .ok (.goto 4, 3) := by decide +kernel
theorem dX6_order_125 : decode cX6_order 125 = .ok (.iconst 0, 1) := by decide +kernel
theorem dX6_order_126 : decode cX6_order 126 = .ok (.iconst 0, 1) := by decide +kernel
theorem dX6_order_127 : decode cX6_order 127 = .ok (.aload_n 0, 1) := by decide +kernel
theorem dX6_order_128 : decode cX6_order 128 = .ok (.getfield 159, 3) := by decide +kernel
theorem dX6_order_131 : decode cX6_order 131 = .ok (.invokevirtual 162, 3) := by decide +kernel
theorem dX6_order_134 : decode cX6_order 134 = .ok (.iload_n 2, 1) := by decide +kernel
theorem dX6_order_135 : decode cX6_order 135 = .ok (.ireturn, 1) := by decide +kernel
set_option maxRecDepth 20000 in
theorem ggX6_lead_X6_led : GoodIn wsX6_lead wsX6_led := goodIn_r _ [13, 14, 15, 16, 17, 18, 19, 20, 12, 21, 22, 23, 24, 25, 26, 27, 31, 32, 33, 34, 35, 36, 37, 38, 39, 40, 41, 42, 43, 44, 45, 46, 47, 48, 49, 50, 51, 52, 53, 54, 55] (by decide +kernel) (by decide +kernel)
set_option maxRecDepth 20000 in
theorem gX6_lead_X6_led : GoodIn wsX6_lead (wsV RX6 171 RX6 yX6_led wsX6_led) := goodIn_app (goodIn_of _ (by decide +kernel)) ggX6_lead_X6_led
set_option maxRecDepth 20000 in
theorem ggX6_lead_X6_size : GoodIn wsX6_lead wsX6_size := goodIn_r _ [30] (by decide +kernel) (by decide +kernel)
set_option maxRecDepth 20000 in
theorem gX6_lead_X6_size : GoodIn wsX6_lead (va_wsS RX6 144 yX6_size wsX6_size) := goodIn_app (goodIn_of _ (by decide +kernel)) ggX6_lead_X6_size
theorem dX6_lead_0 : decode cX6_lead 0 = .ok (.aload_n 0, 1) := by decide +kernel
theorem dX6_lead_1 : decode cX6_lead 1 = .ok (.getfield 7, 3) := by decide +kernel
theorem dX6_lead_4 : decode cX6_lead 4 = .ok (.iconst 0, 1) := by decide +kernel
theorem dX6_lead_5 : decode cX6_lead 5 = .ok (.iaload, 1) := by decide +kernel
theorem dX6_lead_6 : decode cX6_lead 6 = .ok (.i2l, 1) := by decide +kernel
theorem dX6_lead_7 : decode cX6_lead 7 = .ok (.ldc2_w 166, 3) := by decide +kernel
theorem dX6_lead_10 : decode cX6_lead 10 = .ok (.lmul, 1) := by decide +kernel
theorem dX6_lead_11 : decode cX6_lead 11 = .ok (.bipush 14, 2) := by decide +kernel
theorem dX6_lead_13 : decode cX6_lead 13 = .ok (.lshr, 1) := by decide +kernel
theorem dX6_lead_14 : decode cX6_lead 14 = .ok (.lstore_n 3, 1) := by decide +kernel
theorem dX6_lead_15 : decode cX6_lead 15 = .ok (.aload_n 0, 1) := by decide +kernel
theorem dX6_lead_16 : decode cX6_lead 16 = .ok (.iconst 2, 1) := by decide +kernel
theorem dX6_lead_17 : decode cX6_lead 17 = .ok (.aload_n 0, 1) := by decide +kernel
theorem dX6_lead_18 : decode cX6_lead 18 = .ok (.getfield 7, 3) := by decide +kernel
theorem dX6_lead_21 : decode cX6_lead 21 = .ok (.iconst 1, 1) := by decide +kernel
theorem dX6_lead_22 : decode cX6_lead 22 = .ok (.iaload, 1) := by decide +kernel
theorem dX6_lead_23 : decode cX6_lead 23 = .ok (.i2l, 1) := by decide +kernel
theorem dX6_lead_24 : decode cX6_lead 24 = .ok (.lload_n 1, 1) := by decide +kernel
theorem dX6_lead_25 : decode cX6_lead 25 = .ok (.aload_n 0, 1) := by decide +kernel
theorem dX6_lead_26 : decode cX6_lead 26 = .ok (.getfield 168, 3) := by decide +kernel
theorem dX6_lead_29 : decode cX6_lead 29 = .ok (.lsub, 1) := by decide +kernel
theorem dX6_lead_30 : decode cX6_lead 30 = .ok (.invokevirtual 171, 3) := by decide +kernel
theorem dX6_lead_33 : decode cX6_lead 33 = .ok (.lstore 5, 2) := by decide +kernel
theorem dX6_lead_35 : decode cX6_lead 35 = .ok (.lconst 0, 1) := by decide +kernel
theorem dX6_lead_36 : decode cX6_lead 36 = .ok (.lstore 7, 2) := by decide +kernel
theorem dX6_lead_38 : decode cX6_lead 38 = .ok (.aload_n 0, 1) := by decide +kernel
theorem dX6_lead_39 : decode cX6_lead 39 = .ok (.getfield 168, 3) := by decide +kernel
theorem dX6_lead_42 : decode cX6_lead 42 = .ok (.invokestatic 144, 3) := by decide +kernel
theorem dX6_lead_45 : decode cX6_lead 45 = .ok (.aload_n 0, 1) := by decide +kernel
theorem dX6_lead_46 : decode cX6_lead 46 = .ok (.getfield 7, 3) := by decide +kernel
theorem dX6_lead_49 : decode cX6_lead 49 = .ok (.iconst 4, 1) := by decide +kernel
theorem dX6_lead_50 : decode cX6_lead 50 = .ok (.iaload, 1) := by decide +kernel
theorem dX6_lead_51 : decode cX6_lead 51 = .ok (.i2l, 1) := by decide +kernel
theorem dX6_lead_52 : decode cX6_lead 52 = .ok (.lcmp, 1) := by decide +kernel
theorem dX6_lead_53 : decode cX6_lead 53 = .ok (.ifCond .le 41, 3) := by decide +kernel
theorem dX6_lead_56 : decode cX6_lead 56 = .ok (.aload_n 0, 1) := by decide +kernel
theorem dX6_lead_57 : decode cX6_lead 57 = .ok (.getfield 7, 3) := by decide +kernel
theorem dX6_lead_60 : decode cX6_lead 60 = .ok (.iconst 4, 1) := by decide +kernel
theorem dX6_lead_61 : decode cX6_lead 61 = .ok (.iaload, 1) := by decide +kernel
theorem dX6_lead_62 : decode cX6_lead 62 = .ok (.i2l, 1) := by decide +kernel
theorem dX6_lead_63 : decode cX6_lead 63 = .ok (.aload_n 0, 1) := by decide +kernel
theorem dX6_lead_64 : decode cX6_lead 64 = .ok (.getfield 168, 3) := by decide +kernel
theorem dX6_lead_67 : decode cX6_lead 67 = .ok (.invokestatic 144, 3) := by decide +kernel
theorem dX6_lead_70 : decode cX6_lead 70 = .ok (.lsub, 1) := by decide +kernel
theorem dX6_lead_71 : decode cX6_lead 71 = .ok (.iconst 4, 1) := by decide +kernel
theorem dX6_lead_72 : decode cX6_lead 72 = .ok (.lshr, 1) := by decide +kernel
theorem dX6_lead_73 : decode cX6_lead 73 = .ok (.lstore 7, 2) := by decide +kernel
theorem dX6_lead_75 : decode cX6_lead 75 = .ok (.lload 7, 2) := by decide +kernel
theorem dX6_lead_77 : decode cX6_lead 77 = .ok (.ldc2_w 175, 3) := by decide +kernel
theorem dX6_lead_80 : decode cX6_lead 80 = .ok (.lcmp, 1) := by decide +kernel
theorem dX6_lead_81 : decode cX6_lead 81 = .ok (.ifCond .ge 9, 3) := by decide +kernel
theorem dX6_lead_84 : decode cX6_lead 84 = .ok (.ldc2_w 175, 3) := by decide +kernel
theorem dX6_lead_87 : decode cX6_lead 87 = .ok (.goto 5, 3) := by decide +kernel
theorem dX6_lead_90 : decode cX6_lead 90 = .ok (.lload 7, 2) := by decide +kernel
theorem dX6_lead_92 : decode cX6_lead 92 = .ok (.lstore 7, 2) := by decide +kernel
theorem dX6_lead_94 : decode cX6_lead 94 = .ok (.aload_n 0, 1) := by decide +kernel
theorem dX6_lead_95 : decode cX6_lead 95 = .ok (.aload_n 0, 1) := by decide +kernel
theorem dX6_lead_96 : decode cX6_lead 96 = .ok (.iconst 0, 1) := by decide +kernel
theorem dX6_lead_97 : decode cX6_lead 97 = .ok (.lload_n 3, 1) := by decide +kernel
theorem dX6_lead_98 : decode cX6_lead 98 = .ok (.lload 7, 2) := by decide +kernel
theorem dX6_lead_100 : decode cX6_lead 100 = .ok (.aload_n 0, 1) := by decide +kernel
theorem dX6_lead_101 : decode cX6_lead 101 = .ok (.getfield 141, 3) := by decide +kernel
theorem dX6_lead_104 : decode cX6_lead 104 = .ok (.lsub, 1) := by decide +kernel
theorem dX6_lead_105 : decode cX6_lead 105 = .ok (.invokevirtual 171, 3) := by decide +kernel
theorem dX6_lead_108 : decode cX6_lead 108 = .ok (.putfield 177, 3) := by decide +kernel
theorem dX6_lead_111 : decode cX6_lead 111 = .ok (.aload_n 0, 1) := by decide +kernel
theorem dX6_lead_112 : decode cX6_lead 112 = .ok (.aload_n 0, 1) := by decide +kernel
theorem dX6_lead_113 : decode cX6_lead 113 = .ok (.iconst 1, 1) := by decide +kernel
theorem dX6_lead_114 : decode cX6_lead 114 = .ok (.lload_n 3, 1) := by decide +kernel
theorem dX6_lead_115 : decode cX6_lead 115 = .ok (.lload 5, 2) := by decide +kernel
theorem dX6_lead_117 : decode cX6_lead 117 = .ok (.aload_n 0, 1) := by decide +kernel
theorem dX6_lead_118 : decode cX6_lead 118 = .ok (.getfield 148, 3) := by decide +kernel
theorem dX6_lead_121 : decode cX6_lead 121 = .ok (.lsub, 1) := by decide +kernel
theorem dX6_lead_122 : decode cX6_lead 122 = .ok (.invokevirtual 171, 3) := by decide +kernel
theorem dX6_lead_125 : decode cX6_lead 125 = .ok (.putfield 180, 3) := by decide +kernel
theorem dX6_lead_128 : decode cX6_lead 128 = .ok (.return_, 1) := by decide +kernel
set_option maxRecDepth 20000 in
theorem ggX6_oneBeat_X6_faultNow : GoodIn wsX6_oneBeat wsX6_faultNow := goodIn_r _ [23, 14, 7, 15, 24, 1, 13, 25, 26, 27, 22, 28, 95, 96, 97, 98, 99, 100, 101, 102, 103, 104, 105, 106, 107, 108, 109, 110, 111, 112, 113, 114, 115, 116, 117, 118, 119] (by decide +kernel) (by decide +kernel)
set_option maxRecDepth 20000 in
theorem gX6_oneBeat_X6_faultNow : GoodIn wsX6_oneBeat (wsV RX6 154 RX6 yX6_faultNow wsX6_faultNow) := goodIn_app (goodIn_of _ (by decide +kernel)) ggX6_oneBeat_X6_faultNow
set_option maxRecDepth 20000 in
theorem ggX6_oneBeat_X6_become : GoodIn wsX6_oneBeat wsX6_become := goodIn_r _ [32, 1, 33, 16, 34, 35, 36, 37, 95, 96, 97, 98, 99, 100, 101, 102, 103, 104, 105, 106, 107, 108, 109, 110, 111, 112, 113, 114, 115, 116, 117, 118, 119] (by decide +kernel) (by decide +kernel)
set_option maxRecDepth 20000 in
theorem gX6_oneBeat_X6_become : GoodIn wsX6_oneBeat (wsV RX6 162 RX6 yX6_become wsX6_become) := goodIn_app (goodIn_of _ (by decide +kernel)) ggX6_oneBeat_X6_become
set_option maxRecDepth 20000 in
theorem ggX6_oneBeat_X6_lead : GoodIn wsX6_oneBeat wsX6_lead := goodIn_r _ [41, 7, 42, 17, 43, 14, 3, 15, 4, 44, 45, 46, 22, 47, 48, 49, 5, 50, 51, 52, 53, 54, 55, 56, 57, 58, 59, 60, 26, 27, 28, 95, 96, 97, 98, 99, 100, 101, 102, 103, 104, 105, 106, 107, 108, 109, 110, 111, 112, 113, 114, 115, 116, 117, 118, 119] (by decide +kernel) (by decide +kernel)
set_option maxRecDepth 20000 in
theorem gX6_oneBeat_X6_lead : GoodIn wsX6_oneBeat (wsV RX6 185 RX6 yX6_lead wsX6_lead) := goodIn_app (goodIn_of _ (by decide +kernel)) ggX6_oneBeat_X6_lead
set_option maxRecDepth 20000 in
theorem ggX6_oneBeat_X6_backAlpha : GoodIn wsX6_oneBeat wsX6_backAlpha := goodIn_r _ [63, 64, 65, 22, 66, 67, 68, 69, 70, 71, 72, 73, 74] (by decide +kernel) (by decide +kernel)
set_option maxRecDepth 20000 in
theorem gX6_oneBeat_X6_backAlpha : GoodIn wsX6_oneBeat (va_wsS RX6 78 yX6_backAlpha wsX6_backAlpha) := goodIn_app (goodIn_of _ (by decide +kernel)) ggX6_oneBeat_X6_backAlpha
set_option maxRecDepth 20000 in
theorem ggX6_oneBeat_X6_backBeta : GoodIn wsX6_oneBeat wsX6_backBeta := goodIn_r _ [77, 68, 69, 22, 70, 71, 72, 73, 74, 64, 65, 66, 67] (by decide +kernel) (by decide +kernel)
set_option maxRecDepth 20000 in
theorem gX6_oneBeat_X6_backBeta : GoodIn wsX6_oneBeat (va_wsS RX6 82 yX6_backBeta wsX6_backBeta) := goodIn_app (goodIn_of _ (by decide +kernel)) ggX6_oneBeat_X6_backBeta
set_option maxRecDepth 20000 in
theorem ggX6_oneBeat_X6_findTimes : GoodIn wsX6_oneBeat wsX6_findTimes := goodIn_r _ [81, 82, 72, 83, 11, 84, 7, 85, 10, 95, 96, 97, 98, 99, 100, 101, 102, 103, 104, 105, 106, 107, 108, 109, 110, 111, 112, 113, 114, 115, 116, 117, 118, 119] (by decide +kernel) (by decide +kernel)
set_option maxRecDepth 20000 in
theorem gX6_oneBeat_X6_findTimes : GoodIn wsX6_oneBeat (wsV RX6 95 RX6 yX6_findTimes wsX6_findTimes) := goodIn_app (goodIn_of _ (by decide +kernel)) ggX6_oneBeat_X6_findTimes
set_option maxRecDepth 20000 in
theorem ggX6_oneBeat_X6_moveOn : GoodIn wsX6_oneBeat wsX6_moveOn := goodIn_r _ [89, 14, 3, 18, 17, 15, 90, 4, 7, 91, 92, 93, 8, 94, 58, 59, 22, 60, 95, 96, 97, 98, 99, 100, 101, 102, 103, 104, 105, 106, 107, 108, 109, 110, 111, 112, 113, 114, 115, 116, 117, 118, 119] (by decide +kernel) (by decide +kernel)
set_option maxRecDepth 20000 in
theorem gX6_oneBeat_X6_moveOn : GoodIn wsX6_oneBeat (wsV RX6 195 RX6 yX6_moveOn wsX6_moveOn) := goodIn_app (goodIn_of _ (by decide +kernel)) ggX6_oneBeat_X6_moveOn
set_option maxRecDepth 20000 in
theorem ggX6_oneBeat_X6_size : GoodIn wsX6_oneBeat wsX6_size := goodIn_r _ [28] (by decide +kernel) (by decide +kernel)
set_option maxRecDepth 20000 in
theorem gX6_oneBeat_X6_size : GoodIn wsX6_oneBeat (va_wsS RX6 144 yX6_size wsX6_size) := goodIn_app (goodIn_of _ (by decide +kernel)) ggX6_oneBeat_X6_size
theorem dX6_oneBeat_0 : decode cX6_oneBeat 0 = .ok (.aload_n 0, 1) := by decide +kernel
theorem dX6_oneBeat_1 : decode cX6_oneBeat 1 = .ok (.invokevirtual 154, 3) := by decide +kernel
theorem dX6_oneBeat_4 : decode cX6_oneBeat 4 = .ok (.istore_n 1, 1) := by decide +kernel
theorem dX6_oneBeat_5 : decode cX6_oneBeat 5 = .ok (.iload_n 1, 1) := by decide +kernel
theorem dX6_oneBeat_6 : decode cX6_oneBeat 6 = .ok (.ifCond .le 21, 3) := by decide +kernel
theorem dX6_oneBeat_9 : decode cX6_oneBeat 9 = .ok (.aload_n 0, 1) := by decide +kernel
theorem dX6_oneBeat_10 : decode cX6_oneBeat 10 = .ok (.getfield 128, 3) := by decide +kernel
theorem dX6_oneBeat_13 : decode cX6_oneBeat 13 = .ok (.iconst 4, 1) := by decide +kernel
theorem dX6_oneBeat_14 : decode cX6_oneBeat 14 = .ok (.if_icmp .eq 13, 3) := by decide +kernel
theorem dX6_oneBeat_17 : decode cX6_oneBeat 17 = .ok (.aload_n 0, 1) := by decide +kernel
theorem dX6_oneBeat_18 : decode cX6_oneBeat 18 = .ok (.iconst 4, 1) := by decide +kernel
theorem dX6_oneBeat_19 : decode cX6_oneBeat 19 = .ok (.iload_n 1, 1) := by decide +kernel
theorem dX6_oneBeat_20 : decode cX6_oneBeat 20 = .ok (.aload_n 0, 1) := by decide +kernel
theorem dX6_oneBeat_21 : decode cX6_oneBeat 21 = .ok (.getfield 159, 3) := by decide +kernel
theorem dX6_oneBeat_24 : decode cX6_oneBeat 24 = .ok (.invokevirtual 162, 3) := by decide +kernel
theorem dX6_oneBeat_27 : decode cX6_oneBeat 27 = .ok (.aload_n 0, 1) := by decide +kernel
theorem dX6_oneBeat_28 : decode cX6_oneBeat 28 = .ok (.getfield 128, 3) := by decide +kernel
theorem dX6_oneBeat_31 : decode cX6_oneBeat 31 = .ok (.ifCond .eq 11, 3) := by decide +kernel
theorem dX6_oneBeat_34 : decode cX6_oneBeat 34 = .ok (.aload_n 0, 1) := by decide +kernel
theorem dX6_oneBeat_35 : decode cX6_oneBeat 35 = .ok (.getfield 128, 3) := by decide +kernel
theorem dX6_oneBeat_38 : decode cX6_oneBeat 38 = .ok (.iconst 4, 1) := by decide +kernel
theorem dX6_oneBeat_39 : decode cX6_oneBeat 39 = .ok (.if_icmp .ne 7, 3) := by decide +kernel
theorem dX6_oneBeat_42 : decode cX6_oneBeat 42 = .ok (.iconst 1, 1) := by decide +kernel
theorem dX6_oneBeat_43 : decode cX6_oneBeat 43 = .ok (.goto 4, 3) := by decide +kernel
theorem dX6_oneBeat_46 : decode cX6_oneBeat 46 = .ok (.iconst 0, 1) := by decide +kernel
theorem dX6_oneBeat_47 : decode cX6_oneBeat 47 = .ok (.istore_n 2, 1) := by decide +kernel
theorem dX6_oneBeat_48 : decode cX6_oneBeat 48 = .ok (.iload_n 2, 1) := by decide +kernel
theorem dX6_oneBeat_49 : decode cX6_oneBeat 49 = .ok (.ifCond .eq 37, 3) := by decide +kernel
theorem dX6_oneBeat_52 : decode cX6_oneBeat 52 = .ok (.aload_n 0, 1) := by decide +kernel
theorem dX6_oneBeat_53 : decode cX6_oneBeat 53 = .ok (.lconst 0, 1) := by decide +kernel
theorem dX6_oneBeat_54 : decode cX6_oneBeat 54 = .ok (.putfield 177, 3) := by decide +kernel
theorem dX6_oneBeat_57 : decode cX6_oneBeat 57 = .ok (.aload_n 0, 1) := by decide +kernel
theorem dX6_oneBeat_58 : decode cX6_oneBeat 58 = .ok (.lconst 0, 1) := by decide +kernel
theorem dX6_oneBeat_59 : decode cX6_oneBeat 59 = .ok (.putfield 180, 3) := by decide +kernel
theorem dX6_oneBeat_62 : decode cX6_oneBeat 62 = .ok (.aload_n 0, 1) := by decide +kernel
theorem dX6_oneBeat_63 : decode cX6_oneBeat 63 = .ok (.getfield 19, 3) := by decide +kernel
theorem dX6_oneBeat_66 : decode cX6_oneBeat 66 = .ok (.iconst 0, 1) := by decide +kernel
theorem dX6_oneBeat_67 : decode cX6_oneBeat 67 = .ok (.lconst 0, 1) := by decide +kernel
theorem dX6_oneBeat_68 : decode cX6_oneBeat 68 = .ok (.lastore, 1) := by decide +kernel
theorem dX6_oneBeat_69 : decode cX6_oneBeat 69 = .ok (.aload_n 0, 1) := by decide +kernel
theorem dX6_oneBeat_70 : decode cX6_oneBeat 70 = .ok (.getfield 19, 3) := by decide +kernel
theorem dX6_oneBeat_73 : decode cX6_oneBeat 73 = .ok (.iconst 1, 1) := by decide +kernel
theorem dX6_oneBeat_74 : decode cX6_oneBeat 74 = .ok (.lconst 0, 1) := by decide +kernel
theorem dX6_oneBeat_75 : decode cX6_oneBeat 75 = .ok (.lastore, 1) := by decide +kernel
theorem dX6_oneBeat_76 : decode cX6_oneBeat 76 = .ok (.aload_n 0, 1) := by decide +kernel
theorem dX6_oneBeat_77 : decode cX6_oneBeat 77 = .ok (.getfield 19, 3) := by decide +kernel
theorem dX6_oneBeat_80 : decode cX6_oneBeat 80 = .ok (.iconst 2, 1) := by decide +kernel
theorem dX6_oneBeat_81 : decode cX6_oneBeat 81 = .ok (.lconst 0, 1) := by decide +kernel
theorem dX6_oneBeat_82 : decode cX6_oneBeat 82 = .ok (.lastore, 1) := by decide +kernel
theorem dX6_oneBeat_83 : decode cX6_oneBeat 83 = .ok (.goto 49, 3) := by decide +kernel
theorem dX6_oneBeat_86 : decode cX6_oneBeat 86 = .ok (.aload_n 0, 1) := by decide +kernel
theorem dX6_oneBeat_87 : decode cX6_oneBeat 87 = .ok (.getfield 128, 3) := by decide +kernel
theorem dX6_oneBeat_90 : decode cX6_oneBeat 90 = .ok (.iconst 1, 1) := by decide +kernel
theorem dX6_oneBeat_91 : decode cX6_oneBeat 91 = .ok (.if_icmp .ne 18, 3) := by decide +kernel
theorem dX6_oneBeat_94 : decode cX6_oneBeat 94 = .ok (.aload_n 0, 1) := by decide +kernel
theorem dX6_oneBeat_95 : decode cX6_oneBeat 95 = .ok (.ldc2_w 183, 3) := by decide +kernel
theorem dX6_oneBeat_98 : decode cX6_oneBeat 98 = .ok (.putfield 177, 3) := by decide +kernel
theorem dX6_oneBeat_101 : decode cX6_oneBeat 101 = .ok (.aload_n 0, 1) := by decide +kernel
theorem dX6_oneBeat_102 : decode cX6_oneBeat 102 = .ok (.lconst 0, 1) := by decide +kernel
theorem dX6_oneBeat_103 : decode cX6_oneBeat 103 = .ok (.putfield 180, 3) := by decide +kernel
theorem dX6_oneBeat_106 : decode cX6_oneBeat 106 = .ok (.goto 26, 3) := by decide +kernel
theorem dX6_oneBeat_109 : decode cX6_oneBeat 109 = .ok (.aload_n 0, 1) := by decide +kernel
theorem dX6_oneBeat_110 : decode cX6_oneBeat 110 = .ok (.aload_n 0, 1) := by decide +kernel
theorem dX6_oneBeat_111 : decode cX6_oneBeat 111 = .ok (.getfield 128, 3) := by decide +kernel
theorem dX6_oneBeat_114 : decode cX6_oneBeat 114 = .ok (.iconst 2, 1) := by decide +kernel
theorem dX6_oneBeat_115 : decode cX6_oneBeat 115 = .ok (.if_icmp .ne 13, 3) := by decide +kernel
theorem dX6_oneBeat_118 : decode cX6_oneBeat 118 = .ok (.aload_n 0, 1) := by decide +kernel
theorem dX6_oneBeat_119 : decode cX6_oneBeat 119 = .ok (.getfield 7, 3) := by decide +kernel
theorem dX6_oneBeat_122 : decode cX6_oneBeat 122 = .ok (.iconst 5, 1) := by decide +kernel
theorem dX6_oneBeat_123 : decode cX6_oneBeat 123 = .ok (.iaload, 1) := by decide +kernel
theorem dX6_oneBeat_124 : decode cX6_oneBeat 124 = .ok (.i2l, 1) := by decide +kernel
theorem dX6_oneBeat_125 : decode cX6_oneBeat 125 = .ok (.goto 4, 3) := by decide +kernel
theorem dX6_oneBeat_128 : decode cX6_oneBeat 128 = .ok (.lconst 0, 1) := by decide +kernel
theorem dX6_oneBeat_129 : decode cX6_oneBeat 129 = .ok (.invokevirtual 185, 3) := by decide +kernel
theorem dX6_oneBeat_132 : decode cX6_oneBeat 132 = .ok (.aload_n 0, 1) := by decide +kernel
theorem dX6_oneBeat_133 : decode cX6_oneBeat 133 = .ok (.getfield 128, 3) := by decide +kernel
theorem dX6_oneBeat_136 : decode cX6_oneBeat 136 = .ok (.iconst 1, 1) := by decide +kernel
theorem dX6_oneBeat_137 : decode cX6_oneBeat 137 = .ok (.if_icmp .ne 7, 3) := by decide +kernel
theorem dX6_oneBeat_140 : decode cX6_oneBeat 140 = .ok (.iconst 0, 1) := by decide +kernel
theorem dX6_oneBeat_141 : decode cX6_oneBeat 141 = .ok (.goto 7, 3) := by decide +kernel
theorem dX6_oneBeat_144 : decode cX6_oneBeat 144 = .ok (.aload_n 0, 1) := by decide +kernel
theorem dX6_oneBeat_145 : decode cX6_oneBeat 145 = .ok (.getfield 189, 3) := by decide +kernel
theorem dX6_oneBeat_148 : decode cX6_oneBeat 148 = .ok (.istore_n 3, 1) := by decide +kernel
theorem dX6_oneBeat_149 : decode cX6_oneBeat 149 = .ok (.aload_n 0, 1) := by decide +kernel
theorem dX6_oneBeat_150 : decode cX6_oneBeat 150 = .ok (.aload_n 0, 1) := by decide +kernel
theorem dX6_oneBeat_151 : decode cX6_oneBeat 151 = .ok (.getfield 177, 3) := by decide +kernel
theorem dX6_oneBeat_154 : decode cX6_oneBeat 154 = .ok (.aload_n 0, 1) := by decide +kernel
theorem dX6_oneBeat_155 : decode cX6_oneBeat 155 = .ok (.getfield 180, 3) := by decide +kernel
theorem dX6_oneBeat_158 : decode cX6_oneBeat 158 = .ok (.iload_n 3, 1) := by decide +kernel
theorem dX6_oneBeat_159 : decode cX6_oneBeat 159 = .ok (.invokestatic 78, 3) := by decide +kernel
theorem dX6_oneBeat_162 : decode cX6_oneBeat 162 = .ok (.aload_n 0, 1) := by decide +kernel
theorem dX6_oneBeat_163 : decode cX6_oneBeat 163 = .ok (.getfield 177, 3) := by decide +kernel
theorem dX6_oneBeat_166 : decode cX6_oneBeat 166 = .ok (.aload_n 0, 1) := by decide +kernel
theorem dX6_oneBeat_167 : decode cX6_oneBeat 167 = .ok (.getfield 180, 3) := by decide +kernel
theorem dX6_oneBeat_170 : decode cX6_oneBeat 170 = .ok (.iload_n 3, 1) := by decide +kernel
theorem dX6_oneBeat_171 : decode cX6_oneBeat 171 = .ok (.invokestatic 82, 3) := by decide +kernel
theorem dX6_oneBeat_174 : decode cX6_oneBeat 174 = .ok (.invokevirtual 95, 3) := by decide +kernel
theorem dX6_oneBeat_177 : decode cX6_oneBeat 177 = .ok (.iconst 0, 1) := by decide +kernel
theorem dX6_oneBeat_178 : decode cX6_oneBeat 178 = .ok (.istore 4, 2) := by decide +kernel
theorem dX6_oneBeat_180 : decode cX6_oneBeat 180 = .ok (.iload 4, 2) := by decide +kernel
theorem dX6_oneBeat_182 : decode cX6_oneBeat 182 = .ok (.iconst 3, 1) := by decide +kernel
theorem dX6_oneBeat_183 : decode cX6_oneBeat 183 = .ok (.if_icmp .ge 31, 3) := by decide +kernel
theorem dX6_oneBeat_186 : decode cX6_oneBeat 186 = .ok (.aload_n 0, 1) := by decide +kernel
theorem dX6_oneBeat_187 : decode cX6_oneBeat 187 = .ok (.getfield 23, 3) := by decide +kernel
theorem dX6_oneBeat_190 : decode cX6_oneBeat 190 = .ok (.iload 4, 2) := by decide +kernel
theorem dX6_oneBeat_192 : decode cX6_oneBeat 192 = .ok (.iload_n 2, 1) := by decide +kernel
theorem dX6_oneBeat_193 : decode cX6_oneBeat 193 = .ok (.ifCond .eq 7, 3) := by decide +kernel
theorem dX6_oneBeat_196 : decode cX6_oneBeat 196 = .ok (.iconst 0, 1) := by decide +kernel
theorem dX6_oneBeat_197 : decode cX6_oneBeat 197 = .ok (.goto 10, 3) := by decide +kernel
theorem dX6_oneBeat_200 : decode cX6_oneBeat 200 = .ok (.aload_n 0, 1) := by decide +kernel
theorem dX6_oneBeat_201 : decode cX6_oneBeat 201 = .ok (.getfield 35, 3) := by decide +kernel
theorem dX6_oneBeat_204 : decode cX6_oneBeat 204 = .ok (.iload 4, 2) := by decide +kernel
theorem dX6_oneBeat_206 : decode cX6_oneBeat 206 = .ok (.iaload, 1) := by decide +kernel
theorem dX6_oneBeat_207 : decode cX6_oneBeat 207 = .ok (.iastore, 1) := by decide +kernel
theorem dX6_oneBeat_208 : decode cX6_oneBeat 208 = .ok (.iinc 4 1, 3) := by decide +kernel
theorem dX6_oneBeat_211 : decode cX6_oneBeat 211 = .ok (.goto (-31), 3) := by decide +kernel
theorem dX6_oneBeat_214 : decode cX6_oneBeat 214 = .ok (.aload_n 0, 1) := by decide +kernel
theorem dX6_oneBeat_215 : decode cX6_oneBeat 215 = .ok (.iload_n 2, 1) := by decide +kernel
theorem dX6_oneBeat_216 : decode cX6_oneBeat 216 = .ok (.ifCond .ne 14, 3) := by decide +kernel
theorem dX6_oneBeat_219 : decode cX6_oneBeat 219 = .ok (.aload_n 0, 1) := by decide +kernel
theorem dX6_oneBeat_220 : decode cX6_oneBeat 220 = .ok (.getfield 87, 3) := by decide +kernel
theorem dX6_oneBeat_223 : decode cX6_oneBeat 223 = .ok (.ifCond .eq 7, 3) := by decide +kernel
theorem dX6_oneBeat_226 : decode cX6_oneBeat 226 = .ok (.iconst 1, 1) := by decide +kernel
theorem dX6_oneBeat_227 : decode cX6_oneBeat 227 = .ok (.goto 4, 3) := by decide +kernel
theorem dX6_oneBeat_230 : decode cX6_oneBeat 230 = .ok (.iconst 0, 1) := by decide +kernel
theorem dX6_oneBeat_231 : decode cX6_oneBeat 231 = .ok (.putfield 192, 3) := by decide +kernel
theorem dX6_oneBeat_234 : decode cX6_oneBeat 234 = .ok (.aload_n 0, 1) := by decide +kernel
theorem dX6_oneBeat_235 : decode cX6_oneBeat 235 = .ok (.invokevirtual 195, 3) := by decide +kernel
theorem dX6_oneBeat_238 : decode cX6_oneBeat 238 = .ok (.aload_n 0, 1) := by decide +kernel
theorem dX6_oneBeat_239 : decode cX6_oneBeat 239 = .ok (.aload_n 0, 1) := by decide +kernel
theorem dX6_oneBeat_240 : decode cX6_oneBeat 240 = .ok (.getfield 151, 3) := by decide +kernel
theorem dX6_oneBeat_243 : decode cX6_oneBeat 243 = .ok (.aload_n 0, 1) := by decide +kernel
theorem dX6_oneBeat_244 : decode cX6_oneBeat 244 = .ok (.getfield 141, 3) := by decide +kernel
theorem dX6_oneBeat_247 : decode cX6_oneBeat 247 = .ok (.aload_n 0, 1) := by decide +kernel
theorem dX6_oneBeat_248 : decode cX6_oneBeat 248 = .ok (.getfield 141, 3) := by decide +kernel
theorem dX6_oneBeat_251 : decode cX6_oneBeat 251 = .ok (.lmul, 1) := by decide +kernel
theorem dX6_oneBeat_252 : decode cX6_oneBeat 252 = .ok (.aload_n 0, 1) := by decide +kernel
theorem dX6_oneBeat_253 : decode cX6_oneBeat 253 = .ok (.getfield 148, 3) := by decide +kernel
theorem dX6_oneBeat_256 : decode cX6_oneBeat 256 = .ok (.aload_n 0, 1) := by decide +kernel
theorem dX6_oneBeat_257 : decode cX6_oneBeat 257 = .ok (.getfield 148, 3) := by decide +kernel
theorem dX6_oneBeat_260 : decode cX6_oneBeat 260 = .ok (.lmul, 1) := by decide +kernel
theorem dX6_oneBeat_261 : decode cX6_oneBeat 261 = .ok (.ladd, 1) := by decide +kernel
theorem dX6_oneBeat_262 : decode cX6_oneBeat 262 = .ok (.bipush 16, 2) := by decide +kernel
theorem dX6_oneBeat_264 : decode cX6_oneBeat 264 = .ok (.lshr, 1) := by decide +kernel
theorem dX6_oneBeat_265 : decode cX6_oneBeat 265 = .ok (.ladd, 1) := by decide +kernel
theorem dX6_oneBeat_266 : decode cX6_oneBeat 266 = .ok (.aload_n 0, 1) := by decide +kernel
theorem dX6_oneBeat_267 : decode cX6_oneBeat 267 = .ok (.getfield 151, 3) := by decide +kernel
theorem dX6_oneBeat_270 : decode cX6_oneBeat 270 = .ok (.bipush 8, 2) := by decide +kernel
theorem dX6_oneBeat_272 : decode cX6_oneBeat 272 = .ok (.lshr, 1) := by decide +kernel
theorem dX6_oneBeat_273 : decode cX6_oneBeat 273 = .ok (.lsub, 1) := by decide +kernel
theorem dX6_oneBeat_274 : decode cX6_oneBeat 274 = .ok (.putfield 151, 3) := by decide +kernel
theorem dX6_oneBeat_277 : decode cX6_oneBeat 277 = .ok (.aload_n 0, 1) := by decide +kernel
theorem dX6_oneBeat_278 : decode cX6_oneBeat 278 = .ok (.getfield 128, 3) := by decide +kernel
theorem dX6_oneBeat_281 : decode cX6_oneBeat 281 = .ok (.iconst 1, 1) := by decide +kernel
theorem dX6_oneBeat_282 : decode cX6_oneBeat 282 = .ok (.if_icmp .ne 40, 3) := by decide +kernel
theorem dX6_oneBeat_285 : decode cX6_oneBeat 285 = .ok (.aload_n 0, 1) := by decide +kernel
theorem dX6_oneBeat_286 : decode cX6_oneBeat 286 = .ok (.dup, 1) := by decide +kernel
theorem dX6_oneBeat_287 : decode cX6_oneBeat 287 = .ok (.getfield 135, 3) := by decide +kernel
theorem dX6_oneBeat_290 : decode cX6_oneBeat 290 = .ok (.iconst 1, 1) := by decide +kernel
theorem dX6_oneBeat_291 : decode cX6_oneBeat 291 = .ok (.iadd, 1) := by decide +kernel
theorem dX6_oneBeat_292 : decode cX6_oneBeat 292 = .ok (.putfield 135, 3) := by decide +kernel
theorem dX6_oneBeat_295 : decode cX6_oneBeat 295 = .ok (.aload_n 0, 1) := by decide +kernel
theorem dX6_oneBeat_296 : decode cX6_oneBeat 296 = .ok (.getfield 135, 3) := by decide +kernel
theorem dX6_oneBeat_299 : decode cX6_oneBeat 299 = .ok (.bipush 64, 2) := by decide +kernel
theorem dX6_oneBeat_301 : decode cX6_oneBeat 301 = .ok (.if_icmp .ne 53, 3) := by decide +kernel
theorem dX6_oneBeat_304 : decode cX6_oneBeat 304 = .ok (.aload_n 0, 1) := by decide +kernel
theorem dX6_oneBeat_305 : decode cX6_oneBeat 305 = .ok (.iconst 2, 1) := by decide +kernel
theorem dX6_oneBeat_306 : decode cX6_oneBeat 306 = .ok (.iconst 0, 1) := by decide +kernel
theorem dX6_oneBeat_307 : decode cX6_oneBeat 307 = .ok (.aload_n 0, 1) := by decide +kernel
theorem dX6_oneBeat_308 : decode cX6_oneBeat 308 = .ok (.getfield 159, 3) := by decide +kernel
theorem dX6_oneBeat_311 : decode cX6_oneBeat 311 = .ok (.invokevirtual 162, 3) := by decide +kernel
theorem dX6_oneBeat_314 : decode cX6_oneBeat 314 = .ok (.aload_n 0, 1) := by decide +kernel
theorem dX6_oneBeat_315 : decode cX6_oneBeat 315 = .ok (.iconst 0, 1) := by decide +kernel
theorem dX6_oneBeat_316 : decode cX6_oneBeat 316 = .ok (.putfield 189, 3) := by decide +kernel
theorem dX6_oneBeat_319 : decode cX6_oneBeat 319 = .ok (.goto 35, 3) := by decide +kernel
theorem dX6_oneBeat_322 : decode cX6_oneBeat 322 = .ok (.aload_n 0, 1) := by decide +kernel
theorem dX6_oneBeat_323 : decode cX6_oneBeat 323 = .ok (.getfield 128, 3) := by decide +kernel
theorem dX6_oneBeat_326 : decode cX6_oneBeat 326 = .ok (.iconst 3, 1) := by decide +kernel
theorem dX6_oneBeat_327 : decode cX6_oneBeat 327 = .ok (.if_icmp .ne 27, 3) := by decide +kernel
theorem dX6_oneBeat_330 : decode cX6_oneBeat 330 = .ok (.aload_n 0, 1) := by decide +kernel
theorem dX6_oneBeat_331 : decode cX6_oneBeat 331 = .ok (.getfield 168, 3) := by decide +kernel
theorem dX6_oneBeat_334 : decode cX6_oneBeat 334 = .ok (.invokestatic 144, 3) := by decide +kernel
theorem dX6_oneBeat_337 : decode cX6_oneBeat 337 = .ok (.ldc2_w 198, 3) := by decide +kernel
theorem dX6_oneBeat_340 : decode cX6_oneBeat 340 = .ok (.lcmp, 1) := by decide +kernel
theorem dX6_oneBeat_341 : decode cX6_oneBeat 341 = .ok (.ifCond .ge 13, 3) := by decide +kernel
theorem dX6_oneBeat_344 : decode cX6_oneBeat 344 = .ok (.aload_n 0, 1) := by decide +kernel
theorem dX6_oneBeat_345 : decode cX6_oneBeat 345 = .ok (.iconst 0, 1) := by decide +kernel
theorem dX6_oneBeat_346 : decode cX6_oneBeat 346 = .ok (.iconst 0, 1) := by decide +kernel
theorem dX6_oneBeat_347 : decode cX6_oneBeat 347 = .ok (.aload_n 0, 1) := by decide +kernel
theorem dX6_oneBeat_348 : decode cX6_oneBeat 348 = .ok (.getfield 159, 3) := by decide +kernel
theorem dX6_oneBeat_351 : decode cX6_oneBeat 351 = .ok (.invokevirtual 162, 3) := by decide +kernel
theorem dX6_oneBeat_354 : decode cX6_oneBeat 354 = .ok (.aload_n 0, 1) := by decide +kernel
theorem dX6_oneBeat_355 : decode cX6_oneBeat 355 = .ok (.dup, 1) := by decide +kernel
theorem dX6_oneBeat_356 : decode cX6_oneBeat 356 = .ok (.getfield 159, 3) := by decide +kernel
theorem dX6_oneBeat_359 : decode cX6_oneBeat 359 = .ok (.iconst 1, 1) := by decide +kernel
theorem dX6_oneBeat_360 : decode cX6_oneBeat 360 = .ok (.iadd, 1) := by decide +kernel
theorem dX6_oneBeat_361 : decode cX6_oneBeat 361 = .ok (.putfield 159, 3) := by decide +kernel
theorem dX6_oneBeat_364 : decode cX6_oneBeat 364 = .ok (.return_, 1) := by decide +kernel
set_option maxRecDepth 20000 in
theorem ggX6_moveOn_X6_clamp : GoodIn wsX6_moveOn wsX6_clamp := goodIn_r _ [17] (by decide +kernel) (by decide +kernel)
set_option maxRecDepth 20000 in
theorem gX6_moveOn_X6_clamp : GoodIn wsX6_moveOn (va_wsS RX6 112 yX6_clamp wsX6_clamp) := goodIn_app (goodIn_of _ (by decide +kernel)) ggX6_moveOn_X6_clamp
theorem dX6_moveOn_0 : decode cX6_moveOn 0 = .ok (.aload_n 0, 1) := by decide +kernel
theorem dX6_moveOn_1 : decode cX6_moveOn 1 = .ok (.getfield 141, 3) := by decide +kernel
theorem dX6_moveOn_4 : decode cX6_moveOn 4 = .ok (.aload_n 0, 1) := by decide +kernel
theorem dX6_moveOn_5 : decode cX6_moveOn 5 = .ok (.getfield 177, 3) := by decide +kernel
theorem dX6_moveOn_8 : decode cX6_moveOn 8 = .ok (.aload_n 0, 1) := by decide +kernel
theorem dX6_moveOn_9 : decode cX6_moveOn 9 = .ok (.getfield 141, 3) := by decide +kernel
theorem dX6_moveOn_12 : decode cX6_moveOn 12 = .ok (.ldc2_w 198, 3) := by decide +kernel
theorem dX6_moveOn_15 : decode cX6_moveOn 15 = .ok (.lmul, 1) := by decide +kernel
theorem dX6_moveOn_16 : decode cX6_moveOn 16 = .ok (.bipush 8, 2) := by decide +kernel
theorem dX6_moveOn_18 : decode cX6_moveOn 18 = .ok (.lshr, 1) := by decide +kernel
theorem dX6_moveOn_19 : decode cX6_moveOn 19 = .ok (.lsub, 1) := by decide +kernel
theorem dX6_moveOn_20 : decode cX6_moveOn 20 = .ok (.aload_n 0, 1) := by decide +kernel
theorem dX6_moveOn_21 : decode cX6_moveOn 21 = .ok (.getfield 168, 3) := by decide +kernel
theorem dX6_moveOn_24 : decode cX6_moveOn 24 = .ok (.aload_n 0, 1) := by decide +kernel
theorem dX6_moveOn_25 : decode cX6_moveOn 25 = .ok (.getfield 148, 3) := by decide +kernel
theorem dX6_moveOn_28 : decode cX6_moveOn 28 = .ok (.lmul, 1) := by decide +kernel
theorem dX6_moveOn_29 : decode cX6_moveOn 29 = .ok (.bipush 17, 2) := by decide +kernel
theorem dX6_moveOn_31 : decode cX6_moveOn 31 = .ok (.lshr, 1) := by decide +kernel
theorem dX6_moveOn_32 : decode cX6_moveOn 32 = .ok (.ladd, 1) := by decide +kernel
theorem dX6_moveOn_33 : decode cX6_moveOn 33 = .ok (.ldc2_w 200, 3) := by decide +kernel
theorem dX6_moveOn_36 : decode cX6_moveOn 36 = .ok (.ldiv, 1) := by decide +kernel
theorem dX6_moveOn_37 : decode cX6_moveOn 37 = .ok (.ladd, 1) := by decide +kernel
theorem dX6_moveOn_38 : decode cX6_moveOn 38 = .ok (.lstore_n 1, 1) := by decide +kernel
theorem dX6_moveOn_39 : decode cX6_moveOn 39 = .ok (.aload_n 0, 1) := by decide +kernel
theorem dX6_moveOn_40 : decode cX6_moveOn 40 = .ok (.getfield 148, 3) := by decide +kernel
theorem dX6_moveOn_43 : decode cX6_moveOn 43 = .ok (.aload_n 0, 1) := by decide +kernel
theorem dX6_moveOn_44 : decode cX6_moveOn 44 = .ok (.getfield 180, 3) := by decide +kernel
theorem dX6_moveOn_47 : decode cX6_moveOn 47 = .ok (.aload_n 0, 1) := by decide +kernel
theorem dX6_moveOn_48 : decode cX6_moveOn 48 = .ok (.getfield 148, 3) := by decide +kernel
theorem dX6_moveOn_51 : decode cX6_moveOn 51 = .ok (.ldc2_w 198, 3) := by decide +kernel
theorem dX6_moveOn_54 : decode cX6_moveOn 54 = .ok (.lmul, 1) := by decide +kernel
theorem dX6_moveOn_55 : decode cX6_moveOn 55 = .ok (.bipush 8, 2) := by decide +kernel
theorem dX6_moveOn_57 : decode cX6_moveOn 57 = .ok (.lshr, 1) := by decide +kernel
theorem dX6_moveOn_58 : decode cX6_moveOn 58 = .ok (.lsub, 1) := by decide +kernel
theorem dX6_moveOn_59 : decode cX6_moveOn 59 = .ok (.aload_n 0, 1) := by decide +kernel
theorem dX6_moveOn_60 : decode cX6_moveOn 60 = .ok (.getfield 168, 3) := by decide +kernel
theorem dX6_moveOn_63 : decode cX6_moveOn 63 = .ok (.aload_n 0, 1) := by decide +kernel
theorem dX6_moveOn_64 : decode cX6_moveOn 64 = .ok (.getfield 141, 3) := by decide +kernel
theorem dX6_moveOn_67 : decode cX6_moveOn 67 = .ok (.lmul, 1) := by decide +kernel
theorem dX6_moveOn_68 : decode cX6_moveOn 68 = .ok (.bipush 17, 2) := by decide +kernel
theorem dX6_moveOn_70 : decode cX6_moveOn 70 = .ok (.lshr, 1) := by decide +kernel
theorem dX6_moveOn_71 : decode cX6_moveOn 71 = .ok (.lsub, 1) := by decide +kernel
theorem dX6_moveOn_72 : decode cX6_moveOn 72 = .ok (.aload_n 0, 1) := by decide +kernel
theorem dX6_moveOn_73 : decode cX6_moveOn 73 = .ok (.getfield 168, 3) := by decide +kernel
theorem dX6_moveOn_76 : decode cX6_moveOn 76 = .ok (.iconst 3, 1) := by decide +kernel
theorem dX6_moveOn_77 : decode cX6_moveOn 77 = .ok (.lshr, 1) := by decide +kernel
theorem dX6_moveOn_78 : decode cX6_moveOn 78 = .ok (.lsub, 1) := by decide +kernel
theorem dX6_moveOn_79 : decode cX6_moveOn 79 = .ok (.ldc2_w 200, 3) := by decide +kernel
theorem dX6_moveOn_82 : decode cX6_moveOn 82 = .ok (.ldiv, 1) := by decide +kernel
theorem dX6_moveOn_83 : decode cX6_moveOn 83 = .ok (.ladd, 1) := by decide +kernel
theorem dX6_moveOn_84 : decode cX6_moveOn 84 = .ok (.lstore_n 3, 1) := by decide +kernel
theorem dX6_moveOn_85 : decode cX6_moveOn 85 = .ok (.aload_n 0, 1) := by decide +kernel
theorem dX6_moveOn_86 : decode cX6_moveOn 86 = .ok (.getfield 168, 3) := by decide +kernel
theorem dX6_moveOn_89 : decode cX6_moveOn 89 = .ok (.aload_n 0, 1) := by decide +kernel
theorem dX6_moveOn_90 : decode cX6_moveOn 90 = .ok (.getfield 148, 3) := by decide +kernel
theorem dX6_moveOn_93 : decode cX6_moveOn 93 = .ok (.aload_n 0, 1) := by decide +kernel
theorem dX6_moveOn_94 : decode cX6_moveOn 94 = .ok (.getfield 7, 3) := by decide +kernel
theorem dX6_moveOn_97 : decode cX6_moveOn 97 = .ok (.iconst 2, 1) := by decide +kernel
theorem dX6_moveOn_98 : decode cX6_moveOn 98 = .ok (.iaload, 1) := by decide +kernel
theorem dX6_moveOn_99 : decode cX6_moveOn 99 = .ok (.i2l, 1) := by decide +kernel
theorem dX6_moveOn_100 : decode cX6_moveOn 100 = .ok (.lsub, 1) := by decide +kernel
theorem dX6_moveOn_101 : decode cX6_moveOn 101 = .ok (.ldc2_w 202, 3) := by decide +kernel
theorem dX6_moveOn_104 : decode cX6_moveOn 104 = .ok (.ldiv, 1) := by decide +kernel
theorem dX6_moveOn_105 : decode cX6_moveOn 105 = .ok (.ladd, 1) := by decide +kernel
theorem dX6_moveOn_106 : decode cX6_moveOn 106 = .ok (.lstore 5, 2) := by decide +kernel
theorem dX6_moveOn_108 : decode cX6_moveOn 108 = .ok (.aload_n 0, 1) := by decide +kernel
theorem dX6_moveOn_109 : decode cX6_moveOn 109 = .ok (.lload_n 1, 1) := by decide +kernel
theorem dX6_moveOn_110 : decode cX6_moveOn 110 = .ok (.ldc2_w 59, 3) := by decide +kernel
theorem dX6_moveOn_113 : decode cX6_moveOn 113 = .ok (.invokestatic 112, 3) := by decide +kernel
theorem dX6_moveOn_116 : decode cX6_moveOn 116 = .ok (.putfield 141, 3) := by decide +kernel
theorem dX6_moveOn_119 : decode cX6_moveOn 119 = .ok (.aload_n 0, 1) := by decide +kernel
theorem dX6_moveOn_120 : decode cX6_moveOn 120 = .ok (.lload_n 3, 1) := by decide +kernel
theorem dX6_moveOn_121 : decode cX6_moveOn 121 = .ok (.ldc2_w 59, 3) := by decide +kernel
theorem dX6_moveOn_124 : decode cX6_moveOn 124 = .ok (.invokestatic 112, 3) := by decide +kernel
theorem dX6_moveOn_127 : decode cX6_moveOn 127 = .ok (.putfield 148, 3) := by decide +kernel
theorem dX6_moveOn_130 : decode cX6_moveOn 130 = .ok (.aload_n 0, 1) := by decide +kernel
theorem dX6_moveOn_131 : decode cX6_moveOn 131 = .ok (.lload 5, 2) := by decide +kernel
theorem dX6_moveOn_133 : decode cX6_moveOn 133 = .ok (.ldc2_w 204, 3) := by decide +kernel
theorem dX6_moveOn_136 : decode cX6_moveOn 136 = .ok (.invokestatic 112, 3) := by decide +kernel
theorem dX6_moveOn_139 : decode cX6_moveOn 139 = .ok (.putfield 168, 3) := by decide +kernel
theorem dX6_moveOn_142 : decode cX6_moveOn 142 = .ok (.aload_n 0, 1) := by decide +kernel
theorem dX6_moveOn_143 : decode cX6_moveOn 143 = .ok (.aload_n 0, 1) := by decide +kernel
theorem dX6_moveOn_144 : decode cX6_moveOn 144 = .ok (.getfield 189, 3) := by decide +kernel
theorem dX6_moveOn_147 : decode cX6_moveOn 147 = .ok (.i2l, 1) := by decide +kernel
theorem dX6_moveOn_148 : decode cX6_moveOn 148 = .ok (.aload_n 0, 1) := by decide +kernel
theorem dX6_moveOn_149 : decode cX6_moveOn 149 = .ok (.getfield 168, 3) := by decide +kernel
theorem dX6_moveOn_152 : decode cX6_moveOn 152 = .ok (.iconst 2, 1) := by decide +kernel
theorem dX6_moveOn_153 : decode cX6_moveOn 153 = .ok (.lshr, 1) := by decide +kernel
theorem dX6_moveOn_154 : decode cX6_moveOn 154 = .ok (.ladd, 1) := by decide +kernel
theorem dX6_moveOn_155 : decode cX6_moveOn 155 = .ok (.l2i, 1) := by decide +kernel
theorem dX6_moveOn_156 : decode cX6_moveOn 156 = .ok (.ldc 206, 2) := by decide +kernel
theorem dX6_moveOn_158 : decode cX6_moveOn 158 = .ok (.iand, 1) := by decide +kernel
theorem dX6_moveOn_159 : decode cX6_moveOn 159 = .ok (.putfield 189, 3) := by decide +kernel
theorem dX6_moveOn_162 : decode cX6_moveOn 162 = .ok (.return_, 1) := by decide +kernel
set_option maxRecDepth 20000 in
theorem ggX6_beat_X6_in : GoodIn wsX6_beat wsX6_in := goodIn_r _ [7] (by decide +kernel) (by decide +kernel)
set_option maxRecDepth 20000 in
theorem gX6_beat_X6_in : GoodIn wsX6_beat (va_wsS RX6 53 yX6_in wsX6_in) := goodIn_app (goodIn_of _ (by decide +kernel)) ggX6_beat_X6_in
set_option maxRecDepth 20000 in
theorem ggX6_beat_X6_oneBeat : GoodIn wsX6_beat wsX6_oneBeat := goodIn_r _ [11, 3, 12, 13, 14, 15, 16, 17, 18, 19, 20, 21, 22, 23, 24, 25, 26, 27, 28, 29, 30, 31, 6, 32, 33, 34, 35, 36, 37, 38, 39, 40, 41, 42, 43, 44, 45, 46, 47, 48, 49, 50, 51, 52, 53, 54, 55, 56, 57, 58, 59, 60, 61, 62, 63, 4, 5, 7, 64, 65, 66, 67, 68, 69, 70, 71, 72, 73, 74, 75, 76, 77, 78, 79, 80, 81, 82, 83, 84, 85, 86, 87, 88, 89, 90, 91, 92, 93, 94, 95, 96, 97, 98, 99, 100, 101, 102, 103, 104, 105, 106, 107, 108, 109, 110, 111, 112, 113, 114, 115, 116, 117, 118, 119, 120, 121, 122, 123, 124, 125] (by decide +kernel) (by decide +kernel)
set_option maxRecDepth 20000 in
theorem gX6_beat_X6_oneBeat : GoodIn wsX6_beat (wsV RX6 209 RX6 yX6_oneBeat wsX6_oneBeat) := goodIn_app (goodIn_of _ (by decide +kernel)) ggX6_beat_X6_oneBeat
theorem dX6_beat_0 : decode cX6_beat 0 = .ok (.iload_n 1, 1) := by decide +kernel
theorem dX6_beat_1 : decode cX6_beat 1 = .ok (.i2l, 1) := by decide +kernel
theorem dX6_beat_2 : decode cX6_beat 2 = .ok (.lconst 0, 1) := by decide +kernel
theorem dX6_beat_3 : decode cX6_beat 3 = .ok (.ldc2_w 207, 3) := by decide +kernel
theorem dX6_beat_6 : decode cX6_beat 6 = .ok (.invokestatic 53, 3) := by decide +kernel
theorem dX6_beat_9 : decode cX6_beat 9 = .ok (.ifCond .ne 6, 3) := by decide +kernel
theorem dX6_beat_12 : decode cX6_beat 12 = .ok (.ldc 65, 2) := by decide +kernel
theorem dX6_beat_14 : decode cX6_beat 14 = .ok (.ireturn, 1) := by decide +kernel
theorem dX6_beat_15 : decode cX6_beat 15 = .ok (.iconst 0, 1) := by decide +kernel
theorem dX6_beat_16 : decode cX6_beat 16 = .ok (.istore_n 2, 1) := by decide +kernel
theorem dX6_beat_17 : decode cX6_beat 17 = .ok (.iload_n 2, 1) := by decide +kernel
theorem dX6_beat_18 : decode cX6_beat 18 = .ok (.iload_n 1, 1) := by decide +kernel
theorem dX6_beat_19 : decode cX6_beat 19 = .ok (.if_icmp .ge 13, 3) := by decide +kernel
theorem dX6_beat_22 : decode cX6_beat 22 = .ok (.aload_n 0, 1) := by decide +kernel
theorem dX6_beat_23 : decode cX6_beat 23 = .ok (.invokevirtual 209, 3) := by decide +kernel
theorem dX6_beat_26 : decode cX6_beat 26 = .ok (.iinc 2 1, 3) := by decide +kernel
theorem dX6_beat_29 : decode cX6_beat 29 = .ok (.goto (-12), 3) := by decide +kernel
theorem dX6_beat_32 : decode cX6_beat 32 = .ok (.aload_n 0, 1) := by decide +kernel
theorem dX6_beat_33 : decode cX6_beat 33 = .ok (.getfield 128, 3) := by decide +kernel
theorem dX6_beat_36 : decode cX6_beat 36 = .ok (.ireturn, 1) := by decide +kernel
theorem dX6_told_0 : decode cX6_told 0 = .ok (.iload_n 1, 1) := by decide +kernel
theorem dX6_told_1 : decode cX6_told 1 = .ok (.tableswitch 206 0 17 #[87, 92, 97, 103, 109, 115, 120, 127, 134, 141, 147, 153, 159, 164, 177, 185, 193, 201], 87) := by decide +kernel
theorem dX6_told_88 : decode cX6_told 88 = .ok (.aload_n 0, 1) := by decide +kernel
theorem dX6_told_89 : decode cX6_told 89 = .ok (.getfield 128, 3) := by decide +kernel
theorem dX6_told_92 : decode cX6_told 92 = .ok (.ireturn, 1) := by decide +kernel
theorem dX6_told_93 : decode cX6_told 93 = .ok (.aload_n 0, 1) := by decide +kernel
theorem dX6_told_94 : decode cX6_told 94 = .ok (.getfield 132, 3) := by decide +kernel
theorem dX6_told_97 : decode cX6_told 97 = .ok (.ireturn, 1) := by decide +kernel
theorem dX6_told_98 : decode cX6_told 98 = .ok (.aload_n 0, 1) := by decide +kernel
theorem dX6_told_99 : decode cX6_told 99 = .ok (.getfield 141, 3) := by decide +kernel
theorem dX6_told_102 : decode cX6_told 102 = .ok (.l2i, 1) := by decide +kernel
theorem dX6_told_103 : decode cX6_told 103 = .ok (.ireturn, 1) := by decide +kernel
theorem dX6_told_104 : decode cX6_told 104 = .ok (.aload_n 0, 1) := by decide +kernel
theorem dX6_told_105 : decode cX6_told 105 = .ok (.getfield 148, 3) := by decide +kernel
theorem dX6_told_108 : decode cX6_told 108 = .ok (.l2i, 1) := by decide +kernel
theorem dX6_told_109 : decode cX6_told 109 = .ok (.ireturn, 1) := by decide +kernel
theorem dX6_told_110 : decode cX6_told 110 = .ok (.aload_n 0, 1) := by decide +kernel
theorem dX6_told_111 : decode cX6_told 111 = .ok (.getfield 168, 3) := by decide +kernel
theorem dX6_told_114 : decode cX6_told 114 = .ok (.l2i, 1) := by decide +kernel
theorem dX6_told_115 : decode cX6_told 115 = .ok (.ireturn, 1) := by decide +kernel
theorem dX6_told_116 : decode cX6_told 116 = .ok (.aload_n 0, 1) := by decide +kernel
theorem dX6_told_117 : decode cX6_told 117 = .ok (.getfield 189, 3) := by decide +kernel
theorem dX6_told_120 : decode cX6_told 120 = .ok (.ireturn, 1) := by decide +kernel
theorem dX6_told_121 : decode cX6_told 121 = .ok (.aload_n 0, 1) := by decide +kernel
theorem dX6_told_122 : decode cX6_told 122 = .ok (.getfield 23, 3) := by decide +kernel
theorem dX6_told_125 : decode cX6_told 125 = .ok (.iconst 0, 1) := by decide +kernel
theorem dX6_told_126 : decode cX6_told 126 = .ok (.iaload, 1) := by decide +kernel
theorem dX6_told_127 : decode cX6_told 127 = .ok (.ireturn, 1) := by decide +kernel
theorem dX6_told_128 : decode cX6_told 128 = .ok (.aload_n 0, 1) := by decide +kernel
theorem dX6_told_129 : decode cX6_told 129 = .ok (.getfield 23, 3) := by decide +kernel
theorem dX6_told_132 : decode cX6_told 132 = .ok (.iconst 1, 1) := by decide +kernel
theorem dX6_told_133 : decode cX6_told 133 = .ok (.iaload, 1) := by decide +kernel
theorem dX6_told_134 : decode cX6_told 134 = .ok (.ireturn, 1) := by decide +kernel
theorem dX6_told_135 : decode cX6_told 135 = .ok (.aload_n 0, 1) := by decide +kernel
theorem dX6_told_136 : decode cX6_told 136 = .ok (.getfield 23, 3) := by decide +kernel
theorem dX6_told_139 : decode cX6_told 139 = .ok (.iconst 2, 1) := by decide +kernel
theorem dX6_told_140 : decode cX6_told 140 = .ok (.iaload, 1) := by decide +kernel
theorem dX6_told_141 : decode cX6_told 141 = .ok (.ireturn, 1) := by decide +kernel
theorem dX6_told_142 : decode cX6_told 142 = .ok (.aload_n 0, 1) := by decide +kernel
theorem dX6_told_143 : decode cX6_told 143 = .ok (.getfield 177, 3) := by decide +kernel
theorem dX6_told_146 : decode cX6_told 146 = .ok (.l2i, 1) := by decide +kernel
theorem dX6_told_147 : decode cX6_told 147 = .ok (.ireturn, 1) := by decide +kernel
theorem dX6_told_148 : decode cX6_told 148 = .ok (.aload_n 0, 1) := by decide +kernel
theorem dX6_told_149 : decode cX6_told 149 = .ok (.getfield 180, 3) := by decide +kernel
theorem dX6_told_152 : decode cX6_told 152 = .ok (.l2i, 1) := by decide +kernel
theorem dX6_told_153 : decode cX6_told 153 = .ok (.ireturn, 1) := by decide +kernel
theorem dX6_told_154 : decode cX6_told 154 = .ok (.aload_n 0, 1) := by decide +kernel
theorem dX6_told_155 : decode cX6_told 155 = .ok (.getfield 151, 3) := by decide +kernel
theorem dX6_told_158 : decode cX6_told 158 = .ok (.l2i, 1) := by decide +kernel
theorem dX6_told_159 : decode cX6_told 159 = .ok (.ireturn, 1) := by decide +kernel
theorem dX6_told_160 : decode cX6_told 160 = .ok (.aload_n 0, 1) := by decide +kernel
theorem dX6_told_161 : decode cX6_told 161 = .ok (.getfield 159, 3) := by decide +kernel
theorem dX6_told_164 : decode cX6_told 164 = .ok (.ireturn, 1) := by decide +kernel
theorem dX6_told_165 : decode cX6_told 165 = .ok (.aload_n 0, 1) := by decide +kernel
theorem dX6_told_166 : decode cX6_told 166 = .ok (.getfield 192, 3) := by decide +kernel
theorem dX6_told_169 : decode cX6_told 169 = .ok (.ifCond .eq 7, 3) := by decide +kernel
theorem dX6_told_172 : decode cX6_told 172 = .ok (.iconst 1, 1) := by decide +kernel
theorem dX6_told_173 : decode cX6_told 173 = .ok (.goto 4, 3) := by decide +kernel
theorem dX6_told_176 : decode cX6_told 176 = .ok (.iconst 0, 1) := by decide +kernel
theorem dX6_told_177 : decode cX6_told 177 = .ok (.ireturn, 1) := by decide +kernel
theorem dX6_told_178 : decode cX6_told 178 = .ok (.aload_n 0, 1) := by decide +kernel
theorem dX6_told_179 : decode cX6_told 179 = .ok (.getfield 19, 3) := by decide +kernel
theorem dX6_told_182 : decode cX6_told 182 = .ok (.iconst 0, 1) := by decide +kernel
theorem dX6_told_183 : decode cX6_told 183 = .ok (.laload, 1) := by decide +kernel
theorem dX6_told_184 : decode cX6_told 184 = .ok (.l2i, 1) := by decide +kernel
theorem dX6_told_185 : decode cX6_told 185 = .ok (.ireturn, 1) := by decide +kernel
theorem dX6_told_186 : decode cX6_told 186 = .ok (.aload_n 0, 1) := by decide +kernel
theorem dX6_told_187 : decode cX6_told 187 = .ok (.getfield 19, 3) := by decide +kernel
theorem dX6_told_190 : decode cX6_told 190 = .ok (.iconst 1, 1) := by decide +kernel
theorem dX6_told_191 : decode cX6_told 191 = .ok (.laload, 1) := by decide +kernel
theorem dX6_told_192 : decode cX6_told 192 = .ok (.l2i, 1) := by decide +kernel
theorem dX6_told_193 : decode cX6_told 193 = .ok (.ireturn, 1) := by decide +kernel
theorem dX6_told_194 : decode cX6_told 194 = .ok (.aload_n 0, 1) := by decide +kernel
theorem dX6_told_195 : decode cX6_told 195 = .ok (.getfield 19, 3) := by decide +kernel
theorem dX6_told_198 : decode cX6_told 198 = .ok (.iconst 2, 1) := by decide +kernel
theorem dX6_told_199 : decode cX6_told 199 = .ok (.laload, 1) := by decide +kernel
theorem dX6_told_200 : decode cX6_told 200 = .ok (.l2i, 1) := by decide +kernel
theorem dX6_told_201 : decode cX6_told 201 = .ok (.ireturn, 1) := by decide +kernel
theorem dX6_told_202 : decode cX6_told 202 = .ok (.aload_n 0, 1) := by decide +kernel
theorem dX6_told_203 : decode cX6_told 203 = .ok (.getfield 135, 3) := by decide +kernel
theorem dX6_told_206 : decode cX6_told 206 = .ok (.ireturn, 1) := by decide +kernel
theorem dX6_told_207 : decode cX6_told 207 = .ok (.ldc 65, 2) := by decide +kernel
theorem dX6_told_209 : decode cX6_told 209 = .ok (.ireturn, 1) := by decide +kernel
set_option maxRecDepth 20000 in
theorem ggX6_ring_X6_in : GoodIn wsX6_ring wsX6_in := goodIn_r _ [10] (by decide +kernel) (by decide +kernel)
set_option maxRecDepth 20000 in
theorem gX6_ring_X6_in : GoodIn wsX6_ring (va_wsS RX6 53 yX6_in wsX6_in) := goodIn_app (goodIn_of _ (by decide +kernel)) ggX6_ring_X6_in
theorem dX6_ring_0 : decode cX6_ring 0 = .ok (.iload_n 2, 1) := by decide +kernel
theorem dX6_ring_1 : decode cX6_ring 1 = .ok (.i2l, 1) := by decide +kernel
theorem dX6_ring_2 : decode cX6_ring 2 = .ok (.lconst 0, 1) := by decide +kernel
theorem dX6_ring_3 : decode cX6_ring 3 = .ok (.ldc2_w 71, 3) := by decide +kernel
theorem dX6_ring_6 : decode cX6_ring 6 = .ok (.invokestatic 53, 3) := by decide +kernel
theorem dX6_ring_9 : decode cX6_ring 9 = .ok (.ifCond .ne 6, 3) := by decide +kernel
theorem dX6_ring_12 : decode cX6_ring 12 = .ok (.ldc 65, 2) := by decide +kernel
theorem dX6_ring_14 : decode cX6_ring 14 = .ok (.ireturn, 1) := by decide +kernel
theorem dX6_ring_15 : decode cX6_ring 15 = .ok (.iload_n 1, 1) := by decide +kernel
theorem dX6_ring_16 : decode cX6_ring 16 = .ok (.i2l, 1) := by decide +kernel
theorem dX6_ring_17 : decode cX6_ring 17 = .ok (.lconst 0, 1) := by decide +kernel
theorem dX6_ring_18 : decode cX6_ring 18 = .ok (.aload_n 0, 1) := by decide +kernel
theorem dX6_ring_19 : decode cX6_ring 19 = .ok (.getfield 138, 3) := by decide +kernel
theorem dX6_ring_22 : decode cX6_ring 22 = .ok (.bipush 20, 2) := by decide +kernel
theorem dX6_ring_24 : decode cX6_ring 24 = .ok (.if_icmp .ge 10, 3) := by decide +kernel
theorem dX6_ring_27 : decode cX6_ring 27 = .ok (.aload_n 0, 1) := by decide +kernel
theorem dX6_ring_28 : decode cX6_ring 28 = .ok (.getfield 138, 3) := by decide +kernel
theorem dX6_ring_31 : decode cX6_ring 31 = .ok (.goto 5, 3) := by decide +kernel
theorem dX6_ring_34 : decode cX6_ring 34 = .ok (.bipush 20, 2) := by decide +kernel
theorem dX6_ring_36 : decode cX6_ring 36 = .ok (.iconst 1, 1) := by decide +kernel
theorem dX6_ring_37 : decode cX6_ring 37 = .ok (.isub, 1) := by decide +kernel
theorem dX6_ring_38 : decode cX6_ring 38 = .ok (.i2l, 1) := by decide +kernel
theorem dX6_ring_39 : decode cX6_ring 39 = .ok (.invokestatic 53, 3) := by decide +kernel
theorem dX6_ring_42 : decode cX6_ring 42 = .ok (.ifCond .ne 5, 3) := by decide +kernel
theorem dX6_ring_45 : decode cX6_ring 45 = .ok (.iconst (-1), 1) := by decide +kernel
theorem dX6_ring_46 : decode cX6_ring 46 = .ok (.ireturn, 1) := by decide +kernel
theorem dX6_ring_47 : decode cX6_ring 47 = .ok (.aload_n 0, 1) := by decide +kernel
theorem dX6_ring_48 : decode cX6_ring 48 = .ok (.getfield 138, 3) := by decide +kernel
theorem dX6_ring_51 : decode cX6_ring 51 = .ok (.iconst 1, 1) := by decide +kernel
theorem dX6_ring_52 : decode cX6_ring 52 = .ok (.isub, 1) := by decide +kernel
theorem dX6_ring_53 : decode cX6_ring 53 = .ok (.iload_n 1, 1) := by decide +kernel
theorem dX6_ring_54 : decode cX6_ring 54 = .ok (.isub, 1) := by decide +kernel
theorem dX6_ring_55 : decode cX6_ring 55 = .ok (.bipush 20, 2) := by decide +kernel
theorem dX6_ring_57 : decode cX6_ring 57 = .ok (.irem, 1) := by decide +kernel
theorem dX6_ring_58 : decode cX6_ring 58 = .ok (.istore_n 3, 1) := by decide +kernel
theorem dX6_ring_59 : decode cX6_ring 59 = .ok (.iload_n 2, 1) := by decide +kernel
theorem dX6_ring_60 : decode cX6_ring 60 = .ok (.ifCond .ne 12, 3) := by decide +kernel
theorem dX6_ring_63 : decode cX6_ring 63 = .ok (.aload_n 0, 1) := by decide +kernel
theorem dX6_ring_64 : decode cX6_ring 64 = .ok (.getfield 26, 3) := by decide +kernel
theorem dX6_ring_67 : decode cX6_ring 67 = .ok (.iload_n 3, 1) := by decide +kernel
theorem dX6_ring_68 : decode cX6_ring 68 = .ok (.iaload, 1) := by decide +kernel
theorem dX6_ring_69 : decode cX6_ring 69 = .ok (.goto 23, 3) := by decide +kernel
theorem dX6_ring_72 : decode cX6_ring 72 = .ok (.iload_n 2, 1) := by decide +kernel
theorem dX6_ring_73 : decode cX6_ring 73 = .ok (.iconst 1, 1) := by decide +kernel
theorem dX6_ring_74 : decode cX6_ring 74 = .ok (.if_icmp .ne 12, 3) := by decide +kernel
theorem dX6_ring_77 : decode cX6_ring 77 = .ok (.aload_n 0, 1) := by decide +kernel
theorem dX6_ring_78 : decode cX6_ring 78 = .ok (.getfield 29, 3) := by decide +kernel
theorem dX6_ring_81 : decode cX6_ring 81 = .ok (.iload_n 3, 1) := by decide +kernel
theorem dX6_ring_82 : decode cX6_ring 82 = .ok (.iaload, 1) := by decide +kernel
theorem dX6_ring_83 : decode cX6_ring 83 = .ok (.goto 9, 3) := by decide +kernel
theorem dX6_ring_86 : decode cX6_ring 86 = .ok (.aload_n 0, 1) := by decide +kernel
theorem dX6_ring_87 : decode cX6_ring 87 = .ok (.getfield 32, 3) := by decide +kernel
theorem dX6_ring_90 : decode cX6_ring 90 = .ok (.iload_n 3, 1) := by decide +kernel
theorem dX6_ring_91 : decode cX6_ring 91 = .ok (.iaload, 1) := by decide +kernel
theorem dX6_ring_92 : decode cX6_ring 92 = .ok (.ireturn, 1) := by decide +kernel
set_option maxRecDepth 20000 in
theorem ggX6_digest_X6_told : GoodIn wsX6_digest wsX6_told := goodIn_r _ [5, 6, 7, 8, 9, 10, 11, 12, 13, 14, 15, 16, 17, 18, 19, 20, 21, 22, 23, 24, 25, 26, 27, 28, 29, 30, 31, 32, 33, 34, 35, 36, 37, 38, 39, 40, 41, 42, 43, 44, 45] (by decide +kernel) (by decide +kernel)
set_option maxRecDepth 20000 in
theorem gX6_digest_X6_told : GoodIn wsX6_digest (wsV RX6 212 RX6 yX6_told wsX6_told) := goodIn_app (goodIn_of _ (by decide +kernel)) ggX6_digest_X6_told
theorem dX6_digest_0 : decode cX6_digest 0 = .ok (.bipush 7, 2) := by decide +kernel
theorem dX6_digest_2 : decode cX6_digest 2 = .ok (.istore_n 1, 1) := by decide +kernel
theorem dX6_digest_3 : decode cX6_digest 3 = .ok (.iconst 0, 1) := by decide +kernel
theorem dX6_digest_4 : decode cX6_digest 4 = .ok (.istore_n 2, 1) := by decide +kernel
theorem dX6_digest_5 : decode cX6_digest 5 = .ok (.iload_n 2, 1) := by decide +kernel
theorem dX6_digest_6 : decode cX6_digest 6 = .ok (.bipush 18, 2) := by decide +kernel
theorem dX6_digest_8 : decode cX6_digest 8 = .ok (.if_icmp .ge 20, 3) := by decide +kernel
theorem dX6_digest_11 : decode cX6_digest 11 = .ok (.bipush 31, 2) := by decide +kernel
theorem dX6_digest_13 : decode cX6_digest 13 = .ok (.iload_n 1, 1) := by decide +kernel
theorem dX6_digest_14 : decode cX6_digest 14 = .ok (.imul, 1) := by decide +kernel
theorem dX6_digest_15 : decode cX6_digest 15 = .ok (.aload_n 0, 1) := by decide +kernel
theorem dX6_digest_16 : decode cX6_digest 16 = .ok (.iload_n 2, 1) := by decide +kernel
theorem dX6_digest_17 : decode cX6_digest 17 = .ok (.invokevirtual 212, 3) := by decide +kernel
theorem dX6_digest_20 : decode cX6_digest 20 = .ok (.iadd, 1) := by decide +kernel
theorem dX6_digest_21 : decode cX6_digest 21 = .ok (.istore_n 1, 1) := by decide +kernel
theorem dX6_digest_22 : decode cX6_digest 22 = .ok (.iinc 2 1, 3) := by decide +kernel
theorem dX6_digest_25 : decode cX6_digest 25 = .ok (.goto (-20), 3) := by decide +kernel
theorem dX6_digest_28 : decode cX6_digest 28 = .ok (.iload_n 1, 1) := by decide +kernel
theorem dX6_digest_29 : decode cX6_digest 29 = .ok (.ireturn, 1) := by decide +kernel
theorem dJ9_floorMod_7cf53_0 : decode cJ9_floorMod_7cf53 0 = .ok (.iload_n 0, 1) := by decide +kernel
theorem dJ9_floorMod_7cf53_1 : decode cJ9_floorMod_7cf53 1 = .ok (.iload_n 1, 1) := by decide +kernel
theorem dJ9_floorMod_7cf53_2 : decode cJ9_floorMod_7cf53 2 = .ok (.irem, 1) := by decide +kernel
theorem dJ9_floorMod_7cf53_3 : decode cJ9_floorMod_7cf53 3 = .ok (.istore_n 2, 1) := by decide +kernel
theorem dJ9_floorMod_7cf53_4 : decode cJ9_floorMod_7cf53 4 = .ok (.iload_n 0, 1) := by decide +kernel
theorem dJ9_floorMod_7cf53_5 : decode cJ9_floorMod_7cf53 5 = .ok (.iload_n 1, 1) := by decide +kernel
theorem dJ9_floorMod_7cf53_6 : decode cJ9_floorMod_7cf53 6 = .ok (.ixor, 1) := by decide +kernel
theorem dJ9_floorMod_7cf53_7 : decode cJ9_floorMod_7cf53 7 = .ok (.ifCond .ge 11, 3) := by decide +kernel
theorem dJ9_floorMod_7cf53_10 : decode cJ9_floorMod_7cf53 10 = .ok (.iload_n 2, 1) := by decide +kernel
theorem dJ9_floorMod_7cf53_11 : decode cJ9_floorMod_7cf53 11 = .ok (.ifCond .eq 7, 3) := by decide +kernel
theorem dJ9_floorMod_7cf53_14 : decode cJ9_floorMod_7cf53 14 = .ok (.iload_n 2, 1) := by decide +kernel
theorem dJ9_floorMod_7cf53_15 : decode cJ9_floorMod_7cf53 15 = .ok (.iload_n 1, 1) := by decide +kernel
theorem dJ9_floorMod_7cf53_16 : decode cJ9_floorMod_7cf53 16 = .ok (.iadd, 1) := by decide +kernel
theorem dJ9_floorMod_7cf53_17 : decode cJ9_floorMod_7cf53 17 = .ok (.ireturn, 1) := by decide +kernel
theorem dJ9_floorMod_7cf53_18 : decode cJ9_floorMod_7cf53 18 = .ok (.iload_n 2, 1) := by decide +kernel
theorem dJ9_floorMod_7cf53_19 : decode cJ9_floorMod_7cf53 19 = .ok (.ireturn, 1) := by decide +kernel
theorem dJ9_abs_067f4_0 : decode cJ9_abs_067f4 0 = .ok (.lload_n 0, 1) := by decide +kernel
theorem dJ9_abs_067f4_1 : decode cJ9_abs_067f4 1 = .ok (.lconst 0, 1) := by decide +kernel
theorem dJ9_abs_067f4_2 : decode cJ9_abs_067f4 2 = .ok (.lcmp, 1) := by decide +kernel
theorem dJ9_abs_067f4_3 : decode cJ9_abs_067f4 3 = .ok (.ifCond .ge 8, 3) := by decide +kernel
theorem dJ9_abs_067f4_6 : decode cJ9_abs_067f4 6 = .ok (.lload_n 0, 1) := by decide +kernel
theorem dJ9_abs_067f4_7 : decode cJ9_abs_067f4 7 = .ok (.lneg, 1) := by decide +kernel
theorem dJ9_abs_067f4_8 : decode cJ9_abs_067f4 8 = .ok (.goto 4, 3) := by decide +kernel
theorem dJ9_abs_067f4_11 : decode cJ9_abs_067f4 11 = .ok (.lload_n 0, 1) := by decide +kernel
theorem dJ9_abs_067f4_12 : decode cJ9_abs_067f4 12 = .ok (.lreturn, 1) := by decide +kernel
theorem dJ9_max_f86c9_0 : decode cJ9_max_f86c9 0 = .ok (.lload_n 0, 1) := by decide +kernel
theorem dJ9_max_f86c9_1 : decode cJ9_max_f86c9 1 = .ok (.lload_n 2, 1) := by decide +kernel
theorem dJ9_max_f86c9_2 : decode cJ9_max_f86c9 2 = .ok (.lcmp, 1) := by decide +kernel
theorem dJ9_max_f86c9_3 : decode cJ9_max_f86c9 3 = .ok (.ifCond .lt 7, 3) := by decide +kernel
theorem dJ9_max_f86c9_6 : decode cJ9_max_f86c9 6 = .ok (.lload_n 0, 1) := by decide +kernel
theorem dJ9_max_f86c9_7 : decode cJ9_max_f86c9 7 = .ok (.goto 4, 3) := by decide +kernel
theorem dJ9_max_f86c9_10 : decode cJ9_max_f86c9 10 = .ok (.lload_n 2, 1) := by decide +kernel
theorem dJ9_max_f86c9_11 : decode cJ9_max_f86c9 11 = .ok (.lreturn, 1) := by decide +kernel
theorem dJ9_min_7cf53_0 : decode cJ9_min_7cf53 0 = .ok (.iload_n 0, 1) := by decide +kernel
theorem dJ9_min_7cf53_1 : decode cJ9_min_7cf53 1 = .ok (.iload_n 1, 1) := by decide +kernel
theorem dJ9_min_7cf53_2 : decode cJ9_min_7cf53 2 = .ok (.if_icmp .gt 7, 3) := by decide +kernel
theorem dJ9_min_7cf53_5 : decode cJ9_min_7cf53 5 = .ok (.iload_n 0, 1) := by decide +kernel
theorem dJ9_min_7cf53_6 : decode cJ9_min_7cf53 6 = .ok (.goto 4, 3) := by decide +kernel
theorem dJ9_min_7cf53_9 : decode cJ9_min_7cf53 9 = .ok (.iload_n 1, 1) := by decide +kernel
theorem dJ9_min_7cf53_10 : decode cJ9_min_7cf53 10 = .ok (.ireturn, 1) := by decide +kernel
theorem dJ9_min_f86c9_0 : decode cJ9_min_f86c9 0 = .ok (.lload_n 0, 1) := by decide +kernel
theorem dJ9_min_f86c9_1 : decode cJ9_min_f86c9 1 = .ok (.lload_n 2, 1) := by decide +kernel
theorem dJ9_min_f86c9_2 : decode cJ9_min_f86c9 2 = .ok (.lcmp, 1) := by decide +kernel
theorem dJ9_min_f86c9_3 : decode cJ9_min_f86c9 3 = .ok (.ifCond .gt 7, 3) := by decide +kernel
theorem dJ9_min_f86c9_6 : decode cJ9_min_f86c9 6 = .ok (.lload_n 0, 1) := by decide +kernel
theorem dJ9_min_f86c9_7 : decode cJ9_min_f86c9 7 = .ok (.goto 4, 3) := by decide +kernel
theorem dJ9_min_f86c9_10 : decode cJ9_min_f86c9 10 = .ok (.lload_n 2, 1) := by decide +kernel
theorem dJ9_min_f86c9_11 : decode cJ9_min_f86c9 11 = .ok (.lreturn, 1) := by decide +kernel
set_option maxRecDepth 20000 in
theorem ggL_law_X5_init : GoodIn wsL_law wsX5_init := goodIn_r _ [8, 9, 10, 11, 12, 13, 14, 15, 16, 17, 18, 19, 20, 21, 22, 23, 24, 25, 26, 27, 28, 29, 30, 31, 32, 33, 34, 35, 36, 37, 38, 39, 40, 41, 42, 43, 44, 45, 46, 47, 48, 49, 50, 51, 52, 53, 54, 55, 56, 57, 58, 59, 60, 61, 62, 63, 64, 65, 66, 67, 68, 69, 70, 71, 72, 73, 484, 485, 486, 487, 488, 489, 490, 491, 492, 493, 494, 495, 496, 497, 498, 499, 525, 526, 527, 528, 529, 530, 531, 532, 533, 534, 535, 536, 537, 538] (by decide +kernel) (by decide +kernel)
set_option maxRecDepth 20000 in
theorem gL_law_X5_init : GoodIn wsL_law (wsX5_init) := ggL_law_X5_init
set_option maxRecDepth 20000 in
theorem ggL_law_X6_init : GoodIn wsL_law wsX6_init := goodIn_r _ [76, 77, 10, 11, 12, 78, 79, 80, 81, 82, 83, 84, 85, 86, 87, 88, 500, 501, 502, 503, 504, 505, 506, 507, 508, 509, 510, 511, 512, 513, 514, 515, 516, 517, 518, 519, 520, 521, 522, 523, 524] (by decide +kernel) (by decide +kernel)
set_option maxRecDepth 20000 in
theorem gL_law_X6_init : GoodIn wsL_law (wsX6_init) := ggL_law_X6_init
set_option maxRecDepth 20000 in
theorem ggL_law_X5_sine : GoodIn wsL_law wsX5_sine := goodIn_r _ [92, 93, 94, 95, 2, 96, 97, 98, 99, 100, 101, 102, 103, 104, 105, 106, 107, 108, 109, 110, 111] (by decide +kernel) (by decide +kernel)
set_option maxRecDepth 20000 in
theorem gL_law_X5_sine : GoodIn wsL_law (wsV RL 13 RX5 yX5_sine wsX5_sine) := goodIn_app (goodIn_of _ (by decide +kernel)) ggL_law_X5_sine
set_option maxRecDepth 20000 in
theorem ggL_law_X6_sine : GoodIn wsL_law wsX6_sine := goodIn_r _ [115, 116, 117, 118, 5, 119, 120, 121, 122, 123, 124, 125, 126, 127, 128, 129, 130] (by decide +kernel) (by decide +kernel)
set_option maxRecDepth 20000 in
theorem gL_law_X6_sine : GoodIn wsL_law (wsV RL 17 RX6 yX6_sine wsX6_sine) := goodIn_app (goodIn_of _ (by decide +kernel)) ggL_law_X6_sine
set_option maxRecDepth 20000 in
theorem ggL_law_X5_turned : GoodIn wsL_law wsX5_turned := goodIn_r _ [134, 93, 135, 136, 2, 137, 98, 99, 100, 94, 95, 96, 97, 138, 139, 103, 140, 141, 142, 143, 144, 145, 146, 147, 148, 149, 150, 102, 104, 105, 106, 107, 108, 109, 110, 111, 151, 152, 153] (by decide +kernel) (by decide +kernel)
set_option maxRecDepth 20000 in
theorem gL_law_X5_turned : GoodIn wsL_law (wsV RL 18 RX5 yX5_turned wsX5_turned) := goodIn_app (goodIn_of _ (by decide +kernel)) ggL_law_X5_turned
set_option maxRecDepth 20000 in
theorem ggL_law_X6_turned : GoodIn wsL_law wsX6_turned := goodIn_r _ [157, 158, 116, 159, 160, 161, 162, 5, 163, 164, 165, 121, 122, 123, 117, 118, 119, 120, 166, 167, 168, 169, 124, 125, 126, 127, 128, 129, 130] (by decide +kernel) (by decide +kernel)
set_option maxRecDepth 20000 in
theorem gL_law_X6_turned : GoodIn wsL_law (wsV RL 22 RX6 yX6_turned wsX6_turned) := goodIn_app (goodIn_of _ (by decide +kernel)) ggL_law_X6_turned
set_option maxRecDepth 20000 in
theorem ggL_law_X5_back : GoodIn wsL_law wsX5_back := goodIn_r _ [173, 93, 135, 136, 2, 137, 98, 99, 100, 94, 95, 96, 97, 174, 175, 103, 176, 146, 147, 148, 149, 150, 102, 104, 105, 106, 107, 108, 109, 110, 111, 177, 178, 179] (by decide +kernel) (by decide +kernel)
set_option maxRecDepth 20000 in
theorem gL_law_X5_back : GoodIn wsL_law (wsV RL 23 RX5 yX5_back wsX5_back) := goodIn_app (goodIn_of _ (by decide +kernel)) ggL_law_X5_back
set_option maxRecDepth 20000 in
theorem ggL_law_X6_back : GoodIn wsL_law wsX6_back := goodIn_r _ [183, 116, 161, 162, 5, 163, 164, 165, 121, 122, 123, 117, 118, 119, 120, 184, 185, 186, 166, 167, 168, 169, 124, 125, 126, 127, 128, 129, 130, 187, 188, 189] (by decide +kernel) (by decide +kernel)
set_option maxRecDepth 20000 in
theorem gL_law_X6_back : GoodIn wsL_law (wsV RL 26 RX6 yX6_back wsX6_back) := goodIn_app (goodIn_of _ (by decide +kernel)) ggL_law_X6_back
set_option maxRecDepth 20000 in
theorem ggL_law_X5_times : GoodIn wsL_law wsX5_times := goodIn_r _ [193, 93, 28, 13, 194, 195, 196, 197, 135, 136, 2, 137, 98, 99, 100, 198, 199, 200, 26, 201, 202, 203, 204, 205, 206, 207, 208, 209, 210, 211, 67, 64, 65, 66, 212, 213, 214, 215, 216, 217, 110, 111, 484, 485, 486, 487, 488, 489, 490, 491, 492, 493, 494, 495, 496, 497, 498, 499, 532, 533, 534, 535] (by decide +kernel) (by decide +kernel)
set_option maxRecDepth 20000 in
theorem gL_law_X5_times : GoodIn wsL_law (wsV RL 27 RX5 yX5_times wsX5_times) := goodIn_app (goodIn_of _ (by decide +kernel)) ggL_law_X5_times
set_option maxRecDepth 20000 in
theorem ggL_law_X6_times : GoodIn wsL_law wsX6_times := goodIn_r _ [221, 158, 116, 87, 222, 161, 162, 5, 163, 164, 165, 121, 122, 123, 223, 224, 225, 226, 227, 128, 159, 228, 78, 229, 500, 501, 502, 503, 504, 505, 506, 507, 508, 509, 510, 511, 512, 513, 514, 515, 516, 517, 518, 519, 520, 521, 522, 523, 524] (by decide +kernel) (by decide +kernel)
set_option maxRecDepth 20000 in
theorem gL_law_X6_times : GoodIn wsL_law (wsV RL 31 RX6 yX6_times wsX6_times) := goodIn_app (goodIn_of _ (by decide +kernel)) ggL_law_X6_times
set_option maxRecDepth 20000 in
theorem ggL_law_X5_rule : GoodIn wsL_law wsX5_rule := goodIn_r _ [233, 93, 234, 235, 13, 98, 99, 2, 100, 484, 485, 486, 487, 488, 489, 490, 491, 492, 493, 494, 495, 496, 497, 498, 499] (by decide +kernel) (by decide +kernel)
set_option maxRecDepth 20000 in
theorem gL_law_X5_rule : GoodIn wsL_law (wsV RL 32 RX5 yX5_rule wsX5_rule) := goodIn_app (goodIn_of _ (by decide +kernel)) ggL_law_X5_rule
set_option maxRecDepth 20000 in
theorem ggL_law_X6_rule : GoodIn wsL_law wsX6_rule := goodIn_r _ [239, 240, 116, 241, 242, 78, 121, 122, 5, 123, 500, 501, 502, 503, 504, 505, 506, 507, 508, 509, 510, 511, 512, 513, 514, 515, 516, 517, 518, 519, 520, 521, 522, 523, 524] (by decide +kernel) (by decide +kernel)
set_option maxRecDepth 20000 in
theorem gL_law_X6_rule : GoodIn wsL_law (wsV RL 36 RX6 yX6_rule wsX6_rule) := goodIn_app (goodIn_of _ (by decide +kernel)) ggL_law_X6_rule
set_option maxRecDepth 20000 in
theorem ggL_law_X5_gain : GoodIn wsL_law wsX5_gain := goodIn_r _ [246, 93, 17, 18, 19, 247, 248, 98, 99, 2, 100, 484, 485, 486, 487, 488, 489, 490, 491, 492, 493, 494, 495, 496, 497, 498, 499, 525, 526, 527] (by decide +kernel) (by decide +kernel)
set_option maxRecDepth 20000 in
theorem gL_law_X5_gain : GoodIn wsL_law (wsV RL 37 RX5 yX5_gain wsX5_gain) := goodIn_app (goodIn_of _ (by decide +kernel)) ggL_law_X5_gain
set_option maxRecDepth 20000 in
theorem ggL_law_X6_gain : GoodIn wsL_law wsX6_gain := goodIn_r _ [252, 159, 253, 116, 79, 80, 121, 122, 5, 123, 500, 501, 502, 503, 504, 505, 506, 507, 508, 509, 510, 511, 512, 513, 514, 515, 516, 517, 518, 519, 520, 521, 522, 523, 524] (by decide +kernel) (by decide +kernel)
set_option maxRecDepth 20000 in
theorem gL_law_X6_gain : GoodIn wsL_law (wsV RL 40 RX6 yX6_gain wsX6_gain) := goodIn_app (goodIn_of _ (by decide +kernel)) ggL_law_X6_gain
set_option maxRecDepth 20000 in
theorem ggL_law_X5_lose : GoodIn wsL_law wsX5_lose := goodIn_r _ [257, 35, 484, 485, 486, 487, 488, 489, 490, 491, 492, 493, 494, 495, 496, 497, 498, 499] (by decide +kernel) (by decide +kernel)
set_option maxRecDepth 20000 in
theorem gL_law_X5_lose : GoodIn wsL_law (wsV RL 41 RX5 yX5_lose wsX5_lose) := goodIn_app (goodIn_of _ (by decide +kernel)) ggL_law_X5_lose
set_option maxRecDepth 20000 in
theorem ggL_law_X6_lose : GoodIn wsL_law wsX6_lose := goodIn_r _ [261, 262, 500, 501, 502, 503, 504, 505, 506, 507, 508, 509, 510, 511, 512, 513, 514, 515, 516, 517, 518, 519, 520, 521, 522, 523, 524] (by decide +kernel) (by decide +kernel)
set_option maxRecDepth 20000 in
theorem gL_law_X6_lose : GoodIn wsL_law (wsV RL 45 RX6 yX6_lose wsX6_lose) := goodIn_app (goodIn_of _ (by decide +kernel)) ggL_law_X6_lose
set_option maxRecDepth 20000 in
theorem ggL_law_X5_order : GoodIn wsL_law wsX5_order := goodIn_r _ [266, 93, 267, 33, 98, 99, 2, 100, 268, 269, 270, 271, 272, 273, 274, 275, 23, 276, 277, 278, 206, 279, 13, 280, 35, 38, 281, 282, 283, 284, 285, 34, 40, 32, 39, 286, 287, 288, 31, 289, 72, 71, 73, 290, 291, 292, 293, 294, 295, 296, 484, 485, 486, 487, 488, 489, 490, 491, 492, 493, 494, 495, 496, 497, 498, 499, 528, 529, 530, 531, 536, 537, 538] (by decide +kernel) (by decide +kernel)
set_option maxRecDepth 20000 in
theorem gL_law_X5_order : GoodIn wsL_law (wsV RL 46 RX5 yX5_order wsX5_order) := goodIn_app (goodIn_of _ (by decide +kernel)) ggL_law_X5_order
set_option maxRecDepth 20000 in
theorem ggL_law_X6_order : GoodIn wsL_law wsX6_order := goodIn_r _ [300, 158, 116, 301, 302, 303, 121, 122, 5, 123, 304, 305, 306, 307, 308, 78, 309, 262, 310, 311, 312, 313, 314, 315, 316, 317, 318, 319, 320, 84, 321, 85, 86, 500, 501, 502, 503, 504, 505, 506, 507, 508, 509, 510, 511, 512, 513, 514, 515, 516, 517, 518, 519, 520, 521, 522, 523, 524] (by decide +kernel) (by decide +kernel)
set_option maxRecDepth 20000 in
theorem gL_law_X6_order : GoodIn wsL_law (wsV RL 49 RX6 yX6_order wsX6_order) := goodIn_app (goodIn_of _ (by decide +kernel)) ggL_law_X6_order
set_option maxRecDepth 20000 in
theorem ggL_law_X5_beat : GoodIn wsL_law wsX5_beat := goodIn_r _ [325, 93, 33, 98, 99, 2, 100, 326, 327, 328, 329, 23, 36, 37, 13, 38, 276, 280, 39, 330, 331, 332, 333, 272, 273, 274, 275, 277, 278, 206, 279, 35, 281, 282, 283, 284, 285, 34, 40, 32, 286, 287, 288, 31, 289, 72, 71, 73, 290, 291, 292, 293, 294, 295, 296, 334, 335, 336, 337, 338, 339, 340, 341, 342, 343, 19, 344, 17, 18, 345, 346, 347, 16, 348, 50, 52, 53, 349, 350, 351, 352, 353, 354, 355, 356, 357, 209, 210, 358, 205, 207, 359, 360, 361, 362, 363, 364, 365, 366, 367, 368, 369, 370, 371, 372, 27, 373, 374, 375, 376, 26, 377, 64, 65, 66, 67, 174, 175, 103, 176, 146, 147, 148, 149, 150, 102, 104, 105, 106, 107, 108, 109, 110, 111, 177, 178, 179, 198, 199, 200, 201, 202, 203, 204, 208, 211, 212, 213, 214, 215, 216, 217, 378, 379, 380, 22, 381, 57, 382, 59, 58, 383, 384, 385, 386, 60, 387, 388, 389, 390, 391, 392, 484, 485, 486, 487, 488, 489, 490, 491, 492, 493, 494, 495, 496, 497, 498, 499, 528, 529, 530, 531, 536, 537, 538, 525, 526, 527, 532, 533, 534, 535] (by decide +kernel) (by decide +kernel)
set_option maxRecDepth 20000 in
theorem gL_law_X5_beat : GoodIn wsL_law (wsV RL 50 RX5 yX5_beat wsX5_beat) := goodIn_app (goodIn_of _ (by decide +kernel)) ggL_law_X5_beat
set_option maxRecDepth 20000 in
theorem ggL_law_X6_beat : GoodIn wsL_law wsX6_beat := goodIn_r _ [396, 397, 116, 301, 121, 122, 5, 123, 398, 399, 400, 401, 303, 402, 403, 82, 404, 78, 405, 83, 87, 222, 406, 310, 308, 309, 320, 407, 408, 304, 305, 306, 307, 262, 311, 312, 313, 314, 315, 316, 317, 318, 319, 84, 321, 85, 86, 409, 410, 411, 412, 413, 414, 415, 416, 417, 418, 79, 80, 419, 420, 421, 422, 423, 424, 425, 426, 184, 185, 186, 166, 167, 168, 169, 124, 125, 126, 127, 128, 129, 130, 187, 188, 189, 223, 224, 225, 226, 227, 159, 228, 229, 427, 428, 429, 430, 431, 432, 165, 433, 434, 500, 501, 502, 503, 504, 505, 506, 507, 508, 509, 510, 511, 512, 513, 514, 515, 516, 517, 518, 519, 520, 521, 522, 523, 524] (by decide +kernel) (by decide +kernel)
set_option maxRecDepth 20000 in
theorem gL_law_X6_beat : GoodIn wsL_law (wsV RL 53 RX6 yX6_beat wsX6_beat) := goodIn_app (goodIn_of _ (by decide +kernel)) ggL_law_X6_beat
set_option maxRecDepth 20000 in
theorem ggL_law_X5_told : GoodIn wsL_law wsX5_told := goodIn_r _ [438, 33, 34, 23, 276, 280, 344, 373, 27, 194, 195, 196, 36, 37, 38, 39, 197, 17, 368, 18, 19, 40, 93, 484, 485, 486, 487, 488, 489, 490, 491, 492, 493, 494, 495, 496, 497, 498, 499, 528, 529, 530, 531, 532, 533, 534, 535, 525, 526, 527] (by decide +kernel) (by decide +kernel)
set_option maxRecDepth 20000 in
theorem gL_law_X5_told : GoodIn wsL_law (wsV RL 54 RX5 yX5_told wsX5_told) := goodIn_app (goodIn_of _ (by decide +kernel)) ggL_law_X5_told
set_option maxRecDepth 20000 in
theorem ggL_law_X6_told : GoodIn wsL_law wsX6_told := goodIn_r _ [442, 301, 319, 308, 309, 407, 405, 83, 402, 403, 310, 303, 406, 82, 320, 116, 500, 501, 502, 503, 504, 505, 506, 507, 508, 509, 510, 511, 512, 513, 514, 515, 516, 517, 518, 519, 520, 521, 522, 523, 524] (by decide +kernel) (by decide +kernel)
set_option maxRecDepth 20000 in
theorem gL_law_X6_told : GoodIn wsL_law (wsV RL 57 RX6 yX6_told wsX6_told) := goodIn_app (goodIn_of _ (by decide +kernel)) ggL_law_X6_told
set_option maxRecDepth 20000 in
theorem ggL_law_X5_ring : GoodIn wsL_law wsX5_ring := goodIn_r _ [446, 32, 447, 448, 449, 31, 450, 451, 73, 71, 72, 99, 2, 100, 293, 294, 295, 296, 484, 485, 486, 487, 488, 489, 490, 491, 492, 493, 494, 495, 496, 497, 498, 499, 536, 537, 538] (by decide +kernel) (by decide +kernel)
set_option maxRecDepth 20000 in
theorem gL_law_X5_ring : GoodIn wsL_law (wsV RL 58 RX5 yX5_ring wsX5_ring) := goodIn_app (goodIn_of _ (by decide +kernel)) ggL_law_X5_ring
set_option maxRecDepth 20000 in
theorem ggL_law_X6_ring : GoodIn wsL_law wsX6_ring := goodIn_r _ [455, 159, 116, 321, 84, 85, 86, 121, 122, 5, 123, 500, 501, 502, 503, 504, 505, 506, 507, 508, 509, 510, 511, 512, 513, 514, 515, 516, 517, 518, 519, 520, 521, 522, 523, 524] (by decide +kernel) (by decide +kernel)
set_option maxRecDepth 20000 in
theorem gL_law_X6_ring : GoodIn wsL_law (wsV RL 61 RX6 yX6_ring wsX6_ring) := goodIn_app (goodIn_of _ (by decide +kernel)) ggL_law_X6_ring
set_option maxRecDepth 20000 in
theorem ggL_law_X5_loop : GoodIn wsL_law wsX5_loop := goodIn_r _ [459, 93, 460, 461, 462, 463, 98, 99, 2, 100, 464, 350, 16, 351, 465, 355, 356, 357, 209, 206, 210, 358, 205, 207, 466, 353, 354] (by decide +kernel) (by decide +kernel)
set_option maxRecDepth 20000 in
theorem gL_law_X5_loop : GoodIn wsL_law (wsV RL 62 RX5 yX5_loop wsX5_loop) := goodIn_app (goodIn_of _ (by decide +kernel)) ggL_law_X5_loop
set_option maxRecDepth 20000 in
theorem ggL_law_X6_loop : GoodIn wsL_law wsX6_loop := goodIn_r _ [470, 253, 165, 471, 472, 473, 311, 116, 419, 121, 122, 5, 123, 420, 421, 422, 423, 424, 425, 426, 500, 501, 502, 503, 504, 505, 506, 507, 508, 509, 510, 511, 512, 513, 514, 515, 516, 517, 518, 519, 520, 521, 522, 523, 524] (by decide +kernel) (by decide +kernel)
set_option maxRecDepth 20000 in
theorem gL_law_X6_loop : GoodIn wsL_law (wsV RL 66 RX6 yX6_loop wsX6_loop) := goodIn_app (goodIn_of _ (by decide +kernel)) ggL_law_X6_loop
set_option maxRecDepth 20000 in
theorem ggL_law_X5_digest : GoodIn wsL_law wsX5_digest := goodIn_r _ [477, 478, 436, 437, 2, 438, 33, 34, 23, 276, 280, 344, 373, 27, 194, 195, 196, 36, 37, 38, 39, 197, 17, 368, 18, 19, 40, 93, 484, 485, 486, 487, 488, 489, 490, 491, 492, 493, 494, 495, 496, 497, 498, 499, 528, 529, 530, 531, 532, 533, 534, 535, 525, 526, 527] (by decide +kernel) (by decide +kernel)
set_option maxRecDepth 20000 in
theorem gL_law_X5_digest : GoodIn wsL_law (wsV RL 67 RX5 yX5_digest wsX5_digest) := goodIn_app (goodIn_of _ (by decide +kernel)) ggL_law_X5_digest
set_option maxRecDepth 20000 in
theorem ggL_law_X6_digest : GoodIn wsL_law wsX6_digest := goodIn_r _ [482, 483, 440, 441, 5, 442, 301, 319, 308, 309, 407, 405, 83, 402, 403, 310, 303, 406, 82, 320, 116, 500, 501, 502, 503, 504, 505, 506, 507, 508, 509, 510, 511, 512, 513, 514, 515, 516, 517, 518, 519, 520, 521, 522, 523, 524] (by decide +kernel) (by decide +kernel)
set_option maxRecDepth 20000 in
theorem gL_law_X6_digest : GoodIn wsL_law (wsV RL 71 RX6 yX6_digest wsX6_digest) := goodIn_app (goodIn_of _ (by decide +kernel)) ggL_law_X6_digest
theorem dL_law_0 : decode cL_law 0 = .ok (.new 7, 3) := by decide +kernel
theorem dL_law_3 : decode cL_law 3 = .ok (.dup, 1) := by decide +kernel
theorem dL_law_4 : decode cL_law 4 = .ok (.invokespecial 9, 3) := by decide +kernel
theorem dL_law_7 : decode cL_law 7 = .ok (.astore_n 1, 1) := by decide +kernel
theorem dL_law_8 : decode cL_law 8 = .ok (.new 10, 3) := by decide +kernel
theorem dL_law_11 : decode cL_law 11 = .ok (.dup, 1) := by decide +kernel
theorem dL_law_12 : decode cL_law 12 = .ok (.invokespecial 12, 3) := by decide +kernel
theorem dL_law_15 : decode cL_law 15 = .ok (.astore_n 2, 1) := by decide +kernel
theorem dL_law_16 : decode cL_law 16 = .ok (.iconst 0, 1) := by decide +kernel
theorem dL_law_17 : decode cL_law 17 = .ok (.istore_n 3, 1) := by decide +kernel
theorem dL_law_18 : decode cL_law 18 = .ok (.iload_n 3, 1) := by decide +kernel
theorem dL_law_19 : decode cL_law 19 = .ok (.aload_n 0, 1) := by decide +kernel
theorem dL_law_20 : decode cL_law 20 = .ok (.arraylength, 1) := by decide +kernel
theorem dL_law_21 : decode cL_law 21 = .ok (.bipush 7, 2) := by decide +kernel
theorem dL_law_23 : decode cL_law 23 = .ok (.isub, 1) := by decide +kernel
theorem dL_law_24 : decode cL_law 24 = .ok (.if_icmp .gt 559, 3) := by decide +kernel
theorem dL_law_27 : decode cL_law 27 = .ok (.aload_n 0, 1) := by decide +kernel
theorem dL_law_28 : decode cL_law 28 = .ok (.iload_n 3, 1) := by decide +kernel
theorem dL_law_29 : decode cL_law 29 = .ok (.iaload, 1) := by decide +kernel
theorem dL_law_30 : decode cL_law 30 = .ok (.bipush 15, 2) := by decide +kernel
theorem dL_law_32 : decode cL_law 32 = .ok (.iand, 1) := by decide +kernel
theorem dL_law_33 : decode cL_law 33 = .ok (.tableswitch 544 0 12 #[67, 90, 143, 196, 239, 272, 315, 354, 377, 400, 423, 456, 531], 67) := by decide +kernel
theorem dL_law_100 : decode cL_law 100 = .ok (.aload_n 1, 1) := by decide +kernel
theorem dL_law_101 : decode cL_law 101 = .ok (.aload_n 0, 1) := by decide +kernel
theorem dL_law_102 : decode cL_law 102 = .ok (.iload_n 3, 1) := by decide +kernel
theorem dL_law_103 : decode cL_law 103 = .ok (.iconst 1, 1) := by decide +kernel
theorem dL_law_104 : decode cL_law 104 = .ok (.iadd, 1) := by decide +kernel
theorem dL_law_105 : decode cL_law 105 = .ok (.iaload, 1) := by decide +kernel
theorem dL_law_106 : decode cL_law 106 = .ok (.invokevirtual 13, 3) := by decide +kernel
theorem dL_law_109 : decode cL_law 109 = .ok (.aload_n 2, 1) := by decide +kernel
theorem dL_law_110 : decode cL_law 110 = .ok (.aload_n 0, 1) := by decide +kernel
theorem dL_law_111 : decode cL_law 111 = .ok (.iload_n 3, 1) := by decide +kernel
theorem dL_law_112 : decode cL_law 112 = .ok (.iconst 1, 1) := by decide +kernel
theorem dL_law_113 : decode cL_law 113 = .ok (.iadd, 1) := by decide +kernel
theorem dL_law_114 : decode cL_law 114 = .ok (.iaload, 1) := by decide +kernel
theorem dL_law_115 : decode cL_law 115 = .ok (.invokevirtual 17, 3) := by decide +kernel
theorem dL_law_118 : decode cL_law 118 = .ok (.if_icmp .eq 459, 3) := by decide +kernel
theorem dL_law_121 : decode cL_law 121 = .ok (.iconst 0, 1) := by decide +kernel
theorem dL_law_122 : decode cL_law 122 = .ok (.ireturn, 1) := by decide +kernel
theorem dL_law_123 : decode cL_law 123 = .ok (.aload_n 1, 1) := by decide +kernel
theorem dL_law_124 : decode cL_law 124 = .ok (.aload_n 0, 1) := by decide +kernel
theorem dL_law_125 : decode cL_law 125 = .ok (.iload_n 3, 1) := by decide +kernel
theorem dL_law_126 : decode cL_law 126 = .ok (.iconst 1, 1) := by decide +kernel
theorem dL_law_127 : decode cL_law 127 = .ok (.iadd, 1) := by decide +kernel
theorem dL_law_128 : decode cL_law 128 = .ok (.iaload, 1) := by decide +kernel
theorem dL_law_129 : decode cL_law 129 = .ok (.aload_n 0, 1) := by decide +kernel
theorem dL_law_130 : decode cL_law 130 = .ok (.iload_n 3, 1) := by decide +kernel
theorem dL_law_131 : decode cL_law 131 = .ok (.iconst 2, 1) := by decide +kernel
theorem dL_law_132 : decode cL_law 132 = .ok (.iadd, 1) := by decide +kernel
theorem dL_law_133 : decode cL_law 133 = .ok (.iaload, 1) := by decide +kernel
theorem dL_law_134 : decode cL_law 134 = .ok (.aload_n 0, 1) := by decide +kernel
theorem dL_law_135 : decode cL_law 135 = .ok (.iload_n 3, 1) := by decide +kernel
theorem dL_law_136 : decode cL_law 136 = .ok (.iconst 3, 1) := by decide +kernel
theorem dL_law_137 : decode cL_law 137 = .ok (.iadd, 1) := by decide +kernel
theorem dL_law_138 : decode cL_law 138 = .ok (.iaload, 1) := by decide +kernel
theorem dL_law_139 : decode cL_law 139 = .ok (.aload_n 0, 1) := by decide +kernel
theorem dL_law_140 : decode cL_law 140 = .ok (.iload_n 3, 1) := by decide +kernel
theorem dL_law_141 : decode cL_law 141 = .ok (.iconst 4, 1) := by decide +kernel
theorem dL_law_142 : decode cL_law 142 = .ok (.iadd, 1) := by decide +kernel
theorem dL_law_143 : decode cL_law 143 = .ok (.iaload, 1) := by decide +kernel
theorem dL_law_144 : decode cL_law 144 = .ok (.invokevirtual 18, 3) := by decide +kernel
theorem dL_law_147 : decode cL_law 147 = .ok (.aload_n 2, 1) := by decide +kernel
theorem dL_law_148 : decode cL_law 148 = .ok (.aload_n 0, 1) := by decide +kernel
theorem dL_law_149 : decode cL_law 149 = .ok (.iload_n 3, 1) := by decide +kernel
theorem dL_law_150 : decode cL_law 150 = .ok (.iconst 1, 1) := by decide +kernel
theorem dL_law_151 : decode cL_law 151 = .ok (.iadd, 1) := by decide +kernel
theorem dL_law_152 : decode cL_law 152 = .ok (.iaload, 1) := by decide +kernel
theorem dL_law_153 : decode cL_law 153 = .ok (.aload_n 0, 1) := by decide +kernel
theorem dL_law_154 : decode cL_law 154 = .ok (.iload_n 3, 1) := by decide +kernel
theorem dL_law_155 : decode cL_law 155 = .ok (.iconst 2, 1) := by decide +kernel
theorem dL_law_156 : decode cL_law 156 = .ok (.iadd, 1) := by decide +kernel
theorem dL_law_157 : decode cL_law 157 = .ok (.iaload, 1) := by decide +kernel
theorem dL_law_158 : decode cL_law 158 = .ok (.aload_n 0, 1) := by decide +kernel
theorem dL_law_159 : decode cL_law 159 = .ok (.iload_n 3, 1) := by decide +kernel
theorem dL_law_160 : decode cL_law 160 = .ok (.iconst 3, 1) := by decide +kernel
theorem dL_law_161 : decode cL_law 161 = .ok (.iadd, 1) := by decide +kernel
theorem dL_law_162 : decode cL_law 162 = .ok (.iaload, 1) := by decide +kernel
theorem dL_law_163 : decode cL_law 163 = .ok (.aload_n 0, 1) := by decide +kernel
theorem dL_law_164 : decode cL_law 164 = .ok (.iload_n 3, 1) := by decide +kernel
theorem dL_law_165 : decode cL_law 165 = .ok (.iconst 4, 1) := by decide +kernel
theorem dL_law_166 : decode cL_law 166 = .ok (.iadd, 1) := by decide +kernel
theorem dL_law_167 : decode cL_law 167 = .ok (.iaload, 1) := by decide +kernel
theorem dL_law_168 : decode cL_law 168 = .ok (.invokevirtual 22, 3) := by decide +kernel
theorem dL_law_171 : decode cL_law 171 = .ok (.if_icmp .eq 406, 3) := by decide +kernel
theorem dL_law_174 : decode cL_law 174 = .ok (.iconst 0, 1) := by decide +kernel
theorem dL_law_175 : decode cL_law 175 = .ok (.ireturn, 1) := by decide +kernel
theorem dL_law_176 : decode cL_law 176 = .ok (.aload_n 1, 1) := by decide +kernel
theorem dL_law_177 : decode cL_law 177 = .ok (.aload_n 0, 1) := by decide +kernel
theorem dL_law_178 : decode cL_law 178 = .ok (.iload_n 3, 1) := by decide +kernel
theorem dL_law_179 : decode cL_law 179 = .ok (.iconst 1, 1) := by decide +kernel
theorem dL_law_180 : decode cL_law 180 = .ok (.iadd, 1) := by decide +kernel
theorem dL_law_181 : decode cL_law 181 = .ok (.iaload, 1) := by decide +kernel
theorem dL_law_182 : decode cL_law 182 = .ok (.aload_n 0, 1) := by decide +kernel
theorem dL_law_183 : decode cL_law 183 = .ok (.iload_n 3, 1) := by decide +kernel
theorem dL_law_184 : decode cL_law 184 = .ok (.iconst 2, 1) := by decide +kernel
theorem dL_law_185 : decode cL_law 185 = .ok (.iadd, 1) := by decide +kernel
theorem dL_law_186 : decode cL_law 186 = .ok (.iaload, 1) := by decide +kernel
theorem dL_law_187 : decode cL_law 187 = .ok (.aload_n 0, 1) := by decide +kernel
theorem dL_law_188 : decode cL_law 188 = .ok (.iload_n 3, 1) := by decide +kernel
theorem dL_law_189 : decode cL_law 189 = .ok (.iconst 3, 1) := by decide +kernel
theorem dL_law_190 : decode cL_law 190 = .ok (.iadd, 1) := by decide +kernel
theorem dL_law_191 : decode cL_law 191 = .ok (.iaload, 1) := by decide +kernel
theorem dL_law_192 : decode cL_law 192 = .ok (.aload_n 0, 1) := by decide +kernel
theorem dL_law_193 : decode cL_law 193 = .ok (.iload_n 3, 1) := by decide +kernel
theorem dL_law_194 : decode cL_law 194 = .ok (.iconst 4, 1) := by decide +kernel
theorem dL_law_195 : decode cL_law 195 = .ok (.iadd, 1) := by decide +kernel
theorem dL_law_196 : decode cL_law 196 = .ok (.iaload, 1) := by decide +kernel
theorem dL_law_197 : decode cL_law 197 = .ok (.invokevirtual 23, 3) := by decide +kernel
theorem dL_law_200 : decode cL_law 200 = .ok (.aload_n 2, 1) := by decide +kernel
theorem dL_law_201 : decode cL_law 201 = .ok (.aload_n 0, 1) := by decide +kernel
theorem dL_law_202 : decode cL_law 202 = .ok (.iload_n 3, 1) := by decide +kernel
theorem dL_law_203 : decode cL_law 203 = .ok (.iconst 1, 1) := by decide +kernel
theorem dL_law_204 : decode cL_law 204 = .ok (.iadd, 1) := by decide +kernel
theorem dL_law_205 : decode cL_law 205 = .ok (.iaload, 1) := by decide +kernel
theorem dL_law_206 : decode cL_law 206 = .ok (.aload_n 0, 1) := by decide +kernel
theorem dL_law_207 : decode cL_law 207 = .ok (.iload_n 3, 1) := by decide +kernel
theorem dL_law_208 : decode cL_law 208 = .ok (.iconst 2, 1) := by decide +kernel
theorem dL_law_209 : decode cL_law 209 = .ok (.iadd, 1) := by decide +kernel
theorem dL_law_210 : decode cL_law 210 = .ok (.iaload, 1) := by decide +kernel
theorem dL_law_211 : decode cL_law 211 = .ok (.aload_n 0, 1) := by decide +kernel
theorem dL_law_212 : decode cL_law 212 = .ok (.iload_n 3, 1) := by decide +kernel
theorem dL_law_213 : decode cL_law 213 = .ok (.iconst 3, 1) := by decide +kernel
theorem dL_law_214 : decode cL_law 214 = .ok (.iadd, 1) := by decide +kernel
theorem dL_law_215 : decode cL_law 215 = .ok (.iaload, 1) := by decide +kernel
theorem dL_law_216 : decode cL_law 216 = .ok (.aload_n 0, 1) := by decide +kernel
theorem dL_law_217 : decode cL_law 217 = .ok (.iload_n 3, 1) := by decide +kernel
theorem dL_law_218 : decode cL_law 218 = .ok (.iconst 4, 1) := by decide +kernel
theorem dL_law_219 : decode cL_law 219 = .ok (.iadd, 1) := by decide +kernel
theorem dL_law_220 : decode cL_law 220 = .ok (.iaload, 1) := by decide +kernel
theorem dL_law_221 : decode cL_law 221 = .ok (.invokevirtual 26, 3) := by decide +kernel
theorem dL_law_224 : decode cL_law 224 = .ok (.if_icmp .eq 353, 3) := by decide +kernel
theorem dL_law_227 : decode cL_law 227 = .ok (.iconst 0, 1) := by decide +kernel
theorem dL_law_228 : decode cL_law 228 = .ok (.ireturn, 1) := by decide +kernel
theorem dL_law_229 : decode cL_law 229 = .ok (.aload_n 1, 1) := by decide +kernel
theorem dL_law_230 : decode cL_law 230 = .ok (.aload_n 0, 1) := by decide +kernel
theorem dL_law_231 : decode cL_law 231 = .ok (.iload_n 3, 1) := by decide +kernel
theorem dL_law_232 : decode cL_law 232 = .ok (.iconst 1, 1) := by decide +kernel
theorem dL_law_233 : decode cL_law 233 = .ok (.iadd, 1) := by decide +kernel
theorem dL_law_234 : decode cL_law 234 = .ok (.iaload, 1) := by decide +kernel
theorem dL_law_235 : decode cL_law 235 = .ok (.aload_n 0, 1) := by decide +kernel
theorem dL_law_236 : decode cL_law 236 = .ok (.iload_n 3, 1) := by decide +kernel
theorem dL_law_237 : decode cL_law 237 = .ok (.iconst 2, 1) := by decide +kernel
theorem dL_law_238 : decode cL_law 238 = .ok (.iadd, 1) := by decide +kernel
theorem dL_law_239 : decode cL_law 239 = .ok (.iaload, 1) := by decide +kernel
theorem dL_law_240 : decode cL_law 240 = .ok (.aload_n 0, 1) := by decide +kernel
theorem dL_law_241 : decode cL_law 241 = .ok (.iload_n 3, 1) := by decide +kernel
theorem dL_law_242 : decode cL_law 242 = .ok (.iconst 3, 1) := by decide +kernel
theorem dL_law_243 : decode cL_law 243 = .ok (.iadd, 1) := by decide +kernel
theorem dL_law_244 : decode cL_law 244 = .ok (.iaload, 1) := by decide +kernel
theorem dL_law_245 : decode cL_law 245 = .ok (.invokevirtual 27, 3) := by decide +kernel
theorem dL_law_248 : decode cL_law 248 = .ok (.aload_n 2, 1) := by decide +kernel
theorem dL_law_249 : decode cL_law 249 = .ok (.aload_n 0, 1) := by decide +kernel
theorem dL_law_250 : decode cL_law 250 = .ok (.iload_n 3, 1) := by decide +kernel
theorem dL_law_251 : decode cL_law 251 = .ok (.iconst 1, 1) := by decide +kernel
theorem dL_law_252 : decode cL_law 252 = .ok (.iadd, 1) := by decide +kernel
theorem dL_law_253 : decode cL_law 253 = .ok (.iaload, 1) := by decide +kernel
theorem dL_law_254 : decode cL_law 254 = .ok (.aload_n 0, 1) := by decide +kernel
theorem dL_law_255 : decode cL_law 255 = .ok (.iload_n 3, 1) := by decide +kernel
theorem dL_law_256 : decode cL_law 256 = .ok (.iconst 2, 1) := by decide +kernel
theorem dL_law_257 : decode cL_law 257 = .ok (.iadd, 1) := by decide +kernel
theorem dL_law_258 : decode cL_law 258 = .ok (.iaload, 1) := by decide +kernel
theorem dL_law_259 : decode cL_law 259 = .ok (.aload_n 0, 1) := by decide +kernel
theorem dL_law_260 : decode cL_law 260 = .ok (.iload_n 3, 1) := by decide +kernel
theorem dL_law_261 : decode cL_law 261 = .ok (.iconst 3, 1) := by decide +kernel
theorem dL_law_262 : decode cL_law 262 = .ok (.iadd, 1) := by decide +kernel
theorem dL_law_263 : decode cL_law 263 = .ok (.iaload, 1) := by decide +kernel
theorem dL_law_264 : decode cL_law 264 = .ok (.invokevirtual 31, 3) := by decide +kernel
theorem dL_law_267 : decode cL_law 267 = .ok (.if_icmp .eq 310, 3) := by decide +kernel
theorem dL_law_270 : decode cL_law 270 = .ok (.iconst 0, 1) := by decide +kernel
theorem dL_law_271 : decode cL_law 271 = .ok (.ireturn, 1) := by decide +kernel
theorem dL_law_272 : decode cL_law 272 = .ok (.aload_n 1, 1) := by decide +kernel
theorem dL_law_273 : decode cL_law 273 = .ok (.aload_n 0, 1) := by decide +kernel
theorem dL_law_274 : decode cL_law 274 = .ok (.iload_n 3, 1) := by decide +kernel
theorem dL_law_275 : decode cL_law 275 = .ok (.iconst 1, 1) := by decide +kernel
theorem dL_law_276 : decode cL_law 276 = .ok (.iadd, 1) := by decide +kernel
theorem dL_law_277 : decode cL_law 277 = .ok (.iaload, 1) := by decide +kernel
theorem dL_law_278 : decode cL_law 278 = .ok (.aload_n 0, 1) := by decide +kernel
theorem dL_law_279 : decode cL_law 279 = .ok (.iload_n 3, 1) := by decide +kernel
theorem dL_law_280 : decode cL_law 280 = .ok (.iconst 2, 1) := by decide +kernel
theorem dL_law_281 : decode cL_law 281 = .ok (.iadd, 1) := by decide +kernel
theorem dL_law_282 : decode cL_law 282 = .ok (.iaload, 1) := by decide +kernel
theorem dL_law_283 : decode cL_law 283 = .ok (.invokevirtual 32, 3) := by decide +kernel
theorem dL_law_286 : decode cL_law 286 = .ok (.aload_n 2, 1) := by decide +kernel
theorem dL_law_287 : decode cL_law 287 = .ok (.aload_n 0, 1) := by decide +kernel
theorem dL_law_288 : decode cL_law 288 = .ok (.iload_n 3, 1) := by decide +kernel
theorem dL_law_289 : decode cL_law 289 = .ok (.iconst 1, 1) := by decide +kernel
theorem dL_law_290 : decode cL_law 290 = .ok (.iadd, 1) := by decide +kernel
theorem dL_law_291 : decode cL_law 291 = .ok (.iaload, 1) := by decide +kernel
theorem dL_law_292 : decode cL_law 292 = .ok (.aload_n 0, 1) := by decide +kernel
theorem dL_law_293 : decode cL_law 293 = .ok (.iload_n 3, 1) := by decide +kernel
theorem dL_law_294 : decode cL_law 294 = .ok (.iconst 2, 1) := by decide +kernel
theorem dL_law_295 : decode cL_law 295 = .ok (.iadd, 1) := by decide +kernel
theorem dL_law_296 : decode cL_law 296 = .ok (.iaload, 1) := by decide +kernel
theorem dL_law_297 : decode cL_law 297 = .ok (.invokevirtual 36, 3) := by decide +kernel
theorem dL_law_300 : decode cL_law 300 = .ok (.if_icmp .eq 277, 3) := by decide +kernel
theorem dL_law_303 : decode cL_law 303 = .ok (.iconst 0, 1) := by decide +kernel
theorem dL_law_304 : decode cL_law 304 = .ok (.ireturn, 1) := by decide +kernel
theorem dL_law_305 : decode cL_law 305 = .ok (.aload_n 1, 1) := by decide +kernel
theorem dL_law_306 : decode cL_law 306 = .ok (.aload_n 0, 1) := by decide +kernel
theorem dL_law_307 : decode cL_law 307 = .ok (.iload_n 3, 1) := by decide +kernel
theorem dL_law_308 : decode cL_law 308 = .ok (.iconst 1, 1) := by decide +kernel
theorem dL_law_309 : decode cL_law 309 = .ok (.iadd, 1) := by decide +kernel
theorem dL_law_310 : decode cL_law 310 = .ok (.iaload, 1) := by decide +kernel
theorem dL_law_311 : decode cL_law 311 = .ok (.aload_n 0, 1) := by decide +kernel
theorem dL_law_312 : decode cL_law 312 = .ok (.iload_n 3, 1) := by decide +kernel
theorem dL_law_313 : decode cL_law 313 = .ok (.iconst 2, 1) := by decide +kernel
theorem dL_law_314 : decode cL_law 314 = .ok (.iadd, 1) := by decide +kernel
theorem dL_law_315 : decode cL_law 315 = .ok (.iaload, 1) := by decide +kernel
theorem dL_law_316 : decode cL_law 316 = .ok (.aload_n 0, 1) := by decide +kernel
theorem dL_law_317 : decode cL_law 317 = .ok (.iload_n 3, 1) := by decide +kernel
theorem dL_law_318 : decode cL_law 318 = .ok (.iconst 3, 1) := by decide +kernel
theorem dL_law_319 : decode cL_law 319 = .ok (.iadd, 1) := by decide +kernel
theorem dL_law_320 : decode cL_law 320 = .ok (.iaload, 1) := by decide +kernel
theorem dL_law_321 : decode cL_law 321 = .ok (.invokevirtual 37, 3) := by decide +kernel
theorem dL_law_324 : decode cL_law 324 = .ok (.aload_n 2, 1) := by decide +kernel
theorem dL_law_325 : decode cL_law 325 = .ok (.aload_n 0, 1) := by decide +kernel
theorem dL_law_326 : decode cL_law 326 = .ok (.iload_n 3, 1) := by decide +kernel
theorem dL_law_327 : decode cL_law 327 = .ok (.iconst 1, 1) := by decide +kernel
theorem dL_law_328 : decode cL_law 328 = .ok (.iadd, 1) := by decide +kernel
theorem dL_law_329 : decode cL_law 329 = .ok (.iaload, 1) := by decide +kernel
theorem dL_law_330 : decode cL_law 330 = .ok (.aload_n 0, 1) := by decide +kernel
theorem dL_law_331 : decode cL_law 331 = .ok (.iload_n 3, 1) := by decide +kernel
theorem dL_law_332 : decode cL_law 332 = .ok (.iconst 2, 1) := by decide +kernel
theorem dL_law_333 : decode cL_law 333 = .ok (.iadd, 1) := by decide +kernel
theorem dL_law_334 : decode cL_law 334 = .ok (.iaload, 1) := by decide +kernel
theorem dL_law_335 : decode cL_law 335 = .ok (.aload_n 0, 1) := by decide +kernel
theorem dL_law_336 : decode cL_law 336 = .ok (.iload_n 3, 1) := by decide +kernel
theorem dL_law_337 : decode cL_law 337 = .ok (.iconst 3, 1) := by decide +kernel
theorem dL_law_338 : decode cL_law 338 = .ok (.iadd, 1) := by decide +kernel
theorem dL_law_339 : decode cL_law 339 = .ok (.iaload, 1) := by decide +kernel
theorem dL_law_340 : decode cL_law 340 = .ok (.invokevirtual 40, 3) := by decide +kernel
theorem dL_law_343 : decode cL_law 343 = .ok (.if_icmp .eq 234, 3) := by decide +kernel
theorem dL_law_346 : decode cL_law 346 = .ok (.iconst 0, 1) := by decide +kernel
theorem dL_law_347 : decode cL_law 347 = .ok (.ireturn, 1) := by decide +kernel
theorem dL_law_348 : decode cL_law 348 = .ok (.aload_n 1, 1) := by decide +kernel
theorem dL_law_349 : decode cL_law 349 = .ok (.aload_n 0, 1) := by decide +kernel
theorem dL_law_350 : decode cL_law 350 = .ok (.iload_n 3, 1) := by decide +kernel
theorem dL_law_351 : decode cL_law 351 = .ok (.iconst 1, 1) := by decide +kernel
theorem dL_law_352 : decode cL_law 352 = .ok (.iadd, 1) := by decide +kernel
theorem dL_law_353 : decode cL_law 353 = .ok (.iaload, 1) := by decide +kernel
theorem dL_law_354 : decode cL_law 354 = .ok (.ifCond .eq 7, 3) := by decide +kernel
theorem dL_law_357 : decode cL_law 357 = .ok (.iconst 1, 1) := by decide +kernel
theorem dL_law_358 : decode cL_law 358 = .ok (.goto 4, 3) := by decide +kernel
theorem dL_law_361 : decode cL_law 361 = .ok (.iconst 0, 1) := by decide +kernel
theorem dL_law_362 : decode cL_law 362 = .ok (.invokevirtual 41, 3) := by decide +kernel
theorem dL_law_365 : decode cL_law 365 = .ok (.aload_n 2, 1) := by decide +kernel
theorem dL_law_366 : decode cL_law 366 = .ok (.aload_n 0, 1) := by decide +kernel
theorem dL_law_367 : decode cL_law 367 = .ok (.iload_n 3, 1) := by decide +kernel
theorem dL_law_368 : decode cL_law 368 = .ok (.iconst 1, 1) := by decide +kernel
theorem dL_law_369 : decode cL_law 369 = .ok (.iadd, 1) := by decide +kernel
theorem dL_law_370 : decode cL_law 370 = .ok (.iaload, 1) := by decide +kernel
theorem dL_law_371 : decode cL_law 371 = .ok (.ifCond .eq 7, 3) := by decide +kernel
theorem dL_law_374 : decode cL_law 374 = .ok (.iconst 1, 1) := by decide +kernel
theorem dL_law_375 : decode cL_law 375 = .ok (.goto 4, 3) := by decide +kernel
theorem dL_law_378 : decode cL_law 378 = .ok (.iconst 0, 1) := by decide +kernel
theorem dL_law_379 : decode cL_law 379 = .ok (.invokevirtual 45, 3) := by decide +kernel
theorem dL_law_382 : decode cL_law 382 = .ok (.if_icmp .eq 195, 3) := by decide +kernel
theorem dL_law_385 : decode cL_law 385 = .ok (.iconst 0, 1) := by decide +kernel
theorem dL_law_386 : decode cL_law 386 = .ok (.ireturn, 1) := by decide +kernel
theorem dL_law_387 : decode cL_law 387 = .ok (.aload_n 1, 1) := by decide +kernel
theorem dL_law_388 : decode cL_law 388 = .ok (.aload_n 0, 1) := by decide +kernel
theorem dL_law_389 : decode cL_law 389 = .ok (.iload_n 3, 1) := by decide +kernel
theorem dL_law_390 : decode cL_law 390 = .ok (.iconst 1, 1) := by decide +kernel
theorem dL_law_391 : decode cL_law 391 = .ok (.iadd, 1) := by decide +kernel
theorem dL_law_392 : decode cL_law 392 = .ok (.iaload, 1) := by decide +kernel
theorem dL_law_393 : decode cL_law 393 = .ok (.invokevirtual 46, 3) := by decide +kernel
theorem dL_law_396 : decode cL_law 396 = .ok (.aload_n 2, 1) := by decide +kernel
theorem dL_law_397 : decode cL_law 397 = .ok (.aload_n 0, 1) := by decide +kernel
theorem dL_law_398 : decode cL_law 398 = .ok (.iload_n 3, 1) := by decide +kernel
theorem dL_law_399 : decode cL_law 399 = .ok (.iconst 1, 1) := by decide +kernel
theorem dL_law_400 : decode cL_law 400 = .ok (.iadd, 1) := by decide +kernel
theorem dL_law_401 : decode cL_law 401 = .ok (.iaload, 1) := by decide +kernel
theorem dL_law_402 : decode cL_law 402 = .ok (.invokevirtual 49, 3) := by decide +kernel
theorem dL_law_405 : decode cL_law 405 = .ok (.if_icmp .eq 172, 3) := by decide +kernel
theorem dL_law_408 : decode cL_law 408 = .ok (.iconst 0, 1) := by decide +kernel
theorem dL_law_409 : decode cL_law 409 = .ok (.ireturn, 1) := by decide +kernel
theorem dL_law_410 : decode cL_law 410 = .ok (.aload_n 1, 1) := by decide +kernel
theorem dL_law_411 : decode cL_law 411 = .ok (.aload_n 0, 1) := by decide +kernel
theorem dL_law_412 : decode cL_law 412 = .ok (.iload_n 3, 1) := by decide +kernel
theorem dL_law_413 : decode cL_law 413 = .ok (.iconst 1, 1) := by decide +kernel
theorem dL_law_414 : decode cL_law 414 = .ok (.iadd, 1) := by decide +kernel
theorem dL_law_415 : decode cL_law 415 = .ok (.iaload, 1) := by decide +kernel
theorem dL_law_416 : decode cL_law 416 = .ok (.invokevirtual 50, 3) := by decide +kernel
theorem dL_law_419 : decode cL_law 419 = .ok (.aload_n 2, 1) := by decide +kernel
theorem dL_law_420 : decode cL_law 420 = .ok (.aload_n 0, 1) := by decide +kernel
theorem dL_law_421 : decode cL_law 421 = .ok (.iload_n 3, 1) := by decide +kernel
theorem dL_law_422 : decode cL_law 422 = .ok (.iconst 1, 1) := by decide +kernel
theorem dL_law_423 : decode cL_law 423 = .ok (.iadd, 1) := by decide +kernel
theorem dL_law_424 : decode cL_law 424 = .ok (.iaload, 1) := by decide +kernel
theorem dL_law_425 : decode cL_law 425 = .ok (.invokevirtual 53, 3) := by decide +kernel
theorem dL_law_428 : decode cL_law 428 = .ok (.if_icmp .eq 149, 3) := by decide +kernel
theorem dL_law_431 : decode cL_law 431 = .ok (.iconst 0, 1) := by decide +kernel
theorem dL_law_432 : decode cL_law 432 = .ok (.ireturn, 1) := by decide +kernel
theorem dL_law_433 : decode cL_law 433 = .ok (.aload_n 1, 1) := by decide +kernel
theorem dL_law_434 : decode cL_law 434 = .ok (.aload_n 0, 1) := by decide +kernel
theorem dL_law_435 : decode cL_law 435 = .ok (.iload_n 3, 1) := by decide +kernel
theorem dL_law_436 : decode cL_law 436 = .ok (.iconst 1, 1) := by decide +kernel
theorem dL_law_437 : decode cL_law 437 = .ok (.iadd, 1) := by decide +kernel
theorem dL_law_438 : decode cL_law 438 = .ok (.iaload, 1) := by decide +kernel
theorem dL_law_439 : decode cL_law 439 = .ok (.invokevirtual 54, 3) := by decide +kernel
theorem dL_law_442 : decode cL_law 442 = .ok (.aload_n 2, 1) := by decide +kernel
theorem dL_law_443 : decode cL_law 443 = .ok (.aload_n 0, 1) := by decide +kernel
theorem dL_law_444 : decode cL_law 444 = .ok (.iload_n 3, 1) := by decide +kernel
theorem dL_law_445 : decode cL_law 445 = .ok (.iconst 1, 1) := by decide +kernel
theorem dL_law_446 : decode cL_law 446 = .ok (.iadd, 1) := by decide +kernel
theorem dL_law_447 : decode cL_law 447 = .ok (.iaload, 1) := by decide +kernel
theorem dL_law_448 : decode cL_law 448 = .ok (.invokevirtual 57, 3) := by decide +kernel
theorem dL_law_451 : decode cL_law 451 = .ok (.if_icmp .eq 126, 3) := by decide +kernel
theorem dL_law_454 : decode cL_law 454 = .ok (.iconst 0, 1) := by decide +kernel
theorem dL_law_455 : decode cL_law 455 = .ok (.ireturn, 1) := by decide +kernel
theorem dL_law_456 : decode cL_law 456 = .ok (.aload_n 1, 1) := by decide +kernel
theorem dL_law_457 : decode cL_law 457 = .ok (.aload_n 0, 1) := by decide +kernel
theorem dL_law_458 : decode cL_law 458 = .ok (.iload_n 3, 1) := by decide +kernel
theorem dL_law_459 : decode cL_law 459 = .ok (.iconst 1, 1) := by decide +kernel
theorem dL_law_460 : decode cL_law 460 = .ok (.iadd, 1) := by decide +kernel
theorem dL_law_461 : decode cL_law 461 = .ok (.iaload, 1) := by decide +kernel
theorem dL_law_462 : decode cL_law 462 = .ok (.aload_n 0, 1) := by decide +kernel
theorem dL_law_463 : decode cL_law 463 = .ok (.iload_n 3, 1) := by decide +kernel
theorem dL_law_464 : decode cL_law 464 = .ok (.iconst 2, 1) := by decide +kernel
theorem dL_law_465 : decode cL_law 465 = .ok (.iadd, 1) := by decide +kernel
theorem dL_law_466 : decode cL_law 466 = .ok (.iaload, 1) := by decide +kernel
theorem dL_law_467 : decode cL_law 467 = .ok (.invokevirtual 58, 3) := by decide +kernel
theorem dL_law_470 : decode cL_law 470 = .ok (.aload_n 2, 1) := by decide +kernel
theorem dL_law_471 : decode cL_law 471 = .ok (.aload_n 0, 1) := by decide +kernel
theorem dL_law_472 : decode cL_law 472 = .ok (.iload_n 3, 1) := by decide +kernel
theorem dL_law_473 : decode cL_law 473 = .ok (.iconst 1, 1) := by decide +kernel
theorem dL_law_474 : decode cL_law 474 = .ok (.iadd, 1) := by decide +kernel
theorem dL_law_475 : decode cL_law 475 = .ok (.iaload, 1) := by decide +kernel
theorem dL_law_476 : decode cL_law 476 = .ok (.aload_n 0, 1) := by decide +kernel
theorem dL_law_477 : decode cL_law 477 = .ok (.iload_n 3, 1) := by decide +kernel
theorem dL_law_478 : decode cL_law 478 = .ok (.iconst 2, 1) := by decide +kernel
theorem dL_law_479 : decode cL_law 479 = .ok (.iadd, 1) := by decide +kernel
theorem dL_law_480 : decode cL_law 480 = .ok (.iaload, 1) := by decide +kernel
theorem dL_law_481 : decode cL_law 481 = .ok (.invokevirtual 61, 3) := by decide +kernel
theorem dL_law_484 : decode cL_law 484 = .ok (.if_icmp .eq 93, 3) := by decide +kernel
theorem dL_law_487 : decode cL_law 487 = .ok (.iconst 0, 1) := by decide +kernel
theorem dL_law_488 : decode cL_law 488 = .ok (.ireturn, 1) := by decide +kernel
theorem dL_law_489 : decode cL_law 489 = .ok (.aload_n 1, 1) := by decide +kernel
theorem dL_law_490 : decode cL_law 490 = .ok (.aload_n 0, 1) := by decide +kernel
theorem dL_law_491 : decode cL_law 491 = .ok (.iload_n 3, 1) := by decide +kernel
theorem dL_law_492 : decode cL_law 492 = .ok (.iconst 1, 1) := by decide +kernel
theorem dL_law_493 : decode cL_law 493 = .ok (.iadd, 1) := by decide +kernel
theorem dL_law_494 : decode cL_law 494 = .ok (.iaload, 1) := by decide +kernel
theorem dL_law_495 : decode cL_law 495 = .ok (.aload_n 0, 1) := by decide +kernel
theorem dL_law_496 : decode cL_law 496 = .ok (.iload_n 3, 1) := by decide +kernel
theorem dL_law_497 : decode cL_law 497 = .ok (.iconst 2, 1) := by decide +kernel
theorem dL_law_498 : decode cL_law 498 = .ok (.iadd, 1) := by decide +kernel
theorem dL_law_499 : decode cL_law 499 = .ok (.iaload, 1) := by decide +kernel
theorem dL_law_500 : decode cL_law 500 = .ok (.aload_n 0, 1) := by decide +kernel
theorem dL_law_501 : decode cL_law 501 = .ok (.iload_n 3, 1) := by decide +kernel
theorem dL_law_502 : decode cL_law 502 = .ok (.iconst 3, 1) := by decide +kernel
theorem dL_law_503 : decode cL_law 503 = .ok (.iadd, 1) := by decide +kernel
theorem dL_law_504 : decode cL_law 504 = .ok (.iaload, 1) := by decide +kernel
theorem dL_law_505 : decode cL_law 505 = .ok (.aload_n 0, 1) := by decide +kernel
theorem dL_law_506 : decode cL_law 506 = .ok (.iload_n 3, 1) := by decide +kernel
theorem dL_law_507 : decode cL_law 507 = .ok (.iconst 4, 1) := by decide +kernel
theorem dL_law_508 : decode cL_law 508 = .ok (.iadd, 1) := by decide +kernel
theorem dL_law_509 : decode cL_law 509 = .ok (.iaload, 1) := by decide +kernel
theorem dL_law_510 : decode cL_law 510 = .ok (.aload_n 0, 1) := by decide +kernel
theorem dL_law_511 : decode cL_law 511 = .ok (.iload_n 3, 1) := by decide +kernel
theorem dL_law_512 : decode cL_law 512 = .ok (.iconst 5, 1) := by decide +kernel
theorem dL_law_513 : decode cL_law 513 = .ok (.iadd, 1) := by decide +kernel
theorem dL_law_514 : decode cL_law 514 = .ok (.iaload, 1) := by decide +kernel
theorem dL_law_515 : decode cL_law 515 = .ok (.aload_n 0, 1) := by decide +kernel
theorem dL_law_516 : decode cL_law 516 = .ok (.iload_n 3, 1) := by decide +kernel
theorem dL_law_517 : decode cL_law 517 = .ok (.bipush 6, 2) := by decide +kernel
theorem dL_law_519 : decode cL_law 519 = .ok (.iadd, 1) := by decide +kernel
theorem dL_law_520 : decode cL_law 520 = .ok (.iaload, 1) := by decide +kernel
theorem dL_law_521 : decode cL_law 521 = .ok (.invokevirtual 62, 3) := by decide +kernel
theorem dL_law_524 : decode cL_law 524 = .ok (.aload_n 2, 1) := by decide +kernel
theorem dL_law_525 : decode cL_law 525 = .ok (.aload_n 0, 1) := by decide +kernel
theorem dL_law_526 : decode cL_law 526 = .ok (.iload_n 3, 1) := by decide +kernel
theorem dL_law_527 : decode cL_law 527 = .ok (.iconst 1, 1) := by decide +kernel
theorem dL_law_528 : decode cL_law 528 = .ok (.iadd, 1) := by decide +kernel
theorem dL_law_529 : decode cL_law 529 = .ok (.iaload, 1) := by decide +kernel
theorem dL_law_530 : decode cL_law 530 = .ok (.aload_n 0, 1) := by decide +kernel
theorem dL_law_531 : decode cL_law 531 = .ok (.iload_n 3, 1) := by decide +kernel
theorem dL_law_532 : decode cL_law 532 = .ok (.iconst 2, 1) := by decide +kernel
theorem dL_law_533 : decode cL_law 533 = .ok (.iadd, 1) := by decide +kernel
theorem dL_law_534 : decode cL_law 534 = .ok (.iaload, 1) := by decide +kernel
theorem dL_law_535 : decode cL_law 535 = .ok (.aload_n 0, 1) := by decide +kernel
theorem dL_law_536 : decode cL_law 536 = .ok (.iload_n 3, 1) := by decide +kernel
theorem dL_law_537 : decode cL_law 537 = .ok (.iconst 3, 1) := by decide +kernel
theorem dL_law_538 : decode cL_law 538 = .ok (.iadd, 1) := by decide +kernel
theorem dL_law_539 : decode cL_law 539 = .ok (.iaload, 1) := by decide +kernel
theorem dL_law_540 : decode cL_law 540 = .ok (.aload_n 0, 1) := by decide +kernel
theorem dL_law_541 : decode cL_law 541 = .ok (.iload_n 3, 1) := by decide +kernel
theorem dL_law_542 : decode cL_law 542 = .ok (.iconst 4, 1) := by decide +kernel
theorem dL_law_543 : decode cL_law 543 = .ok (.iadd, 1) := by decide +kernel
theorem dL_law_544 : decode cL_law 544 = .ok (.iaload, 1) := by decide +kernel
theorem dL_law_545 : decode cL_law 545 = .ok (.aload_n 0, 1) := by decide +kernel
theorem dL_law_546 : decode cL_law 546 = .ok (.iload_n 3, 1) := by decide +kernel
theorem dL_law_547 : decode cL_law 547 = .ok (.iconst 5, 1) := by decide +kernel
theorem dL_law_548 : decode cL_law 548 = .ok (.iadd, 1) := by decide +kernel
theorem dL_law_549 : decode cL_law 549 = .ok (.iaload, 1) := by decide +kernel
theorem dL_law_550 : decode cL_law 550 = .ok (.aload_n 0, 1) := by decide +kernel
theorem dL_law_551 : decode cL_law 551 = .ok (.iload_n 3, 1) := by decide +kernel
theorem dL_law_552 : decode cL_law 552 = .ok (.bipush 6, 2) := by decide +kernel
theorem dL_law_554 : decode cL_law 554 = .ok (.iadd, 1) := by decide +kernel
theorem dL_law_555 : decode cL_law 555 = .ok (.iaload, 1) := by decide +kernel
theorem dL_law_556 : decode cL_law 556 = .ok (.invokevirtual 66, 3) := by decide +kernel
theorem dL_law_559 : decode cL_law 559 = .ok (.if_icmp .eq 18, 3) := by decide +kernel
theorem dL_law_562 : decode cL_law 562 = .ok (.iconst 0, 1) := by decide +kernel
theorem dL_law_563 : decode cL_law 563 = .ok (.ireturn, 1) := by decide +kernel
theorem dL_law_564 : decode cL_law 564 = .ok (.aload_n 1, 1) := by decide +kernel
theorem dL_law_565 : decode cL_law 565 = .ok (.invokevirtual 67, 3) := by decide +kernel
theorem dL_law_568 : decode cL_law 568 = .ok (.aload_n 2, 1) := by decide +kernel
theorem dL_law_569 : decode cL_law 569 = .ok (.invokevirtual 71, 3) := by decide +kernel
theorem dL_law_572 : decode cL_law 572 = .ok (.if_icmp .eq 5, 3) := by decide +kernel
theorem dL_law_575 : decode cL_law 575 = .ok (.iconst 0, 1) := by decide +kernel
theorem dL_law_576 : decode cL_law 576 = .ok (.ireturn, 1) := by decide +kernel
theorem dL_law_577 : decode cL_law 577 = .ok (.iinc 3 7, 3) := by decide +kernel
theorem dL_law_580 : decode cL_law 580 = .ok (.goto (-562), 3) := by decide +kernel
theorem dL_law_583 : decode cL_law 583 = .ok (.iconst 1, 1) := by decide +kernel
theorem dL_law_584 : decode cL_law 584 = .ok (.ireturn, 1) := by decide +kernel
abbrev vwCl : List vw_C := [(RX0, TX0, 3), (RX2, TX2, 3), (RX3, TX3, 4), (RX4, TX4, 4), (RX5, TX5, 16), (RX6, TX6, 25)]
end
section
theorem law_app {big a b : List Cond} (ha : ∀ w ∈ a, w ∈ big) (hb : ∀ w ∈ b, w ∈ big) : ∀ w ∈ a ++ b, w ∈ big := fun w h => (List.mem_append.mp h).elim (ha w) (hb w)
set_option maxRecDepth 20000 in
theorem in_wsL_law_r1 : ∀ w ∈ wsL_law_r1, w ∈ lw_tbl := fun w h => (goodIn_r wsL_law_r1 [30, 31, 21, 403, 404, 27, 32, 33, 34, 35, 36, 37, 59, 127, 38, 39, 22, 128, 129, 130, 60, 61, 23, 131] (by decide +kernel) (by decide +kernel) w h).1
set_option maxRecDepth 20000 in
theorem in_wsL_law_r2 : ∀ w ∈ wsL_law_r2, w ∈ lw_tbl := fun w h => (goodIn_r wsL_law_r2 [83, 84, 24, 132, 133, 106, 107, 25, 134, 135, 136, 137, 138, 139, 140, 141, 142, 122, 124, 126, 125, 26, 41, 42] (by decide +kernel) (by decide +kernel) w h).1
set_option maxRecDepth 20000 in
theorem in_wsL_law_r3 : ∀ w ∈ wsL_law_r3, w ∈ lw_tbl := fun w h => (goodIn_r wsL_law_r3 [43, 44, 46, 45, 48, 50, 63, 64, 65, 66, 68, 70, 72, 86, 87, 88, 89, 91, 93, 95, 109, 110, 111, 112] (by decide +kernel) (by decide +kernel) w h).1
set_option maxRecDepth 20000 in
theorem in_wsL_law_r4 : ∀ w ∈ wsL_law_r4, w ∈ lw_tbl := fun w h => (goodIn_r wsL_law_r4 [113, 114, 405, 406, 407, 408, 410, 411, 412, 486, 413, 421, 428, 429, 430, 432, 409, 176, 177, 178, 179, 198, 180, 181] (by decide +kernel) (by decide +kernel) w h).1
set_option maxRecDepth 20000 in
theorem in_wsL_law_r5 : ∀ w ∈ wsL_law_r5, w ∈ lw_tbl := fun w h => (goodIn_r wsL_law_r5 [182, 183, 184, 185, 186, 187, 188, 28, 189, 190, 191, 192, 193, 197, 195, 196, 487, 488, 489, 490, 505, 491, 492, 493] (by decide +kernel) (by decide +kernel) w h).1
set_option maxRecDepth 20000 in
theorem in_wsL_law_r6 : ∀ w ∈ wsL_law_r6, w ∈ lw_tbl := fun w h => (goodIn_r wsL_law_r6 [494, 495, 496, 497, 498, 499, 500, 501, 502, 503, 504, 199, 200, 201, 202, 203, 204, 205, 206, 207, 208, 209, 210, 211] (by decide +kernel) (by decide +kernel) w h).1
set_option maxRecDepth 20000 in
theorem in_wsL_law_r7 : ∀ w ∈ wsL_law_r7, w ∈ lw_tbl := fun w h => (goodIn_r wsL_law_r7 [212, 213, 214, 215, 216, 217, 218, 219, 220, 221, 506, 507, 508, 509, 515, 516, 517, 510, 511, 512, 513, 514, 518, 519] (by decide +kernel) (by decide +kernel) w h).1
set_option maxRecDepth 20000 in
theorem in_wsL_law_r8 : ∀ w ∈ wsL_law_r8, w ∈ lw_tbl := fun w h => (goodIn_r wsL_law_r8 [520, 521, 222, 223, 224, 225, 226, 227, 228, 229, 230, 231, 522, 523, 524, 525, 526, 527, 528, 529, 530, 531, 232, 233] (by decide +kernel) (by decide +kernel) w h).1
set_option maxRecDepth 20000 in
theorem in_wsL_law_r9 : ∀ w ∈ wsL_law_r9, w ∈ lw_tbl := fun w h => (goodIn_r wsL_law_r9 [234, 235, 90, 92, 94, 96, 236, 237, 238, 239, 240, 241, 242, 243, 29, 244, 245, 246, 247, 248, 249, 251, 0, 252] (by decide +kernel) (by decide +kernel) w h).1
set_option maxRecDepth 20000 in
theorem in_wsL_law_r10 : ∀ w ∈ wsL_law_r10, w ∈ lw_tbl := fun w h => (goodIn_r wsL_law_r10 [253, 255, 532, 533, 534, 535, 433, 536, 538, 12, 539, 540, 541, 542, 256, 257, 258, 259, 260, 262, 543, 544, 545, 546] (by decide +kernel) (by decide +kernel) w h).1
set_option maxRecDepth 20000 in
theorem in_wsL_law_r11 : ∀ w ∈ wsL_law_r11, w ∈ lw_tbl := fun w h => (goodIn_r wsL_law_r11 [547, 548, 549, 264, 265, 266, 267, 47, 49, 550, 551, 552, 553, 554, 268, 269, 270, 271, 555, 556, 557, 558, 414, 272] (by decide +kernel) (by decide +kernel) w h).1
set_option maxRecDepth 20000 in
theorem in_wsL_law_r12 : ∀ w ∈ wsL_law_r12, w ∈ lw_tbl := fun w h => (goodIn_r wsL_law_r12 [273, 274, 275, 288, 276, 278, 1, 279, 280, 282, 2, 283, 67, 284, 285, 286, 69, 287, 289, 291, 3, 292, 293, 294] (by decide +kernel) (by decide +kernel) w h).1
set_option maxRecDepth 20000 in
theorem in_wsL_law_r13 : ∀ w ∈ wsL_law_r13, w ∈ lw_tbl := fun w h => (goodIn_r wsL_law_r13 [295, 296, 300, 301, 302, 297, 298, 29, 299, 574, 575, 576, 577, 415, 585, 426, 578, 580, 14, 581, 417, 418, 425, 566] (by decide +kernel) (by decide +kernel) w h).1
set_option maxRecDepth 20000 in
theorem in_wsL_law_r14 : ∀ w ∈ wsL_law_r14, w ∈ lw_tbl := fun w h => (goodIn_r wsL_law_r14 [582, 583, 584, 586, 588, 15, 589, 416, 427, 431, 303, 304, 305, 306, 307, 309, 4, 310, 311, 313, 5, 314, 315, 317] (by decide +kernel) (by decide +kernel) w h).1
set_option maxRecDepth 20000 in
theorem in_wsL_law_r15 : ∀ w ∈ wsL_law_r15, w ∈ lw_tbl := fun w h => (goodIn_r wsL_law_r15 [6, 318, 319, 320, 322, 7, 323, 324, 71, 325, 326, 327, 328, 329, 330, 331, 332, 333, 334, 336, 337, 338, 339, 340] (by decide +kernel) (by decide +kernel) w h).1
set_option maxRecDepth 20000 in
theorem in_wsL_law_r16 : ∀ w ∈ wsL_law_r16, w ∈ lw_tbl := fun w h => (goodIn_r wsL_law_r16 [342, 8, 343, 344, 345, 347, 9, 348, 51, 349, 351, 10, 352, 73, 353, 354, 355, 356, 357, 358, 359, 360, 361, 362] (by decide +kernel) (by decide +kernel) w h).1
set_option maxRecDepth 20000 in
theorem in_wsL_law_r17 : ∀ w ∈ wsL_law_r17, w ∈ lw_tbl := fun w h => (goodIn_r wsL_law_r17 [363, 364, 366, 367, 368, 370, 11, 371, 372, 590, 591, 592, 593, 594, 595, 597, 16, 598, 423, 424, 599, 420, 422, 419] (by decide +kernel) (by decide +kernel) w h).1
set_option maxRecDepth 20000 in
theorem in_wsL_law_r18 : ∀ w ∈ wsL_law_r18, w ∈ lw_tbl := fun w h => (goodIn_r wsL_law_r18 [614, 600, 602, 17, 603, 604, 609, 605, 607, 18, 608, 434, 567, 569, 13, 570, 571, 572, 573, 610, 612, 19, 613, 615] (by decide +kernel) (by decide +kernel) w h).1
set_option maxRecDepth 20000 in
theorem in_wsL_law_r19 : ∀ w ∈ wsL_law_r19, w ∈ lw_tbl := fun w h => (goodIn_r wsL_law_r19 [616, 617, 618, 373, 374, 375, 376, 619, 620, 621, 622, 377, 378, 379, 380, 381, 382, 383, 384, 386, 623, 624, 625, 626] (by decide +kernel) (by decide +kernel) w h).1
set_option maxRecDepth 20000 in
theorem in_wsL_law_r20 : ∀ w ∈ wsL_law_r20, w ∈ lw_tbl := fun w h => (goodIn_r wsL_law_r20 [387, 388, 389, 390, 391, 392, 393, 394, 395, 396, 397, 559, 560, 561, 562, 563, 564, 565, 398, 399, 400, 401, 402, 627] (by decide +kernel) (by decide +kernel) w h).1
set_option maxRecDepth 20000 in
theorem in_wsL_law_r21 : ∀ w ∈ wsL_law_r21, w ∈ lw_tbl := fun w h => (goodIn_r wsL_law_r21 [628, 629, 630, 631] (by decide +kernel) (by decide +kernel) w h).1
set_option maxRecDepth 20000 in
theorem in_wsX50 : ∀ w ∈ wsX50, w ∈ lw_tbl := fun w h => (goodIn_r wsX50 [143, 145, 147, 149, 151, 153, 155, 157, 159, 161, 163, 165, 167, 169, 171, 173] (by decide +kernel) (by decide +kernel) w h).1
set_option maxRecDepth 20000 in
theorem in_wsX60 : ∀ w ∈ wsX60, w ∈ lw_tbl := fun w h => (goodIn_r wsX60 [435, 437, 439, 441, 443, 445, 447, 449, 451, 453, 455, 457, 459, 461, 463, 465, 467, 469, 471, 473, 475, 477, 479, 481, 483] (by decide +kernel) (by decide +kernel) w h).1
set_option maxRecDepth 20000 in
theorem in_wsX20 : ∀ w ∈ wsX20, w ∈ lw_tbl := fun w h => (goodIn_r wsX20 [52, 54, 56] (by decide +kernel) (by decide +kernel) w h).1
set_option maxRecDepth 20000 in
theorem in_wsX30 : ∀ w ∈ wsX30, w ∈ lw_tbl := fun w h => (goodIn_r wsX30 [74, 76, 78, 80] (by decide +kernel) (by decide +kernel) w h).1
set_option maxRecDepth 20000 in
theorem in_wsX40 : ∀ w ∈ wsX40, w ∈ lw_tbl := fun w h => (goodIn_r wsX40 [97, 99, 101, 103] (by decide +kernel) (by decide +kernel) w h).1
set_option maxRecDepth 20000 in
theorem in_wsX00 : ∀ w ∈ wsX00, w ∈ lw_tbl := fun w h => (goodIn_r wsX00 [115, 117, 119] (by decide +kernel) (by decide +kernel) w h).1
theorem wsL_law_in : ∀ w ∈ wsL_law, w ∈ lw_tbl := (law_app (law_app (law_app (law_app (law_app (law_app (law_app (law_app in_wsL_law_r1 (law_app in_wsL_law_r2 (law_app in_wsL_law_r3 (law_app in_wsL_law_r4 (law_app in_wsL_law_r5 (law_app in_wsL_law_r6 (law_app in_wsL_law_r7 (law_app in_wsL_law_r8 (law_app in_wsL_law_r9 (law_app in_wsL_law_r10 (law_app in_wsL_law_r11 (law_app in_wsL_law_r12 (law_app in_wsL_law_r13 (law_app in_wsL_law_r14 (law_app in_wsL_law_r15 (law_app in_wsL_law_r16 (law_app in_wsL_law_r17 (law_app in_wsL_law_r18 (law_app in_wsL_law_r19 (law_app in_wsL_law_r20 in_wsL_law_r21)))))))))))))))))))) in_wsX50) in_wsX60) in_wsX20) in_wsX30) in_wsX40) in_wsX00) (fun _ h => absurd h List.not_mem_nil))
theorem inlX0 : ∀ w ∈ wsX00, w ∈ wsL_law := fun _ h => List.mem_append_left _ (List.mem_append_right _ h)
theorem inX0 : ∀ w ∈ wsX00, w ∈ lw_tbl := fun w h => wsL_law_in w (inlX0 w h)
theorem inX1 : ∀ w ∈ wsX10, w ∈ lw_tbl := by decide +kernel
theorem inlX2 : ∀ w ∈ wsX20, w ∈ wsL_law := fun _ h => List.mem_append_left _ (List.mem_append_left _ (List.mem_append_left _ (List.mem_append_left _ (List.mem_append_right _ h))))
theorem inX2 : ∀ w ∈ wsX20, w ∈ lw_tbl := fun w h => wsL_law_in w (inlX2 w h)
theorem inlX3 : ∀ w ∈ wsX30, w ∈ wsL_law := fun _ h => List.mem_append_left _ (List.mem_append_left _ (List.mem_append_left _ (List.mem_append_right _ h)))
theorem inX3 : ∀ w ∈ wsX30, w ∈ lw_tbl := fun w h => wsL_law_in w (inlX3 w h)
theorem inlX4 : ∀ w ∈ wsX40, w ∈ wsL_law := fun _ h => List.mem_append_left _ (List.mem_append_left _ (List.mem_append_right _ h))
theorem inX4 : ∀ w ∈ wsX40, w ∈ lw_tbl := fun w h => wsL_law_in w (inlX4 w h)
theorem inlX5 : ∀ w ∈ wsX50, w ∈ wsL_law := fun _ h => List.mem_append_left _ (List.mem_append_left _ (List.mem_append_left _ (List.mem_append_left _ (List.mem_append_left _ (List.mem_append_left _ (List.mem_append_right _ h))))))
theorem inX5 : ∀ w ∈ wsX50, w ∈ lw_tbl := fun w h => wsL_law_in w (inlX5 w h)
theorem inlX6 : ∀ w ∈ wsX60, w ∈ wsL_law := fun _ h => List.mem_append_left _ (List.mem_append_left _ (List.mem_append_left _ (List.mem_append_left _ (List.mem_append_left _ (List.mem_append_right _ h)))))
theorem inX6 : ∀ w ∈ wsX60, w ∈ lw_tbl := fun w h => wsL_law_in w (inlX6 w h)
theorem inJ9 : ∀ w ∈ wsJ90, w ∈ lw_tbl := by decide +kernel
theorem inJ10 : ∀ w ∈ wsJ100, w ∈ lw_tbl := by decide +kernel
end
section
/-! my own base: what a start is, what an end is, a call, a join -/
def nzL : List (String × Nat × MethodName × String) := [(RX5, 15, yX2_init, RX5), (RX5, 28, yX3_init, RX5), (RX5, 35, yX4_init, RX5), (RX5, 45, yX0_init, RX5), (RX1, 17, yX5_quotient, RX5), (RX4, 43, yX5_quotient, RX5), (RX2, 31, yX5_clamp, RX5), (RX3, 32, yX5_clamp, RX5), (RX0, 31, yX5_within, RX5)]
def mw_nz (U : State) : Prop := ∀ q ∈ nzL, va_Nw (.methodLinkNest q.1 q.2.1 q.2.2.1 q.2.2.2) U
theorem mw_nz.warm {s U : State} (hW : s.WarmedH U.vm) (h : mw_nz s) : mw_nz U := fun q hq => va_Nw.warmM hW (h q hq)
theorem mw_nz.call {U : State} {g : JFrame} {mk : MethodId} {a : Array Value} (h : mw_nz U) : mw_nz (U.calling g mk a) := fun q hq => va_Nw.same rfl rfl (h q hq)
theorem mw_nz.at {s : State} (h : mw_nz s) {a : String} {i : Nat} {y : MethodName} {b : String} (k : Nat) (hk : nzL[k]? = some (a, i, y, b)) : va_Nw (.methodLinkNest a i y b) s := h (a, i, y, b) (List.mem_of_getElem? hk)
def mw_pre (D : va_G) (cl : List vw_C) (ws : va_W) (tys : List (ClassId × FieldType)) (sz : Nat) (U : State) : Prop := U.heap.size = sz ∧ va_P D cl ws U.heap ∧ va_K D cl tys U ∧ va_D (fun _ => True) ws ∧ mw_nz U
def mw_at (D : va_G) (cl : List vw_C) (ws : va_W) (tys : List (ClassId × FieldType)) (A : Nat → Prop) (t : State) : Prop := va_P D cl ws t.heap ∧ va_K D cl tys t ∧ va_D A ws
theorem mw_blind {av : List Value} {D : va_G} {cl : List vw_C} {ws : va_W} {tys : List (ClassId × FieldType)} {sz : Nat} : FrameBlind (va_Pc av (mw_pre D cl ws tys sz)) := fun a U g mk q => ⟨q.1, q.2.1, q.2.2.1, va_K.moved (u := U) (U := U.calling g mk a) (Vm.Alike.refl U.vm) q.2.2.2.1, q.2.2.2.2.1, q.2.2.2.2.2.call⟩
theorem mw_preS {s : State} {H : Heap} {av : List Value} {D : va_G} {cl : List vw_C} {wc : va_W} {tyc : List (ClassId × FieldType)} {A : Nat → Prop} (hPc : va_P D cl wc H) (hDc : va_D A wc) (hKc : va_K D cl tyc s) (hN : mw_nz s) : PreS s H (va_Pc av (mw_pre D cl wc tyc H.size)) av := ⟨mw_blind, fun U hU hW => ⟨rfl, by rw [hU], by rw [hU]; exact hPc, va_K.moved hW.alike hKc, hDc.weaken (fun _ _ _ _ => trivial), hN.warm hW⟩⟩
theorem mw_preV {s : State} {H : Heap} {C : String} {b : Addr} {av : List Value} {D : va_G} {cl : List vw_C} {wc : va_W} {tyc : List (ClassId × FieldType)} {A : Nat → Prop} (hrc : ∃ cell : Cell, H[b]? = some cell ∧ cell.vm.isStatics = false ∧ s.vm.findClass C = some cell.cls) (hPc : va_P D cl wc H) (hDc : va_D A wc) (hKc : va_K D cl tyc s) (hN : mw_nz s) : PreV s H C b (va_Pc (.ref b :: av) (mw_pre D cl wc tyc H.size)) av := ⟨mw_blind, hrc, fun U hU hW => ⟨rfl, by rw [hU], by rw [hU]; exact hPc, va_K.moved hW.alike hKc, hDc.weaken (fun _ _ _ _ => trivial), hN.warm hW⟩⟩
section
variable {p : Program} {l : Launch} {e : Env} {R : Room} {s : State} {m : MethodId} {args : Array Value} {below : List Frame} {meth : Method} {c : Code} {H H0 : Heap} {locs : List Loc} {cells slots mc ms : Nat} {Q : State → Prop} {pc nL : Nat} {ls : Array Slot} {st0 rest : List Value} {D : va_G} {cl : List vw_C} {ws wc wr : va_W} {A : Nat → Prop} {a : Array Value}
theorem mw_callv {S : Type} {post : S → Prop} {w1 : S → va_W} {tyc : S → List (ClassId × FieldType)} (hP : va_P D cl ws H) (hD : va_D A ws) (hS : va_S A H0 H locs) (hA : ∀ q, H0.size ≤ q → A q) (isC isR : List Nat) (hC : isC.map (fun i => ws[i]?) = wc.map some) (hR : isR.map (fun i => ws[i]?) = wr.map some) (hn : va_nd isR = true) (hdis : ∀ i ∈ isR, i ∉ isC)
    (hr : va_Run p l e R s m args below meth c H locs cells slots mc ms (F0 m pc ls st0) rest (va_Qv post (fun u t => mw_at D cl (w1 u) (tyc u) (va_A wc H.size) t) (va_A wc H.size) a) (va_A wc H.size))
    (kk : ∀ (u : S) (H1 : Heap) (locs1 : List Loc), post u → va_P D cl (wr ++ w1 u) H1 → va_D A (wr ++ w1 u) → va_S A H0 H1 locs1 → va_K D cl (tyc u) s → W p l e R s m args below meth c H1 locs1 (cells + mc) (slots + ms) Q (F0 m (pc + 3) ls rest)) : W p l e R s m args below meth c H locs cells slots Q (F0 m pc ls st0) := by
  have hFc := va_free (wc := wc) hD hS hA isC hC
  refine va_callv hr hS (fun q _ h => hFc q h) hFc (fun u t H1 locs1 ht hvm hw hB hz1 hk1 hS1 => ?_)
  obtain ⟨hP1, hK1, hD1⟩ := hB
  rw [ht] at hP1
  obtain ⟨hP2, hD2⟩ := va_join (wr := wr) (w1 := w1 u) hP hD isC isR hC hR hn hdis hk1 hFc hP1 hD1
  exact kk u H1 locs1 hw hP2 hD2 hS1 (va_K.moved hvm.symm hK1)
theorem mw_calli {S : Type} {post : Int32 → S → Prop} {w1 : S → va_W} {tyc : S → List (ClassId × FieldType)} (hP : va_P D cl ws H) (hD : va_D A ws) (hS : va_S A H0 H locs) (hA : ∀ q, H0.size ≤ q → A q) (isC isR : List Nat) (hC : isC.map (fun i => ws[i]?) = wc.map some) (hR : isR.map (fun i => ws[i]?) = wr.map some) (hn : va_nd isR = true) (hdis : ∀ i ∈ isR, i ∉ isC)
    (hr : va_Run p l e R s m args below meth c H locs cells slots mc ms (F0 m pc ls st0) rest (va_Qi post (fun u t => mw_at D cl (w1 u) (tyc u) (va_A wc H.size) t) (va_A wc H.size) a) (va_A wc H.size))
    (kk : ∀ (r : Int32) (u : S) (H1 : Heap) (locs1 : List Loc), post r u → va_P D cl (wr ++ w1 u) H1 → va_D A (wr ++ w1 u) → va_S A H0 H1 locs1 → va_K D cl (tyc u) s → W p l e R s m args below meth c H1 locs1 (cells + mc) (slots + ms) Q (F0 m (pc + 3) ls (.int r :: rest))) : W p l e R s m args below meth c H locs cells slots Q (F0 m pc ls st0) := by
  have hFc := va_free (wc := wc) hD hS hA isC hC
  refine va_calli hr hS (fun q _ h => hFc q h) hFc (fun r u t H1 locs1 ht hvm hw hB hz1 hk1 hS1 => ?_)
  obtain ⟨hP1, hK1, hD1⟩ := hB
  rw [ht] at hP1
  obtain ⟨hP2, hD2⟩ := va_join (wr := wr) (w1 := w1 u) hP hD isC isR hC hR hn hdis hk1 hFc hP1 hD1
  exact kk r u H1 locs1 hw hP2 hD2 hS1 (va_K.moved hvm.symm hK1)
theorem mw_calll {S : Type} {post : Int64 → S → Prop} {w1 : S → va_W} {tyc : S → List (ClassId × FieldType)} (hP : va_P D cl ws H) (hD : va_D A ws) (hS : va_S A H0 H locs) (hA : ∀ q, H0.size ≤ q → A q) (isC isR : List Nat) (hC : isC.map (fun i => ws[i]?) = wc.map some) (hR : isR.map (fun i => ws[i]?) = wr.map some) (hn : va_nd isR = true) (hdis : ∀ i ∈ isR, i ∉ isC)
    (hr : va_Run p l e R s m args below meth c H locs cells slots mc ms (F0 m pc ls st0) rest (va_Ql post (fun u t => mw_at D cl (w1 u) (tyc u) (va_A wc H.size) t) (va_A wc H.size) a) (va_A wc H.size))
    (kk : ∀ (r : Int64) (u : S) (H1 : Heap) (locs1 : List Loc), post r u → va_P D cl (wr ++ w1 u) H1 → va_D A (wr ++ w1 u) → va_S A H0 H1 locs1 → va_K D cl (tyc u) s → W p l e R s m args below meth c H1 locs1 (cells + mc) (slots + ms) Q (F0 m (pc + 3) ls (.long r :: rest))) : W p l e R s m args below meth c H locs cells slots Q (F0 m pc ls st0) := by
  have hFc := va_free (wc := wc) hD hS hA isC hC
  refine va_calll hr hS (fun q _ h => hFc q h) hFc (fun r u t H1 locs1 ht hvm hw hB hz1 hk1 hS1 => ?_)
  obtain ⟨hP1, hK1, hD1⟩ := hB
  rw [ht] at hP1
  obtain ⟨hP2, hD2⟩ := va_join (wr := wr) (w1 := w1 u) hP hD isC isR hC hR hn hdis hk1 hFc hP1 hD1
  exact kk r u H1 locs1 hw hP2 hD2 hS1 (va_K.moved hvm.symm hK1)
theorem mw_jn {X : Type} {g : JFrame} (cw : X → va_W) (lw : X → List (Nat × Value)) (sw : X → List Value) (pcJ : Nat) (Rl : X → Prop)
    (kJ : ∀ x : X, Rl x → ∀ (H1 : Heap) (locs1 : List Loc) (ls1 : Array Slot), va_P D cl (cw x) H1 → va_D A (cw x) → va_S A H0 H1 locs1 → lv_has ls1 nL (lw x) → W p l e R s m args below meth c H1 locs1 cells slots Q (F0 m pcJ ls1 (sw x)))
    (kB : (∀ x : X, Rl x → ∀ (H1 : Heap) (locs1 : List Loc) (ls1 : Array Slot), va_P D cl (cw x) H1 → va_D A (cw x) → va_S A H0 H1 locs1 → lv_has ls1 nL (lw x) → W p l e R s m args below meth c H1 locs1 cells slots Q (F0 m pcJ ls1 (sw x))) → W p l e R s m args below meth c H locs cells slots Q g) : W p l e R s m args below meth c H locs cells slots Q g := kB kJ
end
theorem mw_sh (x : Int64) (y : Int32) (z : Int64) (h : y.toInt64 &&& 63 = z) : x >>> (y.toInt64 &&& 63) = x >>> z := by rw [h]
theorem mw_ne {x k : Int32} {n : Int} (hk : k.toInt = n) (h : ¬ x = k) : x.toInt ≠ n := fun e => h (Int32.toInt_inj.mp (e.trans hk.symm))
theorem mw_fge {x y : Int64} (h : ¬ 0 ≤ lg_cmp x y) : ¬ y ≤ x := fun q => h ((lg_cmp_ge x y).mpr q)
theorem mw_fle {x y : Int64} (h : ¬ lg_cmp x y ≤ 0) : ¬ x ≤ y := fun q => h ((lg_cmp_le x y).mpr q)
theorem mw_fgt {x y : Int64} (h : ¬ 0 < lg_cmp x y) : ¬ y < x := fun q => h ((lg_cmp_gt x y).mpr q)
theorem mw_flt {x y : Int64} (h : ¬ lg_cmp x y < 0) : ¬ x < y := fun q => h ((lg_cmp_lt x y).mpr q)
theorem mw_feq {x y : Int64} (h : ¬ lg_cmp x y = 0) : ¬ x = y := fun q => h ((lg_cmp_eq x y).mpr q)
theorem mw_nb {v : Int32} (h : v = 0 ∨ v = 1) : narrow .boolean (.int v) = .int v := by rcases h with rfl | rfl <;> rfl
theorem mw_fb {v : Int32} (h : v = 0 ∨ v = 1) : fits .boolean (.int v) = true := by rcases h with rfl | rfl <;> rfl
/-- a method of a class that the machine may take over, itself not taken over: its contract out of its walk -/
theorem mw_ofWF {l : Launch} {y : MethodName} {ws ws' : List Cond} {rm : Room} {Pc : Array Value → State → Prop} {Qc : Array Value → State → Outcome → State → Prop} {mc ms : Nat} {free : Addr → Prop} {cc : ByteArray} {maxL : Nat} {ret : Option FieldType}
    (hy : plainFor y = true) (hw : ws = Cond.code y cc maxL ret :: ws')
    (body : ∀ p e s m args below meth c s₁, BodyLoose p l y (headSpec ws rm) cc maxL ret e s m args below meth c s₁ → c.maxLocals = maxL → Pc args s → W p l e (headSpec ws rm).room s m args below meth c s.heap [] 0 0 (MQ below Qc args s mc ms free) (entryFrame m args maxL)) : Met l y ws rm Pc Qc mc ms free := by
  refine MetFree.of_bodySF (code := cc) (maxLocals := maxL) (ret := ret) hy (fun args s m h hn => ?_) (fun p e s m args below meth c s₁ B hml hP _ => ?_)
  · obtain ⟨meth, c, h1, h2, h3, h4, h5, h6, -, -⟩ := Cond.code_spec hn (atoms_spec (ws := ws) h _ (by rw [hw]; exact List.mem_cons_self))
    exact ⟨meth, c, h1, h2, h3, h4, h5, h6⟩
  · obtain ⟨t, a1, o, b1, b2, b3⟩ := body p e s m args below meth c s₁ B hml hP s₁ (by rw [B.state]; rfl) (Stand.of_body B)
    exact ⟨t, o, a1, b1, b2, ⟨b3.1, b3.2⟩⟩
end
section
def R_X5_within (p0 : Int32) (p1 : Int32) (p2 : Int32) (r : Int32) : Prop := (p0 < p1 → (r = (0 : Int32))) ∧ (¬ (p0 < p1) → ((p2 < p0 → (r = (0 : Int32))) ∧ (¬ (p2 < p0) → (r = (1 : Int32)))))
theorem b_X5_within_r {p0 : Int32} {p1 : Int32} {p2 : Int32} {r : Int32}  (h : R_X5_within p0 p1 p2 r) : r = 0 ∨ r = 1 := by
  unfold R_X5_within at h
  by_cases q : p0 < p1
  · have h := h.1 q
    exact Or.inl h
  · have h := h.2 q
    by_cases q : p2 < p0
    · have h := h.1 q
      exact Or.inl h
    · have h := h.2 q
      exact Or.inr h
set_option maxHeartbeats 4000000 in
set_option maxRecDepth 100000 in
theorem c_X5_within (l : Launch) (dC : Nat → ClassId) (dI : Nat → Nat → Nat) (p0 : Int32) (p1 : Int32) (p2 : Int32) (sz : Nat)  : Met l yX5_within wsX5_within ({ frames := 0, cells := 0, slots := 0, locals := 0 }) (va_Pc [.int p0, .int p1, .int p2] (mw_pre (dC, dI) vwCl [] [] sz)) (va_Qi (fun (r : Int32) (u : Unit) => R_X5_within p0 p1 p2 r) (fun u t => mw_at (dC, dI) vwCl [] [] (va_A [] sz) t) (va_A [] sz)) 0 0 (va_A [] sz) := by
  refine Met.ofW (cc := cX5_within) (maxL := 3) (ret := (some .boolean)) (by decide) rfl ?_
  intro p e s m args below meth c s₁ B hml hv
  obtain ⟨rfl, hsz, hP, hK, hD0, hN⟩ := hv
  have hx := B.exec
  have hb := B.bytes
  have hr := B.returns
  have hts := atoms_spec (ws := wsX5_within) B.pre
  have hown : s.vm.findClass RX5 = some m.cls := findClass_of_methodNamed B.named
  have hlocks := B.notSynchronized
  subst hsz
  have hD := hD0.self (sz := s.heap.size)
  generalize hAe : va_A [] s.heap.size = A at hD ⊢
  have hA : ∀ q : Nat, s.heap.size ≤ q → A q := fun q h => by rw [← hAe]; exact Or.inr h
  have hS : va_S A s.heap s.heap [] := va_S.rf
  have hP : va_P (dC, dI) vwCl [] s.heap := hP
  have hl := lv_entry ([.int p0, .int p1, .int p2]) (n := 3) (Nat.le_of_ble_eq_true rfl)
  rw [lg_entry_eq]
  generalize (lg_sl ([.int p0, .int p1, .int p2]) ++ List.replicate (3 - (lg_sl ([.int p0, .int p1, .int p2])).length) Slot.unset).toArray = ls at hl ⊢
  have hl : lv_has ls 3 [(0, .int p0), (1, .int p1), (2, .int p2)] := hl
  refine lv_iload_n hx hb dX5_within_0 rfl (lv_at hl 0 rfl) ?_
  refine lv_iload_n hx hb dX5_within_1 rfl (lv_at hl 1 rfl) ?_
  refine lv_icmp_lt (tgt := 14) hx hb dX5_within_2 (by decide) (fun c1 => ?_) (fun c1 => ?_)
  · refine lv_iconst (v := 0) hx hb dX5_within_14 (by decide) ?_
    have hP9 := hP.sub (ws' := []) [] rfl
    have hD9 := hD.sub (ws' := []) [] (by decide) rfl
    have hK9 := hK.sub (tys' := []) [] rfl
    exact W.zret (v := (0 : Int32)) hx hb hr (by first | rfl | decide | sorry) (fun t ht hW => ⟨⟨(0 : Int32), (), rfl, ⟨fun _ => rfl, fun hh => absurd c1 hh⟩, (by rw [ht]; exact hP9), va_K.moved hW.alike hK9, hD9⟩, hS.F ht⟩) hS.2.2 dX5_within_15
  · refine lv_iload_n hx hb dX5_within_5 rfl (lv_at hl 0 rfl) ?_
    refine lv_iload_n hx hb dX5_within_6 rfl (lv_at hl 2 rfl) ?_
    refine lv_icmp_gt (tgt := 14) hx hb dX5_within_7 (by decide) (fun c2 => ?_) (fun c2 => ?_)
    · refine lv_iconst (v := 0) hx hb dX5_within_14 (by decide) ?_
      have hP9 := hP.sub (ws' := []) [] rfl
      have hD9 := hD.sub (ws' := []) [] (by decide) rfl
      have hK9 := hK.sub (tys' := []) [] rfl
      exact W.zret (v := (0 : Int32)) hx hb hr (by first | rfl | decide | sorry) (fun t ht hW => ⟨⟨(0 : Int32), (), rfl, ⟨fun hh => absurd hh c1, fun _ => ⟨fun _ => rfl, fun hh => absurd c2 hh⟩⟩, (by rw [ht]; exact hP9), va_K.moved hW.alike hK9, hD9⟩, hS.F ht⟩) hS.2.2 dX5_within_15
    · refine lv_iconst (v := 1) hx hb dX5_within_10 (by decide) ?_
      refine lv_goto (tgt := 15) hx hb dX5_within_11 (by decide) ?_
      have hP9 := hP.sub (ws' := []) [] rfl
      have hD9 := hD.sub (ws' := []) [] (by decide) rfl
      have hK9 := hK.sub (tys' := []) [] rfl
      exact W.zret (v := (1 : Int32)) hx hb hr (by first | rfl | decide | sorry) (fun t ht hW => ⟨⟨(1 : Int32), (), rfl, ⟨fun hh => absurd hh c1, fun _ => ⟨fun hh => absurd hh c2, fun _ => rfl⟩⟩, (by rw [ht]; exact hP9), va_K.moved hW.alike hK9, hD9⟩, hS.F ht⟩) hS.2.2 dX5_within_15
def R_X5_quotient (p0 : Int64) (p1 : Int64) (r : Int64) : Prop := (p1 = (0 : Int64) → (r = (0 : Int64))) ∧ (¬ (p1 = (0 : Int64)) → (r = (p0 / p1)))
set_option maxHeartbeats 4000000 in
set_option maxRecDepth 100000 in
theorem c_X5_quotient (l : Launch) (dC : Nat → ClassId) (dI : Nat → Nat → Nat) (p0 : Int64) (p1 : Int64) (sz : Nat)  : Met l yX5_quotient wsX5_quotient ({ frames := 0, cells := 0, slots := 0, locals := 0 }) (va_Pc [.long p0, .long p1] (mw_pre (dC, dI) vwCl [] [] sz)) (va_Ql (fun (r : Int64) (u : Unit) => R_X5_quotient p0 p1 r) (fun u t => mw_at (dC, dI) vwCl [] [] (va_A [] sz) t) (va_A [] sz)) 0 0 (va_A [] sz) := by
  refine Met.ofW (cc := cX5_quotient) (maxL := 4) (ret := (some .long)) (by decide) rfl ?_
  intro p e s m args below meth c s₁ B hml hv
  obtain ⟨rfl, hsz, hP, hK, hD0, hN⟩ := hv
  have hx := B.exec
  have hb := B.bytes
  have hr := B.returns
  have hts := atoms_spec (ws := wsX5_quotient) B.pre
  have hown : s.vm.findClass RX5 = some m.cls := findClass_of_methodNamed B.named
  have hlocks := B.notSynchronized
  subst hsz
  have hD := hD0.self (sz := s.heap.size)
  generalize hAe : va_A [] s.heap.size = A at hD ⊢
  have hA : ∀ q : Nat, s.heap.size ≤ q → A q := fun q h => by rw [← hAe]; exact Or.inr h
  have hS : va_S A s.heap s.heap [] := va_S.rf
  have hP : va_P (dC, dI) vwCl [] s.heap := hP
  have hl := lv_entry ([.long p0, .long p1]) (n := 4) (Nat.le_of_ble_eq_true rfl)
  rw [lg_entry_eq]
  generalize (lg_sl ([.long p0, .long p1]) ++ List.replicate (4 - (lg_sl ([.long p0, .long p1])).length) Slot.unset).toArray = ls at hl ⊢
  have hl : lv_has ls 4 [(0, .long p0), (2, .long p1)] := hl
  refine lv_lload_n hx hb dX5_quotient_0 rfl (lv_at hl 1 rfl) ?_
  refine lv_lconst (v := 0) hx hb dX5_quotient_1 (by decide) ?_
  refine W.lcmp hx hb dX5_quotient_2 ?_
  refine lv_if_ne (tgt := 10) hx hb dX5_quotient_3 (by decide) (fun c1 => ?_) (fun c1 => ?_)
  · have c1 : ¬ (p1 = (0 : Int64)) := mw_feq c1
    refine lv_lload_n hx hb dX5_quotient_10 rfl (lv_at hl 0 rfl) ?_
    refine lv_lload_n hx hb dX5_quotient_11 rfl (lv_at hl 1 rfl) ?_
    refine lv_ldiv hx hb dX5_quotient_12 (by first | assumption | sorry) ?_
    have hP9 := hP.sub (ws' := []) [] rfl
    have hD9 := hD.sub (ws' := []) [] (by decide) rfl
    have hK9 := hK.sub (tys' := []) [] rfl
    exact W.lret (v := (p0 / p1)) hx hb hr (fun t ht hW => ⟨⟨(p0 / p1), (), rfl, ⟨fun hh => absurd hh c1, fun _ => rfl⟩, (by rw [ht]; exact hP9), va_K.moved hW.alike hK9, hD9⟩, hS.F ht⟩) hS.2.2 dX5_quotient_13
  · have c1 : p1 = (0 : Int64) := (lg_cmp_eq _ _).mp c1
    refine lv_lconst (v := 0) hx hb dX5_quotient_6 (by decide) ?_
    refine lv_goto (tgt := 13) hx hb dX5_quotient_7 (by decide) ?_
    have hP9 := hP.sub (ws' := []) [] rfl
    have hD9 := hD.sub (ws' := []) [] (by decide) rfl
    have hK9 := hK.sub (tys' := []) [] rfl
    exact W.lret (v := (0 : Int64)) hx hb hr (fun t ht hW => ⟨⟨(0 : Int64), (), rfl, ⟨fun _ => rfl, fun hh => absurd c1 hh⟩, (by rw [ht]; exact hP9), va_K.moved hW.alike hK9, hD9⟩, hS.F ht⟩) hS.2.2 dX5_quotient_13
def R_X5_clamp (p0 : Int64) (p1 : Int64) (r : Int64) : Prop := ∃ v1 : Int64, v1 = (if p0 < p1 then p0 else p1) ∧ (∃ v2 : Int64, v2 = (if v1 < (-p1) then (-p1) else v1) ∧ (r = v2))
set_option maxHeartbeats 4000000 in
set_option maxRecDepth 100000 in
theorem c_X5_clamp (l : Launch) (dC : Nat → ClassId) (dI : Nat → Nat → Nat) (p0 : Int64) (p1 : Int64) (sz : Nat)  : Met l yX5_clamp wsX5_clamp ({ frames := 1, cells := 0, slots := 0, locals := 17 }) (va_Pc [.long p0, .long p1] (mw_pre (dC, dI) vwCl [] [] sz)) (va_Ql (fun (r : Int64) (u : Unit) => R_X5_clamp p0 p1 r) (fun u t => mw_at (dC, dI) vwCl [] [] (va_A [] sz) t) (va_A [] sz)) 0 0 (va_A [] sz) := by
  refine Met.ofW (cc := cX5_clamp) (maxL := 4) (ret := (some .long)) (by decide) rfl ?_
  intro p e s m args below meth c s₁ B hml hv
  obtain ⟨rfl, hsz, hP, hK, hD0, hN⟩ := hv
  have hx := B.exec
  have hb := B.bytes
  have hr := B.returns
  have hts := atoms_spec (ws := wsX5_clamp) B.pre
  have hown : s.vm.findClass RX5 = some m.cls := findClass_of_methodNamed B.named
  have hlocks := B.notSynchronized
  subst hsz
  have hD := hD0.self (sz := s.heap.size)
  generalize hAe : va_A [] s.heap.size = A at hD ⊢
  have hA : ∀ q : Nat, s.heap.size ≤ q → A q := fun q h => by rw [← hAe]; exact Or.inr h
  have hS : va_S A s.heap s.heap [] := va_S.rf
  have hP : va_P (dC, dI) vwCl [] s.heap := hP
  have hl := lv_entry ([.long p0, .long p1]) (n := 4) (Nat.le_of_ble_eq_true rfl)
  rw [lg_entry_eq]
  generalize (lg_sl ([.long p0, .long p1]) ++ List.replicate (4 - (lg_sl ([.long p0, .long p1])).length) Slot.unset).toArray = ls at hl ⊢
  have hl : lv_has ls 4 [(0, .long p0), (2, .long p1)] := hl
  have hw0 := hts (.methodLink RX5 257 Lib.MathLoose.min_long.x) (by decide +kernel)
  have hw1 := hts (.static Lib.MathLoose.min_long.x) (by decide +kernel)
  have hw2 := hts (.initialized "java/lang/Math") (by decide +kernel)
  have hw3 := hts (.code Lib.MathLoose.min_long.x Lib.MathLoose.min_long.code 4 (some .long)) (by decide +kernel)
  have hw4 := hts (.methodLink RX5 244 Lib.MathLoose.max_long.x) (by decide +kernel)
  have hw5 := hts (.static Lib.MathLoose.max_long.x) (by decide +kernel)
  have hw6 := hts (.code Lib.MathLoose.max_long.x Lib.MathLoose.max_long.code 4 (some .long)) (by decide +kernel)
  refine lv_lload_n hx hb dX5_clamp_0 rfl (lv_at hl 1 rfl) ?_
  refine lv_lneg hx hb dX5_clamp_1 ?_
  refine lv_lload_n hx hb dX5_clamp_2 rfl (lv_at hl 1 rfl) ?_
  refine lv_lload_n hx hb dX5_clamp_3 rfl (lv_at hl 0 rfl) ?_
  refine va_mmin_long hx hb (hml.trans hl.1.symm) hown hw0 hw1 hw2 hw3 (Nat.le_of_ble_eq_true rfl) (Nat.le_of_ble_eq_true rfl) (Nat.le_of_ble_eq_true rfl) (Nat.le_of_ble_eq_true rfl) dX5_clamp_4 ?_
  refine lv_topl (fun v1 ev1 => ?_)
  refine va_mmax_long hx hb (hml.trans hl.1.symm) hown hw4 hw5 hw2 hw6 (Nat.le_of_ble_eq_true rfl) (Nat.le_of_ble_eq_true rfl) (Nat.le_of_ble_eq_true rfl) (Nat.le_of_ble_eq_true rfl) dX5_clamp_7 ?_
  refine lv_topl (fun v2 ev2 => ?_)
  have hP9 := hP.sub (ws' := []) [] rfl
  have hD9 := hD.sub (ws' := []) [] (by decide) rfl
  have hK9 := hK.sub (tys' := []) [] rfl
  exact W.lret (v := v2) hx hb hr (fun t ht hW => ⟨⟨v2, (), rfl, ⟨v1, ev1, ⟨v2, ev2, rfl⟩⟩, (by rw [ht]; exact hP9), va_K.moved hW.alike hK9, hD9⟩, hS.F ht⟩) hS.2.2 dX5_clamp_10
def R_X5_isAngle (p0 : Int32) (r : Int32) : Prop := ∃ (r1 : Int32), R_X5_within p0 (0 : Int32) (65535 : Int32) r1 ∧ (r = r1)
theorem b_X5_isAngle_r {p0 : Int32} {r : Int32}  (h : R_X5_isAngle p0 r) : r = 0 ∨ r = 1 := by
  unfold R_X5_isAngle at h
  obtain ⟨r1, h_r1, h⟩ := h
  rw [h]; exact (b_X5_within_r h_r1)
set_option maxHeartbeats 4000000 in
set_option maxRecDepth 100000 in
theorem c_X5_isAngle (l : Launch) (dC : Nat → ClassId) (dI : Nat → Nat → Nat) (p0 : Int32) (sz : Nat)  : Met l yX5_isAngle wsX5_isAngle ({ frames := 1, cells := 0, slots := 0, locals := 22 }) (va_Pc [.int p0] (mw_pre (dC, dI) vwCl [] [] sz)) (va_Qi (fun (r : Int32) (u : Unit) => R_X5_isAngle p0 r) (fun u t => mw_at (dC, dI) vwCl [] [] (va_A [] sz) t) (va_A [] sz)) 0 0 (va_A [] sz) := by
  refine Met.ofW (cc := cX5_isAngle) (maxL := 1) (ret := (some .boolean)) (by decide) rfl ?_
  intro p e s m args below meth c s₁ B hml hv
  obtain ⟨rfl, hsz, hP, hK, hD0, hN⟩ := hv
  have hx := B.exec
  have hb := B.bytes
  have hr := B.returns
  have hts := atoms_spec (ws := wsX5_isAngle) B.pre
  have hown : s.vm.findClass RX5 = some m.cls := findClass_of_methodNamed B.named
  have hlocks := B.notSynchronized
  subst hsz
  have hD := hD0.self (sz := s.heap.size)
  generalize hAe : va_A [] s.heap.size = A at hD ⊢
  have hA : ∀ q : Nat, s.heap.size ≤ q → A q := fun q h => by rw [← hAe]; exact Or.inr h
  have hS : va_S A s.heap s.heap [] := va_S.rf
  have hP : va_P (dC, dI) vwCl [] s.heap := hP
  have hl := lv_entry ([.int p0]) (n := 1) (Nat.le_of_ble_eq_true rfl)
  rw [lg_entry_eq]
  generalize (lg_sl ([.int p0]) ++ List.replicate (1 - (lg_sl ([.int p0])).length) Slot.unset).toArray = ls at hl ⊢
  have hl : lv_has ls 1 [(0, .int p0)] := hl
  have hw0 := hts (.constant RX5 256 (65535)) (by decide +kernel)
  refine lv_iload_n hx hb dX5_isAngle_0 rfl (lv_at hl 0 rfl) ?_
  refine lv_iconst (v := 0) hx hb dX5_isAngle_1 (by decide) ?_
  refine lv_ldcw hx hb hown hw0 dX5_isAngle_2 ?_
  refine mw_calli (wc := []) (wr := []) (w1 := fun u => []) (tyc := fun u => []) hP hD hS hA [] [] rfl rfl (by decide) (by decide) (va_runS (As := [.int p0, .int (0 : Int32), .int (65535 : Int32)]) (rest := []) ⟨hx, hb, hml, hown, hts⟩ (c_X5_within l dC dI p0 (0 : Int32) (65535 : Int32) s.heap.size ) (va_cwS 3 hts gX5_isAngle_X5_within rfl rfl rfl (by decide +kernel) ⟨(Nat.le_of_ble_eq_true rfl), (Nat.le_of_ble_eq_true rfl)⟩) (mw_preS (hP.sub (ws' := []) [] rfl) (hD.sub (ws' := []) [] (by decide) rfl) (hK.sub (tys' := []) [] rfl) hN) rfl rfl hl.1 rfl (lv_room (Nat.le_of_ble_eq_true rfl)) dX5_isAngle_5 ⟨(Nat.le_of_ble_eq_true rfl), (Nat.le_of_ble_eq_true rfl)⟩) (fun r1 u H locs hw_2 hP hD hS hK1 => ?_)
  have hw_2 : R_X5_within p0 (0 : Int32) (65535 : Int32) r1 := hw_2
  have hP : va_P (dC, dI) vwCl [] H := hP
  have hD : va_D A [] := hD
  have hP9 := hP.sub (ws' := []) [] rfl
  have hD9 := hD.sub (ws' := []) [] (by decide) rfl
  have hK9 := hK.sub (tys' := []) [] rfl
  exact W.zret (v := r1) hx hb hr (mw_nb (b_X5_within_r hw_2)) (fun t ht hW => ⟨⟨r1, (), rfl, ⟨r1, hw_2, rfl⟩, (by rw [ht]; exact hP9), va_K.moved hW.alike hK9, hD9⟩, hS.F ht⟩) hS.2.2 dX5_isAngle_8
def R_X5_isVector (p0 : Int32) (p1 : Int32) (r : Int32) : Prop := ∃ (r1 : Int32), R_X5_within p0 (-32000 : Int32) (32000 : Int32) r1 ∧ ((r1 = (0 : Int32) → (r = (0 : Int32))) ∧ (¬ (r1 = (0 : Int32)) → (∃ (r4 : Int32), R_X5_within p1 (-32000 : Int32) (32000 : Int32) r4 ∧ ((r4 = (0 : Int32) → (r = (0 : Int32))) ∧ (¬ (r4 = (0 : Int32)) → (r = (1 : Int32)))))))
theorem b_X5_isVector_r {p0 : Int32} {p1 : Int32} {r : Int32}  (h : R_X5_isVector p0 p1 r) : r = 0 ∨ r = 1 := by
  unfold R_X5_isVector at h
  obtain ⟨r1, h_r1, h⟩ := h
  by_cases q : r1 = (0 : Int32)
  · have h := h.1 q
    exact Or.inl h
  · have h := h.2 q
    obtain ⟨r4, h_r4, h⟩ := h
    by_cases q : r4 = (0 : Int32)
    · have h := h.1 q
      exact Or.inl h
    · have h := h.2 q
      exact Or.inr h
set_option maxHeartbeats 4000000 in
set_option maxRecDepth 100000 in
theorem c_X5_isVector (l : Launch) (dC : Nat → ClassId) (dI : Nat → Nat → Nat) (p0 : Int32) (p1 : Int32) (sz : Nat)  : Met l yX5_isVector wsX5_isVector ({ frames := 1, cells := 0, slots := 0, locals := 22 }) (va_Pc [.int p0, .int p1] (mw_pre (dC, dI) vwCl [] [] sz)) (va_Qi (fun (r : Int32) (u : Unit) => R_X5_isVector p0 p1 r) (fun u t => mw_at (dC, dI) vwCl [] [] (va_A [] sz) t) (va_A [] sz)) 0 0 (va_A [] sz) := by
  refine Met.ofW (cc := cX5_isVector) (maxL := 2) (ret := (some .boolean)) (by decide) rfl ?_
  intro p e s m args below meth c s₁ B hml hv
  obtain ⟨rfl, hsz, hP, hK, hD0, hN⟩ := hv
  have hx := B.exec
  have hb := B.bytes
  have hr := B.returns
  have hts := atoms_spec (ws := wsX5_isVector) B.pre
  have hown : s.vm.findClass RX5 = some m.cls := findClass_of_methodNamed B.named
  have hlocks := B.notSynchronized
  subst hsz
  have hD := hD0.self (sz := s.heap.size)
  generalize hAe : va_A [] s.heap.size = A at hD ⊢
  have hA : ∀ q : Nat, s.heap.size ≤ q → A q := fun q h => by rw [← hAe]; exact Or.inr h
  have hS : va_S A s.heap s.heap [] := va_S.rf
  have hP : va_P (dC, dI) vwCl [] s.heap := hP
  have hl := lv_entry ([.int p0, .int p1]) (n := 2) (Nat.le_of_ble_eq_true rfl)
  rw [lg_entry_eq]
  generalize (lg_sl ([.int p0, .int p1]) ++ List.replicate (2 - (lg_sl ([.int p0, .int p1])).length) Slot.unset).toArray = ls at hl ⊢
  have hl : lv_has ls 2 [(0, .int p0), (1, .int p1)] := hl
  refine lv_iload_n hx hb dX5_isVector_0 rfl (lv_at hl 0 rfl) ?_
  refine lv_sipush (v := -32000) hx hb dX5_isVector_1 (by decide) ?_
  refine lv_sipush (v := 32000) hx hb dX5_isVector_4 (by decide) ?_
  refine mw_calli (wc := []) (wr := []) (w1 := fun u => []) (tyc := fun u => []) hP hD hS hA [] [] rfl rfl (by decide) (by decide) (va_runS (As := [.int p0, .int (-32000 : Int32), .int (32000 : Int32)]) (rest := []) ⟨hx, hb, hml, hown, hts⟩ (c_X5_within l dC dI p0 (-32000 : Int32) (32000 : Int32) s.heap.size ) (va_cwS 3 hts gX5_isVector_X5_within rfl rfl rfl (by decide +kernel) ⟨(Nat.le_of_ble_eq_true rfl), (Nat.le_of_ble_eq_true rfl)⟩) (mw_preS (hP.sub (ws' := []) [] rfl) (hD.sub (ws' := []) [] (by decide) rfl) (hK.sub (tys' := []) [] rfl) hN) rfl rfl hl.1 rfl (lv_room (Nat.le_of_ble_eq_true rfl)) dX5_isVector_7 ⟨(Nat.le_of_ble_eq_true rfl), (Nat.le_of_ble_eq_true rfl)⟩) (fun r1 u H locs hw_2 hP hD hS hK1 => ?_)
  have hw_2 : R_X5_within p0 (-32000 : Int32) (32000 : Int32) r1 := hw_2
  have hP : va_P (dC, dI) vwCl [] H := hP
  have hD : va_D A [] := hD
  refine lv_if_eq (tgt := 30) hx hb dX5_isVector_10 (by decide) (fun c3 => ?_) (fun c3 => ?_)
  · have c3 : r1 = (0 : Int32) := c3
    refine lv_iconst (v := 0) hx hb dX5_isVector_30 (by decide) ?_
    have hP9 := hP.sub (ws' := []) [] rfl
    have hD9 := hD.sub (ws' := []) [] (by decide) rfl
    have hK9 := hK.sub (tys' := []) [] rfl
    exact W.zret (v := (0 : Int32)) hx hb hr (by first | rfl | decide | sorry) (fun t ht hW => ⟨⟨(0 : Int32), (), rfl, ⟨r1, hw_2, ⟨fun _ => rfl, fun hh => absurd c3 hh⟩⟩, (by rw [ht]; exact hP9), va_K.moved hW.alike hK9, hD9⟩, hS.F ht⟩) hS.2.2 dX5_isVector_31
  · have c3 : ¬ (r1 = (0 : Int32)) := c3
    refine lv_iload_n hx hb dX5_isVector_13 rfl (lv_at hl 1 rfl) ?_
    refine lv_sipush (v := -32000) hx hb dX5_isVector_14 (by decide) ?_
    refine lv_sipush (v := 32000) hx hb dX5_isVector_17 (by decide) ?_
    refine mw_calli (wc := []) (wr := []) (w1 := fun u => []) (tyc := fun u => []) hP hD hS hA [] [] rfl rfl (by decide) (by decide) (va_runS (As := [.int p1, .int (-32000 : Int32), .int (32000 : Int32)]) (rest := []) ⟨hx, hb, hml, hown, hts⟩ (c_X5_within l dC dI p1 (-32000 : Int32) (32000 : Int32) H.size ) (va_cwS 3 hts gX5_isVector_X5_within rfl rfl rfl (by decide +kernel) ⟨(Nat.le_of_ble_eq_true rfl), (Nat.le_of_ble_eq_true rfl)⟩) (mw_preS (hP.sub (ws' := []) [] rfl) (hD.sub (ws' := []) [] (by decide) rfl) (hK.sub (tys' := []) [] rfl) hN) rfl rfl hl.1 rfl (lv_room (Nat.le_of_ble_eq_true rfl)) dX5_isVector_20 ⟨(Nat.le_of_ble_eq_true rfl), (Nat.le_of_ble_eq_true rfl)⟩) (fun r4 u H locs hw_5 hP hD hS hK1 => ?_)
    have hw_5 : R_X5_within p1 (-32000 : Int32) (32000 : Int32) r4 := hw_5
    have hP : va_P (dC, dI) vwCl [] H := hP
    have hD : va_D A [] := hD
    refine lv_if_eq (tgt := 30) hx hb dX5_isVector_23 (by decide) (fun c6 => ?_) (fun c6 => ?_)
    · have c6 : r4 = (0 : Int32) := c6
      refine lv_iconst (v := 0) hx hb dX5_isVector_30 (by decide) ?_
      have hP9 := hP.sub (ws' := []) [] rfl
      have hD9 := hD.sub (ws' := []) [] (by decide) rfl
      have hK9 := hK.sub (tys' := []) [] rfl
      exact W.zret (v := (0 : Int32)) hx hb hr (by first | rfl | decide | sorry) (fun t ht hW => ⟨⟨(0 : Int32), (), rfl, ⟨r1, hw_2, ⟨fun hh => absurd hh c3, fun _ => ⟨r4, hw_5, ⟨fun _ => rfl, fun hh => absurd c6 hh⟩⟩⟩⟩, (by rw [ht]; exact hP9), va_K.moved hW.alike hK9, hD9⟩, hS.F ht⟩) hS.2.2 dX5_isVector_31
    · have c6 : ¬ (r4 = (0 : Int32)) := c6
      refine lv_iconst (v := 1) hx hb dX5_isVector_26 (by decide) ?_
      refine lv_goto (tgt := 31) hx hb dX5_isVector_27 (by decide) ?_
      have hP9 := hP.sub (ws' := []) [] rfl
      have hD9 := hD.sub (ws' := []) [] (by decide) rfl
      have hK9 := hK.sub (tys' := []) [] rfl
      exact W.zret (v := (1 : Int32)) hx hb hr (by first | rfl | decide | sorry) (fun t ht hW => ⟨⟨(1 : Int32), (), rfl, ⟨r1, hw_2, ⟨fun hh => absurd hh c3, fun _ => ⟨r4, hw_5, ⟨fun hh => absurd hh c6, fun _ => rfl⟩⟩⟩⟩, (by rw [ht]; exact hP9), va_K.moved hW.alike hK9, hD9⟩, hS.F ht⟩) hS.2.2 dX5_isVector_31
def R_J9_floorMod_7cf53 (p0 : Int32) (p1 : Int32) (r : Int32) : Prop := ∃ v1 : Int32, v1 = (p0 - p0 / p1 * p1) ∧ (((0 : Int32) ≤ (p0 ^^^ p1) → (r = v1)) ∧ (¬ ((0 : Int32) ≤ (p0 ^^^ p1)) → ((v1 = (0 : Int32) → (r = v1)) ∧ (¬ (v1 = (0 : Int32)) → (r = (v1 + p1))))))
set_option maxHeartbeats 4000000 in
set_option maxRecDepth 100000 in
theorem c_J9_floorMod_7cf53 (l : Launch) (dC : Nat → ClassId) (dI : Nat → Nat → Nat) (p0 : Int32) (p1 : Int32) (sz : Nat) (hne : ¬ p1 = 0) : Met l yJ9_floorMod_7cf53 wsJ9_floorMod_7cf53 ({ frames := 0, cells := 0, slots := 0, locals := 0 }) (va_Pc [.int p0, .int p1] (mw_pre (dC, dI) vwCl [] [] sz)) (va_Qi (fun (r : Int32) (u : Unit) => R_J9_floorMod_7cf53 p0 p1 r) (fun u t => mw_at (dC, dI) vwCl [] [] (va_A [] sz) t) (va_A [] sz)) 0 0 (va_A [] sz) := by
  refine mw_ofWF (cc := cJ9_floorMod_7cf53) (maxL := 3) (ret := (some .int)) (by decide +kernel) rfl ?_
  intro p e s m args below meth c s₁ B hml hv
  obtain ⟨rfl, hsz, hP, hK, hD0, hN⟩ := hv
  have hx := B.exec
  have hb := B.bytes
  have hr := B.returns
  have hts := atoms_spec (ws := wsJ9_floorMod_7cf53) B.pre
  have hown : s.vm.findClass RJ9 = some m.cls := findClass_of_methodNamed B.named
  have hlocks := B.notSynchronized
  subst hsz
  have hD := hD0.self (sz := s.heap.size)
  generalize hAe : va_A [] s.heap.size = A at hD ⊢
  have hA : ∀ q : Nat, s.heap.size ≤ q → A q := fun q h => by rw [← hAe]; exact Or.inr h
  have hS : va_S A s.heap s.heap [] := va_S.rf
  have hP : va_P (dC, dI) vwCl [] s.heap := hP
  have hl := lv_entry ([.int p0, .int p1]) (n := 3) (Nat.le_of_ble_eq_true rfl)
  rw [lg_entry_eq]
  generalize (lg_sl ([.int p0, .int p1]) ++ List.replicate (3 - (lg_sl ([.int p0, .int p1])).length) Slot.unset).toArray = ls at hl ⊢
  have hl : lv_has ls 3 [(0, .int p0), (1, .int p1)] := hl
  refine lv_iload_n hx hb dJ9_floorMod_7cf53_0 rfl (lv_at hl 0 rfl) ?_
  refine lv_iload_n hx hb dJ9_floorMod_7cf53_1 rfl (lv_at hl 1 rfl) ?_
  refine lv_irem hx hb dJ9_floorMod_7cf53_2 (by first | assumption | sorry) ?_
  refine lv_topi (fun v1 ev1 => ?_)
  refine lv_istore_n (lv' := [(2, .int v1), (0, .int p0), (1, .int p1)]) hx hb dJ9_floorMod_7cf53_3 rfl hl (by decide) rfl (fun ls hl => ?_)
  refine lv_iload_n hx hb dJ9_floorMod_7cf53_4 rfl (lv_at hl 1 rfl) ?_
  refine lv_iload_n hx hb dJ9_floorMod_7cf53_5 rfl (lv_at hl 2 rfl) ?_
  refine lv_ixor hx hb dJ9_floorMod_7cf53_6 ?_
  refine lv_if_ge (tgt := 18) hx hb dJ9_floorMod_7cf53_7 (by decide) (fun c2 => ?_) (fun c2 => ?_)
  · have c2 : (0 : Int32) ≤ (p0 ^^^ p1) := c2
    refine lv_iload_n hx hb dJ9_floorMod_7cf53_18 rfl (lv_at hl 0 rfl) ?_
    have hP9 := hP.sub (ws' := []) [] rfl
    have hD9 := hD.sub (ws' := []) [] (by decide) rfl
    have hK9 := hK.sub (tys' := []) [] rfl
    exact W.iret (v := v1) hx hb hr (fun t ht hW => ⟨⟨v1, (), rfl, ⟨v1, ev1, ⟨fun _ => rfl, fun hh => absurd c2 hh⟩⟩, (by rw [ht]; exact hP9), va_K.moved hW.alike hK9, hD9⟩, hS.F ht⟩) hS.2.2 dJ9_floorMod_7cf53_19
  · have c2 : ¬ ((0 : Int32) ≤ (p0 ^^^ p1)) := c2
    refine lv_iload_n hx hb dJ9_floorMod_7cf53_10 rfl (lv_at hl 0 rfl) ?_
    refine lv_if_eq (tgt := 18) hx hb dJ9_floorMod_7cf53_11 (by decide) (fun c3 => ?_) (fun c3 => ?_)
    · have c3 : v1 = (0 : Int32) := c3
      refine lv_iload_n hx hb dJ9_floorMod_7cf53_18 rfl (lv_at hl 0 rfl) ?_
      have hP9 := hP.sub (ws' := []) [] rfl
      have hD9 := hD.sub (ws' := []) [] (by decide) rfl
      have hK9 := hK.sub (tys' := []) [] rfl
      exact W.iret (v := v1) hx hb hr (fun t ht hW => ⟨⟨v1, (), rfl, ⟨v1, ev1, ⟨fun hh => absurd hh c2, fun _ => ⟨fun _ => rfl, fun hh => absurd c3 hh⟩⟩⟩, (by rw [ht]; exact hP9), va_K.moved hW.alike hK9, hD9⟩, hS.F ht⟩) hS.2.2 dJ9_floorMod_7cf53_19
    · have c3 : ¬ (v1 = (0 : Int32)) := c3
      refine lv_iload_n hx hb dJ9_floorMod_7cf53_14 rfl (lv_at hl 0 rfl) ?_
      refine lv_iload_n hx hb dJ9_floorMod_7cf53_15 rfl (lv_at hl 2 rfl) ?_
      refine lv_iadd hx hb dJ9_floorMod_7cf53_16 ?_
      have hP9 := hP.sub (ws' := []) [] rfl
      have hD9 := hD.sub (ws' := []) [] (by decide) rfl
      have hK9 := hK.sub (tys' := []) [] rfl
      exact W.iret (v := (v1 + p1)) hx hb hr (fun t ht hW => ⟨⟨(v1 + p1), (), rfl, ⟨v1, ev1, ⟨fun hh => absurd hh c2, fun _ => ⟨fun hh => absurd hh c3, fun _ => rfl⟩⟩⟩, (by rw [ht]; exact hP9), va_K.moved hW.alike hK9, hD9⟩, hS.F ht⟩) hS.2.2 dJ9_floorMod_7cf53_17
def R_X1_sineOf (p0 : Int64) (r : Int64) : Prop := ∃ v1 : Int64, v1 = (p0 &&& (32767 : Int64)) ∧ (∃ v2 : Int64, v2 = (v1 * ((32768 : Int64) - v1)) ∧ (∃ (r3 : Int64), R_X5_quotient ((131068 : Int64) * v2) ((1342177280 : Int64) - v2) r3 ∧ (((32768 : Int64) ≤ (p0 &&& (65535 : Int64)) → (r = (-r3))) ∧ (¬ ((32768 : Int64) ≤ (p0 &&& (65535 : Int64))) → (r = r3)))))
set_option maxHeartbeats 4000000 in
set_option maxRecDepth 100000 in
theorem c_X1_sineOf (l : Launch) (dC : Nat → ClassId) (dI : Nat → Nat → Nat) (p0 : Int64) (sz : Nat)  : Met l yX1_sineOf wsX1_sineOf ({ frames := 1, cells := 0, slots := 0, locals := 23 }) (va_Pc [.long p0] (mw_pre (dC, dI) vwCl [] [] sz)) (va_Ql (fun (r : Int64) (u : Unit) => R_X1_sineOf p0 r) (fun u t => mw_at (dC, dI) vwCl [] [] (va_A [] sz) t) (va_A [] sz)) 0 0 (va_A [] sz) := by
  refine Met.ofW (cc := cX1_sineOf) (maxL := 8) (ret := (some .long)) (by decide) rfl ?_
  intro p e s m args below meth c s₁ B hml hv
  obtain ⟨rfl, hsz, hP, hK, hD0, hN⟩ := hv
  have hx := B.exec
  have hb := B.bytes
  have hr := B.returns
  have hts := atoms_spec (ws := wsX1_sineOf) B.pre
  have hown : s.vm.findClass RX1 = some m.cls := findClass_of_methodNamed B.named
  have hlocks := B.notSynchronized
  subst hsz
  have hD := hD0.self (sz := s.heap.size)
  generalize hAe : va_A [] s.heap.size = A at hD ⊢
  have hA : ∀ q : Nat, s.heap.size ≤ q → A q := fun q h => by rw [← hAe]; exact Or.inr h
  have hS : va_S A s.heap s.heap [] := va_S.rf
  have hP : va_P (dC, dI) vwCl [] s.heap := hP
  have hl := lv_entry ([.long p0]) (n := 8) (Nat.le_of_ble_eq_true rfl)
  rw [lg_entry_eq]
  generalize (lg_sl ([.long p0]) ++ List.replicate (8 - (lg_sl ([.long p0])).length) Slot.unset).toArray = ls at hl ⊢
  have hl : lv_has ls 8 [(0, .long p0)] := hl
  have hw0 := hts (.constantLong RX1 9 (32767)) (by decide +kernel)
  have hw1 := hts (.constantLong RX1 11 (32768)) (by decide +kernel)
  have hw2 := hts (.constantLong RX1 13 (131068)) (by decide +kernel)
  have hw3 := hts (.constantLong RX1 15 (1342177280)) (by decide +kernel)
  have hw4 := hts (.initialized RX5) (by decide +kernel)
  have hw5 := hts (.static yX5_quotient) (by decide +kernel)
  have hw6 := hts (.constantLong RX1 21 (65535)) (by decide +kernel)
  refine lv_lload_n hx hb dX1_sineOf_0 rfl (lv_at hl 0 rfl) ?_
  refine lv_ldc2 hx hb hown hw0 dX1_sineOf_1 ?_
  refine lv_land hx hb dX1_sineOf_4 ?_
  refine lv_topl (fun v1 ev1 => ?_)
  refine lv_lstore_n (lv' := [(2, .long v1), (0, .long p0)]) hx hb dX1_sineOf_5 rfl hl (by decide) rfl (fun ls hl => ?_)
  refine lv_lload_n hx hb dX1_sineOf_6 rfl (lv_at hl 0 rfl) ?_
  refine lv_ldc2 hx hb hown hw1 dX1_sineOf_7 ?_
  refine lv_lload_n hx hb dX1_sineOf_10 rfl (lv_at hl 0 rfl) ?_
  refine lv_lsub hx hb dX1_sineOf_11 ?_
  refine lv_lmul hx hb dX1_sineOf_12 ?_
  refine lv_topl (fun v2 ev2 => ?_)
  refine lv_lstore (lv' := [(4, .long v2), (2, .long v1), (0, .long p0)]) hx hb dX1_sineOf_13 hl (by decide) rfl (fun ls hl => ?_)
  refine lv_ldc2 hx hb hown hw2 dX1_sineOf_15 ?_
  refine lv_lload hx hb dX1_sineOf_18 (lv_at hl 0 rfl) ?_
  refine lv_lmul hx hb dX1_sineOf_20 ?_
  refine lv_ldc2 hx hb hown hw3 dX1_sineOf_21 ?_
  refine lv_lload hx hb dX1_sineOf_24 (lv_at hl 0 rfl) ?_
  refine lv_lsub hx hb dX1_sineOf_26 ?_
  refine mw_calll (wc := []) (wr := []) (w1 := fun u => []) (tyc := fun u => []) hP hD hS hA [] [] rfl rfl (by decide) (by decide) (va_runSN (As := [.long ((131068 : Int64) * v2), .long ((1342177280 : Int64) - v2)]) (rest := []) ⟨hx, hb, hml, hown, hts⟩ (c_X5_quotient l dC dI ((131068 : Int64) * v2) ((1342177280 : Int64) - v2) s.heap.size ) ⟨va_cnB 2 hts gX1_sineOf_X5_quotient_n17 rfl rfl rfl (hN.at 4 rfl) hw4 (by decide +kernel) ⟨(Nat.le_of_ble_eq_true rfl), (Nat.le_of_ble_eq_true rfl)⟩, hw5, trivial⟩ (mw_preS (hP.sub (ws' := []) [] rfl) (hD.sub (ws' := []) [] (by decide) rfl) (hK.sub (tys' := []) [] rfl) hN) rfl rfl hl.1 rfl (lv_room (Nat.le_of_ble_eq_true rfl)) dX1_sineOf_27 ⟨(Nat.le_of_ble_eq_true rfl), (Nat.le_of_ble_eq_true rfl)⟩) (fun r3 u H locs hw_4 hP hD hS hK1 => ?_)
  have hw_4 : R_X5_quotient ((131068 : Int64) * v2) ((1342177280 : Int64) - v2) r3 := hw_4
  have hP : va_P (dC, dI) vwCl [] H := hP
  have hD : va_D A [] := hD
  refine lv_lstore (lv' := [(6, .long r3), (4, .long v2), (2, .long v1), (0, .long p0)]) hx hb dX1_sineOf_30 hl (by decide) rfl (fun ls hl => ?_)
  refine lv_lload_n hx hb dX1_sineOf_32 rfl (lv_at hl 3 rfl) ?_
  refine lv_ldc2 hx hb hown hw6 dX1_sineOf_33 ?_
  refine lv_land hx hb dX1_sineOf_36 ?_
  refine lv_ldc2 hx hb hown hw1 dX1_sineOf_37 ?_
  refine W.lcmp hx hb dX1_sineOf_40 ?_
  refine lv_if_ge (tgt := 49) hx hb dX1_sineOf_41 (by decide) (fun c5 => ?_) (fun c5 => ?_)
  · have c5 : (32768 : Int64) ≤ (p0 &&& (65535 : Int64)) := (lg_cmp_ge _ _).mp c5
    refine lv_lload hx hb dX1_sineOf_49 (lv_at hl 0 rfl) ?_
    refine lv_lneg hx hb dX1_sineOf_51 ?_
    have hP9 := hP.sub (ws' := []) [] rfl
    have hD9 := hD.sub (ws' := []) [] (by decide) rfl
    have hK9 := hK.sub (tys' := []) [] rfl
    exact W.lret (v := (-r3)) hx hb hr (fun t ht hW => ⟨⟨(-r3), (), rfl, ⟨v1, ev1, ⟨v2, ev2, ⟨r3, hw_4, ⟨fun _ => rfl, fun hh => absurd c5 hh⟩⟩⟩⟩, (by rw [ht]; exact hP9), va_K.moved hW.alike hK9, hD9⟩, hS.F ht⟩) hS.2.2 dX1_sineOf_52
  · have c5 : ¬ ((32768 : Int64) ≤ (p0 &&& (65535 : Int64))) := mw_fge c5
    refine lv_lload hx hb dX1_sineOf_44 (lv_at hl 0 rfl) ?_
    refine lv_goto (tgt := 52) hx hb dX1_sineOf_46 (by decide) ?_
    have hP9 := hP.sub (ws' := []) [] rfl
    have hD9 := hD.sub (ws' := []) [] (by decide) rfl
    have hK9 := hK.sub (tys' := []) [] rfl
    exact W.lret (v := r3) hx hb hr (fun t ht hW => ⟨⟨r3, (), rfl, ⟨v1, ev1, ⟨v2, ev2, ⟨r3, hw_4, ⟨fun hh => absurd hh c5, fun _ => rfl⟩⟩⟩⟩, (by rw [ht]; exact hP9), va_K.moved hW.alike hK9, hD9⟩, hS.F ht⟩) hS.2.2 dX1_sineOf_52
def R_X1_cosineOf (p0 : Int64) (r : Int64) : Prop := ∃ (r1 : Int64), R_X1_sineOf (p0 + (16384 : Int64)) r1 ∧ (r = r1)
set_option maxHeartbeats 4000000 in
set_option maxRecDepth 100000 in
theorem c_X1_cosineOf (l : Launch) (dC : Nat → ClassId) (dI : Nat → Nat → Nat) (p0 : Int64) (sz : Nat)  : Met l yX1_cosineOf wsX1_cosineOf ({ frames := 2, cells := 0, slots := 0, locals := 50 }) (va_Pc [.long p0] (mw_pre (dC, dI) vwCl [] [] sz)) (va_Ql (fun (r : Int64) (u : Unit) => R_X1_cosineOf p0 r) (fun u t => mw_at (dC, dI) vwCl [] [] (va_A [] sz) t) (va_A [] sz)) 0 0 (va_A [] sz) := by
  refine Met.ofW (cc := cX1_cosineOf) (maxL := 2) (ret := (some .long)) (by decide) rfl ?_
  intro p e s m args below meth c s₁ B hml hv
  obtain ⟨rfl, hsz, hP, hK, hD0, hN⟩ := hv
  have hx := B.exec
  have hb := B.bytes
  have hr := B.returns
  have hts := atoms_spec (ws := wsX1_cosineOf) B.pre
  have hown : s.vm.findClass RX1 = some m.cls := findClass_of_methodNamed B.named
  have hlocks := B.notSynchronized
  subst hsz
  have hD := hD0.self (sz := s.heap.size)
  generalize hAe : va_A [] s.heap.size = A at hD ⊢
  have hA : ∀ q : Nat, s.heap.size ≤ q → A q := fun q h => by rw [← hAe]; exact Or.inr h
  have hS : va_S A s.heap s.heap [] := va_S.rf
  have hP : va_P (dC, dI) vwCl [] s.heap := hP
  have hl := lv_entry ([.long p0]) (n := 2) (Nat.le_of_ble_eq_true rfl)
  rw [lg_entry_eq]
  generalize (lg_sl ([.long p0]) ++ List.replicate (2 - (lg_sl ([.long p0])).length) Slot.unset).toArray = ls at hl ⊢
  have hl : lv_has ls 2 [(0, .long p0)] := hl
  have hw0 := hts (.constantLong RX1 23 (16384)) (by decide +kernel)
  refine lv_lload_n hx hb dX1_cosineOf_0 rfl (lv_at hl 0 rfl) ?_
  refine lv_ldc2 hx hb hown hw0 dX1_cosineOf_1 ?_
  refine lv_ladd hx hb dX1_cosineOf_4 ?_
  refine mw_calll (wc := []) (wr := []) (w1 := fun u => []) (tyc := fun u => []) hP hD hS hA [] [] rfl rfl (by decide) (by decide) (va_runS (As := [.long (p0 + (16384 : Int64))]) (rest := []) ⟨hx, hb, hml, hown, hts⟩ (c_X1_sineOf l dC dI (p0 + (16384 : Int64)) s.heap.size ) (va_cwS 1 hts gX1_cosineOf_X1_sineOf rfl rfl rfl (by decide +kernel) ⟨(Nat.le_of_ble_eq_true rfl), (Nat.le_of_ble_eq_true rfl)⟩) (mw_preS (hP.sub (ws' := []) [] rfl) (hD.sub (ws' := []) [] (by decide) rfl) (hK.sub (tys' := []) [] rfl) hN) rfl rfl hl.1 rfl (lv_room (Nat.le_of_ble_eq_true rfl)) dX1_cosineOf_5 ⟨(Nat.le_of_ble_eq_true rfl), (Nat.le_of_ble_eq_true rfl)⟩) (fun r1 u H locs hw_2 hP hD hS hK1 => ?_)
  have hw_2 : R_X1_sineOf (p0 + (16384 : Int64)) r1 := hw_2
  have hP : va_P (dC, dI) vwCl [] H := hP
  have hD : va_D A [] := hD
  have hP9 := hP.sub (ws' := []) [] rfl
  have hD9 := hD.sub (ws' := []) [] (by decide) rfl
  have hK9 := hK.sub (tys' := []) [] rfl
  exact W.lret (v := r1) hx hb hr (fun t ht hW => ⟨⟨r1, (), rfl, ⟨r1, hw_2, rfl⟩, (by rw [ht]; exact hP9), va_K.moved hW.alike hK9, hD9⟩, hS.F ht⟩) hS.2.2 dX1_cosineOf_8
def R_X1_betaOfWires (p0 : Int64) (p1 : Int64) (r : Int64) : Prop := r = (((p0 + ((2 : Int64) * p1)) * (37837 : Int64)) >>> (16 : Int64))
set_option maxHeartbeats 4000000 in
set_option maxRecDepth 100000 in
theorem c_X1_betaOfWires (l : Launch) (dC : Nat → ClassId) (dI : Nat → Nat → Nat) (p0 : Int64) (p1 : Int64) (sz : Nat)  : Met l yX1_betaOfWires wsX1_betaOfWires ({ frames := 0, cells := 0, slots := 0, locals := 0 }) (va_Pc [.long p0, .long p1] (mw_pre (dC, dI) vwCl [] [] sz)) (va_Ql (fun (r : Int64) (u : Unit) => R_X1_betaOfWires p0 p1 r) (fun u t => mw_at (dC, dI) vwCl [] [] (va_A [] sz) t) (va_A [] sz)) 0 0 (va_A [] sz) := by
  refine Met.ofW (cc := cX1_betaOfWires) (maxL := 4) (ret := (some .long)) (by decide) rfl ?_
  intro p e s m args below meth c s₁ B hml hv
  obtain ⟨rfl, hsz, hP, hK, hD0, hN⟩ := hv
  have hx := B.exec
  have hb := B.bytes
  have hr := B.returns
  have hts := atoms_spec (ws := wsX1_betaOfWires) B.pre
  have hown : s.vm.findClass RX1 = some m.cls := findClass_of_methodNamed B.named
  have hlocks := B.notSynchronized
  subst hsz
  have hD := hD0.self (sz := s.heap.size)
  generalize hAe : va_A [] s.heap.size = A at hD ⊢
  have hA : ∀ q : Nat, s.heap.size ≤ q → A q := fun q h => by rw [← hAe]; exact Or.inr h
  have hS : va_S A s.heap s.heap [] := va_S.rf
  have hP : va_P (dC, dI) vwCl [] s.heap := hP
  have hl := lv_entry ([.long p0, .long p1]) (n := 4) (Nat.le_of_ble_eq_true rfl)
  rw [lg_entry_eq]
  generalize (lg_sl ([.long p0, .long p1]) ++ List.replicate (4 - (lg_sl ([.long p0, .long p1])).length) Slot.unset).toArray = ls at hl ⊢
  have hl : lv_has ls 4 [(0, .long p0), (2, .long p1)] := hl
  have hw0 := hts (.constantLong RX1 31 (2)) (by decide +kernel)
  have hw1 := hts (.constantLong RX1 33 (37837)) (by decide +kernel)
  refine lv_lload_n hx hb dX1_betaOfWires_0 rfl (lv_at hl 0 rfl) ?_
  refine lv_ldc2 hx hb hown hw0 dX1_betaOfWires_1 ?_
  refine lv_lload_n hx hb dX1_betaOfWires_4 rfl (lv_at hl 1 rfl) ?_
  refine lv_lmul hx hb dX1_betaOfWires_5 ?_
  refine lv_ladd hx hb dX1_betaOfWires_6 ?_
  refine lv_ldc2 hx hb hown hw1 dX1_betaOfWires_7 ?_
  refine lv_lmul hx hb dX1_betaOfWires_10 ?_
  refine lv_bipush (v := 16) hx hb dX1_betaOfWires_11 (by decide) ?_
  refine lv_lshr hx hb dX1_betaOfWires_13 (mw_sh _ _ 16 (by decide)) ?_
  have hP9 := hP.sub (ws' := []) [] rfl
  have hD9 := hD.sub (ws' := []) [] (by decide) rfl
  have hK9 := hK.sub (tys' := []) [] rfl
  exact W.lret (v := (((p0 + ((2 : Int64) * p1)) * (37837 : Int64)) >>> (16 : Int64))) hx hb hr (fun t ht hW => ⟨⟨(((p0 + ((2 : Int64) * p1)) * (37837 : Int64)) >>> (16 : Int64)), (), rfl, rfl, (by rw [ht]; exact hP9), va_K.moved hW.alike hK9, hD9⟩, hS.F ht⟩) hS.2.2 dX1_betaOfWires_14
def R_X1_dOf (p0 : Int64) (p1 : Int64) (p2 : Int64) (r : Int64) : Prop := ∃ (r1 : Int64), R_X1_cosineOf p2 r1 ∧ (∃ (r3 : Int64), R_X1_sineOf p2 r3 ∧ (r = (((p0 * r1) + (p1 * r3)) >>> (15 : Int64))))
set_option maxHeartbeats 4000000 in
set_option maxRecDepth 100000 in
theorem c_X1_dOf (l : Launch) (dC : Nat → ClassId) (dI : Nat → Nat → Nat) (p0 : Int64) (p1 : Int64) (p2 : Int64) (sz : Nat)  : Met l yX1_dOf wsX1_dOf ({ frames := 3, cells := 0, slots := 0, locals := 71 }) (va_Pc [.long p0, .long p1, .long p2] (mw_pre (dC, dI) vwCl [] [] sz)) (va_Ql (fun (r : Int64) (u : Unit) => R_X1_dOf p0 p1 p2 r) (fun u t => mw_at (dC, dI) vwCl [] [] (va_A [] sz) t) (va_A [] sz)) 0 0 (va_A [] sz) := by
  refine Met.ofW (cc := cX1_dOf) (maxL := 6) (ret := (some .long)) (by decide) rfl ?_
  intro p e s m args below meth c s₁ B hml hv
  obtain ⟨rfl, hsz, hP, hK, hD0, hN⟩ := hv
  have hx := B.exec
  have hb := B.bytes
  have hr := B.returns
  have hts := atoms_spec (ws := wsX1_dOf) B.pre
  have hown : s.vm.findClass RX1 = some m.cls := findClass_of_methodNamed B.named
  have hlocks := B.notSynchronized
  subst hsz
  have hD := hD0.self (sz := s.heap.size)
  generalize hAe : va_A [] s.heap.size = A at hD ⊢
  have hA : ∀ q : Nat, s.heap.size ≤ q → A q := fun q h => by rw [← hAe]; exact Or.inr h
  have hS : va_S A s.heap s.heap [] := va_S.rf
  have hP : va_P (dC, dI) vwCl [] s.heap := hP
  have hl := lv_entry ([.long p0, .long p1, .long p2]) (n := 6) (Nat.le_of_ble_eq_true rfl)
  rw [lg_entry_eq]
  generalize (lg_sl ([.long p0, .long p1, .long p2]) ++ List.replicate (6 - (lg_sl ([.long p0, .long p1, .long p2])).length) Slot.unset).toArray = ls at hl ⊢
  have hl : lv_has ls 6 [(0, .long p0), (2, .long p1), (4, .long p2)] := hl
  refine lv_lload_n hx hb dX1_dOf_0 rfl (lv_at hl 0 rfl) ?_
  refine lv_lload hx hb dX1_dOf_1 (lv_at hl 2 rfl) ?_
  refine mw_calll (wc := []) (wr := []) (w1 := fun u => []) (tyc := fun u => []) hP hD hS hA [] [] rfl rfl (by decide) (by decide) (va_runS (As := [.long p2]) (rest := [.long p0]) ⟨hx, hb, hml, hown, hts⟩ (c_X1_cosineOf l dC dI p2 s.heap.size ) (va_cwS 1 hts gX1_dOf_X1_cosineOf rfl rfl rfl (by decide +kernel) ⟨(Nat.le_of_ble_eq_true rfl), (Nat.le_of_ble_eq_true rfl)⟩) (mw_preS (hP.sub (ws' := []) [] rfl) (hD.sub (ws' := []) [] (by decide) rfl) (hK.sub (tys' := []) [] rfl) hN) rfl rfl hl.1 rfl (lv_room (Nat.le_of_ble_eq_true rfl)) dX1_dOf_3 ⟨(Nat.le_of_ble_eq_true rfl), (Nat.le_of_ble_eq_true rfl)⟩) (fun r1 u H locs hw_2 hP hD hS hK1 => ?_)
  have hw_2 : R_X1_cosineOf p2 r1 := hw_2
  have hP : va_P (dC, dI) vwCl [] H := hP
  have hD : va_D A [] := hD
  refine lv_lmul hx hb dX1_dOf_6 ?_
  refine lv_lload_n hx hb dX1_dOf_7 rfl (lv_at hl 1 rfl) ?_
  refine lv_lload hx hb dX1_dOf_8 (lv_at hl 2 rfl) ?_
  refine mw_calll (wc := []) (wr := []) (w1 := fun u => []) (tyc := fun u => []) hP hD hS hA [] [] rfl rfl (by decide) (by decide) (va_runS (As := [.long p2]) (rest := [.long p1, .long (p0 * r1)]) ⟨hx, hb, hml, hown, hts⟩ (c_X1_sineOf l dC dI p2 H.size ) (va_cwS 1 hts gX1_dOf_X1_sineOf rfl rfl rfl (by decide +kernel) ⟨(Nat.le_of_ble_eq_true rfl), (Nat.le_of_ble_eq_true rfl)⟩) (mw_preS (hP.sub (ws' := []) [] rfl) (hD.sub (ws' := []) [] (by decide) rfl) (hK.sub (tys' := []) [] rfl) hN) rfl rfl hl.1 rfl (lv_room (Nat.le_of_ble_eq_true rfl)) dX1_dOf_10 ⟨(Nat.le_of_ble_eq_true rfl), (Nat.le_of_ble_eq_true rfl)⟩) (fun r3 u H locs hw_4 hP hD hS hK1 => ?_)
  have hw_4 : R_X1_sineOf p2 r3 := hw_4
  have hP : va_P (dC, dI) vwCl [] H := hP
  have hD : va_D A [] := hD
  refine lv_lmul hx hb dX1_dOf_13 ?_
  refine lv_ladd hx hb dX1_dOf_14 ?_
  refine lv_bipush (v := 15) hx hb dX1_dOf_15 (by decide) ?_
  refine lv_lshr hx hb dX1_dOf_17 (mw_sh _ _ 15 (by decide)) ?_
  have hP9 := hP.sub (ws' := []) [] rfl
  have hD9 := hD.sub (ws' := []) [] (by decide) rfl
  have hK9 := hK.sub (tys' := []) [] rfl
  exact W.lret (v := (((p0 * r1) + (p1 * r3)) >>> (15 : Int64))) hx hb hr (fun t ht hW => ⟨⟨(((p0 * r1) + (p1 * r3)) >>> (15 : Int64)), (), rfl, ⟨r1, hw_2, ⟨r3, hw_4, rfl⟩⟩, (by rw [ht]; exact hP9), va_K.moved hW.alike hK9, hD9⟩, hS.F ht⟩) hS.2.2 dX1_dOf_18
def R_X1_qOf (p0 : Int64) (p1 : Int64) (p2 : Int64) (r : Int64) : Prop := ∃ (r1 : Int64), R_X1_cosineOf p2 r1 ∧ (∃ (r3 : Int64), R_X1_sineOf p2 r3 ∧ (r = (((p1 * r1) - (p0 * r3)) >>> (15 : Int64))))
set_option maxHeartbeats 4000000 in
set_option maxRecDepth 100000 in
theorem c_X1_qOf (l : Launch) (dC : Nat → ClassId) (dI : Nat → Nat → Nat) (p0 : Int64) (p1 : Int64) (p2 : Int64) (sz : Nat)  : Met l yX1_qOf wsX1_qOf ({ frames := 3, cells := 0, slots := 0, locals := 71 }) (va_Pc [.long p0, .long p1, .long p2] (mw_pre (dC, dI) vwCl [] [] sz)) (va_Ql (fun (r : Int64) (u : Unit) => R_X1_qOf p0 p1 p2 r) (fun u t => mw_at (dC, dI) vwCl [] [] (va_A [] sz) t) (va_A [] sz)) 0 0 (va_A [] sz) := by
  refine Met.ofW (cc := cX1_qOf) (maxL := 6) (ret := (some .long)) (by decide) rfl ?_
  intro p e s m args below meth c s₁ B hml hv
  obtain ⟨rfl, hsz, hP, hK, hD0, hN⟩ := hv
  have hx := B.exec
  have hb := B.bytes
  have hr := B.returns
  have hts := atoms_spec (ws := wsX1_qOf) B.pre
  have hown : s.vm.findClass RX1 = some m.cls := findClass_of_methodNamed B.named
  have hlocks := B.notSynchronized
  subst hsz
  have hD := hD0.self (sz := s.heap.size)
  generalize hAe : va_A [] s.heap.size = A at hD ⊢
  have hA : ∀ q : Nat, s.heap.size ≤ q → A q := fun q h => by rw [← hAe]; exact Or.inr h
  have hS : va_S A s.heap s.heap [] := va_S.rf
  have hP : va_P (dC, dI) vwCl [] s.heap := hP
  have hl := lv_entry ([.long p0, .long p1, .long p2]) (n := 6) (Nat.le_of_ble_eq_true rfl)
  rw [lg_entry_eq]
  generalize (lg_sl ([.long p0, .long p1, .long p2]) ++ List.replicate (6 - (lg_sl ([.long p0, .long p1, .long p2])).length) Slot.unset).toArray = ls at hl ⊢
  have hl : lv_has ls 6 [(0, .long p0), (2, .long p1), (4, .long p2)] := hl
  refine lv_lload_n hx hb dX1_qOf_0 rfl (lv_at hl 1 rfl) ?_
  refine lv_lload hx hb dX1_qOf_1 (lv_at hl 2 rfl) ?_
  refine mw_calll (wc := []) (wr := []) (w1 := fun u => []) (tyc := fun u => []) hP hD hS hA [] [] rfl rfl (by decide) (by decide) (va_runS (As := [.long p2]) (rest := [.long p1]) ⟨hx, hb, hml, hown, hts⟩ (c_X1_cosineOf l dC dI p2 s.heap.size ) (va_cwS 1 hts gX1_qOf_X1_cosineOf rfl rfl rfl (by decide +kernel) ⟨(Nat.le_of_ble_eq_true rfl), (Nat.le_of_ble_eq_true rfl)⟩) (mw_preS (hP.sub (ws' := []) [] rfl) (hD.sub (ws' := []) [] (by decide) rfl) (hK.sub (tys' := []) [] rfl) hN) rfl rfl hl.1 rfl (lv_room (Nat.le_of_ble_eq_true rfl)) dX1_qOf_3 ⟨(Nat.le_of_ble_eq_true rfl), (Nat.le_of_ble_eq_true rfl)⟩) (fun r1 u H locs hw_2 hP hD hS hK1 => ?_)
  have hw_2 : R_X1_cosineOf p2 r1 := hw_2
  have hP : va_P (dC, dI) vwCl [] H := hP
  have hD : va_D A [] := hD
  refine lv_lmul hx hb dX1_qOf_6 ?_
  refine lv_lload_n hx hb dX1_qOf_7 rfl (lv_at hl 0 rfl) ?_
  refine lv_lload hx hb dX1_qOf_8 (lv_at hl 2 rfl) ?_
  refine mw_calll (wc := []) (wr := []) (w1 := fun u => []) (tyc := fun u => []) hP hD hS hA [] [] rfl rfl (by decide) (by decide) (va_runS (As := [.long p2]) (rest := [.long p0, .long (p1 * r1)]) ⟨hx, hb, hml, hown, hts⟩ (c_X1_sineOf l dC dI p2 H.size ) (va_cwS 1 hts gX1_qOf_X1_sineOf rfl rfl rfl (by decide +kernel) ⟨(Nat.le_of_ble_eq_true rfl), (Nat.le_of_ble_eq_true rfl)⟩) (mw_preS (hP.sub (ws' := []) [] rfl) (hD.sub (ws' := []) [] (by decide) rfl) (hK.sub (tys' := []) [] rfl) hN) rfl rfl hl.1 rfl (lv_room (Nat.le_of_ble_eq_true rfl)) dX1_qOf_10 ⟨(Nat.le_of_ble_eq_true rfl), (Nat.le_of_ble_eq_true rfl)⟩) (fun r3 u H locs hw_4 hP hD hS hK1 => ?_)
  have hw_4 : R_X1_sineOf p2 r3 := hw_4
  have hP : va_P (dC, dI) vwCl [] H := hP
  have hD : va_D A [] := hD
  refine lv_lmul hx hb dX1_qOf_13 ?_
  refine lv_lsub hx hb dX1_qOf_14 ?_
  refine lv_bipush (v := 15) hx hb dX1_qOf_15 (by decide) ?_
  refine lv_lshr hx hb dX1_qOf_17 (mw_sh _ _ 15 (by decide)) ?_
  have hP9 := hP.sub (ws' := []) [] rfl
  have hD9 := hD.sub (ws' := []) [] (by decide) rfl
  have hK9 := hK.sub (tys' := []) [] rfl
  exact W.lret (v := (((p1 * r1) - (p0 * r3)) >>> (15 : Int64))) hx hb hr (fun t ht hW => ⟨⟨(((p1 * r1) - (p0 * r3)) >>> (15 : Int64)), (), rfl, ⟨r1, hw_2, ⟨r3, hw_4, rfl⟩⟩, (by rw [ht]; exact hP9), va_K.moved hW.alike hK9, hD9⟩, hS.F ht⟩) hS.2.2 dX1_qOf_18
def R_X1_alphaOf (p0 : Int64) (p1 : Int64) (p2 : Int64) (r : Int64) : Prop := ∃ (r1 : Int64), R_X1_cosineOf p2 r1 ∧ (∃ (r3 : Int64), R_X1_sineOf p2 r3 ∧ (r = (((p0 * r1) - (p1 * r3)) >>> (15 : Int64))))
set_option maxHeartbeats 4000000 in
set_option maxRecDepth 100000 in
theorem c_X1_alphaOf (l : Launch) (dC : Nat → ClassId) (dI : Nat → Nat → Nat) (p0 : Int64) (p1 : Int64) (p2 : Int64) (sz : Nat)  : Met l yX1_alphaOf wsX1_alphaOf ({ frames := 3, cells := 0, slots := 0, locals := 71 }) (va_Pc [.long p0, .long p1, .long p2] (mw_pre (dC, dI) vwCl [] [] sz)) (va_Ql (fun (r : Int64) (u : Unit) => R_X1_alphaOf p0 p1 p2 r) (fun u t => mw_at (dC, dI) vwCl [] [] (va_A [] sz) t) (va_A [] sz)) 0 0 (va_A [] sz) := by
  refine Met.ofW (cc := cX1_alphaOf) (maxL := 6) (ret := (some .long)) (by decide) rfl ?_
  intro p e s m args below meth c s₁ B hml hv
  obtain ⟨rfl, hsz, hP, hK, hD0, hN⟩ := hv
  have hx := B.exec
  have hb := B.bytes
  have hr := B.returns
  have hts := atoms_spec (ws := wsX1_alphaOf) B.pre
  have hown : s.vm.findClass RX1 = some m.cls := findClass_of_methodNamed B.named
  have hlocks := B.notSynchronized
  subst hsz
  have hD := hD0.self (sz := s.heap.size)
  generalize hAe : va_A [] s.heap.size = A at hD ⊢
  have hA : ∀ q : Nat, s.heap.size ≤ q → A q := fun q h => by rw [← hAe]; exact Or.inr h
  have hS : va_S A s.heap s.heap [] := va_S.rf
  have hP : va_P (dC, dI) vwCl [] s.heap := hP
  have hl := lv_entry ([.long p0, .long p1, .long p2]) (n := 6) (Nat.le_of_ble_eq_true rfl)
  rw [lg_entry_eq]
  generalize (lg_sl ([.long p0, .long p1, .long p2]) ++ List.replicate (6 - (lg_sl ([.long p0, .long p1, .long p2])).length) Slot.unset).toArray = ls at hl ⊢
  have hl : lv_has ls 6 [(0, .long p0), (2, .long p1), (4, .long p2)] := hl
  refine lv_lload_n hx hb dX1_alphaOf_0 rfl (lv_at hl 0 rfl) ?_
  refine lv_lload hx hb dX1_alphaOf_1 (lv_at hl 2 rfl) ?_
  refine mw_calll (wc := []) (wr := []) (w1 := fun u => []) (tyc := fun u => []) hP hD hS hA [] [] rfl rfl (by decide) (by decide) (va_runS (As := [.long p2]) (rest := [.long p0]) ⟨hx, hb, hml, hown, hts⟩ (c_X1_cosineOf l dC dI p2 s.heap.size ) (va_cwS 1 hts gX1_alphaOf_X1_cosineOf rfl rfl rfl (by decide +kernel) ⟨(Nat.le_of_ble_eq_true rfl), (Nat.le_of_ble_eq_true rfl)⟩) (mw_preS (hP.sub (ws' := []) [] rfl) (hD.sub (ws' := []) [] (by decide) rfl) (hK.sub (tys' := []) [] rfl) hN) rfl rfl hl.1 rfl (lv_room (Nat.le_of_ble_eq_true rfl)) dX1_alphaOf_3 ⟨(Nat.le_of_ble_eq_true rfl), (Nat.le_of_ble_eq_true rfl)⟩) (fun r1 u H locs hw_2 hP hD hS hK1 => ?_)
  have hw_2 : R_X1_cosineOf p2 r1 := hw_2
  have hP : va_P (dC, dI) vwCl [] H := hP
  have hD : va_D A [] := hD
  refine lv_lmul hx hb dX1_alphaOf_6 ?_
  refine lv_lload_n hx hb dX1_alphaOf_7 rfl (lv_at hl 1 rfl) ?_
  refine lv_lload hx hb dX1_alphaOf_8 (lv_at hl 2 rfl) ?_
  refine mw_calll (wc := []) (wr := []) (w1 := fun u => []) (tyc := fun u => []) hP hD hS hA [] [] rfl rfl (by decide) (by decide) (va_runS (As := [.long p2]) (rest := [.long p1, .long (p0 * r1)]) ⟨hx, hb, hml, hown, hts⟩ (c_X1_sineOf l dC dI p2 H.size ) (va_cwS 1 hts gX1_alphaOf_X1_sineOf rfl rfl rfl (by decide +kernel) ⟨(Nat.le_of_ble_eq_true rfl), (Nat.le_of_ble_eq_true rfl)⟩) (mw_preS (hP.sub (ws' := []) [] rfl) (hD.sub (ws' := []) [] (by decide) rfl) (hK.sub (tys' := []) [] rfl) hN) rfl rfl hl.1 rfl (lv_room (Nat.le_of_ble_eq_true rfl)) dX1_alphaOf_10 ⟨(Nat.le_of_ble_eq_true rfl), (Nat.le_of_ble_eq_true rfl)⟩) (fun r3 u H locs hw_4 hP hD hS hK1 => ?_)
  have hw_4 : R_X1_sineOf p2 r3 := hw_4
  have hP : va_P (dC, dI) vwCl [] H := hP
  have hD : va_D A [] := hD
  refine lv_lmul hx hb dX1_alphaOf_13 ?_
  refine lv_lsub hx hb dX1_alphaOf_14 ?_
  refine lv_bipush (v := 15) hx hb dX1_alphaOf_15 (by decide) ?_
  refine lv_lshr hx hb dX1_alphaOf_17 (mw_sh _ _ 15 (by decide)) ?_
  have hP9 := hP.sub (ws' := []) [] rfl
  have hD9 := hD.sub (ws' := []) [] (by decide) rfl
  have hK9 := hK.sub (tys' := []) [] rfl
  exact W.lret (v := (((p0 * r1) - (p1 * r3)) >>> (15 : Int64))) hx hb hr (fun t ht hW => ⟨⟨(((p0 * r1) - (p1 * r3)) >>> (15 : Int64)), (), rfl, ⟨r1, hw_2, ⟨r3, hw_4, rfl⟩⟩, (by rw [ht]; exact hP9), va_K.moved hW.alike hK9, hD9⟩, hS.F ht⟩) hS.2.2 dX1_alphaOf_18
def R_X1_betaOf (p0 : Int64) (p1 : Int64) (p2 : Int64) (r : Int64) : Prop := ∃ (r1 : Int64), R_X1_sineOf p2 r1 ∧ (∃ (r3 : Int64), R_X1_cosineOf p2 r3 ∧ (r = (((p0 * r1) + (p1 * r3)) >>> (15 : Int64))))
set_option maxHeartbeats 4000000 in
set_option maxRecDepth 100000 in
theorem c_X1_betaOf (l : Launch) (dC : Nat → ClassId) (dI : Nat → Nat → Nat) (p0 : Int64) (p1 : Int64) (p2 : Int64) (sz : Nat)  : Met l yX1_betaOf wsX1_betaOf ({ frames := 3, cells := 0, slots := 0, locals := 71 }) (va_Pc [.long p0, .long p1, .long p2] (mw_pre (dC, dI) vwCl [] [] sz)) (va_Ql (fun (r : Int64) (u : Unit) => R_X1_betaOf p0 p1 p2 r) (fun u t => mw_at (dC, dI) vwCl [] [] (va_A [] sz) t) (va_A [] sz)) 0 0 (va_A [] sz) := by
  refine Met.ofW (cc := cX1_betaOf) (maxL := 6) (ret := (some .long)) (by decide) rfl ?_
  intro p e s m args below meth c s₁ B hml hv
  obtain ⟨rfl, hsz, hP, hK, hD0, hN⟩ := hv
  have hx := B.exec
  have hb := B.bytes
  have hr := B.returns
  have hts := atoms_spec (ws := wsX1_betaOf) B.pre
  have hown : s.vm.findClass RX1 = some m.cls := findClass_of_methodNamed B.named
  have hlocks := B.notSynchronized
  subst hsz
  have hD := hD0.self (sz := s.heap.size)
  generalize hAe : va_A [] s.heap.size = A at hD ⊢
  have hA : ∀ q : Nat, s.heap.size ≤ q → A q := fun q h => by rw [← hAe]; exact Or.inr h
  have hS : va_S A s.heap s.heap [] := va_S.rf
  have hP : va_P (dC, dI) vwCl [] s.heap := hP
  have hl := lv_entry ([.long p0, .long p1, .long p2]) (n := 6) (Nat.le_of_ble_eq_true rfl)
  rw [lg_entry_eq]
  generalize (lg_sl ([.long p0, .long p1, .long p2]) ++ List.replicate (6 - (lg_sl ([.long p0, .long p1, .long p2])).length) Slot.unset).toArray = ls at hl ⊢
  have hl : lv_has ls 6 [(0, .long p0), (2, .long p1), (4, .long p2)] := hl
  refine lv_lload_n hx hb dX1_betaOf_0 rfl (lv_at hl 0 rfl) ?_
  refine lv_lload hx hb dX1_betaOf_1 (lv_at hl 2 rfl) ?_
  refine mw_calll (wc := []) (wr := []) (w1 := fun u => []) (tyc := fun u => []) hP hD hS hA [] [] rfl rfl (by decide) (by decide) (va_runS (As := [.long p2]) (rest := [.long p0]) ⟨hx, hb, hml, hown, hts⟩ (c_X1_sineOf l dC dI p2 s.heap.size ) (va_cwS 1 hts gX1_betaOf_X1_sineOf rfl rfl rfl (by decide +kernel) ⟨(Nat.le_of_ble_eq_true rfl), (Nat.le_of_ble_eq_true rfl)⟩) (mw_preS (hP.sub (ws' := []) [] rfl) (hD.sub (ws' := []) [] (by decide) rfl) (hK.sub (tys' := []) [] rfl) hN) rfl rfl hl.1 rfl (lv_room (Nat.le_of_ble_eq_true rfl)) dX1_betaOf_3 ⟨(Nat.le_of_ble_eq_true rfl), (Nat.le_of_ble_eq_true rfl)⟩) (fun r1 u H locs hw_2 hP hD hS hK1 => ?_)
  have hw_2 : R_X1_sineOf p2 r1 := hw_2
  have hP : va_P (dC, dI) vwCl [] H := hP
  have hD : va_D A [] := hD
  refine lv_lmul hx hb dX1_betaOf_6 ?_
  refine lv_lload_n hx hb dX1_betaOf_7 rfl (lv_at hl 1 rfl) ?_
  refine lv_lload hx hb dX1_betaOf_8 (lv_at hl 2 rfl) ?_
  refine mw_calll (wc := []) (wr := []) (w1 := fun u => []) (tyc := fun u => []) hP hD hS hA [] [] rfl rfl (by decide) (by decide) (va_runS (As := [.long p2]) (rest := [.long p1, .long (p0 * r1)]) ⟨hx, hb, hml, hown, hts⟩ (c_X1_cosineOf l dC dI p2 H.size ) (va_cwS 1 hts gX1_betaOf_X1_cosineOf rfl rfl rfl (by decide +kernel) ⟨(Nat.le_of_ble_eq_true rfl), (Nat.le_of_ble_eq_true rfl)⟩) (mw_preS (hP.sub (ws' := []) [] rfl) (hD.sub (ws' := []) [] (by decide) rfl) (hK.sub (tys' := []) [] rfl) hN) rfl rfl hl.1 rfl (lv_room (Nat.le_of_ble_eq_true rfl)) dX1_betaOf_10 ⟨(Nat.le_of_ble_eq_true rfl), (Nat.le_of_ble_eq_true rfl)⟩) (fun r3 u H locs hw_4 hP hD hS hK1 => ?_)
  have hw_4 : R_X1_cosineOf p2 r3 := hw_4
  have hP : va_P (dC, dI) vwCl [] H := hP
  have hD : va_D A [] := hD
  refine lv_lmul hx hb dX1_betaOf_13 ?_
  refine lv_ladd hx hb dX1_betaOf_14 ?_
  refine lv_bipush (v := 15) hx hb dX1_betaOf_15 (by decide) ?_
  refine lv_lshr hx hb dX1_betaOf_17 (mw_sh _ _ 15 (by decide)) ?_
  have hP9 := hP.sub (ws' := []) [] rfl
  have hD9 := hD.sub (ws' := []) [] (by decide) rfl
  have hK9 := hK.sub (tys' := []) [] rfl
  exact W.lret (v := (((p0 * r1) + (p1 * r3)) >>> (15 : Int64))) hx hb hr (fun t ht hW => ⟨⟨(((p0 * r1) + (p1 * r3)) >>> (15 : Int64)), (), rfl, ⟨r1, hw_2, ⟨r3, hw_4, rfl⟩⟩, (by rw [ht]; exact hP9), va_K.moved hW.alike hK9, hD9⟩, hS.F ht⟩) hS.2.2 dX1_betaOf_18
def R_X2_freeOut (p0 : Int64) (p1 : Int64) (p2 : Int64) (p3 : Int64) (r : Int64) : Prop := r = ((((p0 * p3) + p2) + (p1 * p3)) >>> (8 : Int64))
set_option maxHeartbeats 4000000 in
set_option maxRecDepth 100000 in
theorem c_X2_freeOut (l : Launch) (dC : Nat → ClassId) (dI : Nat → Nat → Nat) (p0 : Int64) (p1 : Int64) (p2 : Int64) (p3 : Int64) (sz : Nat)  : Met l yX2_freeOut wsX2_freeOut ({ frames := 0, cells := 0, slots := 0, locals := 0 }) (va_Pc [.long p0, .long p1, .long p2, .long p3] (mw_pre (dC, dI) vwCl [] [] sz)) (va_Ql (fun (r : Int64) (u : Unit) => R_X2_freeOut p0 p1 p2 p3 r) (fun u t => mw_at (dC, dI) vwCl [] [] (va_A [] sz) t) (va_A [] sz)) 0 0 (va_A [] sz) := by
  refine Met.ofW (cc := cX2_freeOut) (maxL := 8) (ret := (some .long)) (by decide) rfl ?_
  intro p e s m args below meth c s₁ B hml hv
  obtain ⟨rfl, hsz, hP, hK, hD0, hN⟩ := hv
  have hx := B.exec
  have hb := B.bytes
  have hr := B.returns
  have hts := atoms_spec (ws := wsX2_freeOut) B.pre
  have hown : s.vm.findClass RX2 = some m.cls := findClass_of_methodNamed B.named
  have hlocks := B.notSynchronized
  subst hsz
  have hD := hD0.self (sz := s.heap.size)
  generalize hAe : va_A [] s.heap.size = A at hD ⊢
  have hA : ∀ q : Nat, s.heap.size ≤ q → A q := fun q h => by rw [← hAe]; exact Or.inr h
  have hS : va_S A s.heap s.heap [] := va_S.rf
  have hP : va_P (dC, dI) vwCl [] s.heap := hP
  have hl := lv_entry ([.long p0, .long p1, .long p2, .long p3]) (n := 8) (Nat.le_of_ble_eq_true rfl)
  rw [lg_entry_eq]
  generalize (lg_sl ([.long p0, .long p1, .long p2, .long p3]) ++ List.replicate (8 - (lg_sl ([.long p0, .long p1, .long p2, .long p3])).length) Slot.unset).toArray = ls at hl ⊢
  have hl : lv_has ls 8 [(0, .long p0), (2, .long p1), (4, .long p2), (6, .long p3)] := hl
  refine lv_lload_n hx hb dX2_freeOut_0 rfl (lv_at hl 0 rfl) ?_
  refine lv_lload hx hb dX2_freeOut_1 (lv_at hl 3 rfl) ?_
  refine lv_lmul hx hb dX2_freeOut_3 ?_
  refine lv_lload hx hb dX2_freeOut_4 (lv_at hl 2 rfl) ?_
  refine lv_ladd hx hb dX2_freeOut_6 ?_
  refine lv_lload_n hx hb dX2_freeOut_7 rfl (lv_at hl 1 rfl) ?_
  refine lv_lload hx hb dX2_freeOut_8 (lv_at hl 3 rfl) ?_
  refine lv_lmul hx hb dX2_freeOut_10 ?_
  refine lv_ladd hx hb dX2_freeOut_11 ?_
  refine lv_bipush (v := 8) hx hb dX2_freeOut_12 (by decide) ?_
  refine lv_lshr hx hb dX2_freeOut_14 (mw_sh _ _ 8 (by decide)) ?_
  have hP9 := hP.sub (ws' := []) [] rfl
  have hD9 := hD.sub (ws' := []) [] (by decide) rfl
  have hK9 := hK.sub (tys' := []) [] rfl
  exact W.lret (v := ((((p0 * p3) + p2) + (p1 * p3)) >>> (8 : Int64))) hx hb hr (fun t ht hW => ⟨⟨((((p0 * p3) + p2) + (p1 * p3)) >>> (8 : Int64)), (), rfl, rfl, (by rw [ht]; exact hP9), va_K.moved hW.alike hK9, hD9⟩, hS.F ht⟩) hS.2.2 dX2_freeOut_15
def RG_X2_sumBehind_4 (p1 : Int64) (p3 : Int64) (p4 : Int64) (x7 : Int32) : Prop := (p4 ≤ p1 → (((-p1) ≤ p4 → (x7 = (0 : Int32))) ∧ (¬ ((-p1) ≤ p4) → (((0 : Int64) < p3 → (x7 = (0 : Int32))) ∧ (¬ ((0 : Int64) < p3) → (x7 = (1 : Int32))))))) ∧ (¬ (p4 ≤ p1) → (((0 : Int64) ≤ p3 → (x7 = (1 : Int32))) ∧ (¬ ((0 : Int64) ≤ p3) → (((-p1) ≤ p4 → (x7 = (0 : Int32))) ∧ (¬ ((-p1) ≤ p4) → (((0 : Int64) < p3 → (x7 = (0 : Int32))) ∧ (¬ ((0 : Int64) < p3) → (x7 = (1 : Int32)))))))))
theorem b_RG_X2_sumBehind_4_x7 {p1 : Int64} {p3 : Int64} {p4 : Int64} {x7 : Int32}  (h : RG_X2_sumBehind_4 p1 p3 p4 x7) : x7 = 0 ∨ x7 = 1 := by
  unfold RG_X2_sumBehind_4 at h
  by_cases q : p4 ≤ p1
  · have h := h.1 q
    by_cases q : (-p1) ≤ p4
    · have h := h.1 q
      exact Or.inl h
    · have h := h.2 q
      by_cases q : (0 : Int64) < p3
      · have h := h.1 q
        exact Or.inl h
      · have h := h.2 q
        exact Or.inr h
  · have h := h.2 q
    by_cases q : (0 : Int64) ≤ p3
    · have h := h.1 q
      exact Or.inr h
    · have h := h.2 q
      by_cases q : (-p1) ≤ p4
      · have h := h.1 q
        exact Or.inl h
      · have h := h.2 q
        by_cases q : (0 : Int64) < p3
        · have h := h.1 q
          exact Or.inl h
        · have h := h.2 q
          exact Or.inr h
def R_X2_sumBehind (p0 : Int64) (p1 : Int64) (p2 : Int64) (p3 : Int64) (p4 : Int64) (r : Int64) : Prop := ∃ (x7 : Int32), RG_X2_sumBehind_4 p1 p3 p4 x7 ∧ ((x7 = (0 : Int32) → (r = (p2 + (p0 * p3)))) ∧ (¬ (x7 = (0 : Int32)) → (r = p2)))
set_option maxHeartbeats 4000000 in
set_option maxRecDepth 100000 in
theorem c_X2_sumBehind (l : Launch) (dC : Nat → ClassId) (dI : Nat → Nat → Nat) (p0 : Int64) (p1 : Int64) (p2 : Int64) (p3 : Int64) (p4 : Int64) (sz : Nat)  : Met l yX2_sumBehind wsX2_sumBehind ({ frames := 0, cells := 0, slots := 0, locals := 0 }) (va_Pc [.long p0, .long p1, .long p2, .long p3, .long p4] (mw_pre (dC, dI) vwCl [] [] sz)) (va_Ql (fun (r : Int64) (u : Unit) => R_X2_sumBehind p0 p1 p2 p3 p4 r) (fun u t => mw_at (dC, dI) vwCl [] [] (va_A [] sz) t) (va_A [] sz)) 0 0 (va_A [] sz) := by
  refine Met.ofW (cc := cX2_sumBehind) (maxL := 11) (ret := (some .long)) (by decide) rfl ?_
  intro p e s m args below meth c s₁ B hml hv
  obtain ⟨rfl, hsz, hP, hK, hD0, hN⟩ := hv
  have hx := B.exec
  have hb := B.bytes
  have hr := B.returns
  have hts := atoms_spec (ws := wsX2_sumBehind) B.pre
  have hown : s.vm.findClass RX2 = some m.cls := findClass_of_methodNamed B.named
  have hlocks := B.notSynchronized
  subst hsz
  have hD := hD0.self (sz := s.heap.size)
  generalize hAe : va_A [] s.heap.size = A at hD ⊢
  have hA : ∀ q : Nat, s.heap.size ≤ q → A q := fun q h => by rw [← hAe]; exact Or.inr h
  have hS : va_S A s.heap s.heap [] := va_S.rf
  have hP : va_P (dC, dI) vwCl [] s.heap := hP
  have hl := lv_entry ([.long p0, .long p1, .long p2, .long p3, .long p4]) (n := 11) (Nat.le_of_ble_eq_true rfl)
  rw [lg_entry_eq]
  generalize (lg_sl ([.long p0, .long p1, .long p2, .long p3, .long p4]) ++ List.replicate (11 - (lg_sl ([.long p0, .long p1, .long p2, .long p3, .long p4])).length) Slot.unset).toArray = ls at hl ⊢
  have hl : lv_has ls 11 [(0, .long p0), (2, .long p1), (4, .long p2), (6, .long p3), (8, .long p4)] := hl
  refine lv_lload hx hb dX2_sumBehind_0 (lv_at hl 4 rfl) ?_
  refine lv_lload_n hx hb dX2_sumBehind_2 rfl (lv_at hl 1 rfl) ?_
  refine W.lcmp hx hb dX2_sumBehind_3 ?_
  refine mw_jn (X := Int32) (D := (dC, dI)) (cl := vwCl) (A := A) (H0 := s.heap) (nL := 11) (fun x => []) (fun x => [(0, .long p0), (4, .long p2), (6, .long p3)]) (fun x => [.int x]) 34 (fun x => RG_X2_sumBehind_4 p1 p3 p4 x) (fun x hx_ H locs ls hP hD hS hl => ?_) (fun J => ?_)
  · obtain ⟨x7, rfl⟩ : ∃ z, z = x := ⟨_, rfl⟩
    have hj8 : RG_X2_sumBehind_4 p1 p3 p4 x7 := hx_
    have hP : va_P (dC, dI) vwCl [] H := hP
    have hD : va_D A [] := hD
    have hl : lv_has ls 11 [(0, .long p0), (4, .long p2), (6, .long p3)] := hl
    refine lv_istore (lv' := [(10, .int x7), (0, .long p0), (4, .long p2), (6, .long p3)]) hx hb dX2_sumBehind_34 hl (by decide) rfl (fun ls hl => ?_)
    refine lv_iload hx hb dX2_sumBehind_36 (lv_at hl 0 rfl) ?_
    refine lv_if_eq (tgt := 46) hx hb dX2_sumBehind_38 (by decide) (fun c9 => ?_) (fun c9 => ?_)
    · have c9 : x7 = (0 : Int32) := c9
      refine lv_lload hx hb dX2_sumBehind_46 (lv_at hl 2 rfl) ?_
      refine lv_lload_n hx hb dX2_sumBehind_48 rfl (lv_at hl 1 rfl) ?_
      refine lv_lload hx hb dX2_sumBehind_49 (lv_at hl 3 rfl) ?_
      refine lv_lmul hx hb dX2_sumBehind_51 ?_
      refine lv_ladd hx hb dX2_sumBehind_52 ?_
      have hP9 := hP.sub (ws' := []) [] rfl
      have hD9 := hD.sub (ws' := []) [] (by decide) rfl
      have hK9 := hK.sub (tys' := []) [] rfl
      exact W.lret (v := (p2 + (p0 * p3))) hx hb hr (fun t ht hW => ⟨⟨(p2 + (p0 * p3)), (), rfl, ⟨x7, hj8, ⟨fun _ => rfl, fun hh => absurd c9 hh⟩⟩, (by rw [ht]; exact hP9), va_K.moved hW.alike hK9, hD9⟩, hS.F ht⟩) hS.2.2 dX2_sumBehind_53
    · have c9 : ¬ (x7 = (0 : Int32)) := c9
      refine lv_lload hx hb dX2_sumBehind_41 (lv_at hl 2 rfl) ?_
      refine lv_goto (tgt := 53) hx hb dX2_sumBehind_43 (by decide) ?_
      have hP9 := hP.sub (ws' := []) [] rfl
      have hD9 := hD.sub (ws' := []) [] (by decide) rfl
      have hK9 := hK.sub (tys' := []) [] rfl
      exact W.lret (v := p2) hx hb hr (fun t ht hW => ⟨⟨p2, (), rfl, ⟨x7, hj8, ⟨fun hh => absurd hh c9, fun _ => rfl⟩⟩, (by rw [ht]; exact hP9), va_K.moved hW.alike hK9, hD9⟩, hS.F ht⟩) hS.2.2 dX2_sumBehind_53
  · refine lv_if_le (tgt := 14) hx hb dX2_sumBehind_4 (by decide) (fun c1 => ?_) (fun c1 => ?_)
    · have c1 : p4 ≤ p1 := (lg_cmp_le _ _).mp c1
      refine lv_lload hx hb dX2_sumBehind_14 (lv_at hl 4 rfl) ?_
      refine lv_lload_n hx hb dX2_sumBehind_16 rfl (lv_at hl 1 rfl) ?_
      refine lv_lneg hx hb dX2_sumBehind_17 ?_
      refine W.lcmp hx hb dX2_sumBehind_18 ?_
      refine lv_if_ge (tgt := 33) hx hb dX2_sumBehind_19 (by decide) (fun c2 => ?_) (fun c2 => ?_)
      · have c2 : (-p1) ≤ p4 := (lg_cmp_ge _ _).mp c2
        refine lv_iconst (v := 0) hx hb dX2_sumBehind_33 (by decide) ?_
        exact J (0 : Int32) ⟨fun _ => ⟨fun _ => rfl, fun hh => absurd c2 hh⟩, fun hh => absurd c1 hh⟩ _ _ _ hP hD hS (lv_sub hl [0, 2, 3] rfl)
      · have c2 : ¬ ((-p1) ≤ p4) := mw_fge c2
        refine lv_lload hx hb dX2_sumBehind_22 (lv_at hl 3 rfl) ?_
        refine lv_lconst (v := 0) hx hb dX2_sumBehind_24 (by decide) ?_
        refine W.lcmp hx hb dX2_sumBehind_25 ?_
        refine lv_if_gt (tgt := 33) hx hb dX2_sumBehind_26 (by decide) (fun c3 => ?_) (fun c3 => ?_)
        · have c3 : (0 : Int64) < p3 := (lg_cmp_gt _ _).mp c3
          refine lv_iconst (v := 0) hx hb dX2_sumBehind_33 (by decide) ?_
          exact J (0 : Int32) ⟨fun _ => ⟨fun hh => absurd hh c2, fun _ => ⟨fun _ => rfl, fun hh => absurd c3 hh⟩⟩, fun hh => absurd c1 hh⟩ _ _ _ hP hD hS (lv_sub hl [0, 2, 3] rfl)
        · have c3 : ¬ ((0 : Int64) < p3) := mw_fgt c3
          refine lv_iconst (v := 1) hx hb dX2_sumBehind_29 (by decide) ?_
          refine lv_goto (tgt := 34) hx hb dX2_sumBehind_30 (by decide) ?_
          exact J (1 : Int32) ⟨fun _ => ⟨fun hh => absurd hh c2, fun _ => ⟨fun hh => absurd hh c3, fun _ => rfl⟩⟩, fun hh => absurd c1 hh⟩ _ _ _ hP hD hS (lv_sub hl [0, 2, 3] rfl)
    · have c1 : ¬ (p4 ≤ p1) := mw_fle c1
      refine lv_lload hx hb dX2_sumBehind_7 (lv_at hl 3 rfl) ?_
      refine lv_lconst (v := 0) hx hb dX2_sumBehind_9 (by decide) ?_
      refine W.lcmp hx hb dX2_sumBehind_10 ?_
      refine lv_if_ge (tgt := 29) hx hb dX2_sumBehind_11 (by decide) (fun c4 => ?_) (fun c4 => ?_)
      · have c4 : (0 : Int64) ≤ p3 := (lg_cmp_ge _ _).mp c4
        refine lv_iconst (v := 1) hx hb dX2_sumBehind_29 (by decide) ?_
        refine lv_goto (tgt := 34) hx hb dX2_sumBehind_30 (by decide) ?_
        exact J (1 : Int32) ⟨fun hh => absurd hh c1, fun _ => ⟨fun _ => rfl, fun hh => absurd c4 hh⟩⟩ _ _ _ hP hD hS (lv_sub hl [0, 2, 3] rfl)
      · have c4 : ¬ ((0 : Int64) ≤ p3) := mw_fge c4
        refine lv_lload hx hb dX2_sumBehind_14 (lv_at hl 4 rfl) ?_
        refine lv_lload_n hx hb dX2_sumBehind_16 rfl (lv_at hl 1 rfl) ?_
        refine lv_lneg hx hb dX2_sumBehind_17 ?_
        refine W.lcmp hx hb dX2_sumBehind_18 ?_
        refine lv_if_ge (tgt := 33) hx hb dX2_sumBehind_19 (by decide) (fun c5 => ?_) (fun c5 => ?_)
        · have c5 : (-p1) ≤ p4 := (lg_cmp_ge _ _).mp c5
          refine lv_iconst (v := 0) hx hb dX2_sumBehind_33 (by decide) ?_
          exact J (0 : Int32) ⟨fun hh => absurd hh c1, fun _ => ⟨fun hh => absurd hh c4, fun _ => ⟨fun _ => rfl, fun hh => absurd c5 hh⟩⟩⟩ _ _ _ hP hD hS (lv_sub hl [0, 2, 3] rfl)
        · have c5 : ¬ ((-p1) ≤ p4) := mw_fge c5
          refine lv_lload hx hb dX2_sumBehind_22 (lv_at hl 3 rfl) ?_
          refine lv_lconst (v := 0) hx hb dX2_sumBehind_24 (by decide) ?_
          refine W.lcmp hx hb dX2_sumBehind_25 ?_
          refine lv_if_gt (tgt := 33) hx hb dX2_sumBehind_26 (by decide) (fun c6 => ?_) (fun c6 => ?_)
          · have c6 : (0 : Int64) < p3 := (lg_cmp_gt _ _).mp c6
            refine lv_iconst (v := 0) hx hb dX2_sumBehind_33 (by decide) ?_
            exact J (0 : Int32) ⟨fun hh => absurd hh c1, fun _ => ⟨fun hh => absurd hh c4, fun _ => ⟨fun hh => absurd hh c5, fun _ => ⟨fun _ => rfl, fun hh => absurd c6 hh⟩⟩⟩⟩ _ _ _ hP hD hS (lv_sub hl [0, 2, 3] rfl)
          · have c6 : ¬ ((0 : Int64) < p3) := mw_fgt c6
            refine lv_iconst (v := 1) hx hb dX2_sumBehind_29 (by decide) ?_
            refine lv_goto (tgt := 34) hx hb dX2_sumBehind_30 (by decide) ?_
            exact J (1 : Int32) ⟨fun hh => absurd hh c1, fun _ => ⟨fun hh => absurd hh c4, fun _ => ⟨fun hh => absurd hh c5, fun _ => ⟨fun hh => absurd hh c6, fun _ => rfl⟩⟩⟩⟩ _ _ _ hP hD hS (lv_sub hl [0, 2, 3] rfl)
def R_X2_step (f_kp : Int64) (f_ki : Int64) (f_sum : Int64) (p0 : Int64) (p1 : Int64) (r : Int64) (u_0_sum : Int64) : Prop := ∃ (r1 : Int64), R_X2_freeOut f_kp f_ki f_sum p1 r1 ∧ (∃ (r3 : Int64), R_X2_sumBehind f_ki p0 f_sum p1 r1 r3 ∧ (∃ (r5 : Int64), R_X5_clamp r1 p0 r5 ∧ (r = r5 ∧ u_0_sum = r3)))
set_option maxHeartbeats 4000000 in
set_option maxRecDepth 100000 in
theorem c_X2_step (l : Launch) (dC : Nat → ClassId) (dI : Nat → Nat → Nat) (h0 : Nat) (f_kp : Int64) (f_ki : Int64) (f_sum : Int64) (p0 : Int64) (p1 : Int64) (sz : Nat)  : Met l yX2_step wsX2_step ({ frames := 2, cells := 0, slots := 0, locals := 40 }) (va_Pc [.ref h0, .long p0, .long p1] (mw_pre (dC, dI) vwCl [(h0, .inr (1, [.long f_kp, .long f_ki, .long f_sum]))] [] sz)) (va_Ql (fun (r : Int64) (u : Int64) => R_X2_step f_kp f_ki f_sum p0 p1 r u) (fun u t => mw_at (dC, dI) vwCl [(h0, .inr (1, [.long f_kp, .long f_ki, .long u]))] [] (va_A [(h0, .inr (1, [.long f_kp, .long f_ki, .long f_sum]))] sz) t) (va_A [(h0, .inr (1, [.long f_kp, .long f_ki, .long f_sum]))] sz)) 0 0 (va_A [(h0, .inr (1, [.long f_kp, .long f_ki, .long f_sum]))] sz) := by
  refine Met.ofW (cc := cX2_step) (maxL := 7) (ret := (some .long)) (by decide) rfl ?_
  intro p e s m args below meth c s₁ B hml hv
  obtain ⟨rfl, hsz, hP, hK, hD0, hN⟩ := hv
  have hx := B.exec
  have hb := B.bytes
  have hr := B.returns
  have hts := atoms_spec (ws := wsX2_step) B.pre
  have hown : s.vm.findClass RX2 = some m.cls := findClass_of_methodNamed B.named
  have hlocks := B.notSynchronized
  subst hsz
  have hD := hD0.self (sz := s.heap.size)
  generalize hAe : va_A [(h0, .inr (1, [.long f_kp, .long f_ki, .long f_sum]))] s.heap.size = A at hD ⊢
  have hA : ∀ q : Nat, s.heap.size ≤ q → A q := fun q h => by rw [← hAe]; exact Or.inr h
  have hS : va_S A s.heap s.heap [] := va_S.rf
  have hP : va_P (dC, dI) vwCl [(h0, .inr (1, [.long f_kp, .long f_ki, .long f_sum]))] s.heap := hP
  have hl := lv_entry ([.ref h0, .long p0, .long p1]) (n := 7) (Nat.le_of_ble_eq_true rfl)
  rw [lg_entry_eq]
  generalize (lg_sl ([.ref h0, .long p0, .long p1]) ++ List.replicate (7 - (lg_sl ([.ref h0, .long p0, .long p1])).length) Slot.unset).toArray = ls at hl ⊢
  have hl : lv_has ls 7 [(0, .ref h0), (1, .long p0), (3, .long p1)] := hl
  have hw0 := hts (.fieldLink RX2 9 "TurnedFields$Loop" "kp" "J") (by decide +kernel)
  have hw1 := hts (.fieldLink RX2 17 "TurnedFields$Loop" "ki" "J") (by decide +kernel)
  have hw2 := hts (.fieldLink RX2 20 "TurnedFields$Loop" "sum" "J") (by decide +kernel)
  have hw3 := hts (.initialized RX5) (by decide +kernel)
  have hw4 := hts (.static yX5_clamp) (by decide +kernel)
  have hinX2 : ∀ w ∈ wsX20, w ∈ wsX2_step := by decide +kernel
  refine lv_aload_n hx hb dX2_step_0 rfl (lv_at hl 0 rfl) ?_
  refine va_get (D := (dC, dI)) (ci := 1) (v := .long f_kp) (C := RX2) (T := TX2) (N := 3) hx hb hts hinX2 hown hK hP 0 rfl rfl 0 (by decide) hw0 (fun _ h9 => h9) rfl dX2_step_1 ?_
  refine lv_aload_n hx hb dX2_step_4 rfl (lv_at hl 0 rfl) ?_
  refine va_get (D := (dC, dI)) (ci := 1) (v := .long f_ki) (C := RX2) (T := TX2) (N := 3) hx hb hts hinX2 hown hK hP 0 rfl rfl 1 (by decide) hw1 (fun _ h9 => h9) rfl dX2_step_5 ?_
  refine lv_aload_n hx hb dX2_step_8 rfl (lv_at hl 0 rfl) ?_
  refine va_get (D := (dC, dI)) (ci := 1) (v := .long f_sum) (C := RX2) (T := TX2) (N := 3) hx hb hts hinX2 hown hK hP 0 rfl rfl 2 (by decide) hw2 (fun _ h9 => h9) rfl dX2_step_9 ?_
  refine lv_lload_n hx hb dX2_step_12 rfl (lv_at hl 2 rfl) ?_
  refine mw_calll (wc := []) (wr := [(h0, .inr (1, [.long f_kp, .long f_ki, .long f_sum]))]) (w1 := fun u => []) (tyc := fun u => []) hP hD hS hA [] [0] rfl rfl (by decide) (by decide) (va_runS (As := [.long f_kp, .long f_ki, .long f_sum, .long p1]) (rest := []) ⟨hx, hb, hml, hown, hts⟩ (c_X2_freeOut l dC dI f_kp f_ki f_sum p1 s.heap.size ) (va_cwS 4 hts gX2_step_X2_freeOut rfl rfl rfl (by decide +kernel) ⟨(Nat.le_of_ble_eq_true rfl), (Nat.le_of_ble_eq_true rfl)⟩) (mw_preS (hP.sub (ws' := []) [] rfl) (hD.sub (ws' := []) [] (by decide) rfl) (hK.sub (tys' := []) [] rfl) hN) rfl rfl hl.1 rfl (lv_room (Nat.le_of_ble_eq_true rfl)) dX2_step_13 ⟨(Nat.le_of_ble_eq_true rfl), (Nat.le_of_ble_eq_true rfl)⟩) (fun r1 u H locs hw_2 hP hD hS hK1 => ?_)
  have hw_2 : R_X2_freeOut f_kp f_ki f_sum p1 r1 := hw_2
  have hP : va_P (dC, dI) vwCl [(h0, .inr (1, [.long f_kp, .long f_ki, .long f_sum]))] H := hP
  have hD : va_D A [(h0, .inr (1, [.long f_kp, .long f_ki, .long f_sum]))] := hD
  refine lv_lstore (lv' := [(5, .long r1), (0, .ref h0), (1, .long p0), (3, .long p1)]) hx hb dX2_step_16 hl (by decide) rfl (fun ls hl => ?_)
  refine lv_aload_n hx hb dX2_step_18 rfl (lv_at hl 1 rfl) ?_
  refine lv_aload_n hx hb dX2_step_19 rfl (lv_at hl 1 rfl) ?_
  refine va_get (D := (dC, dI)) (ci := 1) (v := .long f_ki) (C := RX2) (T := TX2) (N := 3) hx hb hts hinX2 hown hK hP 0 rfl rfl 1 (by decide) hw1 (fun _ h9 => h9) rfl dX2_step_20 ?_
  refine lv_lload_n hx hb dX2_step_23 rfl (lv_at hl 2 rfl) ?_
  refine lv_aload_n hx hb dX2_step_24 rfl (lv_at hl 1 rfl) ?_
  refine va_get (D := (dC, dI)) (ci := 1) (v := .long f_sum) (C := RX2) (T := TX2) (N := 3) hx hb hts hinX2 hown hK hP 0 rfl rfl 2 (by decide) hw2 (fun _ h9 => h9) rfl dX2_step_25 ?_
  refine lv_lload_n hx hb dX2_step_28 rfl (lv_at hl 3 rfl) ?_
  refine lv_lload hx hb dX2_step_29 (lv_at hl 0 rfl) ?_
  refine mw_calll (wc := []) (wr := [(h0, .inr (1, [.long f_kp, .long f_ki, .long f_sum]))]) (w1 := fun u => []) (tyc := fun u => []) hP hD hS hA [] [0] rfl rfl (by decide) (by decide) (va_runS (As := [.long f_ki, .long p0, .long f_sum, .long p1, .long r1]) (rest := [.ref h0]) ⟨hx, hb, hml, hown, hts⟩ (c_X2_sumBehind l dC dI f_ki p0 f_sum p1 r1 H.size ) (va_cwS 5 hts gX2_step_X2_sumBehind rfl rfl rfl (by decide +kernel) ⟨(Nat.le_of_ble_eq_true rfl), (Nat.le_of_ble_eq_true rfl)⟩) (mw_preS (hP.sub (ws' := []) [] rfl) (hD.sub (ws' := []) [] (by decide) rfl) (hK.sub (tys' := []) [] rfl) hN) rfl rfl hl.1 rfl (lv_room (Nat.le_of_ble_eq_true rfl)) dX2_step_31 ⟨(Nat.le_of_ble_eq_true rfl), (Nat.le_of_ble_eq_true rfl)⟩) (fun r3 u H locs hw_4 hP hD hS hK1 => ?_)
  have hw_4 : R_X2_sumBehind f_ki p0 f_sum p1 r1 r3 := hw_4
  have hP : va_P (dC, dI) vwCl [(h0, .inr (1, [.long f_kp, .long f_ki, .long f_sum]))] H := hP
  have hD : va_D A [(h0, .inr (1, [.long f_kp, .long f_ki, .long f_sum]))] := hD
  refine va_put (D := (dC, dI)) (ci := 1) (v := .long r3) (ty := .long) (C := RX2) (T := TX2) (N := 3) hx hb hts hinX2 tyX2 tyX2_ok nmX2 hown hK hP hD hS 0 rfl rfl 2 (by decide) hw2 (fun _ h9 => h9) rfl (by decide +kernel) rfl rfl (Nat.le_of_ble_eq_true rfl) dX2_step_34 (fun H locs hP hD hS => ?_)
  have hP : va_P (dC, dI) vwCl [(h0, .inr (1, [.long f_kp, .long f_ki, .long r3]))] H := hP
  have hD : va_D A [(h0, .inr (1, [.long f_kp, .long f_ki, .long r3]))] := hD
  refine lv_lload hx hb dX2_step_37 (lv_at hl 0 rfl) ?_
  refine lv_lload_n hx hb dX2_step_39 rfl (lv_at hl 2 rfl) ?_
  refine mw_calll (wc := []) (wr := [(h0, .inr (1, [.long f_kp, .long f_ki, .long r3]))]) (w1 := fun u => []) (tyc := fun u => []) hP hD hS hA [] [0] rfl rfl (by decide) (by decide) (va_runSN (As := [.long r1, .long p0]) (rest := []) ⟨hx, hb, hml, hown, hts⟩ (c_X5_clamp l dC dI r1 p0 H.size ) ⟨va_cnB 2 hts gX2_step_X5_clamp_n31 rfl rfl rfl (hN.at 6 rfl) hw3 (by decide +kernel) ⟨(Nat.le_of_ble_eq_true rfl), (Nat.le_of_ble_eq_true rfl)⟩, hw4, trivial⟩ (mw_preS (hP.sub (ws' := []) [] rfl) (hD.sub (ws' := []) [] (by decide) rfl) (hK.sub (tys' := []) [] rfl) hN) rfl rfl hl.1 rfl (lv_room (Nat.le_of_ble_eq_true rfl)) dX2_step_40 ⟨(Nat.le_of_ble_eq_true rfl), (Nat.le_of_ble_eq_true rfl)⟩) (fun r5 u H locs hw_6 hP hD hS hK1 => ?_)
  have hw_6 : R_X5_clamp r1 p0 r5 := hw_6
  have hP : va_P (dC, dI) vwCl [(h0, .inr (1, [.long f_kp, .long f_ki, .long r3]))] H := hP
  have hD : va_D A [(h0, .inr (1, [.long f_kp, .long f_ki, .long r3]))] := hD
  have hP9 := hP.sub (ws' := [(h0, .inr (1, [.long f_kp, .long f_ki, .long r3]))]) [0] rfl
  have hD9 := hD.sub (ws' := [(h0, .inr (1, [.long f_kp, .long f_ki, .long r3]))]) [0] (by decide) rfl
  have hK9 := hK.sub (tys' := []) [] rfl
  exact W.lret (v := r5) hx hb hr (fun t ht hW => ⟨⟨r5, r3, rfl, ⟨r1, hw_2, ⟨r3, hw_4, ⟨r5, hw_6, ⟨rfl, rfl⟩⟩⟩⟩, (by rw [ht]; exact hP9), va_K.moved hW.alike hK9, hD9⟩, hS.F ht⟩) hS.2.2 dX2_step_43
end
section
theorem ar_b32 (z : Int) (h1 : -2147483648 ≤ z) (h2 : z < 2147483648) : z.bmod (2 ^ 32) = z := by
  apply Int.bmod_eq_of_le <;> omega
theorem ar_b64 (z : Int) (h1 : -9223372036854775808 ≤ z) (h2 : z < 9223372036854775808) : z.bmod (2 ^ 64) = z := by
  apply Int.bmod_eq_of_le <;> omega
theorem ar_in {x : Int32} {n : Nat} (h0 : 0 ≤ x.toInt) (h1 : x.toInt < n) : vp_in x n := vp_in_iff.mpr ⟨h0, h1⟩
theorem ar_tneg {a b : Int} (h : a ≤ 0) : a.tmod b = -((-a) % b) := by
  have h1 : a.tmod b = (-(-a)).tmod b := by rw [Int.neg_neg]
  rw [h1, Int.neg_tmod, Int.tmod_eq_emod_of_nonneg (by omega)]
theorem ar_tlo (a : Int) {b : Int} (h : 0 < b) : -b < a.tmod b := by
  rcases Int.le_total a 0 with q | q
  · rw [ar_tneg q]
    have := Int.emod_lt_of_pos (-a) h
    omega
  · rw [Int.tmod_eq_emod_of_nonneg q]
    have := Int.emod_nonneg a (b := b) (by omega)
    omega
theorem ar_rem (x y : Int32) (n : Int) (hn : y.toInt = n) (h0 : 0 < n) (hy : y ≠ -1) : (x - x / y * y).toInt = x.toInt.tmod n := by
  have hd : (x / y).toInt = x.toInt.tdiv n := by rw [Int32.toInt_div_of_ne_right x y hy, hn]
  have h1 := Int.tmod_add_tdiv_mul x.toInt n
  have h2 := Int.tmod_lt_of_pos x.toInt h0
  have h3 := ar_tlo x.toInt h0
  have h4 := x.le_toInt
  have h5 := x.toInt_lt
  have h6 : n < 2 ^ 31 := by rw [← hn]; exact y.toInt_lt
  have h9 : x.toInt < 0 → x.toInt.tmod n ≤ 0 := fun q => by
    rw [ar_tneg (by omega)]
    have := Int.emod_nonneg (-x.toInt) (b := n) (by omega)
    omega
  have h10 : 0 ≤ x.toInt → 0 ≤ x.toInt.tmod n := fun q => by
    rw [Int.tmod_eq_emod_of_nonneg q]
    exact Int.emod_nonneg _ (by omega)
  have h7 : (x / y * y).toInt = x.toInt.tdiv n * n := by
    rw [Int32.toInt_mul, hd, hn]
    generalize x.toInt.tdiv n * n = z at *
    apply Int.bmod_eq_of_le <;> omega
  rw [Int32.toInt_sub, h7]
  have h8 : x.toInt - x.toInt.tdiv n * n = x.toInt.tmod n := by omega
  rw [h8]
  apply Int.bmod_eq_of_le <;> omega
theorem ar_msb (x : Int32) : 0 ≤ x ↔ x.toBitVec.msb = false := by
  rw [Int32.le_iff_toInt_le, BitVec.msb_eq_toInt]
  show (0 : Int) ≤ x.toInt ↔ decide (x.toInt < 0) = false
  rw [decide_eq_false_iff_not]; omega
theorem ar_xor20 (x : Int32) : 0 ≤ x ^^^ 20 ↔ 0 ≤ x := by
  rw [ar_msb, ar_msb, Int32.toBitVec_xor, BitVec.msb_xor]
  have : (20 : Int32).toBitVec.msb = false := by decide
  rw [this]; simp
theorem ar_ge0 {x : Int32} : 0 ≤ x ↔ 0 ≤ x.toInt := Int32.le_iff_toInt_le
theorem ar_fm {x r : Int32} (h : R_J9_floorMod_7cf53 x 20 r) : r.toInt = x.toInt % 20 := by
  obtain ⟨v, ev, h1, h2⟩ := h
  have hv : v.toInt = x.toInt.tmod 20 := by rw [ev]; exact ar_rem x 20 20 rfl (by decide) (by decide)
  have h4 := x.le_toInt
  have h5 := x.toInt_lt
  by_cases hc : 0 ≤ x ^^^ 20
  · have hp := ar_ge0.mp ((ar_xor20 x).mp hc)
    rw [h1 hc, hv, Int.tmod_eq_emod_of_nonneg hp]
  · have hp : ¬ 0 ≤ x.toInt := fun q => hc ((ar_xor20 x).mpr (ar_ge0.mpr q))
    obtain ⟨h6, h7⟩ := h2 hc
    have ht := ar_tneg (a := x.toInt) (b := 20) (by omega)
    by_cases hz : v = 0
    · have h8 : v.toInt = 0 := by rw [hz]; rfl
      rw [h6 hz, h8]; omega
    · have h8 : v.toInt ≠ 0 := fun q => hz (Int32.toInt_inj.mp (q.trans rfl))
      rw [h7 hz, Int32.toInt_add, hv]
      have : (20 : Int32).toInt = 20 := rfl
      rw [this, ar_b32 _ (by omega) (by omega)]
      omega
theorem ar_fm_lt {x r : Int32} (h : R_J9_floorMod_7cf53 x 20 r) : 0 ≤ r.toInt ∧ r.toInt < 20 := by
  rw [ar_fm h]; omega
theorem ar_3 {r v : Int32} (h : 0 ≤ r.toInt ∧ r.toInt < 20) (hv : v = r * 3) : v.toInt = r.toInt * 3 := by
  rw [hv, Int32.toInt_mul]
  have : (3 : Int32).toInt = 3 := rfl
  rw [this]; exact ar_b32 _ (by omega) (by omega)
theorem ar_addk {v : Int32} {a : Int} (k : Int32) (n : Int) (hk : k.toInt = n) (hv : v.toInt = a) (h0 : -1000000000 ≤ a + n) (h1 : a + n < 1000000000) : (v + k).toInt = a + n := by
  rw [Int32.toInt_add, hk, hv]; exact ar_b32 _ (by omega) (by omega)
/-- the three places of a row of the class's ring -/
theorem ar_ix {x r v : Int32} (h : R_J9_floorMod_7cf53 x 20 r) (hv : v = r * 3) : vp_in v 60 ∧ vp_in (v + 1) 60 ∧ vp_in (v + 2) 60 := by
  have h0 := ar_fm_lt h
  have h1 := ar_3 h0 hv
  refine ⟨ar_in (by omega) (by omega), ar_in ?_ ?_, ar_in ?_ ?_⟩
  · rw [ar_addk 1 1 rfl h1 (by omega) (by omega)]; omega
  · rw [ar_addk 1 1 rfl h1 (by omega) (by omega)]; omega
  · rw [ar_addk 2 2 rfl h1 (by omega) (by omega)]; omega
  · rw [ar_addk 2 2 rfl h1 (by omega) (by omega)]; omega
theorem ar_within {a lo hi r : Int32} (h : R_X5_within a lo hi r) (hr : ¬ r = 0) : lo.toInt ≤ a.toInt ∧ a.toInt ≤ hi.toInt := by
  by_cases h1 : a < lo
  · exact absurd (h.1 h1) hr
  · have h2 := h.2 h1
    by_cases h3 : hi < a
    · exact absurd (h2.1 h3) hr
    · rw [Int32.lt_iff_toInt_lt] at h1 h3; omega
theorem ar_ix2 {x r w : Int32} (h : R_J9_floorMod_7cf53 x 20 r) (hw : 0 ≤ w.toInt ∧ w.toInt ≤ 2) : vp_in (r * 3 + w) 60 := by
  have h0 := ar_fm_lt h
  have h1 := ar_3 h0 rfl
  have h2 : (r * 3 + w).toInt = r.toInt * 3 + w.toInt := by rw [Int32.toInt_add, h1]; exact ar_b32 _ (by omega) (by omega)
  exact ar_in (by omega) (by omega)
end
section
def R_X3_step (f_d : Int64) (f_q : Int64) (f_pace : Int64) (f_angle : Int64) (p0 : Int64) (p1 : Int64) (p2 : Int64) (u_0_d : Int64) (u_0_q : Int64) (u_0_pace : Int64) (u_0_angle : Int64) : Prop := ∃ v1 : Int64, v1 = (f_d + (((p0 - ((f_d * (64 : Int64)) >>> (8 : Int64))) + ((f_pace * f_q) >>> (17 : Int64))) / (4 : Int64))) ∧ (∃ v2 : Int64, v2 = (f_q + ((((p1 - ((f_q * (64 : Int64)) >>> (8 : Int64))) - ((f_pace * f_d) >>> (17 : Int64))) - (f_pace >>> (3 : Int64))) / (4 : Int64))) ∧ (∃ v3 : Int64, v3 = (f_pace + ((f_q - p2) / (16 : Int64))) ∧ (∃ (r4 : Int64), R_X5_clamp v1 (32000 : Int64) r4 ∧ (∃ (r6 : Int64), R_X5_clamp v2 (32000 : Int64) r6 ∧ (∃ (r8 : Int64), R_X5_clamp v3 (60000 : Int64) r8 ∧ (∃ v10 : Int64, v10 = ((f_angle + (r8 >>> (2 : Int64))) &&& (65535 : Int64)) ∧ (u_0_d = r4 ∧ u_0_q = r6 ∧ u_0_pace = r8 ∧ u_0_angle = v10)))))))
set_option maxHeartbeats 4000000 in
set_option maxRecDepth 100000 in
theorem c_X3_step (l : Launch) (dC : Nat → ClassId) (dI : Nat → Nat → Nat) (h0 : Nat) (f_d : Int64) (f_q : Int64) (f_pace : Int64) (f_angle : Int64) (p0 : Int64) (p1 : Int64) (p2 : Int64) (sz : Nat)  : Met l yX3_step wsX3_step ({ frames := 2, cells := 0, slots := 0, locals := 40 }) (va_Pc [.ref h0, .long p0, .long p1, .long p2] (mw_pre (dC, dI) vwCl [(h0, .inr (2, [.long f_d, .long f_q, .long f_pace, .long f_angle]))] [] sz)) (va_Qv (fun (u : Int64 × Int64 × Int64 × Int64) => R_X3_step f_d f_q f_pace f_angle p0 p1 p2 u.1 u.2.1 u.2.2.1 u.2.2.2) (fun u t => mw_at (dC, dI) vwCl [(h0, .inr (2, [.long u.1, .long u.2.1, .long u.2.2.1, .long u.2.2.2]))] [] (va_A [(h0, .inr (2, [.long f_d, .long f_q, .long f_pace, .long f_angle]))] sz) t) (va_A [(h0, .inr (2, [.long f_d, .long f_q, .long f_pace, .long f_angle]))] sz)) 0 0 (va_A [(h0, .inr (2, [.long f_d, .long f_q, .long f_pace, .long f_angle]))] sz) := by
  refine Met.ofW (cc := cX3_step) (maxL := 13) (ret := none) (by decide) rfl ?_
  intro p e s m args below meth c s₁ B hml hv
  obtain ⟨rfl, hsz, hP, hK, hD0, hN⟩ := hv
  have hx := B.exec
  have hb := B.bytes
  have hr := B.returns
  have hts := atoms_spec (ws := wsX3_step) B.pre
  have hown : s.vm.findClass RX3 = some m.cls := findClass_of_methodNamed B.named
  have hlocks := B.notSynchronized
  subst hsz
  have hD := hD0.self (sz := s.heap.size)
  generalize hAe : va_A [(h0, .inr (2, [.long f_d, .long f_q, .long f_pace, .long f_angle]))] s.heap.size = A at hD ⊢
  have hA : ∀ q : Nat, s.heap.size ≤ q → A q := fun q h => by rw [← hAe]; exact Or.inr h
  have hS : va_S A s.heap s.heap [] := va_S.rf
  have hP : va_P (dC, dI) vwCl [(h0, .inr (2, [.long f_d, .long f_q, .long f_pace, .long f_angle]))] s.heap := hP
  have hl := lv_entry ([.ref h0, .long p0, .long p1, .long p2]) (n := 13) (Nat.le_of_ble_eq_true rfl)
  rw [lg_entry_eq]
  generalize (lg_sl ([.ref h0, .long p0, .long p1, .long p2]) ++ List.replicate (13 - (lg_sl ([.ref h0, .long p0, .long p1, .long p2])).length) Slot.unset).toArray = ls at hl ⊢
  have hl : lv_has ls 13 [(0, .ref h0), (1, .long p0), (3, .long p1), (5, .long p2)] := hl
  have hw0 := hts (.fieldLink RX3 9 "TurnedFields$Motor" "d" "J") (by decide +kernel)
  have hw1 := hts (.constantLong RX3 24 (64)) (by decide +kernel)
  have hw2 := hts (.fieldLink RX3 18 "TurnedFields$Motor" "pace" "J") (by decide +kernel)
  have hw3 := hts (.fieldLink RX3 15 "TurnedFields$Motor" "q" "J") (by decide +kernel)
  have hw4 := hts (.constantLong RX3 26 (4)) (by decide +kernel)
  have hw5 := hts (.constantLong RX3 28 (16)) (by decide +kernel)
  have hw6 := hts (.constantLong RX3 30 (32000)) (by decide +kernel)
  have hw7 := hts (.initialized RX5) (by decide +kernel)
  have hw8 := hts (.static yX5_clamp) (by decide +kernel)
  have hw9 := hts (.constantLong RX3 36 (60000)) (by decide +kernel)
  have hw10 := hts (.fieldLink RX3 21 "TurnedFields$Motor" "angle" "J") (by decide +kernel)
  have hw11 := hts (.constantLong RX3 38 (65535)) (by decide +kernel)
  have hinX3 : ∀ w ∈ wsX30, w ∈ wsX3_step := by decide +kernel
  refine lv_aload_n hx hb dX3_step_0 rfl (lv_at hl 0 rfl) ?_
  refine va_get (D := (dC, dI)) (ci := 2) (v := .long f_d) (C := RX3) (T := TX3) (N := 4) hx hb hts hinX3 hown hK hP 0 rfl rfl 0 (by decide) hw0 (fun _ h9 => h9) rfl dX3_step_1 ?_
  refine lv_lload_n hx hb dX3_step_4 rfl (lv_at hl 1 rfl) ?_
  refine lv_aload_n hx hb dX3_step_5 rfl (lv_at hl 0 rfl) ?_
  refine va_get (D := (dC, dI)) (ci := 2) (v := .long f_d) (C := RX3) (T := TX3) (N := 4) hx hb hts hinX3 hown hK hP 0 rfl rfl 0 (by decide) hw0 (fun _ h9 => h9) rfl dX3_step_6 ?_
  refine lv_ldc2 hx hb hown hw1 dX3_step_9 ?_
  refine lv_lmul hx hb dX3_step_12 ?_
  refine lv_bipush (v := 8) hx hb dX3_step_13 (by decide) ?_
  refine lv_lshr hx hb dX3_step_15 (mw_sh _ _ 8 (by decide)) ?_
  refine lv_lsub hx hb dX3_step_16 ?_
  refine lv_aload_n hx hb dX3_step_17 rfl (lv_at hl 0 rfl) ?_
  refine va_get (D := (dC, dI)) (ci := 2) (v := .long f_pace) (C := RX3) (T := TX3) (N := 4) hx hb hts hinX3 hown hK hP 0 rfl rfl 2 (by decide) hw2 (fun _ h9 => h9) rfl dX3_step_18 ?_
  refine lv_aload_n hx hb dX3_step_21 rfl (lv_at hl 0 rfl) ?_
  refine va_get (D := (dC, dI)) (ci := 2) (v := .long f_q) (C := RX3) (T := TX3) (N := 4) hx hb hts hinX3 hown hK hP 0 rfl rfl 1 (by decide) hw3 (fun _ h9 => h9) rfl dX3_step_22 ?_
  refine lv_lmul hx hb dX3_step_25 ?_
  refine lv_bipush (v := 17) hx hb dX3_step_26 (by decide) ?_
  refine lv_lshr hx hb dX3_step_28 (mw_sh _ _ 17 (by decide)) ?_
  refine lv_ladd hx hb dX3_step_29 ?_
  refine lv_ldc2 hx hb hown hw4 dX3_step_30 ?_
  refine lv_ldiv hx hb dX3_step_33 (by decide) ?_
  refine lv_ladd hx hb dX3_step_34 ?_
  refine lv_topl (fun v1 ev1 => ?_)
  refine lv_lstore (lv' := [(7, .long v1), (0, .ref h0), (1, .long p0), (3, .long p1), (5, .long p2)]) hx hb dX3_step_35 hl (by decide) rfl (fun ls hl => ?_)
  refine lv_aload_n hx hb dX3_step_37 rfl (lv_at hl 1 rfl) ?_
  refine va_get (D := (dC, dI)) (ci := 2) (v := .long f_q) (C := RX3) (T := TX3) (N := 4) hx hb hts hinX3 hown hK hP 0 rfl rfl 1 (by decide) hw3 (fun _ h9 => h9) rfl dX3_step_38 ?_
  refine lv_lload_n hx hb dX3_step_41 rfl (lv_at hl 3 rfl) ?_
  refine lv_aload_n hx hb dX3_step_42 rfl (lv_at hl 1 rfl) ?_
  refine va_get (D := (dC, dI)) (ci := 2) (v := .long f_q) (C := RX3) (T := TX3) (N := 4) hx hb hts hinX3 hown hK hP 0 rfl rfl 1 (by decide) hw3 (fun _ h9 => h9) rfl dX3_step_43 ?_
  refine lv_ldc2 hx hb hown hw1 dX3_step_46 ?_
  refine lv_lmul hx hb dX3_step_49 ?_
  refine lv_bipush (v := 8) hx hb dX3_step_50 (by decide) ?_
  refine lv_lshr hx hb dX3_step_52 (mw_sh _ _ 8 (by decide)) ?_
  refine lv_lsub hx hb dX3_step_53 ?_
  refine lv_aload_n hx hb dX3_step_54 rfl (lv_at hl 1 rfl) ?_
  refine va_get (D := (dC, dI)) (ci := 2) (v := .long f_pace) (C := RX3) (T := TX3) (N := 4) hx hb hts hinX3 hown hK hP 0 rfl rfl 2 (by decide) hw2 (fun _ h9 => h9) rfl dX3_step_55 ?_
  refine lv_aload_n hx hb dX3_step_58 rfl (lv_at hl 1 rfl) ?_
  refine va_get (D := (dC, dI)) (ci := 2) (v := .long f_d) (C := RX3) (T := TX3) (N := 4) hx hb hts hinX3 hown hK hP 0 rfl rfl 0 (by decide) hw0 (fun _ h9 => h9) rfl dX3_step_59 ?_
  refine lv_lmul hx hb dX3_step_62 ?_
  refine lv_bipush (v := 17) hx hb dX3_step_63 (by decide) ?_
  refine lv_lshr hx hb dX3_step_65 (mw_sh _ _ 17 (by decide)) ?_
  refine lv_lsub hx hb dX3_step_66 ?_
  refine lv_aload_n hx hb dX3_step_67 rfl (lv_at hl 1 rfl) ?_
  refine va_get (D := (dC, dI)) (ci := 2) (v := .long f_pace) (C := RX3) (T := TX3) (N := 4) hx hb hts hinX3 hown hK hP 0 rfl rfl 2 (by decide) hw2 (fun _ h9 => h9) rfl dX3_step_68 ?_
  refine lv_iconst (v := 3) hx hb dX3_step_71 (by decide) ?_
  refine lv_lshr hx hb dX3_step_72 (mw_sh _ _ 3 (by decide)) ?_
  refine lv_lsub hx hb dX3_step_73 ?_
  refine lv_ldc2 hx hb hown hw4 dX3_step_74 ?_
  refine lv_ldiv hx hb dX3_step_77 (by decide) ?_
  refine lv_ladd hx hb dX3_step_78 ?_
  refine lv_topl (fun v2 ev2 => ?_)
  refine lv_lstore (lv' := [(9, .long v2), (7, .long v1), (0, .ref h0), (1, .long p0), (3, .long p1), (5, .long p2)]) hx hb dX3_step_79 hl (by decide) rfl (fun ls hl => ?_)
  refine lv_aload_n hx hb dX3_step_81 rfl (lv_at hl 2 rfl) ?_
  refine va_get (D := (dC, dI)) (ci := 2) (v := .long f_pace) (C := RX3) (T := TX3) (N := 4) hx hb hts hinX3 hown hK hP 0 rfl rfl 2 (by decide) hw2 (fun _ h9 => h9) rfl dX3_step_82 ?_
  refine lv_aload_n hx hb dX3_step_85 rfl (lv_at hl 2 rfl) ?_
  refine va_get (D := (dC, dI)) (ci := 2) (v := .long f_q) (C := RX3) (T := TX3) (N := 4) hx hb hts hinX3 hown hK hP 0 rfl rfl 1 (by decide) hw3 (fun _ h9 => h9) rfl dX3_step_86 ?_
  refine lv_lload hx hb dX3_step_89 (lv_at hl 5 rfl) ?_
  refine lv_lsub hx hb dX3_step_91 ?_
  refine lv_ldc2 hx hb hown hw5 dX3_step_92 ?_
  refine lv_ldiv hx hb dX3_step_95 (by decide) ?_
  refine lv_ladd hx hb dX3_step_96 ?_
  refine lv_topl (fun v3 ev3 => ?_)
  refine lv_lstore (lv' := [(11, .long v3), (9, .long v2), (7, .long v1), (0, .ref h0), (1, .long p0), (3, .long p1), (5, .long p2)]) hx hb dX3_step_97 hl (by decide) rfl (fun ls hl => ?_)
  refine lv_aload_n hx hb dX3_step_99 rfl (lv_at hl 3 rfl) ?_
  refine lv_lload hx hb dX3_step_100 (lv_at hl 2 rfl) ?_
  refine lv_ldc2 hx hb hown hw6 dX3_step_102 ?_
  refine mw_calll (wc := []) (wr := [(h0, .inr (2, [.long f_d, .long f_q, .long f_pace, .long f_angle]))]) (w1 := fun u => []) (tyc := fun u => []) hP hD hS hA [] [0] rfl rfl (by decide) (by decide) (va_runSN (As := [.long v1, .long (32000 : Int64)]) (rest := [.ref h0]) ⟨hx, hb, hml, hown, hts⟩ (c_X5_clamp l dC dI v1 (32000 : Int64) s.heap.size ) ⟨va_cnB 2 hts gX3_step_X5_clamp_n32 rfl rfl rfl (hN.at 7 rfl) hw7 (by decide +kernel) ⟨(Nat.le_of_ble_eq_true rfl), (Nat.le_of_ble_eq_true rfl)⟩, hw8, trivial⟩ (mw_preS (hP.sub (ws' := []) [] rfl) (hD.sub (ws' := []) [] (by decide) rfl) (hK.sub (tys' := []) [] rfl) hN) rfl rfl hl.1 rfl (lv_room (Nat.le_of_ble_eq_true rfl)) dX3_step_105 ⟨(Nat.le_of_ble_eq_true rfl), (Nat.le_of_ble_eq_true rfl)⟩) (fun r4 u H locs hw_5 hP hD hS hK1 => ?_)
  have hw_5 : R_X5_clamp v1 (32000 : Int64) r4 := hw_5
  have hP : va_P (dC, dI) vwCl [(h0, .inr (2, [.long f_d, .long f_q, .long f_pace, .long f_angle]))] H := hP
  have hD : va_D A [(h0, .inr (2, [.long f_d, .long f_q, .long f_pace, .long f_angle]))] := hD
  refine va_put (D := (dC, dI)) (ci := 2) (v := .long r4) (ty := .long) (C := RX3) (T := TX3) (N := 4) hx hb hts hinX3 tyX3 tyX3_ok nmX3 hown hK hP hD hS 0 rfl rfl 0 (by decide) hw0 (fun _ h9 => h9) rfl (by decide +kernel) rfl rfl (Nat.le_of_ble_eq_true rfl) dX3_step_108 (fun H locs hP hD hS => ?_)
  have hP : va_P (dC, dI) vwCl [(h0, .inr (2, [.long r4, .long f_q, .long f_pace, .long f_angle]))] H := hP
  have hD : va_D A [(h0, .inr (2, [.long r4, .long f_q, .long f_pace, .long f_angle]))] := hD
  refine lv_aload_n hx hb dX3_step_111 rfl (lv_at hl 3 rfl) ?_
  refine lv_lload hx hb dX3_step_112 (lv_at hl 1 rfl) ?_
  refine lv_ldc2 hx hb hown hw6 dX3_step_114 ?_
  refine mw_calll (wc := []) (wr := [(h0, .inr (2, [.long r4, .long f_q, .long f_pace, .long f_angle]))]) (w1 := fun u => []) (tyc := fun u => []) hP hD hS hA [] [0] rfl rfl (by decide) (by decide) (va_runSN (As := [.long v2, .long (32000 : Int64)]) (rest := [.ref h0]) ⟨hx, hb, hml, hown, hts⟩ (c_X5_clamp l dC dI v2 (32000 : Int64) H.size ) ⟨va_cnB 2 hts gX3_step_X5_clamp_n32 rfl rfl rfl (hN.at 7 rfl) hw7 (by decide +kernel) ⟨(Nat.le_of_ble_eq_true rfl), (Nat.le_of_ble_eq_true rfl)⟩, hw8, trivial⟩ (mw_preS (hP.sub (ws' := []) [] rfl) (hD.sub (ws' := []) [] (by decide) rfl) (hK.sub (tys' := []) [] rfl) hN) rfl rfl hl.1 rfl (lv_room (Nat.le_of_ble_eq_true rfl)) dX3_step_117 ⟨(Nat.le_of_ble_eq_true rfl), (Nat.le_of_ble_eq_true rfl)⟩) (fun r6 u H locs hw_7 hP hD hS hK1 => ?_)
  have hw_7 : R_X5_clamp v2 (32000 : Int64) r6 := hw_7
  have hP : va_P (dC, dI) vwCl [(h0, .inr (2, [.long r4, .long f_q, .long f_pace, .long f_angle]))] H := hP
  have hD : va_D A [(h0, .inr (2, [.long r4, .long f_q, .long f_pace, .long f_angle]))] := hD
  refine va_put (D := (dC, dI)) (ci := 2) (v := .long r6) (ty := .long) (C := RX3) (T := TX3) (N := 4) hx hb hts hinX3 tyX3 tyX3_ok nmX3 hown hK hP hD hS 0 rfl rfl 1 (by decide) hw3 (fun _ h9 => h9) rfl (by decide +kernel) rfl rfl (Nat.le_of_ble_eq_true rfl) dX3_step_120 (fun H locs hP hD hS => ?_)
  have hP : va_P (dC, dI) vwCl [(h0, .inr (2, [.long r4, .long r6, .long f_pace, .long f_angle]))] H := hP
  have hD : va_D A [(h0, .inr (2, [.long r4, .long r6, .long f_pace, .long f_angle]))] := hD
  refine lv_aload_n hx hb dX3_step_123 rfl (lv_at hl 3 rfl) ?_
  refine lv_lload hx hb dX3_step_124 (lv_at hl 0 rfl) ?_
  refine lv_ldc2 hx hb hown hw9 dX3_step_126 ?_
  refine mw_calll (wc := []) (wr := [(h0, .inr (2, [.long r4, .long r6, .long f_pace, .long f_angle]))]) (w1 := fun u => []) (tyc := fun u => []) hP hD hS hA [] [0] rfl rfl (by decide) (by decide) (va_runSN (As := [.long v3, .long (60000 : Int64)]) (rest := [.ref h0]) ⟨hx, hb, hml, hown, hts⟩ (c_X5_clamp l dC dI v3 (60000 : Int64) H.size ) ⟨va_cnB 2 hts gX3_step_X5_clamp_n32 rfl rfl rfl (hN.at 7 rfl) hw7 (by decide +kernel) ⟨(Nat.le_of_ble_eq_true rfl), (Nat.le_of_ble_eq_true rfl)⟩, hw8, trivial⟩ (mw_preS (hP.sub (ws' := []) [] rfl) (hD.sub (ws' := []) [] (by decide) rfl) (hK.sub (tys' := []) [] rfl) hN) rfl rfl hl.1 rfl (lv_room (Nat.le_of_ble_eq_true rfl)) dX3_step_129 ⟨(Nat.le_of_ble_eq_true rfl), (Nat.le_of_ble_eq_true rfl)⟩) (fun r8 u H locs hw_9 hP hD hS hK1 => ?_)
  have hw_9 : R_X5_clamp v3 (60000 : Int64) r8 := hw_9
  have hP : va_P (dC, dI) vwCl [(h0, .inr (2, [.long r4, .long r6, .long f_pace, .long f_angle]))] H := hP
  have hD : va_D A [(h0, .inr (2, [.long r4, .long r6, .long f_pace, .long f_angle]))] := hD
  refine va_put (D := (dC, dI)) (ci := 2) (v := .long r8) (ty := .long) (C := RX3) (T := TX3) (N := 4) hx hb hts hinX3 tyX3 tyX3_ok nmX3 hown hK hP hD hS 0 rfl rfl 2 (by decide) hw2 (fun _ h9 => h9) rfl (by decide +kernel) rfl rfl (Nat.le_of_ble_eq_true rfl) dX3_step_132 (fun H locs hP hD hS => ?_)
  have hP : va_P (dC, dI) vwCl [(h0, .inr (2, [.long r4, .long r6, .long r8, .long f_angle]))] H := hP
  have hD : va_D A [(h0, .inr (2, [.long r4, .long r6, .long r8, .long f_angle]))] := hD
  refine lv_aload_n hx hb dX3_step_135 rfl (lv_at hl 3 rfl) ?_
  refine lv_aload_n hx hb dX3_step_136 rfl (lv_at hl 3 rfl) ?_
  refine va_get (D := (dC, dI)) (ci := 2) (v := .long f_angle) (C := RX3) (T := TX3) (N := 4) hx hb hts hinX3 hown hK hP 0 rfl rfl 3 (by decide) hw10 (fun _ h9 => h9) rfl dX3_step_137 ?_
  refine lv_aload_n hx hb dX3_step_140 rfl (lv_at hl 3 rfl) ?_
  refine va_get (D := (dC, dI)) (ci := 2) (v := .long r8) (C := RX3) (T := TX3) (N := 4) hx hb hts hinX3 hown hK hP 0 rfl rfl 2 (by decide) hw2 (fun _ h9 => h9) rfl dX3_step_141 ?_
  refine lv_iconst (v := 2) hx hb dX3_step_144 (by decide) ?_
  refine lv_lshr hx hb dX3_step_145 (mw_sh _ _ 2 (by decide)) ?_
  refine lv_ladd hx hb dX3_step_146 ?_
  refine lv_ldc2 hx hb hown hw11 dX3_step_147 ?_
  refine lv_land hx hb dX3_step_150 ?_
  refine lv_topl (fun v10 ev10 => ?_)
  refine va_put (D := (dC, dI)) (ci := 2) (v := .long v10) (ty := .long) (C := RX3) (T := TX3) (N := 4) hx hb hts hinX3 tyX3 tyX3_ok nmX3 hown hK hP hD hS 0 rfl rfl 3 (by decide) hw10 (fun _ h9 => h9) rfl (by decide +kernel) rfl rfl (Nat.le_of_ble_eq_true rfl) dX3_step_151 (fun H locs hP hD hS => ?_)
  have hP : va_P (dC, dI) vwCl [(h0, .inr (2, [.long r4, .long r6, .long r8, .long v10]))] H := hP
  have hD : va_D A [(h0, .inr (2, [.long r4, .long r6, .long r8, .long v10]))] := hD
  have hP9 := hP.sub (ws' := [(h0, .inr (2, [.long r4, .long r6, .long r8, .long v10]))]) [0] rfl
  have hD9 := hD.sub (ws' := [(h0, .inr (2, [.long r4, .long r6, .long r8, .long v10]))]) [0] (by decide) rfl
  have hK9 := hK.sub (tys' := []) [] rfl
  exact W.vret hx hb hr (fun t ht hW => ⟨⟨(r4, r6, r8, v10), rfl, ⟨v1, ev1, ⟨v2, ev2, ⟨v3, ev3, ⟨r4, hw_5, ⟨r6, hw_7, ⟨r8, hw_9, ⟨v10, ev10, ⟨rfl, rfl, rfl, rfl⟩⟩⟩⟩⟩⟩⟩⟩, (by rw [ht]; exact hP9), va_K.moved hW.alike hK9, hD9⟩, hS.F ht⟩) hS.2.2 dX3_step_154
def R_X4_off  : Prop := True
set_option maxHeartbeats 4000000 in
set_option maxRecDepth 100000 in
theorem c_X4_off (l : Launch) (dC : Nat → ClassId) (dI : Nat → Nat → Nat) (h0 : Nat) (f_u : Int64) (f_v : Int64) (f_w : Int64) (f_over : Int32) (sz : Nat)  : Met l yX4_off wsX4_off ({ frames := 0, cells := 0, slots := 0, locals := 0 }) (va_Pc [.ref h0] (mw_pre (dC, dI) vwCl [(h0, .inr (3, [.long f_u, .long f_v, .long f_w, .int f_over]))] [] sz)) (va_Qv (fun (u : Unit) => R_X4_off ) (fun u t => mw_at (dC, dI) vwCl [(h0, .inr (3, [.long (0 : Int64), .long (0 : Int64), .long (0 : Int64), .int (0 : Int32)]))] [] (va_A [(h0, .inr (3, [.long f_u, .long f_v, .long f_w, .int f_over]))] sz) t) (va_A [(h0, .inr (3, [.long f_u, .long f_v, .long f_w, .int f_over]))] sz)) 0 0 (va_A [(h0, .inr (3, [.long f_u, .long f_v, .long f_w, .int f_over]))] sz) := by
  refine Met.ofW (cc := cX4_off) (maxL := 1) (ret := none) (by decide) rfl ?_
  intro p e s m args below meth c s₁ B hml hv
  obtain ⟨rfl, hsz, hP, hK, hD0, hN⟩ := hv
  have hx := B.exec
  have hb := B.bytes
  have hr := B.returns
  have hts := atoms_spec (ws := wsX4_off) B.pre
  have hown : s.vm.findClass RX4 = some m.cls := findClass_of_methodNamed B.named
  have hlocks := B.notSynchronized
  subst hsz
  have hD := hD0.self (sz := s.heap.size)
  generalize hAe : va_A [(h0, .inr (3, [.long f_u, .long f_v, .long f_w, .int f_over]))] s.heap.size = A at hD ⊢
  have hA : ∀ q : Nat, s.heap.size ≤ q → A q := fun q h => by rw [← hAe]; exact Or.inr h
  have hS : va_S A s.heap s.heap [] := va_S.rf
  have hP : va_P (dC, dI) vwCl [(h0, .inr (3, [.long f_u, .long f_v, .long f_w, .int f_over]))] s.heap := hP
  have hl := lv_entry ([.ref h0]) (n := 1) (Nat.le_of_ble_eq_true rfl)
  rw [lg_entry_eq]
  generalize (lg_sl ([.ref h0]) ++ List.replicate (1 - (lg_sl ([.ref h0])).length) Slot.unset).toArray = ls at hl ⊢
  have hl : lv_has ls 1 [(0, .ref h0)] := hl
  have hw0 := hts (.fieldLink RX4 7 "TurnedFields$OnTimes" "u" "J") (by decide +kernel)
  have hw1 := hts (.fieldLink RX4 13 "TurnedFields$OnTimes" "v" "J") (by decide +kernel)
  have hw2 := hts (.fieldLink RX4 16 "TurnedFields$OnTimes" "w" "J") (by decide +kernel)
  have hw3 := hts (.fieldLink RX4 19 "TurnedFields$OnTimes" "over" "Z") (by decide +kernel)
  have hinX4 : ∀ w ∈ wsX40, w ∈ wsX4_off := by decide +kernel
  refine lv_aload_n hx hb dX4_off_0 rfl (lv_at hl 0 rfl) ?_
  refine lv_lconst (v := 0) hx hb dX4_off_1 (by decide) ?_
  refine va_put (D := (dC, dI)) (ci := 3) (v := .long (0 : Int64)) (ty := .long) (C := RX4) (T := TX4) (N := 4) hx hb hts hinX4 tyX4 tyX4_ok nmX4 hown hK hP hD hS 0 rfl rfl 0 (by decide) hw0 (fun _ h9 => h9) rfl (by decide +kernel) rfl rfl (Nat.le_of_ble_eq_true rfl) dX4_off_2 (fun H locs hP hD hS => ?_)
  have hP : va_P (dC, dI) vwCl [(h0, .inr (3, [.long (0 : Int64), .long f_v, .long f_w, .int f_over]))] H := hP
  have hD : va_D A [(h0, .inr (3, [.long (0 : Int64), .long f_v, .long f_w, .int f_over]))] := hD
  refine lv_aload_n hx hb dX4_off_5 rfl (lv_at hl 0 rfl) ?_
  refine lv_lconst (v := 0) hx hb dX4_off_6 (by decide) ?_
  refine va_put (D := (dC, dI)) (ci := 3) (v := .long (0 : Int64)) (ty := .long) (C := RX4) (T := TX4) (N := 4) hx hb hts hinX4 tyX4 tyX4_ok nmX4 hown hK hP hD hS 0 rfl rfl 1 (by decide) hw1 (fun _ h9 => h9) rfl (by decide +kernel) rfl rfl (Nat.le_of_ble_eq_true rfl) dX4_off_7 (fun H locs hP hD hS => ?_)
  have hP : va_P (dC, dI) vwCl [(h0, .inr (3, [.long (0 : Int64), .long (0 : Int64), .long f_w, .int f_over]))] H := hP
  have hD : va_D A [(h0, .inr (3, [.long (0 : Int64), .long (0 : Int64), .long f_w, .int f_over]))] := hD
  refine lv_aload_n hx hb dX4_off_10 rfl (lv_at hl 0 rfl) ?_
  refine lv_lconst (v := 0) hx hb dX4_off_11 (by decide) ?_
  refine va_put (D := (dC, dI)) (ci := 3) (v := .long (0 : Int64)) (ty := .long) (C := RX4) (T := TX4) (N := 4) hx hb hts hinX4 tyX4 tyX4_ok nmX4 hown hK hP hD hS 0 rfl rfl 2 (by decide) hw2 (fun _ h9 => h9) rfl (by decide +kernel) rfl rfl (Nat.le_of_ble_eq_true rfl) dX4_off_12 (fun H locs hP hD hS => ?_)
  have hP : va_P (dC, dI) vwCl [(h0, .inr (3, [.long (0 : Int64), .long (0 : Int64), .long (0 : Int64), .int f_over]))] H := hP
  have hD : va_D A [(h0, .inr (3, [.long (0 : Int64), .long (0 : Int64), .long (0 : Int64), .int f_over]))] := hD
  refine lv_aload_n hx hb dX4_off_15 rfl (lv_at hl 0 rfl) ?_
  refine lv_iconst (v := 0) hx hb dX4_off_16 (by decide) ?_
  refine va_put (D := (dC, dI)) (ci := 3) (v := .int (0 : Int32)) (ty := .boolean) (C := RX4) (T := TX4) (N := 4) hx hb hts hinX4 tyX4 tyX4_ok nmX4 hown hK hP hD hS 0 rfl rfl 3 (by decide) hw3 (fun _ h9 => h9) rfl (by decide +kernel) rfl rfl (Nat.le_of_ble_eq_true rfl) dX4_off_17 (fun H locs hP hD hS => ?_)
  have hP : va_P (dC, dI) vwCl [(h0, .inr (3, [.long (0 : Int64), .long (0 : Int64), .long (0 : Int64), .int (0 : Int32)]))] H := hP
  have hD : va_D A [(h0, .inr (3, [.long (0 : Int64), .long (0 : Int64), .long (0 : Int64), .int (0 : Int32)]))] := hD
  have hP9 := hP.sub (ws' := [(h0, .inr (3, [.long (0 : Int64), .long (0 : Int64), .long (0 : Int64), .int (0 : Int32)]))]) [0] rfl
  have hD9 := hD.sub (ws' := [(h0, .inr (3, [.long (0 : Int64), .long (0 : Int64), .long (0 : Int64), .int (0 : Int32)]))]) [0] (by decide) rfl
  have hK9 := hK.sub (tys' := []) [] rfl
  exact W.vret hx hb hr (fun t ht hW => ⟨⟨(), rfl, trivial, (by rw [ht]; exact hP9), va_K.moved hW.alike hK9, hD9⟩, hS.F ht⟩) hS.2.2 dX4_off_20
def RG_X4_onTime_19 (f_over : Int32) (v3 : Int64) (x6 : Int32) : Prop := (v3 < (0 : Int64) → (x6 = (1 : Int32))) ∧ (¬ (v3 < (0 : Int64)) → ((v3 ≤ (8192 : Int64) → (x6 = f_over)) ∧ (¬ (v3 ≤ (8192 : Int64)) → (x6 = (1 : Int32)))))
def R_X4_onTime (f_over : Int32) (p0 : Int64) (p1 : Int64) (r : Int64) (u_0_over : Int32) : Prop := ∃ (r1 : Int64), R_X5_quotient (p0 * (8192 : Int64)) p1 r1 ∧ (∃ v3 : Int64, v3 = (r1 + (4096 : Int64)) ∧ (∃ (x6 : Int32), RG_X4_onTime_19 f_over v3 x6 ∧ (∃ v8 : Int64, v8 = (if v3 < (8192 : Int64) then v3 else (8192 : Int64)) ∧ (∃ v9 : Int64, v9 = (if v8 < (0 : Int64) then (0 : Int64) else v8) ∧ (r = v9 ∧ u_0_over = x6)))))
set_option maxHeartbeats 4000000 in
set_option maxRecDepth 100000 in
theorem c_X4_onTime (l : Launch) (dC : Nat → ClassId) (dI : Nat → Nat → Nat) (h0 : Nat) (f_u : Int64) (f_v : Int64) (f_w : Int64) (f_over : Int32) (p0 : Int64) (p1 : Int64) (sz : Nat)  : Met l yX4_onTime wsX4_onTime ({ frames := 1, cells := 0, slots := 0, locals := 23 }) (va_Pc [.ref h0, .long p0, .long p1] (mw_pre (dC, dI) vwCl [(h0, .inr (3, [.long f_u, .long f_v, .long f_w, .int f_over]))] [] sz)) (va_Ql (fun (r : Int64) (u : Int32) => R_X4_onTime f_over p0 p1 r u) (fun u t => mw_at (dC, dI) vwCl [(h0, .inr (3, [.long f_u, .long f_v, .long f_w, .int u]))] [] (va_A [(h0, .inr (3, [.long f_u, .long f_v, .long f_w, .int f_over]))] sz) t) (va_A [(h0, .inr (3, [.long f_u, .long f_v, .long f_w, .int f_over]))] sz)) 0 0 (va_A [(h0, .inr (3, [.long f_u, .long f_v, .long f_w, .int f_over]))] sz) := by
  refine Met.ofW (cc := cX4_onTime) (maxL := 7) (ret := (some .long)) (by decide) rfl ?_
  intro p e s m args below meth c s₁ B hml hv
  obtain ⟨rfl, hsz, hP, hK, hD0, hN⟩ := hv
  have hx := B.exec
  have hb := B.bytes
  have hr := B.returns
  have hts := atoms_spec (ws := wsX4_onTime) B.pre
  have hown : s.vm.findClass RX4 = some m.cls := findClass_of_methodNamed B.named
  have hlocks := B.notSynchronized
  subst hsz
  have hD := hD0.self (sz := s.heap.size)
  generalize hAe : va_A [(h0, .inr (3, [.long f_u, .long f_v, .long f_w, .int f_over]))] s.heap.size = A at hD ⊢
  have hA : ∀ q : Nat, s.heap.size ≤ q → A q := fun q h => by rw [← hAe]; exact Or.inr h
  have hS : va_S A s.heap s.heap [] := va_S.rf
  have hP : va_P (dC, dI) vwCl [(h0, .inr (3, [.long f_u, .long f_v, .long f_w, .int f_over]))] s.heap := hP
  have hl := lv_entry ([.ref h0, .long p0, .long p1]) (n := 7) (Nat.le_of_ble_eq_true rfl)
  rw [lg_entry_eq]
  generalize (lg_sl ([.ref h0, .long p0, .long p1]) ++ List.replicate (7 - (lg_sl ([.ref h0, .long p0, .long p1])).length) Slot.unset).toArray = ls at hl ⊢
  have hl : lv_has ls 7 [(0, .ref h0), (1, .long p0), (3, .long p1)] := hl
  have hw0 := hts (.constantLong RX4 41 (8192)) (by decide +kernel)
  have hw1 := hts (.initialized RX5) (by decide +kernel)
  have hw2 := hts (.static yX5_quotient) (by decide +kernel)
  have hw3 := hts (.constantLong RX4 48 (4096)) (by decide +kernel)
  have hw4 := hts (.fieldLink RX4 19 "TurnedFields$OnTimes" "over" "Z") (by decide +kernel)
  have hw5 := hts (.methodLink RX4 33 Lib.MathLoose.min_long.x) (by decide +kernel)
  have hw6 := hts (.static Lib.MathLoose.min_long.x) (by decide +kernel)
  have hw7 := hts (.initialized "java/lang/Math") (by decide +kernel)
  have hw8 := hts (.code Lib.MathLoose.min_long.x Lib.MathLoose.min_long.code 4 (some .long)) (by decide +kernel)
  have hw9 := hts (.methodLink RX4 27 Lib.MathLoose.max_long.x) (by decide +kernel)
  have hw10 := hts (.static Lib.MathLoose.max_long.x) (by decide +kernel)
  have hw11 := hts (.code Lib.MathLoose.max_long.x Lib.MathLoose.max_long.code 4 (some .long)) (by decide +kernel)
  have hinX4 : ∀ w ∈ wsX40, w ∈ wsX4_onTime := by decide +kernel
  refine lv_lload_n hx hb dX4_onTime_0 rfl (lv_at hl 1 rfl) ?_
  refine lv_ldc2 hx hb hown hw0 dX4_onTime_1 ?_
  refine lv_lmul hx hb dX4_onTime_4 ?_
  refine lv_lload_n hx hb dX4_onTime_5 rfl (lv_at hl 2 rfl) ?_
  refine mw_calll (wc := []) (wr := [(h0, .inr (3, [.long f_u, .long f_v, .long f_w, .int f_over]))]) (w1 := fun u => []) (tyc := fun u => []) hP hD hS hA [] [0] rfl rfl (by decide) (by decide) (va_runSN (As := [.long (p0 * (8192 : Int64)), .long p1]) (rest := []) ⟨hx, hb, hml, hown, hts⟩ (c_X5_quotient l dC dI (p0 * (8192 : Int64)) p1 s.heap.size ) ⟨va_cnB 2 hts gX4_onTime_X5_quotient_n43 rfl rfl rfl (hN.at 5 rfl) hw1 (by decide +kernel) ⟨(Nat.le_of_ble_eq_true rfl), (Nat.le_of_ble_eq_true rfl)⟩, hw2, trivial⟩ (mw_preS (hP.sub (ws' := []) [] rfl) (hD.sub (ws' := []) [] (by decide) rfl) (hK.sub (tys' := []) [] rfl) hN) rfl rfl hl.1 rfl (lv_room (Nat.le_of_ble_eq_true rfl)) dX4_onTime_6 ⟨(Nat.le_of_ble_eq_true rfl), (Nat.le_of_ble_eq_true rfl)⟩) (fun r1 u H locs hw_2 hP hD hS hK1 => ?_)
  have hw_2 : R_X5_quotient (p0 * (8192 : Int64)) p1 r1 := hw_2
  have hP : va_P (dC, dI) vwCl [(h0, .inr (3, [.long f_u, .long f_v, .long f_w, .int f_over]))] H := hP
  have hD : va_D A [(h0, .inr (3, [.long f_u, .long f_v, .long f_w, .int f_over]))] := hD
  refine lv_ldc2 hx hb hown hw3 dX4_onTime_9 ?_
  refine lv_ladd hx hb dX4_onTime_12 ?_
  refine lv_topl (fun v3 ev3 => ?_)
  refine lv_lstore (lv' := [(5, .long v3), (0, .ref h0), (1, .long p0), (3, .long p1)]) hx hb dX4_onTime_13 hl (by decide) rfl (fun ls hl => ?_)
  refine lv_lload hx hb dX4_onTime_15 (lv_at hl 0 rfl) ?_
  refine lv_lconst (v := 0) hx hb dX4_onTime_17 (by decide) ?_
  refine W.lcmp hx hb dX4_onTime_18 ?_
  refine mw_jn (X := Int32) (D := (dC, dI)) (cl := vwCl) (A := A) (H0 := s.heap) (nL := 7) (fun x => [(h0, .inr (3, [.long f_u, .long f_v, .long f_w, .int x]))]) (fun x => [(5, .long v3)]) (fun x => []) 36 (fun x => RG_X4_onTime_19 f_over v3 x) (fun x hx_ H locs ls hP hD hS hl => ?_) (fun J => ?_)
  · obtain ⟨x6, rfl⟩ : ∃ z, z = x := ⟨_, rfl⟩
    have hj7 : RG_X4_onTime_19 f_over v3 x6 := hx_
    have hP : va_P (dC, dI) vwCl [(h0, .inr (3, [.long f_u, .long f_v, .long f_w, .int x6]))] H := hP
    have hD : va_D A [(h0, .inr (3, [.long f_u, .long f_v, .long f_w, .int x6]))] := hD
    have hl : lv_has ls 7 [(5, .long v3)] := hl
    refine lv_lconst (v := 0) hx hb dX4_onTime_36 (by decide) ?_
    refine lv_ldc2 hx hb hown hw0 dX4_onTime_37 ?_
    refine lv_lload hx hb dX4_onTime_40 (lv_at hl 0 rfl) ?_
    refine va_mmin_long hx hb (hml.trans hl.1.symm) hown hw5 hw6 hw7 hw8 (Nat.le_of_ble_eq_true rfl) (Nat.le_of_ble_eq_true rfl) (Nat.le_of_ble_eq_true rfl) (Nat.le_of_ble_eq_true rfl) dX4_onTime_42 ?_
    refine lv_topl (fun v8 ev8 => ?_)
    refine va_mmax_long hx hb (hml.trans hl.1.symm) hown hw9 hw10 hw7 hw11 (Nat.le_of_ble_eq_true rfl) (Nat.le_of_ble_eq_true rfl) (Nat.le_of_ble_eq_true rfl) (Nat.le_of_ble_eq_true rfl) dX4_onTime_45 ?_
    refine lv_topl (fun v9 ev9 => ?_)
    have hP9 := hP.sub (ws' := [(h0, .inr (3, [.long f_u, .long f_v, .long f_w, .int x6]))]) [0] rfl
    have hD9 := hD.sub (ws' := [(h0, .inr (3, [.long f_u, .long f_v, .long f_w, .int x6]))]) [0] (by decide) rfl
    have hK9 := hK.sub (tys' := []) [] rfl
    exact W.lret (v := v9) hx hb hr (fun t ht hW => ⟨⟨v9, x6, rfl, ⟨r1, hw_2, ⟨v3, ev3, ⟨x6, hj7, ⟨v8, ev8, ⟨v9, ev9, ⟨rfl, rfl⟩⟩⟩⟩⟩⟩, (by rw [ht]; exact hP9), va_K.moved hW.alike hK9, hD9⟩, hS.F ht⟩) hS.2.2 dX4_onTime_48
  · refine lv_if_lt (tgt := 31) hx hb dX4_onTime_19 (by decide) (fun c4 => ?_) (fun c4 => ?_)
    · have c4 : v3 < (0 : Int64) := (lg_cmp_lt _ _).mp c4
      refine lv_aload_n hx hb dX4_onTime_31 rfl (lv_at hl 1 rfl) ?_
      refine lv_iconst (v := 1) hx hb dX4_onTime_32 (by decide) ?_
      refine va_put (D := (dC, dI)) (ci := 3) (v := .int (1 : Int32)) (ty := .boolean) (C := RX4) (T := TX4) (N := 4) hx hb hts hinX4 tyX4 tyX4_ok nmX4 hown hK hP hD hS 0 rfl rfl 3 (by decide) hw4 (fun _ h9 => h9) rfl (by decide +kernel) rfl rfl (Nat.le_of_ble_eq_true rfl) dX4_onTime_33 (fun H locs hP hD hS => ?_)
      have hP : va_P (dC, dI) vwCl [(h0, .inr (3, [.long f_u, .long f_v, .long f_w, .int (1 : Int32)]))] H := hP
      have hD : va_D A [(h0, .inr (3, [.long f_u, .long f_v, .long f_w, .int (1 : Int32)]))] := hD
      exact J (1 : Int32) ⟨fun _ => rfl, fun hh => absurd c4 hh⟩ _ _ _ hP hD hS (lv_sub hl [0] rfl)
    · have c4 : ¬ (v3 < (0 : Int64)) := mw_flt c4
      refine lv_lload hx hb dX4_onTime_22 (lv_at hl 0 rfl) ?_
      refine lv_ldc2 hx hb hown hw0 dX4_onTime_24 ?_
      refine W.lcmp hx hb dX4_onTime_27 ?_
      refine lv_if_le (tgt := 36) hx hb dX4_onTime_28 (by decide) (fun c5 => ?_) (fun c5 => ?_)
      · have c5 : v3 ≤ (8192 : Int64) := (lg_cmp_le _ _).mp c5
        exact J f_over ⟨fun hh => absurd hh c4, fun _ => ⟨fun _ => rfl, fun hh => absurd c5 hh⟩⟩ _ _ _ hP hD hS (lv_sub hl [0] rfl)
      · have c5 : ¬ (v3 ≤ (8192 : Int64)) := mw_fle c5
        refine lv_aload_n hx hb dX4_onTime_31 rfl (lv_at hl 1 rfl) ?_
        refine lv_iconst (v := 1) hx hb dX4_onTime_32 (by decide) ?_
        refine va_put (D := (dC, dI)) (ci := 3) (v := .int (1 : Int32)) (ty := .boolean) (C := RX4) (T := TX4) (N := 4) hx hb hts hinX4 tyX4 tyX4_ok nmX4 hown hK hP hD hS 0 rfl rfl 3 (by decide) hw4 (fun _ h9 => h9) rfl (by decide +kernel) rfl rfl (Nat.le_of_ble_eq_true rfl) dX4_onTime_33 (fun H locs hP hD hS => ?_)
        have hP : va_P (dC, dI) vwCl [(h0, .inr (3, [.long f_u, .long f_v, .long f_w, .int (1 : Int32)]))] H := hP
        have hD : va_D A [(h0, .inr (3, [.long f_u, .long f_v, .long f_w, .int (1 : Int32)]))] := hD
        exact J (1 : Int32) ⟨fun hh => absurd hh c4, fun _ => ⟨fun hh => absurd hh c5, fun _ => rfl⟩⟩ _ _ _ hP hD hS (lv_sub hl [0] rfl)
def R_X4_lead (p0 : Int64) (p1 : Int64) (p2 : Int64) (u_0_u : Int64) (u_0_v : Int64) (u_0_w : Int64) (u_0_over : Int32) : Prop := ∃ v1 : Int64, v1 = (((p1 * (56756 : Int64)) - (p0 * (32768 : Int64))) >>> (16 : Int64)) ∧ (∃ v2 : Int64, v2 = ((-p0) - v1) ∧ (∃ v3 : Int64, v3 = (if v2 < v1 then v1 else v2) ∧ (∃ v4 : Int64, v4 = (if v3 < p0 then p0 else v3) ∧ (∃ v5 : Int64, v5 = (if v2 < v1 then v2 else v1) ∧ (∃ v6 : Int64, v6 = (if v5 < p0 then v5 else p0) ∧ (∃ v7 : Int64, v7 = ((v4 + v6) / (2 : Int64)) ∧ (∃ (r9 : Int64) (o8 : Int32), R_X4_onTime (0 : Int32) (p0 - v7) p2 r9 o8 ∧ (∃ (r12 : Int64) (o11 : Int32), R_X4_onTime o8 (v1 - v7) p2 r12 o11 ∧ (∃ (r15 : Int64) (o14 : Int32), R_X4_onTime o11 (v2 - v7) p2 r15 o14 ∧ (u_0_u = r9 ∧ u_0_v = r12 ∧ u_0_w = r15 ∧ u_0_over = o14))))))))))
set_option maxHeartbeats 4000000 in
set_option maxRecDepth 100000 in
theorem c_X4_lead (l : Launch) (dC : Nat → ClassId) (dI : Nat → Nat → Nat) (h0 : Nat) (f_u : Int64) (f_v : Int64) (f_w : Int64) (f_over : Int32) (p0 : Int64) (p1 : Int64) (p2 : Int64) (sz : Nat)  : Met l yX4_lead wsX4_lead ({ frames := 2, cells := 0, slots := 0, locals := 49 }) (va_Pc [.ref h0, .long p0, .long p1, .long p2] (mw_pre (dC, dI) vwCl [(h0, .inr (3, [.long f_u, .long f_v, .long f_w, .int f_over]))] [] sz)) (va_Qv (fun (u : Int64 × Int64 × Int64 × Int32) => R_X4_lead p0 p1 p2 u.1 u.2.1 u.2.2.1 u.2.2.2) (fun u t => mw_at (dC, dI) vwCl [(h0, .inr (3, [.long u.1, .long u.2.1, .long u.2.2.1, .int u.2.2.2]))] [] (va_A [(h0, .inr (3, [.long f_u, .long f_v, .long f_w, .int f_over]))] sz) t) (va_A [(h0, .inr (3, [.long f_u, .long f_v, .long f_w, .int f_over]))] sz)) 0 0 (va_A [(h0, .inr (3, [.long f_u, .long f_v, .long f_w, .int f_over]))] sz) := by
  refine Met.ofW (cc := cX4_lead) (maxL := 17) (ret := none) (by decide) rfl ?_
  intro p e s m args below meth c s₁ B hml hv
  obtain ⟨rfl, hsz, hP, hK, hD0, hN⟩ := hv
  have hx := B.exec
  have hb := B.bytes
  have hr := B.returns
  have hts := atoms_spec (ws := wsX4_lead) B.pre
  have hown : s.vm.findClass RX4 = some m.cls := findClass_of_methodNamed B.named
  have hlocks := B.notSynchronized
  subst hsz
  have hD := hD0.self (sz := s.heap.size)
  generalize hAe : va_A [(h0, .inr (3, [.long f_u, .long f_v, .long f_w, .int f_over]))] s.heap.size = A at hD ⊢
  have hA : ∀ q : Nat, s.heap.size ≤ q → A q := fun q h => by rw [← hAe]; exact Or.inr h
  have hS : va_S A s.heap s.heap [] := va_S.rf
  have hP : va_P (dC, dI) vwCl [(h0, .inr (3, [.long f_u, .long f_v, .long f_w, .int f_over]))] s.heap := hP
  have hl := lv_entry ([.ref h0, .long p0, .long p1, .long p2]) (n := 17) (Nat.le_of_ble_eq_true rfl)
  rw [lg_entry_eq]
  generalize (lg_sl ([.ref h0, .long p0, .long p1, .long p2]) ++ List.replicate (17 - (lg_sl ([.ref h0, .long p0, .long p1, .long p2])).length) Slot.unset).toArray = ls at hl ⊢
  have hl : lv_has ls 17 [(0, .ref h0), (1, .long p0), (3, .long p1), (5, .long p2)] := hl
  have hw0 := hts (.constantLong RX4 23 (56756)) (by decide +kernel)
  have hw1 := hts (.constantLong RX4 25 (32768)) (by decide +kernel)
  have hw2 := hts (.methodLink RX4 27 Lib.MathLoose.max_long.x) (by decide +kernel)
  have hw3 := hts (.static Lib.MathLoose.max_long.x) (by decide +kernel)
  have hw4 := hts (.initialized "java/lang/Math") (by decide +kernel)
  have hw5 := hts (.code Lib.MathLoose.max_long.x Lib.MathLoose.max_long.code 4 (some .long)) (by decide +kernel)
  have hw6 := hts (.methodLink RX4 33 Lib.MathLoose.min_long.x) (by decide +kernel)
  have hw7 := hts (.static Lib.MathLoose.min_long.x) (by decide +kernel)
  have hw8 := hts (.code Lib.MathLoose.min_long.x Lib.MathLoose.min_long.code 4 (some .long)) (by decide +kernel)
  have hw9 := hts (.constantLong RX4 36 (2)) (by decide +kernel)
  have hw10 := hts (.fieldLink RX4 19 "TurnedFields$OnTimes" "over" "Z") (by decide +kernel)
  have hw11 := hts (.fieldLink RX4 7 "TurnedFields$OnTimes" "u" "J") (by decide +kernel)
  have hw12 := hts (.fieldLink RX4 13 "TurnedFields$OnTimes" "v" "J") (by decide +kernel)
  have hw13 := hts (.fieldLink RX4 16 "TurnedFields$OnTimes" "w" "J") (by decide +kernel)
  have hinX4 : ∀ w ∈ wsX40, w ∈ wsX4_lead := by decide +kernel
  refine lv_lload_n hx hb dX4_lead_0 rfl (lv_at hl 2 rfl) ?_
  refine lv_ldc2 hx hb hown hw0 dX4_lead_1 ?_
  refine lv_lmul hx hb dX4_lead_4 ?_
  refine lv_lload_n hx hb dX4_lead_5 rfl (lv_at hl 1 rfl) ?_
  refine lv_ldc2 hx hb hown hw1 dX4_lead_6 ?_
  refine lv_lmul hx hb dX4_lead_9 ?_
  refine lv_lsub hx hb dX4_lead_10 ?_
  refine lv_bipush (v := 16) hx hb dX4_lead_11 (by decide) ?_
  refine lv_lshr hx hb dX4_lead_13 (mw_sh _ _ 16 (by decide)) ?_
  refine lv_topl (fun v1 ev1 => ?_)
  refine lv_lstore (lv' := [(7, .long v1), (0, .ref h0), (1, .long p0), (3, .long p1), (5, .long p2)]) hx hb dX4_lead_14 hl (by decide) rfl (fun ls hl => ?_)
  refine lv_lload_n hx hb dX4_lead_16 rfl (lv_at hl 2 rfl) ?_
  refine lv_lneg hx hb dX4_lead_17 ?_
  refine lv_lload hx hb dX4_lead_18 (lv_at hl 0 rfl) ?_
  refine lv_lsub hx hb dX4_lead_20 ?_
  refine lv_topl (fun v2 ev2 => ?_)
  refine lv_lstore (lv' := [(9, .long v2), (7, .long v1), (0, .ref h0), (1, .long p0), (3, .long p1), (5, .long p2)]) hx hb dX4_lead_21 hl (by decide) rfl (fun ls hl => ?_)
  refine lv_lload_n hx hb dX4_lead_23 rfl (lv_at hl 3 rfl) ?_
  refine lv_lload hx hb dX4_lead_24 (lv_at hl 1 rfl) ?_
  refine lv_lload hx hb dX4_lead_26 (lv_at hl 0 rfl) ?_
  refine va_mmax_long hx hb (hml.trans hl.1.symm) hown hw2 hw3 hw4 hw5 (Nat.le_of_ble_eq_true rfl) (Nat.le_of_ble_eq_true rfl) (Nat.le_of_ble_eq_true rfl) (Nat.le_of_ble_eq_true rfl) dX4_lead_28 ?_
  refine lv_topl (fun v3 ev3 => ?_)
  refine va_mmax_long hx hb (hml.trans hl.1.symm) hown hw2 hw3 hw4 hw5 (Nat.le_of_ble_eq_true rfl) (Nat.le_of_ble_eq_true rfl) (Nat.le_of_ble_eq_true rfl) (Nat.le_of_ble_eq_true rfl) dX4_lead_31 ?_
  refine lv_topl (fun v4 ev4 => ?_)
  refine lv_lstore (lv' := [(11, .long v4), (9, .long v2), (7, .long v1), (0, .ref h0), (1, .long p0), (3, .long p1), (5, .long p2)]) hx hb dX4_lead_34 hl (by decide) rfl (fun ls hl => ?_)
  refine lv_lload_n hx hb dX4_lead_36 rfl (lv_at hl 4 rfl) ?_
  refine lv_lload hx hb dX4_lead_37 (lv_at hl 2 rfl) ?_
  refine lv_lload hx hb dX4_lead_39 (lv_at hl 1 rfl) ?_
  refine va_mmin_long hx hb (hml.trans hl.1.symm) hown hw6 hw7 hw4 hw8 (Nat.le_of_ble_eq_true rfl) (Nat.le_of_ble_eq_true rfl) (Nat.le_of_ble_eq_true rfl) (Nat.le_of_ble_eq_true rfl) dX4_lead_41 ?_
  refine lv_topl (fun v5 ev5 => ?_)
  refine va_mmin_long hx hb (hml.trans hl.1.symm) hown hw6 hw7 hw4 hw8 (Nat.le_of_ble_eq_true rfl) (Nat.le_of_ble_eq_true rfl) (Nat.le_of_ble_eq_true rfl) (Nat.le_of_ble_eq_true rfl) dX4_lead_44 ?_
  refine lv_topl (fun v6 ev6 => ?_)
  refine lv_lstore (lv' := [(13, .long v6), (11, .long v4), (9, .long v2), (7, .long v1), (0, .ref h0), (1, .long p0), (3, .long p1), (5, .long p2)]) hx hb dX4_lead_47 hl (by decide) rfl (fun ls hl => ?_)
  refine lv_lload hx hb dX4_lead_49 (lv_at hl 1 rfl) ?_
  refine lv_lload hx hb dX4_lead_51 (lv_at hl 0 rfl) ?_
  refine lv_ladd hx hb dX4_lead_53 ?_
  refine lv_ldc2 hx hb hown hw9 dX4_lead_54 ?_
  refine lv_ldiv hx hb dX4_lead_57 (by decide) ?_
  refine lv_topl (fun v7 ev7 => ?_)
  refine lv_lstore (lv' := [(15, .long v7), (13, .long v6), (11, .long v4), (9, .long v2), (7, .long v1), (0, .ref h0), (1, .long p0), (3, .long p1), (5, .long p2)]) hx hb dX4_lead_58 hl (by decide) rfl (fun ls hl => ?_)
  refine lv_aload_n hx hb dX4_lead_60 rfl (lv_at hl 5 rfl) ?_
  refine lv_iconst (v := 0) hx hb dX4_lead_61 (by decide) ?_
  refine va_put (D := (dC, dI)) (ci := 3) (v := .int (0 : Int32)) (ty := .boolean) (C := RX4) (T := TX4) (N := 4) hx hb hts hinX4 tyX4 tyX4_ok nmX4 hown hK hP hD hS 0 rfl rfl 3 (by decide) hw10 (fun _ h9 => h9) rfl (by decide +kernel) rfl rfl (Nat.le_of_ble_eq_true rfl) dX4_lead_62 (fun H locs hP hD hS => ?_)
  have hP : va_P (dC, dI) vwCl [(h0, .inr (3, [.long f_u, .long f_v, .long f_w, .int (0 : Int32)]))] H := hP
  have hD : va_D A [(h0, .inr (3, [.long f_u, .long f_v, .long f_w, .int (0 : Int32)]))] := hD
  refine lv_aload_n hx hb dX4_lead_65 rfl (lv_at hl 5 rfl) ?_
  refine lv_aload_n hx hb dX4_lead_66 rfl (lv_at hl 5 rfl) ?_
  refine lv_lload_n hx hb dX4_lead_67 rfl (lv_at hl 6 rfl) ?_
  refine lv_lload hx hb dX4_lead_68 (lv_at hl 0 rfl) ?_
  refine lv_lsub hx hb dX4_lead_70 ?_
  refine lv_lload hx hb dX4_lead_71 (lv_at hl 8 rfl) ?_
  refine mw_calll (wc := [(h0, .inr (3, [.long f_u, .long f_v, .long f_w, .int (0 : Int32)]))]) (wr := []) (w1 := fun u => [(h0, .inr (3, [.long f_u, .long f_v, .long f_w, .int u]))]) (tyc := fun u => []) hP hD hS hA [0] [] rfl rfl (by decide) (by decide) (va_runV (As := [.long (p0 - v7), .long p2]) (rest := [.ref h0]) ⟨hx, hb, hml, hown, hts⟩ (c_X4_onTime l dC dI h0 f_u f_v f_w (0 : Int32) (p0 - v7) p2 H.size ) (cwV 2 hts gX4_lead_X4_onTime rfl rfl rfl (by decide +kernel) ⟨(Nat.le_of_ble_eq_true rfl), (Nat.le_of_ble_eq_true rfl)⟩) (mw_preV (va_recv hK hP (ci := 3) (q0 := 0) rfl rfl) (hP.sub (ws' := [(h0, .inr (3, [.long f_u, .long f_v, .long f_w, .int (0 : Int32)]))]) [0] rfl) (hD.sub (ws' := [(h0, .inr (3, [.long f_u, .long f_v, .long f_w, .int (0 : Int32)]))]) [0] (by decide) rfl) (hK.sub (tys' := []) [] rfl) hN) rfl rfl hl.1 rfl (lv_room (Nat.le_of_ble_eq_true rfl)) dX4_lead_73 ⟨(Nat.le_of_ble_eq_true rfl), (Nat.le_of_ble_eq_true rfl)⟩) (fun r9 u H locs hw_10 hP hD hS hK1 => ?_)
  obtain ⟨o8, rfl⟩ : ∃ z, z = u := ⟨_, rfl⟩
  have hw_10 : R_X4_onTime (0 : Int32) (p0 - v7) p2 r9 o8 := hw_10
  have hP : va_P (dC, dI) vwCl [(h0, .inr (3, [.long f_u, .long f_v, .long f_w, .int o8]))] H := hP
  have hD : va_D A [(h0, .inr (3, [.long f_u, .long f_v, .long f_w, .int o8]))] := hD
  refine va_put (D := (dC, dI)) (ci := 3) (v := .long r9) (ty := .long) (C := RX4) (T := TX4) (N := 4) hx hb hts hinX4 tyX4 tyX4_ok nmX4 hown hK hP hD hS 0 rfl rfl 0 (by decide) hw11 (fun _ h9 => h9) rfl (by decide +kernel) rfl rfl (Nat.le_of_ble_eq_true rfl) dX4_lead_76 (fun H locs hP hD hS => ?_)
  have hP : va_P (dC, dI) vwCl [(h0, .inr (3, [.long r9, .long f_v, .long f_w, .int o8]))] H := hP
  have hD : va_D A [(h0, .inr (3, [.long r9, .long f_v, .long f_w, .int o8]))] := hD
  refine lv_aload_n hx hb dX4_lead_79 rfl (lv_at hl 5 rfl) ?_
  refine lv_aload_n hx hb dX4_lead_80 rfl (lv_at hl 5 rfl) ?_
  refine lv_lload hx hb dX4_lead_81 (lv_at hl 4 rfl) ?_
  refine lv_lload hx hb dX4_lead_83 (lv_at hl 0 rfl) ?_
  refine lv_lsub hx hb dX4_lead_85 ?_
  refine lv_lload hx hb dX4_lead_86 (lv_at hl 8 rfl) ?_
  refine mw_calll (wc := [(h0, .inr (3, [.long r9, .long f_v, .long f_w, .int o8]))]) (wr := []) (w1 := fun u => [(h0, .inr (3, [.long r9, .long f_v, .long f_w, .int u]))]) (tyc := fun u => []) hP hD hS hA [0] [] rfl rfl (by decide) (by decide) (va_runV (As := [.long (v1 - v7), .long p2]) (rest := [.ref h0]) ⟨hx, hb, hml, hown, hts⟩ (c_X4_onTime l dC dI h0 r9 f_v f_w o8 (v1 - v7) p2 H.size ) (cwV 2 hts gX4_lead_X4_onTime rfl rfl rfl (by decide +kernel) ⟨(Nat.le_of_ble_eq_true rfl), (Nat.le_of_ble_eq_true rfl)⟩) (mw_preV (va_recv hK hP (ci := 3) (q0 := 0) rfl rfl) (hP.sub (ws' := [(h0, .inr (3, [.long r9, .long f_v, .long f_w, .int o8]))]) [0] rfl) (hD.sub (ws' := [(h0, .inr (3, [.long r9, .long f_v, .long f_w, .int o8]))]) [0] (by decide) rfl) (hK.sub (tys' := []) [] rfl) hN) rfl rfl hl.1 rfl (lv_room (Nat.le_of_ble_eq_true rfl)) dX4_lead_88 ⟨(Nat.le_of_ble_eq_true rfl), (Nat.le_of_ble_eq_true rfl)⟩) (fun r12 u H locs hw_13 hP hD hS hK1 => ?_)
  obtain ⟨o11, rfl⟩ : ∃ z, z = u := ⟨_, rfl⟩
  have hw_13 : R_X4_onTime o8 (v1 - v7) p2 r12 o11 := hw_13
  have hP : va_P (dC, dI) vwCl [(h0, .inr (3, [.long r9, .long f_v, .long f_w, .int o11]))] H := hP
  have hD : va_D A [(h0, .inr (3, [.long r9, .long f_v, .long f_w, .int o11]))] := hD
  refine va_put (D := (dC, dI)) (ci := 3) (v := .long r12) (ty := .long) (C := RX4) (T := TX4) (N := 4) hx hb hts hinX4 tyX4 tyX4_ok nmX4 hown hK hP hD hS 0 rfl rfl 1 (by decide) hw12 (fun _ h9 => h9) rfl (by decide +kernel) rfl rfl (Nat.le_of_ble_eq_true rfl) dX4_lead_91 (fun H locs hP hD hS => ?_)
  have hP : va_P (dC, dI) vwCl [(h0, .inr (3, [.long r9, .long r12, .long f_w, .int o11]))] H := hP
  have hD : va_D A [(h0, .inr (3, [.long r9, .long r12, .long f_w, .int o11]))] := hD
  refine lv_aload_n hx hb dX4_lead_94 rfl (lv_at hl 5 rfl) ?_
  refine lv_aload_n hx hb dX4_lead_95 rfl (lv_at hl 5 rfl) ?_
  refine lv_lload hx hb dX4_lead_96 (lv_at hl 3 rfl) ?_
  refine lv_lload hx hb dX4_lead_98 (lv_at hl 0 rfl) ?_
  refine lv_lsub hx hb dX4_lead_100 ?_
  refine lv_lload hx hb dX4_lead_101 (lv_at hl 8 rfl) ?_
  refine mw_calll (wc := [(h0, .inr (3, [.long r9, .long r12, .long f_w, .int o11]))]) (wr := []) (w1 := fun u => [(h0, .inr (3, [.long r9, .long r12, .long f_w, .int u]))]) (tyc := fun u => []) hP hD hS hA [0] [] rfl rfl (by decide) (by decide) (va_runV (As := [.long (v2 - v7), .long p2]) (rest := [.ref h0]) ⟨hx, hb, hml, hown, hts⟩ (c_X4_onTime l dC dI h0 r9 r12 f_w o11 (v2 - v7) p2 H.size ) (cwV 2 hts gX4_lead_X4_onTime rfl rfl rfl (by decide +kernel) ⟨(Nat.le_of_ble_eq_true rfl), (Nat.le_of_ble_eq_true rfl)⟩) (mw_preV (va_recv hK hP (ci := 3) (q0 := 0) rfl rfl) (hP.sub (ws' := [(h0, .inr (3, [.long r9, .long r12, .long f_w, .int o11]))]) [0] rfl) (hD.sub (ws' := [(h0, .inr (3, [.long r9, .long r12, .long f_w, .int o11]))]) [0] (by decide) rfl) (hK.sub (tys' := []) [] rfl) hN) rfl rfl hl.1 rfl (lv_room (Nat.le_of_ble_eq_true rfl)) dX4_lead_103 ⟨(Nat.le_of_ble_eq_true rfl), (Nat.le_of_ble_eq_true rfl)⟩) (fun r15 u H locs hw_16 hP hD hS hK1 => ?_)
  obtain ⟨o14, rfl⟩ : ∃ z, z = u := ⟨_, rfl⟩
  have hw_16 : R_X4_onTime o11 (v2 - v7) p2 r15 o14 := hw_16
  have hP : va_P (dC, dI) vwCl [(h0, .inr (3, [.long r9, .long r12, .long f_w, .int o14]))] H := hP
  have hD : va_D A [(h0, .inr (3, [.long r9, .long r12, .long f_w, .int o14]))] := hD
  refine va_put (D := (dC, dI)) (ci := 3) (v := .long r15) (ty := .long) (C := RX4) (T := TX4) (N := 4) hx hb hts hinX4 tyX4 tyX4_ok nmX4 hown hK hP hD hS 0 rfl rfl 2 (by decide) hw13 (fun _ h9 => h9) rfl (by decide +kernel) rfl rfl (Nat.le_of_ble_eq_true rfl) dX4_lead_106 (fun H locs hP hD hS => ?_)
  have hP : va_P (dC, dI) vwCl [(h0, .inr (3, [.long r9, .long r12, .long r15, .int o14]))] H := hP
  have hD : va_D A [(h0, .inr (3, [.long r9, .long r12, .long r15, .int o14]))] := hD
  have hP9 := hP.sub (ws' := [(h0, .inr (3, [.long r9, .long r12, .long r15, .int o14]))]) [0] rfl
  have hD9 := hD.sub (ws' := [(h0, .inr (3, [.long r9, .long r12, .long r15, .int o14]))]) [0] (by decide) rfl
  have hK9 := hK.sub (tys' := []) [] rfl
  exact W.vret hx hb hr (fun t ht hW => ⟨⟨(r9, r12, r15, o14), rfl, ⟨v1, ev1, ⟨v2, ev2, ⟨v3, ev3, ⟨v4, ev4, ⟨v5, ev5, ⟨v6, ev6, ⟨v7, ev7, ⟨r9, o8, hw_10, ⟨r12, o11, hw_13, ⟨r15, o14, hw_16, ⟨rfl, rfl, rfl, rfl⟩⟩⟩⟩⟩⟩⟩⟩⟩⟩⟩, (by rw [ht]; exact hP9), va_K.moved hW.alike hK9, hD9⟩, hS.F ht⟩) hS.2.2 dX4_lead_109
def R_X0_note (f_next : Int32) (f_held : Int32) (fn_rows : Nat → Int32) (p0 : Int32) (p1 : Int32) (p2 : Int32) (u_0_next : Int32) (u_0_held : Int32) (u_1_fn : Nat → Int32) : Prop := ∃ (r1 : Int32), R_J9_floorMod_7cf53 f_next (20 : Int32) r1 ∧ (∃ v3 : Int32, v3 = (r1 * (3 : Int32)) ∧ (∃ g4 : Nat → Int32, g4 = upd fn_rows v3.toNatClampNeg p0 ∧ (∃ g5 : Nat → Int32, g5 = upd g4 (v3 + (1 : Int32)).toNatClampNeg p1 ∧ (∃ g6 : Nat → Int32, g6 = upd g5 (v3 + (2 : Int32)).toNatClampNeg p2 ∧ (∃ v7 : Int32, v7 = ((f_next + (1 : Int32)) - (f_next + (1 : Int32)) / (20 : Int32) * (20 : Int32)) ∧ (∃ v8 : Int32, v8 = (if (f_held + (1 : Int32)) < (20 : Int32) then (f_held + (1 : Int32)) else (20 : Int32)) ∧ (u_0_next = v7 ∧ u_0_held = v8 ∧ u_1_fn = g6)))))))
set_option maxHeartbeats 4000000 in
set_option maxRecDepth 100000 in
theorem c_X0_note (l : Launch) (dC : Nat → ClassId) (dI : Nat → Nat → Nat) (h0 : Nat) (a_rows : Nat) (f_next : Int32) (f_held : Int32) (ca_rows : ClassId) (fn_rows : Nat → Int32) (p0 : Int32) (p1 : Int32) (p2 : Int32) (sz : Nat)  : Met l yX0_note wsX0_note ({ frames := 1, cells := 0, slots := 0, locals := 22 }) (va_Pc [.ref h0, .int p0, .int p1, .int p2] (mw_pre (dC, dI) vwCl [(h0, .inr (0, [.ref a_rows, .int f_next, .int f_held])), (a_rows, .inl (ca_rows, 60, .inl fn_rows))] [(ca_rows, .int)] sz)) (va_Qv (fun (u : Int32 × Int32 × (Nat → Int32)) => R_X0_note f_next f_held fn_rows p0 p1 p2 u.1 u.2.1 u.2.2) (fun u t => mw_at (dC, dI) vwCl [(h0, .inr (0, [.ref a_rows, .int u.1, .int u.2.1])), (a_rows, .inl (ca_rows, 60, .inl u.2.2))] [(ca_rows, .int)] (va_A [(h0, .inr (0, [.ref a_rows, .int f_next, .int f_held])), (a_rows, .inl (ca_rows, 60, .inl fn_rows))] sz) t) (va_A [(h0, .inr (0, [.ref a_rows, .int f_next, .int f_held])), (a_rows, .inl (ca_rows, 60, .inl fn_rows))] sz)) 0 0 (va_A [(h0, .inr (0, [.ref a_rows, .int f_next, .int f_held])), (a_rows, .inl (ca_rows, 60, .inl fn_rows))] sz) := by
  refine Met.ofW (cc := cX0_note) (maxL := 5) (ret := none) (by decide) rfl ?_
  intro p e s m args below meth c s₁ B hml hv
  obtain ⟨rfl, hsz, hP, hK, hD0, hN⟩ := hv
  have hx := B.exec
  have hb := B.bytes
  have hr := B.returns
  have hts := atoms_spec (ws := wsX0_note) B.pre
  have hown : s.vm.findClass RX0 = some m.cls := findClass_of_methodNamed B.named
  have hlocks := B.notSynchronized
  subst hsz
  have hD := hD0.self (sz := s.heap.size)
  generalize hAe : va_A [(h0, .inr (0, [.ref a_rows, .int f_next, .int f_held])), (a_rows, .inl (ca_rows, 60, .inl fn_rows))] s.heap.size = A at hD ⊢
  have hA : ∀ q : Nat, s.heap.size ≤ q → A q := fun q h => by rw [← hAe]; exact Or.inr h
  have hS : va_S A s.heap s.heap [] := va_S.rf
  have hP : va_P (dC, dI) vwCl [(h0, .inr (0, [.ref a_rows, .int f_next, .int f_held])), (a_rows, .inl (ca_rows, 60, .inl fn_rows))] s.heap := hP
  have hl := lv_entry ([.ref h0, .int p0, .int p1, .int p2]) (n := 5) (Nat.le_of_ble_eq_true rfl)
  rw [lg_entry_eq]
  generalize (lg_sl ([.ref h0, .int p0, .int p1, .int p2]) ++ List.replicate (5 - (lg_sl ([.ref h0, .int p0, .int p1, .int p2])).length) Slot.unset).toArray = ls at hl ⊢
  have hl : lv_has ls 5 [(0, .ref h0), (1, .int p0), (2, .int p1), (3, .int p2)] := hl
  have hw0 := hts (.fieldLink RX0 15 "TurnedFields$Changes" "next" "I") (by decide +kernel)
  have hw1 := hts (.fieldLink RX0 11 "TurnedFields$Changes" "rows" "[I") (by decide +kernel)
  have hw2 := hts (.fieldLink RX0 19 "TurnedFields$Changes" "held" "I") (by decide +kernel)
  have hw3 := hts (.methodLink RX0 28 Lib.Math.min.name) (by decide +kernel)
  have hw4 := hts (.static Lib.Math.min.name) (by decide +kernel)
  have hw5 := hts (.initialized "java/lang/Math") (by decide +kernel)
  have hw6 := hts (.code Lib.Math.min.name Lib.Math.min.code 2 (some .int)) (by decide +kernel)
  have hinX0 : ∀ w ∈ wsX00, w ∈ wsX0_note := by decide +kernel
  refine lv_aload_n hx hb dX0_note_0 rfl (lv_at hl 0 rfl) ?_
  refine va_get (D := (dC, dI)) (ci := 0) (v := .int f_next) (C := RX0) (T := TX0) (N := 3) hx hb hts hinX0 hown hK hP 0 rfl rfl 1 (by decide) hw0 (fun _ h9 => h9) rfl dX0_note_1 ?_
  refine lv_bipush (v := 20) hx hb dX0_note_4 (by decide) ?_
  refine mw_calli (wc := []) (wr := [(h0, .inr (0, [.ref a_rows, .int f_next, .int f_held])), (a_rows, .inl (ca_rows, 60, .inl fn_rows))]) (w1 := fun u => []) (tyc := fun u => []) hP hD hS hA [] [0, 1] rfl rfl (by decide) (by decide) (va_runS (As := [.int f_next, .int (20 : Int32)]) (rest := []) ⟨hx, hb, hml, hown, hts⟩ (c_J9_floorMod_7cf53 l dC dI f_next (20 : Int32) s.heap.size (by first | assumption | decide | sorry)) (va_cwS 2 hts gX0_note_J9_floorMod_7cf53 rfl rfl rfl (by decide +kernel) ⟨(Nat.le_of_ble_eq_true rfl), (Nat.le_of_ble_eq_true rfl)⟩) (mw_preS (hP.sub (ws' := []) [] rfl) (hD.sub (ws' := []) [] (by decide) rfl) (hK.sub (tys' := []) [] rfl) hN) rfl rfl hl.1 rfl (lv_room (Nat.le_of_ble_eq_true rfl)) dX0_note_6 ⟨(Nat.le_of_ble_eq_true rfl), (Nat.le_of_ble_eq_true rfl)⟩) (fun r1 u H locs hw_2 hP hD hS hK1 => ?_)
  have hw_2 : R_J9_floorMod_7cf53 f_next (20 : Int32) r1 := hw_2
  have hP : va_P (dC, dI) vwCl [(h0, .inr (0, [.ref a_rows, .int f_next, .int f_held])), (a_rows, .inl (ca_rows, 60, .inl fn_rows))] H := hP
  have hD : va_D A [(h0, .inr (0, [.ref a_rows, .int f_next, .int f_held])), (a_rows, .inl (ca_rows, 60, .inl fn_rows))] := hD
  refine lv_iconst (v := 3) hx hb dX0_note_9 (by decide) ?_
  refine lv_imul hx hb dX0_note_10 ?_
  refine lv_topi (fun v3 ev3 => ?_)
  refine lv_istore (lv' := [(4, .int v3), (0, .ref h0), (1, .int p0), (2, .int p1), (3, .int p2)]) hx hb dX0_note_11 hl (by decide) rfl (fun ls hl => ?_)
  refine lv_aload_n hx hb dX0_note_13 rfl (lv_at hl 1 rfl) ?_
  refine va_get (D := (dC, dI)) (ci := 0) (v := .ref a_rows) (C := RX0) (T := TX0) (N := 3) hx hb hts hinX0 hown hK hP 0 rfl rfl 0 (by decide) hw1 (fun _ h9 => h9) rfl dX0_note_14 ?_
  refine lv_iload hx hb dX0_note_17 (lv_at hl 0 rfl) ?_
  refine lv_iload_n hx hb dX0_note_19 rfl (lv_at hl 2 rfl) ?_
  refine va_iast hx hb hK hP hD hS 1 0 rfl rfl (ar_ix hw_2 ev3).1 dX0_note_20 (fun H locs hP hD hS => ?_)
  obtain ⟨g4, eg4⟩ : ∃ g : Nat → Int32, g = upd fn_rows v3.toNatClampNeg p0 := ⟨_, rfl⟩
  have hP : va_P (dC, dI) vwCl [(h0, .inr (0, [.ref a_rows, .int f_next, .int f_held])), (a_rows, .inl (ca_rows, 60, .inl g4))] H := by rw [eg4]; exact hP
  have hD : va_D A [(h0, .inr (0, [.ref a_rows, .int f_next, .int f_held])), (a_rows, .inl (ca_rows, 60, .inl g4))] := by rw [eg4]; exact hD
  refine lv_aload_n hx hb dX0_note_21 rfl (lv_at hl 1 rfl) ?_
  refine va_get (D := (dC, dI)) (ci := 0) (v := .ref a_rows) (C := RX0) (T := TX0) (N := 3) hx hb hts hinX0 hown hK hP 0 rfl rfl 0 (by decide) hw1 (fun _ h9 => h9) rfl dX0_note_22 ?_
  refine lv_iload hx hb dX0_note_25 (lv_at hl 0 rfl) ?_
  refine lv_iconst (v := 1) hx hb dX0_note_27 (by decide) ?_
  refine lv_iadd hx hb dX0_note_28 ?_
  refine lv_iload_n hx hb dX0_note_29 rfl (lv_at hl 3 rfl) ?_
  refine va_iast hx hb hK hP hD hS 1 0 rfl rfl (ar_ix hw_2 ev3).2.1 dX0_note_30 (fun H locs hP hD hS => ?_)
  obtain ⟨g5, eg5⟩ : ∃ g : Nat → Int32, g = upd g4 (v3 + (1 : Int32)).toNatClampNeg p1 := ⟨_, rfl⟩
  have hP : va_P (dC, dI) vwCl [(h0, .inr (0, [.ref a_rows, .int f_next, .int f_held])), (a_rows, .inl (ca_rows, 60, .inl g5))] H := by rw [eg5]; exact hP
  have hD : va_D A [(h0, .inr (0, [.ref a_rows, .int f_next, .int f_held])), (a_rows, .inl (ca_rows, 60, .inl g5))] := by rw [eg5]; exact hD
  refine lv_aload_n hx hb dX0_note_31 rfl (lv_at hl 1 rfl) ?_
  refine va_get (D := (dC, dI)) (ci := 0) (v := .ref a_rows) (C := RX0) (T := TX0) (N := 3) hx hb hts hinX0 hown hK hP 0 rfl rfl 0 (by decide) hw1 (fun _ h9 => h9) rfl dX0_note_32 ?_
  refine lv_iload hx hb dX0_note_35 (lv_at hl 0 rfl) ?_
  refine lv_iconst (v := 2) hx hb dX0_note_37 (by decide) ?_
  refine lv_iadd hx hb dX0_note_38 ?_
  refine lv_iload_n hx hb dX0_note_39 rfl (lv_at hl 4 rfl) ?_
  refine va_iast hx hb hK hP hD hS 1 0 rfl rfl (ar_ix hw_2 ev3).2.2 dX0_note_40 (fun H locs hP hD hS => ?_)
  obtain ⟨g6, eg6⟩ : ∃ g : Nat → Int32, g = upd g5 (v3 + (2 : Int32)).toNatClampNeg p2 := ⟨_, rfl⟩
  have hP : va_P (dC, dI) vwCl [(h0, .inr (0, [.ref a_rows, .int f_next, .int f_held])), (a_rows, .inl (ca_rows, 60, .inl g6))] H := by rw [eg6]; exact hP
  have hD : va_D A [(h0, .inr (0, [.ref a_rows, .int f_next, .int f_held])), (a_rows, .inl (ca_rows, 60, .inl g6))] := by rw [eg6]; exact hD
  refine lv_aload_n hx hb dX0_note_41 rfl (lv_at hl 1 rfl) ?_
  refine lv_aload_n hx hb dX0_note_42 rfl (lv_at hl 1 rfl) ?_
  refine va_get (D := (dC, dI)) (ci := 0) (v := .int f_next) (C := RX0) (T := TX0) (N := 3) hx hb hts hinX0 hown hK hP 0 rfl rfl 1 (by decide) hw0 (fun _ h9 => h9) rfl dX0_note_43 ?_
  refine lv_iconst (v := 1) hx hb dX0_note_46 (by decide) ?_
  refine lv_iadd hx hb dX0_note_47 ?_
  refine lv_bipush (v := 20) hx hb dX0_note_48 (by decide) ?_
  refine lv_irem hx hb dX0_note_50 (by decide) ?_
  refine lv_topi (fun v7 ev7 => ?_)
  refine va_put (D := (dC, dI)) (ci := 0) (v := .int v7) (ty := .int) (C := RX0) (T := TX0) (N := 3) hx hb hts hinX0 tyX0 tyX0_ok nmX0 hown hK hP hD hS 0 rfl rfl 1 (by decide) hw0 (fun _ h9 => h9) rfl (by decide +kernel) rfl rfl (Nat.le_of_ble_eq_true rfl) dX0_note_51 (fun H locs hP hD hS => ?_)
  have hP : va_P (dC, dI) vwCl [(h0, .inr (0, [.ref a_rows, .int v7, .int f_held])), (a_rows, .inl (ca_rows, 60, .inl g6))] H := hP
  have hD : va_D A [(h0, .inr (0, [.ref a_rows, .int v7, .int f_held])), (a_rows, .inl (ca_rows, 60, .inl g6))] := hD
  refine lv_aload_n hx hb dX0_note_54 rfl (lv_at hl 1 rfl) ?_
  refine lv_bipush (v := 20) hx hb dX0_note_55 (by decide) ?_
  refine lv_aload_n hx hb dX0_note_57 rfl (lv_at hl 1 rfl) ?_
  refine va_get (D := (dC, dI)) (ci := 0) (v := .int f_held) (C := RX0) (T := TX0) (N := 3) hx hb hts hinX0 hown hK hP 0 rfl rfl 2 (by decide) hw2 (fun _ h9 => h9) rfl dX0_note_58 ?_
  refine lv_iconst (v := 1) hx hb dX0_note_61 (by decide) ?_
  refine lv_iadd hx hb dX0_note_62 ?_
  refine va_mmin hx hb (hml.trans hl.1.symm) hown hw3 hw4 hw5 hw6 (Nat.le_of_ble_eq_true rfl) (Nat.le_of_ble_eq_true rfl) (Nat.le_of_ble_eq_true rfl) (Nat.le_of_ble_eq_true rfl) dX0_note_63 ?_
  refine lv_topi (fun v8 ev8 => ?_)
  refine va_put (D := (dC, dI)) (ci := 0) (v := .int v8) (ty := .int) (C := RX0) (T := TX0) (N := 3) hx hb hts hinX0 tyX0 tyX0_ok nmX0 hown hK hP hD hS 0 rfl rfl 2 (by decide) hw2 (fun _ h9 => h9) rfl (by decide +kernel) rfl rfl (Nat.le_of_ble_eq_true rfl) dX0_note_66 (fun H locs hP hD hS => ?_)
  have hP : va_P (dC, dI) vwCl [(h0, .inr (0, [.ref a_rows, .int v7, .int v8])), (a_rows, .inl (ca_rows, 60, .inl g6))] H := hP
  have hD : va_D A [(h0, .inr (0, [.ref a_rows, .int v7, .int v8])), (a_rows, .inl (ca_rows, 60, .inl g6))] := hD
  have hP9 := hP.sub (ws' := [(h0, .inr (0, [.ref a_rows, .int v7, .int v8])), (a_rows, .inl (ca_rows, 60, .inl g6))]) [0, 1] rfl
  have hD9 := hD.sub (ws' := [(h0, .inr (0, [.ref a_rows, .int v7, .int v8])), (a_rows, .inl (ca_rows, 60, .inl g6))]) [0, 1] (by decide) rfl
  have hK9 := hK.sub (tys' := [(ca_rows, .int)]) [0] rfl
  exact W.vret hx hb hr (fun t ht hW => ⟨⟨(v7, v8, g6), rfl, ⟨r1, hw_2, ⟨v3, ev3, ⟨g4, eg4, ⟨g5, eg5, ⟨g6, eg6, ⟨v7, ev7, ⟨v8, ev8, ⟨rfl, rfl, rfl⟩⟩⟩⟩⟩⟩⟩⟩, (by rw [ht]; exact hP9), va_K.moved hW.alike hK9, hD9⟩, hS.F ht⟩) hS.2.2 dX0_note_69
def R_X0_latest (f_next : Int32) (f_held : Int32) (fn_rows : Nat → Int32) (p0 : Int32) (p1 : Int32) (r : Int32) : Prop := ∃ (r1 : Int32), R_X5_within p1 (0 : Int32) (2 : Int32) r1 ∧ ((r1 = (0 : Int32) → (r = (-1000001 : Int32))) ∧ (¬ (r1 = (0 : Int32)) → ((p0 < (0 : Int32) → (r = (-1 : Int32))) ∧ (¬ (p0 < (0 : Int32)) → ((p0 < f_held → (∃ (r6 : Int32), R_J9_floorMod_7cf53 ((f_next - (1 : Int32)) - p0) (20 : Int32) r6 ∧ (∃ v8 : Int32, v8 = fn_rows ((r6 * (3 : Int32)) + p1).toNatClampNeg ∧ (r = v8)))) ∧ (¬ (p0 < f_held) → (r = (-1 : Int32))))))))
set_option maxHeartbeats 4000000 in
set_option maxRecDepth 100000 in
theorem c_X0_latest (l : Launch) (dC : Nat → ClassId) (dI : Nat → Nat → Nat) (h0 : Nat) (a_rows : Nat) (f_next : Int32) (f_held : Int32) (ca_rows : ClassId) (fn_rows : Nat → Int32) (p0 : Int32) (p1 : Int32) (sz : Nat)  : Met l yX0_latest wsX0_latest ({ frames := 1, cells := 0, slots := 0, locals := 22 }) (va_Pc [.ref h0, .int p0, .int p1] (mw_pre (dC, dI) vwCl [(h0, .inr (0, [.ref a_rows, .int f_next, .int f_held])), (a_rows, .inl (ca_rows, 60, .inl fn_rows))] [(ca_rows, .int)] sz)) (va_Qi (fun (r : Int32) (u : Unit) => R_X0_latest f_next f_held fn_rows p0 p1 r) (fun u t => mw_at (dC, dI) vwCl [(h0, .inr (0, [.ref a_rows, .int f_next, .int f_held])), (a_rows, .inl (ca_rows, 60, .inl fn_rows))] [(ca_rows, .int)] (va_A [(h0, .inr (0, [.ref a_rows, .int f_next, .int f_held])), (a_rows, .inl (ca_rows, 60, .inl fn_rows))] sz) t) (va_A [(h0, .inr (0, [.ref a_rows, .int f_next, .int f_held])), (a_rows, .inl (ca_rows, 60, .inl fn_rows))] sz)) 0 0 (va_A [(h0, .inr (0, [.ref a_rows, .int f_next, .int f_held])), (a_rows, .inl (ca_rows, 60, .inl fn_rows))] sz) := by
  refine Met.ofW (cc := cX0_latest) (maxL := 3) (ret := (some .int)) (by decide) rfl ?_
  intro p e s m args below meth c s₁ B hml hv
  obtain ⟨rfl, hsz, hP, hK, hD0, hN⟩ := hv
  have hx := B.exec
  have hb := B.bytes
  have hr := B.returns
  have hts := atoms_spec (ws := wsX0_latest) B.pre
  have hown : s.vm.findClass RX0 = some m.cls := findClass_of_methodNamed B.named
  have hlocks := B.notSynchronized
  subst hsz
  have hD := hD0.self (sz := s.heap.size)
  generalize hAe : va_A [(h0, .inr (0, [.ref a_rows, .int f_next, .int f_held])), (a_rows, .inl (ca_rows, 60, .inl fn_rows))] s.heap.size = A at hD ⊢
  have hA : ∀ q : Nat, s.heap.size ≤ q → A q := fun q h => by rw [← hAe]; exact Or.inr h
  have hS : va_S A s.heap s.heap [] := va_S.rf
  have hP : va_P (dC, dI) vwCl [(h0, .inr (0, [.ref a_rows, .int f_next, .int f_held])), (a_rows, .inl (ca_rows, 60, .inl fn_rows))] s.heap := hP
  have hl := lv_entry ([.ref h0, .int p0, .int p1]) (n := 3) (Nat.le_of_ble_eq_true rfl)
  rw [lg_entry_eq]
  generalize (lg_sl ([.ref h0, .int p0, .int p1]) ++ List.replicate (3 - (lg_sl ([.ref h0, .int p0, .int p1])).length) Slot.unset).toArray = ls at hl ⊢
  have hl : lv_has ls 3 [(0, .ref h0), (1, .int p0), (2, .int p1)] := hl
  have hw0 := hts (.initialized RX5) (by decide +kernel)
  have hw1 := hts (.static yX5_within) (by decide +kernel)
  have hw2 := hts (.fieldLink RX0 19 "TurnedFields$Changes" "held" "I") (by decide +kernel)
  have hw3 := hts (.fieldLink RX0 11 "TurnedFields$Changes" "rows" "[I") (by decide +kernel)
  have hw4 := hts (.fieldLink RX0 15 "TurnedFields$Changes" "next" "I") (by decide +kernel)
  have hw5 := hts (.constant RX0 35 (-1000001)) (by decide +kernel)
  have hinX0 : ∀ w ∈ wsX00, w ∈ wsX0_latest := by decide +kernel
  refine lv_iload_n hx hb dX0_latest_0 rfl (lv_at hl 2 rfl) ?_
  refine lv_iconst (v := 0) hx hb dX0_latest_1 (by decide) ?_
  refine lv_iconst (v := 2) hx hb dX0_latest_2 (by decide) ?_
  refine mw_calli (wc := []) (wr := [(h0, .inr (0, [.ref a_rows, .int f_next, .int f_held])), (a_rows, .inl (ca_rows, 60, .inl fn_rows))]) (w1 := fun u => []) (tyc := fun u => []) hP hD hS hA [] [0, 1] rfl rfl (by decide) (by decide) (va_runSN (As := [.int p1, .int (0 : Int32), .int (2 : Int32)]) (rest := []) ⟨hx, hb, hml, hown, hts⟩ (c_X5_within l dC dI p1 (0 : Int32) (2 : Int32) s.heap.size ) ⟨va_cnB 3 hts gX0_latest_X5_within_n31 rfl rfl rfl (hN.at 8 rfl) hw0 (by decide +kernel) ⟨(Nat.le_of_ble_eq_true rfl), (Nat.le_of_ble_eq_true rfl)⟩, hw1, trivial⟩ (mw_preS (hP.sub (ws' := []) [] rfl) (hD.sub (ws' := []) [] (by decide) rfl) (hK.sub (tys' := []) [] rfl) hN) rfl rfl hl.1 rfl (lv_room (Nat.le_of_ble_eq_true rfl)) dX0_latest_3 ⟨(Nat.le_of_ble_eq_true rfl), (Nat.le_of_ble_eq_true rfl)⟩) (fun r1 u H locs hw_2 hP hD hS hK1 => ?_)
  have hw_2 : R_X5_within p1 (0 : Int32) (2 : Int32) r1 := hw_2
  have hP : va_P (dC, dI) vwCl [(h0, .inr (0, [.ref a_rows, .int f_next, .int f_held])), (a_rows, .inl (ca_rows, 60, .inl fn_rows))] H := hP
  have hD : va_D A [(h0, .inr (0, [.ref a_rows, .int f_next, .int f_held])), (a_rows, .inl (ca_rows, 60, .inl fn_rows))] := hD
  refine lv_if_ne (tgt := 12) hx hb dX0_latest_6 (by decide) (fun c3 => ?_) (fun c3 => ?_)
  · have c3 : ¬ (r1 = (0 : Int32)) := c3
    refine lv_iload_n hx hb dX0_latest_12 rfl (lv_at hl 1 rfl) ?_
    refine lv_if_lt (tgt := 24) hx hb dX0_latest_13 (by decide) (fun c4 => ?_) (fun c4 => ?_)
    · have c4 : p0 < (0 : Int32) := c4
      refine lv_iconst (v := -1) hx hb dX0_latest_24 (by decide) ?_
      have hP9 := hP.sub (ws' := [(h0, .inr (0, [.ref a_rows, .int f_next, .int f_held])), (a_rows, .inl (ca_rows, 60, .inl fn_rows))]) [0, 1] rfl
      have hD9 := hD.sub (ws' := [(h0, .inr (0, [.ref a_rows, .int f_next, .int f_held])), (a_rows, .inl (ca_rows, 60, .inl fn_rows))]) [0, 1] (by decide) rfl
      have hK9 := hK.sub (tys' := [(ca_rows, .int)]) [0] rfl
      exact W.iret (v := (-1 : Int32)) hx hb hr (fun t ht hW => ⟨⟨(-1 : Int32), (), rfl, ⟨r1, hw_2, ⟨fun hh => absurd hh c3, fun _ => ⟨fun _ => rfl, fun hh => absurd c4 hh⟩⟩⟩, (by rw [ht]; exact hP9), va_K.moved hW.alike hK9, hD9⟩, hS.F ht⟩) hS.2.2 dX0_latest_25
    · have c4 : ¬ (p0 < (0 : Int32)) := c4
      refine lv_iload_n hx hb dX0_latest_16 rfl (lv_at hl 1 rfl) ?_
      refine lv_aload_n hx hb dX0_latest_17 rfl (lv_at hl 0 rfl) ?_
      refine va_get (D := (dC, dI)) (ci := 0) (v := .int f_held) (C := RX0) (T := TX0) (N := 3) hx hb hts hinX0 hown hK hP 0 rfl rfl 2 (by decide) hw2 (fun _ h9 => h9) rfl dX0_latest_18 ?_
      refine lv_icmp_lt (tgt := 26) hx hb dX0_latest_21 (by decide) (fun c5 => ?_) (fun c5 => ?_)
      · refine lv_aload_n hx hb dX0_latest_26 rfl (lv_at hl 0 rfl) ?_
        refine va_get (D := (dC, dI)) (ci := 0) (v := .ref a_rows) (C := RX0) (T := TX0) (N := 3) hx hb hts hinX0 hown hK hP 0 rfl rfl 0 (by decide) hw3 (fun _ h9 => h9) rfl dX0_latest_27 ?_
        refine lv_aload_n hx hb dX0_latest_30 rfl (lv_at hl 0 rfl) ?_
        refine va_get (D := (dC, dI)) (ci := 0) (v := .int f_next) (C := RX0) (T := TX0) (N := 3) hx hb hts hinX0 hown hK hP 0 rfl rfl 1 (by decide) hw4 (fun _ h9 => h9) rfl dX0_latest_31 ?_
        refine lv_iconst (v := 1) hx hb dX0_latest_34 (by decide) ?_
        refine lv_isub hx hb dX0_latest_35 ?_
        refine lv_iload_n hx hb dX0_latest_36 rfl (lv_at hl 1 rfl) ?_
        refine lv_isub hx hb dX0_latest_37 ?_
        refine lv_bipush (v := 20) hx hb dX0_latest_38 (by decide) ?_
        refine mw_calli (wc := []) (wr := [(h0, .inr (0, [.ref a_rows, .int f_next, .int f_held])), (a_rows, .inl (ca_rows, 60, .inl fn_rows))]) (w1 := fun u => []) (tyc := fun u => []) hP hD hS hA [] [0, 1] rfl rfl (by decide) (by decide) (va_runS (As := [.int ((f_next - (1 : Int32)) - p0), .int (20 : Int32)]) (rest := [.ref a_rows]) ⟨hx, hb, hml, hown, hts⟩ (c_J9_floorMod_7cf53 l dC dI ((f_next - (1 : Int32)) - p0) (20 : Int32) H.size (by first | assumption | decide | sorry)) (va_cwS 2 hts gX0_latest_J9_floorMod_7cf53 rfl rfl rfl (by decide +kernel) ⟨(Nat.le_of_ble_eq_true rfl), (Nat.le_of_ble_eq_true rfl)⟩) (mw_preS (hP.sub (ws' := []) [] rfl) (hD.sub (ws' := []) [] (by decide) rfl) (hK.sub (tys' := []) [] rfl) hN) rfl rfl hl.1 rfl (lv_room (Nat.le_of_ble_eq_true rfl)) dX0_latest_40 ⟨(Nat.le_of_ble_eq_true rfl), (Nat.le_of_ble_eq_true rfl)⟩) (fun r6 u H locs hw_7 hP hD hS hK1 => ?_)
        have hw_7 : R_J9_floorMod_7cf53 ((f_next - (1 : Int32)) - p0) (20 : Int32) r6 := hw_7
        have hP : va_P (dC, dI) vwCl [(h0, .inr (0, [.ref a_rows, .int f_next, .int f_held])), (a_rows, .inl (ca_rows, 60, .inl fn_rows))] H := hP
        have hD : va_D A [(h0, .inr (0, [.ref a_rows, .int f_next, .int f_held])), (a_rows, .inl (ca_rows, 60, .inl fn_rows))] := hD
        refine lv_iconst (v := 3) hx hb dX0_latest_43 (by decide) ?_
        refine lv_imul hx hb dX0_latest_44 ?_
        refine lv_iload_n hx hb dX0_latest_45 rfl (lv_at hl 2 rfl) ?_
        refine lv_iadd hx hb dX0_latest_46 ?_
        refine va_iald hx hb hK hP 1 0 rfl rfl (ar_ix2 hw_7 (ar_within hw_2 c3)) dX0_latest_47 ?_
        refine lv_topi (fun v8 ev8 => ?_)
        have hP9 := hP.sub (ws' := [(h0, .inr (0, [.ref a_rows, .int f_next, .int f_held])), (a_rows, .inl (ca_rows, 60, .inl fn_rows))]) [0, 1] rfl
        have hD9 := hD.sub (ws' := [(h0, .inr (0, [.ref a_rows, .int f_next, .int f_held])), (a_rows, .inl (ca_rows, 60, .inl fn_rows))]) [0, 1] (by decide) rfl
        have hK9 := hK.sub (tys' := [(ca_rows, .int)]) [0] rfl
        exact W.iret (v := v8) hx hb hr (fun t ht hW => ⟨⟨v8, (), rfl, ⟨r1, hw_2, ⟨fun hh => absurd hh c3, fun _ => ⟨fun hh => absurd hh c4, fun _ => ⟨fun _ => ⟨r6, hw_7, ⟨v8, ev8, rfl⟩⟩, fun hh => absurd c5 hh⟩⟩⟩⟩, (by rw [ht]; exact hP9), va_K.moved hW.alike hK9, hD9⟩, hS.F ht⟩) hS.2.2 dX0_latest_48
      · refine lv_iconst (v := -1) hx hb dX0_latest_24 (by decide) ?_
        have hP9 := hP.sub (ws' := [(h0, .inr (0, [.ref a_rows, .int f_next, .int f_held])), (a_rows, .inl (ca_rows, 60, .inl fn_rows))]) [0, 1] rfl
        have hD9 := hD.sub (ws' := [(h0, .inr (0, [.ref a_rows, .int f_next, .int f_held])), (a_rows, .inl (ca_rows, 60, .inl fn_rows))]) [0, 1] (by decide) rfl
        have hK9 := hK.sub (tys' := [(ca_rows, .int)]) [0] rfl
        exact W.iret (v := (-1 : Int32)) hx hb hr (fun t ht hW => ⟨⟨(-1 : Int32), (), rfl, ⟨r1, hw_2, ⟨fun hh => absurd hh c3, fun _ => ⟨fun hh => absurd hh c4, fun _ => ⟨fun hh => absurd hh c5, fun _ => rfl⟩⟩⟩⟩, (by rw [ht]; exact hP9), va_K.moved hW.alike hK9, hD9⟩, hS.F ht⟩) hS.2.2 dX0_latest_25
  · have c3 : r1 = (0 : Int32) := c3
    refine lv_ldc hx hb hown hw5 dX0_latest_9 ?_
    have hP9 := hP.sub (ws' := [(h0, .inr (0, [.ref a_rows, .int f_next, .int f_held])), (a_rows, .inl (ca_rows, 60, .inl fn_rows))]) [0, 1] rfl
    have hD9 := hD.sub (ws' := [(h0, .inr (0, [.ref a_rows, .int f_next, .int f_held])), (a_rows, .inl (ca_rows, 60, .inl fn_rows))]) [0, 1] (by decide) rfl
    have hK9 := hK.sub (tys' := [(ca_rows, .int)]) [0] rfl
    exact W.iret (v := (-1000001 : Int32)) hx hb hr (fun t ht hW => ⟨⟨(-1000001 : Int32), (), rfl, ⟨r1, hw_2, ⟨fun _ => rfl, fun hh => absurd c3 hh⟩⟩, (by rw [ht]; exact hP9), va_K.moved hW.alike hK9, hD9⟩, hS.F ht⟩) hS.2.2 dX0_latest_11
end
section
def R_X5_faultNow (f_state : Int32) (f_lost : Int32) (f_heat : Int64) (fn_rules : Nat → Int32) (f_motor_d : Int64) (f_motor_q : Int64) (r : Int32) : Prop := ∃ v1 : Int64, v1 = (if 0 < f_motor_d then f_motor_d else -f_motor_d) ∧ (∃ v2 : Int32, v2 = fn_rules 3 ∧ (((v2.toInt64) < v1 → (r = (1 : Int32))) ∧ (¬ ((v2.toInt64) < v1) → (∃ v4 : Int64, v4 = (if 0 < f_motor_q then f_motor_q else -f_motor_q) ∧ (∃ v5 : Int32, v5 = fn_rules 3 ∧ ((v4 ≤ (v5.toInt64) → (∃ v7 : Int32, v7 = fn_rules 0 ∧ ((v7 ≤ (25000 : Int32) → ((f_lost = (0 : Int32) → ((f_heat ≤ (100000 : Int64) → (r = (0 : Int32))) ∧ (¬ (f_heat ≤ (100000 : Int64)) → (r = (4 : Int32))))) ∧ (¬ (f_lost = (0 : Int32)) → ((f_state = (2 : Int32) → (r = (3 : Int32))) ∧ (¬ (f_state = (2 : Int32)) → ((f_state = (3 : Int32) → (r = (3 : Int32))) ∧ (¬ (f_state = (3 : Int32)) → ((f_heat ≤ (100000 : Int64) → (r = (0 : Int32))) ∧ (¬ (f_heat ≤ (100000 : Int64)) → (r = (4 : Int32))))))))))) ∧ (¬ (v7 ≤ (25000 : Int32)) → (r = (2 : Int32)))))) ∧ (¬ (v4 ≤ (v5.toInt64)) → (r = (1 : Int32)))))))))
set_option maxHeartbeats 4000000 in
set_option maxRecDepth 100000 in
theorem c_X5_faultNow (l : Launch) (dC : Nat → ClassId) (dI : Nat → Nat → Nat) (h0 : Nat) (a_rules : Nat) (a_loopD : Nat) (a_loopQ : Nat) (a_loopPace : Nat) (a_motor : Nat) (a_onTimes : Nat) (a_asked : Nat) (a_changes : Nat) (f_state : Int32) (f_fault : Int32) (f_lost : Int32) (f_voltsD : Int64) (f_voltsQ : Int64) (f_heat : Int64) (f_beats : Int32) (f_alignBeats : Int32) (ca_rules : ClassId) (fn_rules : Nat → Int32) (f_motor_d : Int64) (f_motor_q : Int64) (f_motor_pace : Int64) (f_motor_angle : Int64) (sz : Nat)  : Met l yX5_faultNow wsX5_faultNow ({ frames := 1, cells := 0, slots := 0, locals := 15 }) (va_Pc [.ref h0] (mw_pre (dC, dI) vwCl [(h0, .inr (4, [.ref a_rules, .ref a_loopD, .ref a_loopQ, .ref a_loopPace, .ref a_motor, .ref a_onTimes, .ref a_asked, .ref a_changes, .int f_state, .int f_fault, .int f_lost, .long f_voltsD, .long f_voltsQ, .long f_heat, .int f_beats, .int f_alignBeats])), (a_rules, .inl (ca_rules, 6, .inl fn_rules)), (a_motor, .inr (2, [.long f_motor_d, .long f_motor_q, .long f_motor_pace, .long f_motor_angle]))] [(ca_rules, .int)] sz)) (va_Qi (fun (r : Int32) (u : Unit) => R_X5_faultNow f_state f_lost f_heat fn_rules f_motor_d f_motor_q r) (fun u t => mw_at (dC, dI) vwCl [(h0, .inr (4, [.ref a_rules, .ref a_loopD, .ref a_loopQ, .ref a_loopPace, .ref a_motor, .ref a_onTimes, .ref a_asked, .ref a_changes, .int f_state, .int f_fault, .int f_lost, .long f_voltsD, .long f_voltsQ, .long f_heat, .int f_beats, .int f_alignBeats])), (a_rules, .inl (ca_rules, 6, .inl fn_rules)), (a_motor, .inr (2, [.long f_motor_d, .long f_motor_q, .long f_motor_pace, .long f_motor_angle]))] [(ca_rules, .int)] (va_A [(h0, .inr (4, [.ref a_rules, .ref a_loopD, .ref a_loopQ, .ref a_loopPace, .ref a_motor, .ref a_onTimes, .ref a_asked, .ref a_changes, .int f_state, .int f_fault, .int f_lost, .long f_voltsD, .long f_voltsQ, .long f_heat, .int f_beats, .int f_alignBeats])), (a_rules, .inl (ca_rules, 6, .inl fn_rules)), (a_motor, .inr (2, [.long f_motor_d, .long f_motor_q, .long f_motor_pace, .long f_motor_angle]))] sz) t) (va_A [(h0, .inr (4, [.ref a_rules, .ref a_loopD, .ref a_loopQ, .ref a_loopPace, .ref a_motor, .ref a_onTimes, .ref a_asked, .ref a_changes, .int f_state, .int f_fault, .int f_lost, .long f_voltsD, .long f_voltsQ, .long f_heat, .int f_beats, .int f_alignBeats])), (a_rules, .inl (ca_rules, 6, .inl fn_rules)), (a_motor, .inr (2, [.long f_motor_d, .long f_motor_q, .long f_motor_pace, .long f_motor_angle]))] sz)) 0 0 (va_A [(h0, .inr (4, [.ref a_rules, .ref a_loopD, .ref a_loopQ, .ref a_loopPace, .ref a_motor, .ref a_onTimes, .ref a_asked, .ref a_changes, .int f_state, .int f_fault, .int f_lost, .long f_voltsD, .long f_voltsQ, .long f_heat, .int f_beats, .int f_alignBeats])), (a_rules, .inl (ca_rules, 6, .inl fn_rules)), (a_motor, .inr (2, [.long f_motor_d, .long f_motor_q, .long f_motor_pace, .long f_motor_angle]))] sz) := by
  refine Met.ofW (cc := cX5_faultNow) (maxL := 1) (ret := (some .int)) (by decide) rfl ?_
  intro p e s m args below meth c s₁ B hml hv
  obtain ⟨rfl, hsz, hP, hK, hD0, hN⟩ := hv
  have hx := B.exec
  have hb := B.bytes
  have hr := B.returns
  have hts := atoms_spec (ws := wsX5_faultNow) B.pre
  have hown : s.vm.findClass RX5 = some m.cls := findClass_of_methodNamed B.named
  have hlocks := B.notSynchronized
  subst hsz
  have hD := hD0.self (sz := s.heap.size)
  generalize hAe : va_A [(h0, .inr (4, [.ref a_rules, .ref a_loopD, .ref a_loopQ, .ref a_loopPace, .ref a_motor, .ref a_onTimes, .ref a_asked, .ref a_changes, .int f_state, .int f_fault, .int f_lost, .long f_voltsD, .long f_voltsQ, .long f_heat, .int f_beats, .int f_alignBeats])), (a_rules, .inl (ca_rules, 6, .inl fn_rules)), (a_motor, .inr (2, [.long f_motor_d, .long f_motor_q, .long f_motor_pace, .long f_motor_angle]))] s.heap.size = A at hD ⊢
  have hA : ∀ q : Nat, s.heap.size ≤ q → A q := fun q h => by rw [← hAe]; exact Or.inr h
  have hS : va_S A s.heap s.heap [] := va_S.rf
  have hP : va_P (dC, dI) vwCl [(h0, .inr (4, [.ref a_rules, .ref a_loopD, .ref a_loopQ, .ref a_loopPace, .ref a_motor, .ref a_onTimes, .ref a_asked, .ref a_changes, .int f_state, .int f_fault, .int f_lost, .long f_voltsD, .long f_voltsQ, .long f_heat, .int f_beats, .int f_alignBeats])), (a_rules, .inl (ca_rules, 6, .inl fn_rules)), (a_motor, .inr (2, [.long f_motor_d, .long f_motor_q, .long f_motor_pace, .long f_motor_angle]))] s.heap := hP
  have hl := lv_entry ([.ref h0]) (n := 1) (Nat.le_of_ble_eq_true rfl)
  rw [lg_entry_eq]
  generalize (lg_sl ([.ref h0]) ++ List.replicate (1 - (lg_sl ([.ref h0])).length) Slot.unset).toArray = ls at hl ⊢
  have hl : lv_has ls 1 [(0, .ref h0)] := hl
  have hw0 := hts (.fieldLink RX5 29 "TurnedFields" "motor" "LTurnedFields$Motor;") (by decide +kernel)
  have hw1 := hts (.fieldLink RX5 161 "TurnedFields$Motor" "d" "J") (by decide +kernel)
  have hw2 := hts (.methodLink RX5 218 Lib.MathLoose.abs_long.x) (by decide +kernel)
  have hw3 := hts (.static Lib.MathLoose.abs_long.x) (by decide +kernel)
  have hw4 := hts (.initialized "java/lang/Math") (by decide +kernel)
  have hw5 := hts (.code Lib.MathLoose.abs_long.x Lib.MathLoose.abs_long.code 2 (some .long)) (by decide +kernel)
  have hw6 := hts (.fieldLink RX5 9 "TurnedFields" "rules" "[I") (by decide +kernel)
  have hw7 := hts (.fieldLink RX5 164 "TurnedFields$Motor" "q" "J") (by decide +kernel)
  have hw8 := hts (.fieldLink RX5 57 "TurnedFields" "lost" "Z") (by decide +kernel)
  have hw9 := hts (.fieldLink RX5 68 "TurnedFields" "heat" "J") (by decide +kernel)
  have hw10 := hts (.constantLong RX5 223 (100000)) (by decide +kernel)
  have hw11 := hts (.fieldLink RX5 50 "TurnedFields" "state" "I") (by decide +kernel)
  have hinX3 : ∀ w ∈ wsX30, w ∈ wsX5_faultNow := by decide +kernel
  have hinX5 : ∀ w ∈ wsX50, w ∈ wsX5_faultNow := by decide +kernel
  refine lv_aload_n hx hb dX5_faultNow_0 rfl (lv_at hl 0 rfl) ?_
  refine va_get (D := (dC, dI)) (ci := 4) (v := .ref a_motor) (C := RX5) (T := TX5) (N := 16) hx hb hts hinX5 hown hK hP 0 rfl rfl 4 (by decide) hw0 (fun _ h9 => h9) rfl dX5_faultNow_1 ?_
  refine va_get (D := (dC, dI)) (ci := 2) (v := .long f_motor_d) (C := RX3) (T := TX3) (N := 4) hx hb hts hinX3 hown hK hP 2 rfl rfl 0 (by decide) hw1 (fun _ h9 => h9) rfl dX5_faultNow_4 ?_
  refine va_mabs_long hx hb (hml.trans hl.1.symm) hown hw2 hw3 hw4 hw5 (Nat.le_of_ble_eq_true rfl) (Nat.le_of_ble_eq_true rfl) (Nat.le_of_ble_eq_true rfl) (Nat.le_of_ble_eq_true rfl) dX5_faultNow_7 ?_
  refine lv_topl (fun v1 ev1 => ?_)
  refine lv_aload_n hx hb dX5_faultNow_10 rfl (lv_at hl 0 rfl) ?_
  refine va_get (D := (dC, dI)) (ci := 4) (v := .ref a_rules) (C := RX5) (T := TX5) (N := 16) hx hb hts hinX5 hown hK hP 0 rfl rfl 0 (by decide) hw6 (fun _ h9 => h9) rfl dX5_faultNow_11 ?_
  refine lv_iconst (v := 3) hx hb dX5_faultNow_14 (by decide) ?_
  refine va_iald hx hb hK hP 1 0 rfl rfl (by unfold vp_in; decide) dX5_faultNow_15 ?_
  refine lv_topi (fun v2 ev2 => ?_)
  have ev2 : v2 = fn_rules 3 := ev2
  refine lv_i2l hx hb dX5_faultNow_16 rfl ?_
  refine W.lcmp hx hb dX5_faultNow_17 ?_
  refine lv_if_gt (tgt := 42) hx hb dX5_faultNow_18 (by decide) (fun c3 => ?_) (fun c3 => ?_)
  · have c3 : (v2.toInt64) < v1 := (lg_cmp_gt _ _).mp c3
    refine lv_iconst (v := 1) hx hb dX5_faultNow_42 (by decide) ?_
    have hP9 := hP.sub (ws' := [(h0, .inr (4, [.ref a_rules, .ref a_loopD, .ref a_loopQ, .ref a_loopPace, .ref a_motor, .ref a_onTimes, .ref a_asked, .ref a_changes, .int f_state, .int f_fault, .int f_lost, .long f_voltsD, .long f_voltsQ, .long f_heat, .int f_beats, .int f_alignBeats])), (a_rules, .inl (ca_rules, 6, .inl fn_rules)), (a_motor, .inr (2, [.long f_motor_d, .long f_motor_q, .long f_motor_pace, .long f_motor_angle]))]) [0, 1, 2] rfl
    have hD9 := hD.sub (ws' := [(h0, .inr (4, [.ref a_rules, .ref a_loopD, .ref a_loopQ, .ref a_loopPace, .ref a_motor, .ref a_onTimes, .ref a_asked, .ref a_changes, .int f_state, .int f_fault, .int f_lost, .long f_voltsD, .long f_voltsQ, .long f_heat, .int f_beats, .int f_alignBeats])), (a_rules, .inl (ca_rules, 6, .inl fn_rules)), (a_motor, .inr (2, [.long f_motor_d, .long f_motor_q, .long f_motor_pace, .long f_motor_angle]))]) [0, 1, 2] (by decide) rfl
    have hK9 := hK.sub (tys' := [(ca_rules, .int)]) [0] rfl
    exact W.iret (v := (1 : Int32)) hx hb hr (fun t ht hW => ⟨⟨(1 : Int32), (), rfl, ⟨v1, ev1, ⟨v2, ev2, ⟨fun _ => rfl, fun hh => absurd c3 hh⟩⟩⟩, (by rw [ht]; exact hP9), va_K.moved hW.alike hK9, hD9⟩, hS.F ht⟩) hS.2.2 dX5_faultNow_43
  · have c3 : ¬ ((v2.toInt64) < v1) := mw_fgt c3
    refine lv_aload_n hx hb dX5_faultNow_21 rfl (lv_at hl 0 rfl) ?_
    refine va_get (D := (dC, dI)) (ci := 4) (v := .ref a_motor) (C := RX5) (T := TX5) (N := 16) hx hb hts hinX5 hown hK hP 0 rfl rfl 4 (by decide) hw0 (fun _ h9 => h9) rfl dX5_faultNow_22 ?_
    refine va_get (D := (dC, dI)) (ci := 2) (v := .long f_motor_q) (C := RX3) (T := TX3) (N := 4) hx hb hts hinX3 hown hK hP 2 rfl rfl 1 (by decide) hw7 (fun _ h9 => h9) rfl dX5_faultNow_25 ?_
    refine va_mabs_long hx hb (hml.trans hl.1.symm) hown hw2 hw3 hw4 hw5 (Nat.le_of_ble_eq_true rfl) (Nat.le_of_ble_eq_true rfl) (Nat.le_of_ble_eq_true rfl) (Nat.le_of_ble_eq_true rfl) dX5_faultNow_28 ?_
    refine lv_topl (fun v4 ev4 => ?_)
    refine lv_aload_n hx hb dX5_faultNow_31 rfl (lv_at hl 0 rfl) ?_
    refine va_get (D := (dC, dI)) (ci := 4) (v := .ref a_rules) (C := RX5) (T := TX5) (N := 16) hx hb hts hinX5 hown hK hP 0 rfl rfl 0 (by decide) hw6 (fun _ h9 => h9) rfl dX5_faultNow_32 ?_
    refine lv_iconst (v := 3) hx hb dX5_faultNow_35 (by decide) ?_
    refine va_iald hx hb hK hP 1 0 rfl rfl (by unfold vp_in; decide) dX5_faultNow_36 ?_
    refine lv_topi (fun v5 ev5 => ?_)
    have ev5 : v5 = fn_rules 3 := ev5
    refine lv_i2l hx hb dX5_faultNow_37 rfl ?_
    refine W.lcmp hx hb dX5_faultNow_38 ?_
    refine lv_if_le (tgt := 44) hx hb dX5_faultNow_39 (by decide) (fun c6 => ?_) (fun c6 => ?_)
    · have c6 : v4 ≤ (v5.toInt64) := (lg_cmp_le _ _).mp c6
      refine lv_aload_n hx hb dX5_faultNow_44 rfl (lv_at hl 0 rfl) ?_
      refine va_get (D := (dC, dI)) (ci := 4) (v := .ref a_rules) (C := RX5) (T := TX5) (N := 16) hx hb hts hinX5 hown hK hP 0 rfl rfl 0 (by decide) hw6 (fun _ h9 => h9) rfl dX5_faultNow_45 ?_
      refine lv_iconst (v := 0) hx hb dX5_faultNow_48 (by decide) ?_
      refine va_iald hx hb hK hP 1 0 rfl rfl (by unfold vp_in; decide) dX5_faultNow_49 ?_
      refine lv_topi (fun v7 ev7 => ?_)
      have ev7 : v7 = fn_rules 0 := ev7
      refine lv_sipush (v := 25000) hx hb dX5_faultNow_50 (by decide) ?_
      refine lv_icmp_le (tgt := 58) hx hb dX5_faultNow_53 (by decide) (fun c8 => ?_) (fun c8 => ?_)
      · refine lv_aload_n hx hb dX5_faultNow_58 rfl (lv_at hl 0 rfl) ?_
        refine va_get (D := (dC, dI)) (ci := 4) (v := .int f_lost) (C := RX5) (T := TX5) (N := 16) hx hb hts hinX5 hown hK hP 0 rfl rfl 10 (by decide) hw8 (fun _ h9 => h9) rfl dX5_faultNow_59 ?_
        refine lv_if_eq (tgt := 83) hx hb dX5_faultNow_62 (by decide) (fun c9 => ?_) (fun c9 => ?_)
        · have c9 : f_lost = (0 : Int32) := c9
          refine lv_aload_n hx hb dX5_faultNow_83 rfl (lv_at hl 0 rfl) ?_
          refine va_get (D := (dC, dI)) (ci := 4) (v := .long f_heat) (C := RX5) (T := TX5) (N := 16) hx hb hts hinX5 hown hK hP 0 rfl rfl 13 (by decide) hw9 (fun _ h9 => h9) rfl dX5_faultNow_84 ?_
          refine lv_ldc2 hx hb hown hw10 dX5_faultNow_87 ?_
          refine W.lcmp hx hb dX5_faultNow_90 ?_
          refine lv_if_le (tgt := 96) hx hb dX5_faultNow_91 (by decide) (fun c10 => ?_) (fun c10 => ?_)
          · have c10 : f_heat ≤ (100000 : Int64) := (lg_cmp_le _ _).mp c10
            refine lv_iconst (v := 0) hx hb dX5_faultNow_96 (by decide) ?_
            have hP9 := hP.sub (ws' := [(h0, .inr (4, [.ref a_rules, .ref a_loopD, .ref a_loopQ, .ref a_loopPace, .ref a_motor, .ref a_onTimes, .ref a_asked, .ref a_changes, .int f_state, .int f_fault, .int f_lost, .long f_voltsD, .long f_voltsQ, .long f_heat, .int f_beats, .int f_alignBeats])), (a_rules, .inl (ca_rules, 6, .inl fn_rules)), (a_motor, .inr (2, [.long f_motor_d, .long f_motor_q, .long f_motor_pace, .long f_motor_angle]))]) [0, 1, 2] rfl
            have hD9 := hD.sub (ws' := [(h0, .inr (4, [.ref a_rules, .ref a_loopD, .ref a_loopQ, .ref a_loopPace, .ref a_motor, .ref a_onTimes, .ref a_asked, .ref a_changes, .int f_state, .int f_fault, .int f_lost, .long f_voltsD, .long f_voltsQ, .long f_heat, .int f_beats, .int f_alignBeats])), (a_rules, .inl (ca_rules, 6, .inl fn_rules)), (a_motor, .inr (2, [.long f_motor_d, .long f_motor_q, .long f_motor_pace, .long f_motor_angle]))]) [0, 1, 2] (by decide) rfl
            have hK9 := hK.sub (tys' := [(ca_rules, .int)]) [0] rfl
            exact W.iret (v := (0 : Int32)) hx hb hr (fun t ht hW => ⟨⟨(0 : Int32), (), rfl, ⟨v1, ev1, ⟨v2, ev2, ⟨fun hh => absurd hh c3, fun _ => ⟨v4, ev4, ⟨v5, ev5, ⟨fun _ => ⟨v7, ev7, ⟨fun _ => ⟨fun _ => ⟨fun _ => rfl, fun hh => absurd c10 hh⟩, fun hh => absurd c9 hh⟩, fun hh => absurd c8 hh⟩⟩, fun hh => absurd c6 hh⟩⟩⟩⟩⟩⟩, (by rw [ht]; exact hP9), va_K.moved hW.alike hK9, hD9⟩, hS.F ht⟩) hS.2.2 dX5_faultNow_97
          · have c10 : ¬ (f_heat ≤ (100000 : Int64)) := mw_fle c10
            refine lv_iconst (v := 4) hx hb dX5_faultNow_94 (by decide) ?_
            have hP9 := hP.sub (ws' := [(h0, .inr (4, [.ref a_rules, .ref a_loopD, .ref a_loopQ, .ref a_loopPace, .ref a_motor, .ref a_onTimes, .ref a_asked, .ref a_changes, .int f_state, .int f_fault, .int f_lost, .long f_voltsD, .long f_voltsQ, .long f_heat, .int f_beats, .int f_alignBeats])), (a_rules, .inl (ca_rules, 6, .inl fn_rules)), (a_motor, .inr (2, [.long f_motor_d, .long f_motor_q, .long f_motor_pace, .long f_motor_angle]))]) [0, 1, 2] rfl
            have hD9 := hD.sub (ws' := [(h0, .inr (4, [.ref a_rules, .ref a_loopD, .ref a_loopQ, .ref a_loopPace, .ref a_motor, .ref a_onTimes, .ref a_asked, .ref a_changes, .int f_state, .int f_fault, .int f_lost, .long f_voltsD, .long f_voltsQ, .long f_heat, .int f_beats, .int f_alignBeats])), (a_rules, .inl (ca_rules, 6, .inl fn_rules)), (a_motor, .inr (2, [.long f_motor_d, .long f_motor_q, .long f_motor_pace, .long f_motor_angle]))]) [0, 1, 2] (by decide) rfl
            have hK9 := hK.sub (tys' := [(ca_rules, .int)]) [0] rfl
            exact W.iret (v := (4 : Int32)) hx hb hr (fun t ht hW => ⟨⟨(4 : Int32), (), rfl, ⟨v1, ev1, ⟨v2, ev2, ⟨fun hh => absurd hh c3, fun _ => ⟨v4, ev4, ⟨v5, ev5, ⟨fun _ => ⟨v7, ev7, ⟨fun _ => ⟨fun _ => ⟨fun hh => absurd hh c10, fun _ => rfl⟩, fun hh => absurd c9 hh⟩, fun hh => absurd c8 hh⟩⟩, fun hh => absurd c6 hh⟩⟩⟩⟩⟩⟩, (by rw [ht]; exact hP9), va_K.moved hW.alike hK9, hD9⟩, hS.F ht⟩) hS.2.2 dX5_faultNow_95
        · have c9 : ¬ (f_lost = (0 : Int32)) := c9
          refine lv_aload_n hx hb dX5_faultNow_65 rfl (lv_at hl 0 rfl) ?_
          refine va_get (D := (dC, dI)) (ci := 4) (v := .int f_state) (C := RX5) (T := TX5) (N := 16) hx hb hts hinX5 hown hK hP 0 rfl rfl 8 (by decide) hw11 (fun _ h9 => h9) rfl dX5_faultNow_66 ?_
          refine lv_iconst (v := 2) hx hb dX5_faultNow_69 (by decide) ?_
          refine lv_icmp_eq (tgt := 81) hx hb dX5_faultNow_70 (by decide) (fun c11 => ?_) (fun c11 => ?_)
          · refine lv_iconst (v := 3) hx hb dX5_faultNow_81 (by decide) ?_
            have hP9 := hP.sub (ws' := [(h0, .inr (4, [.ref a_rules, .ref a_loopD, .ref a_loopQ, .ref a_loopPace, .ref a_motor, .ref a_onTimes, .ref a_asked, .ref a_changes, .int f_state, .int f_fault, .int f_lost, .long f_voltsD, .long f_voltsQ, .long f_heat, .int f_beats, .int f_alignBeats])), (a_rules, .inl (ca_rules, 6, .inl fn_rules)), (a_motor, .inr (2, [.long f_motor_d, .long f_motor_q, .long f_motor_pace, .long f_motor_angle]))]) [0, 1, 2] rfl
            have hD9 := hD.sub (ws' := [(h0, .inr (4, [.ref a_rules, .ref a_loopD, .ref a_loopQ, .ref a_loopPace, .ref a_motor, .ref a_onTimes, .ref a_asked, .ref a_changes, .int f_state, .int f_fault, .int f_lost, .long f_voltsD, .long f_voltsQ, .long f_heat, .int f_beats, .int f_alignBeats])), (a_rules, .inl (ca_rules, 6, .inl fn_rules)), (a_motor, .inr (2, [.long f_motor_d, .long f_motor_q, .long f_motor_pace, .long f_motor_angle]))]) [0, 1, 2] (by decide) rfl
            have hK9 := hK.sub (tys' := [(ca_rules, .int)]) [0] rfl
            exact W.iret (v := (3 : Int32)) hx hb hr (fun t ht hW => ⟨⟨(3 : Int32), (), rfl, ⟨v1, ev1, ⟨v2, ev2, ⟨fun hh => absurd hh c3, fun _ => ⟨v4, ev4, ⟨v5, ev5, ⟨fun _ => ⟨v7, ev7, ⟨fun _ => ⟨fun hh => absurd hh c9, fun _ => ⟨fun _ => rfl, fun hh => absurd c11 hh⟩⟩, fun hh => absurd c8 hh⟩⟩, fun hh => absurd c6 hh⟩⟩⟩⟩⟩⟩, (by rw [ht]; exact hP9), va_K.moved hW.alike hK9, hD9⟩, hS.F ht⟩) hS.2.2 dX5_faultNow_82
          · refine lv_aload_n hx hb dX5_faultNow_73 rfl (lv_at hl 0 rfl) ?_
            refine va_get (D := (dC, dI)) (ci := 4) (v := .int f_state) (C := RX5) (T := TX5) (N := 16) hx hb hts hinX5 hown hK hP 0 rfl rfl 8 (by decide) hw11 (fun _ h9 => h9) rfl dX5_faultNow_74 ?_
            refine lv_iconst (v := 3) hx hb dX5_faultNow_77 (by decide) ?_
            refine lv_icmp_ne (tgt := 83) hx hb dX5_faultNow_78 (by decide) (fun c12 => ?_) (fun c12 => ?_)
            · refine lv_aload_n hx hb dX5_faultNow_83 rfl (lv_at hl 0 rfl) ?_
              refine va_get (D := (dC, dI)) (ci := 4) (v := .long f_heat) (C := RX5) (T := TX5) (N := 16) hx hb hts hinX5 hown hK hP 0 rfl rfl 13 (by decide) hw9 (fun _ h9 => h9) rfl dX5_faultNow_84 ?_
              refine lv_ldc2 hx hb hown hw10 dX5_faultNow_87 ?_
              refine W.lcmp hx hb dX5_faultNow_90 ?_
              refine lv_if_le (tgt := 96) hx hb dX5_faultNow_91 (by decide) (fun c13 => ?_) (fun c13 => ?_)
              · have c13 : f_heat ≤ (100000 : Int64) := (lg_cmp_le _ _).mp c13
                refine lv_iconst (v := 0) hx hb dX5_faultNow_96 (by decide) ?_
                have hP9 := hP.sub (ws' := [(h0, .inr (4, [.ref a_rules, .ref a_loopD, .ref a_loopQ, .ref a_loopPace, .ref a_motor, .ref a_onTimes, .ref a_asked, .ref a_changes, .int f_state, .int f_fault, .int f_lost, .long f_voltsD, .long f_voltsQ, .long f_heat, .int f_beats, .int f_alignBeats])), (a_rules, .inl (ca_rules, 6, .inl fn_rules)), (a_motor, .inr (2, [.long f_motor_d, .long f_motor_q, .long f_motor_pace, .long f_motor_angle]))]) [0, 1, 2] rfl
                have hD9 := hD.sub (ws' := [(h0, .inr (4, [.ref a_rules, .ref a_loopD, .ref a_loopQ, .ref a_loopPace, .ref a_motor, .ref a_onTimes, .ref a_asked, .ref a_changes, .int f_state, .int f_fault, .int f_lost, .long f_voltsD, .long f_voltsQ, .long f_heat, .int f_beats, .int f_alignBeats])), (a_rules, .inl (ca_rules, 6, .inl fn_rules)), (a_motor, .inr (2, [.long f_motor_d, .long f_motor_q, .long f_motor_pace, .long f_motor_angle]))]) [0, 1, 2] (by decide) rfl
                have hK9 := hK.sub (tys' := [(ca_rules, .int)]) [0] rfl
                exact W.iret (v := (0 : Int32)) hx hb hr (fun t ht hW => ⟨⟨(0 : Int32), (), rfl, ⟨v1, ev1, ⟨v2, ev2, ⟨fun hh => absurd hh c3, fun _ => ⟨v4, ev4, ⟨v5, ev5, ⟨fun _ => ⟨v7, ev7, ⟨fun _ => ⟨fun hh => absurd hh c9, fun _ => ⟨fun hh => absurd hh c11, fun _ => ⟨fun hh => absurd hh c12, fun _ => ⟨fun _ => rfl, fun hh => absurd c13 hh⟩⟩⟩⟩, fun hh => absurd c8 hh⟩⟩, fun hh => absurd c6 hh⟩⟩⟩⟩⟩⟩, (by rw [ht]; exact hP9), va_K.moved hW.alike hK9, hD9⟩, hS.F ht⟩) hS.2.2 dX5_faultNow_97
              · have c13 : ¬ (f_heat ≤ (100000 : Int64)) := mw_fle c13
                refine lv_iconst (v := 4) hx hb dX5_faultNow_94 (by decide) ?_
                have hP9 := hP.sub (ws' := [(h0, .inr (4, [.ref a_rules, .ref a_loopD, .ref a_loopQ, .ref a_loopPace, .ref a_motor, .ref a_onTimes, .ref a_asked, .ref a_changes, .int f_state, .int f_fault, .int f_lost, .long f_voltsD, .long f_voltsQ, .long f_heat, .int f_beats, .int f_alignBeats])), (a_rules, .inl (ca_rules, 6, .inl fn_rules)), (a_motor, .inr (2, [.long f_motor_d, .long f_motor_q, .long f_motor_pace, .long f_motor_angle]))]) [0, 1, 2] rfl
                have hD9 := hD.sub (ws' := [(h0, .inr (4, [.ref a_rules, .ref a_loopD, .ref a_loopQ, .ref a_loopPace, .ref a_motor, .ref a_onTimes, .ref a_asked, .ref a_changes, .int f_state, .int f_fault, .int f_lost, .long f_voltsD, .long f_voltsQ, .long f_heat, .int f_beats, .int f_alignBeats])), (a_rules, .inl (ca_rules, 6, .inl fn_rules)), (a_motor, .inr (2, [.long f_motor_d, .long f_motor_q, .long f_motor_pace, .long f_motor_angle]))]) [0, 1, 2] (by decide) rfl
                have hK9 := hK.sub (tys' := [(ca_rules, .int)]) [0] rfl
                exact W.iret (v := (4 : Int32)) hx hb hr (fun t ht hW => ⟨⟨(4 : Int32), (), rfl, ⟨v1, ev1, ⟨v2, ev2, ⟨fun hh => absurd hh c3, fun _ => ⟨v4, ev4, ⟨v5, ev5, ⟨fun _ => ⟨v7, ev7, ⟨fun _ => ⟨fun hh => absurd hh c9, fun _ => ⟨fun hh => absurd hh c11, fun _ => ⟨fun hh => absurd hh c12, fun _ => ⟨fun hh => absurd hh c13, fun _ => rfl⟩⟩⟩⟩, fun hh => absurd c8 hh⟩⟩, fun hh => absurd c6 hh⟩⟩⟩⟩⟩⟩, (by rw [ht]; exact hP9), va_K.moved hW.alike hK9, hD9⟩, hS.F ht⟩) hS.2.2 dX5_faultNow_95
            · refine lv_iconst (v := 3) hx hb dX5_faultNow_81 (by decide) ?_
              have hP9 := hP.sub (ws' := [(h0, .inr (4, [.ref a_rules, .ref a_loopD, .ref a_loopQ, .ref a_loopPace, .ref a_motor, .ref a_onTimes, .ref a_asked, .ref a_changes, .int f_state, .int f_fault, .int f_lost, .long f_voltsD, .long f_voltsQ, .long f_heat, .int f_beats, .int f_alignBeats])), (a_rules, .inl (ca_rules, 6, .inl fn_rules)), (a_motor, .inr (2, [.long f_motor_d, .long f_motor_q, .long f_motor_pace, .long f_motor_angle]))]) [0, 1, 2] rfl
              have hD9 := hD.sub (ws' := [(h0, .inr (4, [.ref a_rules, .ref a_loopD, .ref a_loopQ, .ref a_loopPace, .ref a_motor, .ref a_onTimes, .ref a_asked, .ref a_changes, .int f_state, .int f_fault, .int f_lost, .long f_voltsD, .long f_voltsQ, .long f_heat, .int f_beats, .int f_alignBeats])), (a_rules, .inl (ca_rules, 6, .inl fn_rules)), (a_motor, .inr (2, [.long f_motor_d, .long f_motor_q, .long f_motor_pace, .long f_motor_angle]))]) [0, 1, 2] (by decide) rfl
              have hK9 := hK.sub (tys' := [(ca_rules, .int)]) [0] rfl
              exact W.iret (v := (3 : Int32)) hx hb hr (fun t ht hW => ⟨⟨(3 : Int32), (), rfl, ⟨v1, ev1, ⟨v2, ev2, ⟨fun hh => absurd hh c3, fun _ => ⟨v4, ev4, ⟨v5, ev5, ⟨fun _ => ⟨v7, ev7, ⟨fun _ => ⟨fun hh => absurd hh c9, fun _ => ⟨fun hh => absurd hh c11, fun _ => ⟨fun _ => rfl, fun hh => absurd c12 hh⟩⟩⟩, fun hh => absurd c8 hh⟩⟩, fun hh => absurd c6 hh⟩⟩⟩⟩⟩⟩, (by rw [ht]; exact hP9), va_K.moved hW.alike hK9, hD9⟩, hS.F ht⟩) hS.2.2 dX5_faultNow_82
      · refine lv_iconst (v := 2) hx hb dX5_faultNow_56 (by decide) ?_
        have hP9 := hP.sub (ws' := [(h0, .inr (4, [.ref a_rules, .ref a_loopD, .ref a_loopQ, .ref a_loopPace, .ref a_motor, .ref a_onTimes, .ref a_asked, .ref a_changes, .int f_state, .int f_fault, .int f_lost, .long f_voltsD, .long f_voltsQ, .long f_heat, .int f_beats, .int f_alignBeats])), (a_rules, .inl (ca_rules, 6, .inl fn_rules)), (a_motor, .inr (2, [.long f_motor_d, .long f_motor_q, .long f_motor_pace, .long f_motor_angle]))]) [0, 1, 2] rfl
        have hD9 := hD.sub (ws' := [(h0, .inr (4, [.ref a_rules, .ref a_loopD, .ref a_loopQ, .ref a_loopPace, .ref a_motor, .ref a_onTimes, .ref a_asked, .ref a_changes, .int f_state, .int f_fault, .int f_lost, .long f_voltsD, .long f_voltsQ, .long f_heat, .int f_beats, .int f_alignBeats])), (a_rules, .inl (ca_rules, 6, .inl fn_rules)), (a_motor, .inr (2, [.long f_motor_d, .long f_motor_q, .long f_motor_pace, .long f_motor_angle]))]) [0, 1, 2] (by decide) rfl
        have hK9 := hK.sub (tys' := [(ca_rules, .int)]) [0] rfl
        exact W.iret (v := (2 : Int32)) hx hb hr (fun t ht hW => ⟨⟨(2 : Int32), (), rfl, ⟨v1, ev1, ⟨v2, ev2, ⟨fun hh => absurd hh c3, fun _ => ⟨v4, ev4, ⟨v5, ev5, ⟨fun _ => ⟨v7, ev7, ⟨fun hh => absurd hh c8, fun _ => rfl⟩⟩, fun hh => absurd c6 hh⟩⟩⟩⟩⟩⟩, (by rw [ht]; exact hP9), va_K.moved hW.alike hK9, hD9⟩, hS.F ht⟩) hS.2.2 dX5_faultNow_57
    · have c6 : ¬ (v4 ≤ (v5.toInt64)) := mw_fle c6
      refine lv_iconst (v := 1) hx hb dX5_faultNow_42 (by decide) ?_
      have hP9 := hP.sub (ws' := [(h0, .inr (4, [.ref a_rules, .ref a_loopD, .ref a_loopQ, .ref a_loopPace, .ref a_motor, .ref a_onTimes, .ref a_asked, .ref a_changes, .int f_state, .int f_fault, .int f_lost, .long f_voltsD, .long f_voltsQ, .long f_heat, .int f_beats, .int f_alignBeats])), (a_rules, .inl (ca_rules, 6, .inl fn_rules)), (a_motor, .inr (2, [.long f_motor_d, .long f_motor_q, .long f_motor_pace, .long f_motor_angle]))]) [0, 1, 2] rfl
      have hD9 := hD.sub (ws' := [(h0, .inr (4, [.ref a_rules, .ref a_loopD, .ref a_loopQ, .ref a_loopPace, .ref a_motor, .ref a_onTimes, .ref a_asked, .ref a_changes, .int f_state, .int f_fault, .int f_lost, .long f_voltsD, .long f_voltsQ, .long f_heat, .int f_beats, .int f_alignBeats])), (a_rules, .inl (ca_rules, 6, .inl fn_rules)), (a_motor, .inr (2, [.long f_motor_d, .long f_motor_q, .long f_motor_pace, .long f_motor_angle]))]) [0, 1, 2] (by decide) rfl
      have hK9 := hK.sub (tys' := [(ca_rules, .int)]) [0] rfl
      exact W.iret (v := (1 : Int32)) hx hb hr (fun t ht hW => ⟨⟨(1 : Int32), (), rfl, ⟨v1, ev1, ⟨v2, ev2, ⟨fun hh => absurd hh c3, fun _ => ⟨v4, ev4, ⟨v5, ev5, ⟨fun hh => absurd hh c6, fun _ => rfl⟩⟩⟩⟩⟩⟩, (by rw [ht]; exact hP9), va_K.moved hW.alike hK9, hD9⟩, hS.F ht⟩) hS.2.2 dX5_faultNow_43
def R_X5_mayOrder (f_state : Int32) (f_lost : Int32) (f_heat : Int64) (fn_rules : Nat → Int32) (f_motor_d : Int64) (f_motor_q : Int64) (p0 : Int32) (r : Int32) : Prop := (p0 = (0 : Int32) → ((f_state = (0 : Int32) → (r = (1 : Int32))) ∧ (¬ (f_state = (0 : Int32)) → (r = (0 : Int32))))) ∧ (¬ (p0 = (0 : Int32)) → ((p0 = (1 : Int32) → ((f_state = (2 : Int32) → (r = (1 : Int32))) ∧ (¬ (f_state = (2 : Int32)) → (r = (0 : Int32))))) ∧ (¬ (p0 = (1 : Int32)) → ((p0 = (2 : Int32) → ((f_state = (4 : Int32) → (∃ (r7 : Int32), R_X5_faultNow f_state f_lost f_heat fn_rules f_motor_d f_motor_q r7 ∧ ((r7 = (0 : Int32) → (r = (1 : Int32))) ∧ (¬ (r7 = (0 : Int32)) → (r = (0 : Int32)))))) ∧ (¬ (f_state = (4 : Int32)) → (r = (0 : Int32))))) ∧ (¬ (p0 = (2 : Int32)) → ((f_state = (1 : Int32) → (r = (1 : Int32))) ∧ (¬ (f_state = (1 : Int32)) → ((f_state = (2 : Int32) → (r = (1 : Int32))) ∧ (¬ (f_state = (2 : Int32)) → ((f_state = (3 : Int32) → (r = (1 : Int32))) ∧ (¬ (f_state = (3 : Int32)) → (r = (0 : Int32)))))))))))))
theorem b_X5_mayOrder_r {f_state : Int32} {f_lost : Int32} {f_heat : Int64} {fn_rules : Nat → Int32} {f_motor_d : Int64} {f_motor_q : Int64} {p0 : Int32} {r : Int32}  (h : R_X5_mayOrder f_state f_lost f_heat fn_rules f_motor_d f_motor_q p0 r) : r = 0 ∨ r = 1 := by
  unfold R_X5_mayOrder at h
  by_cases q : p0 = (0 : Int32)
  · have h := h.1 q
    by_cases q : f_state = (0 : Int32)
    · have h := h.1 q
      exact Or.inr h
    · have h := h.2 q
      exact Or.inl h
  · have h := h.2 q
    by_cases q : p0 = (1 : Int32)
    · have h := h.1 q
      by_cases q : f_state = (2 : Int32)
      · have h := h.1 q
        exact Or.inr h
      · have h := h.2 q
        exact Or.inl h
    · have h := h.2 q
      by_cases q : p0 = (2 : Int32)
      · have h := h.1 q
        by_cases q : f_state = (4 : Int32)
        · have h := h.1 q
          obtain ⟨r7, h_r7, h⟩ := h
          by_cases q : r7 = (0 : Int32)
          · have h := h.1 q
            exact Or.inr h
          · have h := h.2 q
            exact Or.inl h
        · have h := h.2 q
          exact Or.inl h
      · have h := h.2 q
        by_cases q : f_state = (1 : Int32)
        · have h := h.1 q
          exact Or.inr h
        · have h := h.2 q
          by_cases q : f_state = (2 : Int32)
          · have h := h.1 q
            exact Or.inr h
          · have h := h.2 q
            by_cases q : f_state = (3 : Int32)
            · have h := h.1 q
              exact Or.inr h
            · have h := h.2 q
              exact Or.inl h
set_option maxHeartbeats 4000000 in
set_option maxRecDepth 100000 in
theorem c_X5_mayOrder (l : Launch) (dC : Nat → ClassId) (dI : Nat → Nat → Nat) (h0 : Nat) (a_rules : Nat) (a_loopD : Nat) (a_loopQ : Nat) (a_loopPace : Nat) (a_motor : Nat) (a_onTimes : Nat) (a_asked : Nat) (a_changes : Nat) (f_state : Int32) (f_fault : Int32) (f_lost : Int32) (f_voltsD : Int64) (f_voltsQ : Int64) (f_heat : Int64) (f_beats : Int32) (f_alignBeats : Int32) (ca_rules : ClassId) (fn_rules : Nat → Int32) (f_motor_d : Int64) (f_motor_q : Int64) (f_motor_pace : Int64) (f_motor_angle : Int64) (p0 : Int32) (sz : Nat)  : Met l yX5_mayOrder wsX5_mayOrder ({ frames := 2, cells := 0, slots := 0, locals := 35 }) (va_Pc [.ref h0, .int p0] (mw_pre (dC, dI) vwCl [(h0, .inr (4, [.ref a_rules, .ref a_loopD, .ref a_loopQ, .ref a_loopPace, .ref a_motor, .ref a_onTimes, .ref a_asked, .ref a_changes, .int f_state, .int f_fault, .int f_lost, .long f_voltsD, .long f_voltsQ, .long f_heat, .int f_beats, .int f_alignBeats])), (a_rules, .inl (ca_rules, 6, .inl fn_rules)), (a_motor, .inr (2, [.long f_motor_d, .long f_motor_q, .long f_motor_pace, .long f_motor_angle]))] [(ca_rules, .int)] sz)) (va_Qi (fun (r : Int32) (u : Unit) => R_X5_mayOrder f_state f_lost f_heat fn_rules f_motor_d f_motor_q p0 r) (fun u t => mw_at (dC, dI) vwCl [(h0, .inr (4, [.ref a_rules, .ref a_loopD, .ref a_loopQ, .ref a_loopPace, .ref a_motor, .ref a_onTimes, .ref a_asked, .ref a_changes, .int f_state, .int f_fault, .int f_lost, .long f_voltsD, .long f_voltsQ, .long f_heat, .int f_beats, .int f_alignBeats])), (a_rules, .inl (ca_rules, 6, .inl fn_rules)), (a_motor, .inr (2, [.long f_motor_d, .long f_motor_q, .long f_motor_pace, .long f_motor_angle]))] [(ca_rules, .int)] (va_A [(h0, .inr (4, [.ref a_rules, .ref a_loopD, .ref a_loopQ, .ref a_loopPace, .ref a_motor, .ref a_onTimes, .ref a_asked, .ref a_changes, .int f_state, .int f_fault, .int f_lost, .long f_voltsD, .long f_voltsQ, .long f_heat, .int f_beats, .int f_alignBeats])), (a_rules, .inl (ca_rules, 6, .inl fn_rules)), (a_motor, .inr (2, [.long f_motor_d, .long f_motor_q, .long f_motor_pace, .long f_motor_angle]))] sz) t) (va_A [(h0, .inr (4, [.ref a_rules, .ref a_loopD, .ref a_loopQ, .ref a_loopPace, .ref a_motor, .ref a_onTimes, .ref a_asked, .ref a_changes, .int f_state, .int f_fault, .int f_lost, .long f_voltsD, .long f_voltsQ, .long f_heat, .int f_beats, .int f_alignBeats])), (a_rules, .inl (ca_rules, 6, .inl fn_rules)), (a_motor, .inr (2, [.long f_motor_d, .long f_motor_q, .long f_motor_pace, .long f_motor_angle]))] sz)) 0 0 (va_A [(h0, .inr (4, [.ref a_rules, .ref a_loopD, .ref a_loopQ, .ref a_loopPace, .ref a_motor, .ref a_onTimes, .ref a_asked, .ref a_changes, .int f_state, .int f_fault, .int f_lost, .long f_voltsD, .long f_voltsQ, .long f_heat, .int f_beats, .int f_alignBeats])), (a_rules, .inl (ca_rules, 6, .inl fn_rules)), (a_motor, .inr (2, [.long f_motor_d, .long f_motor_q, .long f_motor_pace, .long f_motor_angle]))] sz) := by
  refine Met.ofW (cc := cX5_mayOrder) (maxL := 2) (ret := (some .boolean)) (by decide) rfl ?_
  intro p e s m args below meth c s₁ B hml hv
  obtain ⟨rfl, hsz, hP, hK, hD0, hN⟩ := hv
  have hx := B.exec
  have hb := B.bytes
  have hr := B.returns
  have hts := atoms_spec (ws := wsX5_mayOrder) B.pre
  have hown : s.vm.findClass RX5 = some m.cls := findClass_of_methodNamed B.named
  have hlocks := B.notSynchronized
  subst hsz
  have hD := hD0.self (sz := s.heap.size)
  generalize hAe : va_A [(h0, .inr (4, [.ref a_rules, .ref a_loopD, .ref a_loopQ, .ref a_loopPace, .ref a_motor, .ref a_onTimes, .ref a_asked, .ref a_changes, .int f_state, .int f_fault, .int f_lost, .long f_voltsD, .long f_voltsQ, .long f_heat, .int f_beats, .int f_alignBeats])), (a_rules, .inl (ca_rules, 6, .inl fn_rules)), (a_motor, .inr (2, [.long f_motor_d, .long f_motor_q, .long f_motor_pace, .long f_motor_angle]))] s.heap.size = A at hD ⊢
  have hA : ∀ q : Nat, s.heap.size ≤ q → A q := fun q h => by rw [← hAe]; exact Or.inr h
  have hS : va_S A s.heap s.heap [] := va_S.rf
  have hP : va_P (dC, dI) vwCl [(h0, .inr (4, [.ref a_rules, .ref a_loopD, .ref a_loopQ, .ref a_loopPace, .ref a_motor, .ref a_onTimes, .ref a_asked, .ref a_changes, .int f_state, .int f_fault, .int f_lost, .long f_voltsD, .long f_voltsQ, .long f_heat, .int f_beats, .int f_alignBeats])), (a_rules, .inl (ca_rules, 6, .inl fn_rules)), (a_motor, .inr (2, [.long f_motor_d, .long f_motor_q, .long f_motor_pace, .long f_motor_angle]))] s.heap := hP
  have hl := lv_entry ([.ref h0, .int p0]) (n := 2) (Nat.le_of_ble_eq_true rfl)
  rw [lg_entry_eq]
  generalize (lg_sl ([.ref h0, .int p0]) ++ List.replicate (2 - (lg_sl ([.ref h0, .int p0])).length) Slot.unset).toArray = ls at hl ⊢
  have hl : lv_has ls 2 [(0, .ref h0), (1, .int p0)] := hl
  have hw0 := hts (.fieldLink RX5 50 "TurnedFields" "state" "I") (by decide +kernel)
  have hinX5 : ∀ w ∈ wsX50, w ∈ wsX5_mayOrder := by decide +kernel
  refine lv_iload_n hx hb dX5_mayOrder_0 rfl (lv_at hl 1 rfl) ?_
  by_cases c1 : p0 = (0 : Int32)
  · refine lv_tableIn (x := p0) (off := 27) (tgt := 28) hx hb dX5_mayOrder_1 (by rw [c1]; decide) (by rw [c1]; decide) (by rw [c1]; rfl) (by decide) ?_
    refine lv_aload_n hx hb dX5_mayOrder_28 rfl (lv_at hl 0 rfl) ?_
    refine va_get (D := (dC, dI)) (ci := 4) (v := .int f_state) (C := RX5) (T := TX5) (N := 16) hx hb hts hinX5 hown hK hP 0 rfl rfl 8 (by decide) hw0 (fun _ h9 => h9) rfl dX5_mayOrder_29 ?_
    refine lv_if_ne (tgt := 39) hx hb dX5_mayOrder_32 (by decide) (fun c4 => ?_) (fun c4 => ?_)
    · have c4 : ¬ (f_state = (0 : Int32)) := c4
      refine lv_iconst (v := 0) hx hb dX5_mayOrder_39 (by decide) ?_
      have hP9 := hP.sub (ws' := [(h0, .inr (4, [.ref a_rules, .ref a_loopD, .ref a_loopQ, .ref a_loopPace, .ref a_motor, .ref a_onTimes, .ref a_asked, .ref a_changes, .int f_state, .int f_fault, .int f_lost, .long f_voltsD, .long f_voltsQ, .long f_heat, .int f_beats, .int f_alignBeats])), (a_rules, .inl (ca_rules, 6, .inl fn_rules)), (a_motor, .inr (2, [.long f_motor_d, .long f_motor_q, .long f_motor_pace, .long f_motor_angle]))]) [0, 1, 2] rfl
      have hD9 := hD.sub (ws' := [(h0, .inr (4, [.ref a_rules, .ref a_loopD, .ref a_loopQ, .ref a_loopPace, .ref a_motor, .ref a_onTimes, .ref a_asked, .ref a_changes, .int f_state, .int f_fault, .int f_lost, .long f_voltsD, .long f_voltsQ, .long f_heat, .int f_beats, .int f_alignBeats])), (a_rules, .inl (ca_rules, 6, .inl fn_rules)), (a_motor, .inr (2, [.long f_motor_d, .long f_motor_q, .long f_motor_pace, .long f_motor_angle]))]) [0, 1, 2] (by decide) rfl
      have hK9 := hK.sub (tys' := [(ca_rules, .int)]) [0] rfl
      exact W.zret (v := (0 : Int32)) hx hb hr (by first | rfl | decide | sorry) (fun t ht hW => ⟨⟨(0 : Int32), (), rfl, ⟨fun _ => ⟨fun hh => absurd hh c4, fun _ => rfl⟩, fun hh => absurd c1 hh⟩, (by rw [ht]; exact hP9), va_K.moved hW.alike hK9, hD9⟩, hS.F ht⟩) hS.2.2 dX5_mayOrder_40
    · have c4 : f_state = (0 : Int32) := c4
      refine lv_iconst (v := 1) hx hb dX5_mayOrder_35 (by decide) ?_
      refine lv_goto (tgt := 40) hx hb dX5_mayOrder_36 (by decide) ?_
      have hP9 := hP.sub (ws' := [(h0, .inr (4, [.ref a_rules, .ref a_loopD, .ref a_loopQ, .ref a_loopPace, .ref a_motor, .ref a_onTimes, .ref a_asked, .ref a_changes, .int f_state, .int f_fault, .int f_lost, .long f_voltsD, .long f_voltsQ, .long f_heat, .int f_beats, .int f_alignBeats])), (a_rules, .inl (ca_rules, 6, .inl fn_rules)), (a_motor, .inr (2, [.long f_motor_d, .long f_motor_q, .long f_motor_pace, .long f_motor_angle]))]) [0, 1, 2] rfl
      have hD9 := hD.sub (ws' := [(h0, .inr (4, [.ref a_rules, .ref a_loopD, .ref a_loopQ, .ref a_loopPace, .ref a_motor, .ref a_onTimes, .ref a_asked, .ref a_changes, .int f_state, .int f_fault, .int f_lost, .long f_voltsD, .long f_voltsQ, .long f_heat, .int f_beats, .int f_alignBeats])), (a_rules, .inl (ca_rules, 6, .inl fn_rules)), (a_motor, .inr (2, [.long f_motor_d, .long f_motor_q, .long f_motor_pace, .long f_motor_angle]))]) [0, 1, 2] (by decide) rfl
      have hK9 := hK.sub (tys' := [(ca_rules, .int)]) [0] rfl
      exact W.zret (v := (1 : Int32)) hx hb hr (by first | rfl | decide | sorry) (fun t ht hW => ⟨⟨(1 : Int32), (), rfl, ⟨fun _ => ⟨fun _ => rfl, fun hh => absurd c4 hh⟩, fun hh => absurd c1 hh⟩, (by rw [ht]; exact hP9), va_K.moved hW.alike hK9, hD9⟩, hS.F ht⟩) hS.2.2 dX5_mayOrder_40
  · by_cases c2 : p0 = (1 : Int32)
    · refine lv_tableIn (x := p0) (off := 40) (tgt := 41) hx hb dX5_mayOrder_1 (by rw [c2]; decide) (by rw [c2]; decide) (by rw [c2]; rfl) (by decide) ?_
      refine lv_aload_n hx hb dX5_mayOrder_41 rfl (lv_at hl 0 rfl) ?_
      refine va_get (D := (dC, dI)) (ci := 4) (v := .int f_state) (C := RX5) (T := TX5) (N := 16) hx hb hts hinX5 hown hK hP 0 rfl rfl 8 (by decide) hw0 (fun _ h9 => h9) rfl dX5_mayOrder_42 ?_
      refine lv_iconst (v := 2) hx hb dX5_mayOrder_45 (by decide) ?_
      refine lv_icmp_ne (tgt := 53) hx hb dX5_mayOrder_46 (by decide) (fun c5 => ?_) (fun c5 => ?_)
      · refine lv_iconst (v := 0) hx hb dX5_mayOrder_53 (by decide) ?_
        have hP9 := hP.sub (ws' := [(h0, .inr (4, [.ref a_rules, .ref a_loopD, .ref a_loopQ, .ref a_loopPace, .ref a_motor, .ref a_onTimes, .ref a_asked, .ref a_changes, .int f_state, .int f_fault, .int f_lost, .long f_voltsD, .long f_voltsQ, .long f_heat, .int f_beats, .int f_alignBeats])), (a_rules, .inl (ca_rules, 6, .inl fn_rules)), (a_motor, .inr (2, [.long f_motor_d, .long f_motor_q, .long f_motor_pace, .long f_motor_angle]))]) [0, 1, 2] rfl
        have hD9 := hD.sub (ws' := [(h0, .inr (4, [.ref a_rules, .ref a_loopD, .ref a_loopQ, .ref a_loopPace, .ref a_motor, .ref a_onTimes, .ref a_asked, .ref a_changes, .int f_state, .int f_fault, .int f_lost, .long f_voltsD, .long f_voltsQ, .long f_heat, .int f_beats, .int f_alignBeats])), (a_rules, .inl (ca_rules, 6, .inl fn_rules)), (a_motor, .inr (2, [.long f_motor_d, .long f_motor_q, .long f_motor_pace, .long f_motor_angle]))]) [0, 1, 2] (by decide) rfl
        have hK9 := hK.sub (tys' := [(ca_rules, .int)]) [0] rfl
        exact W.zret (v := (0 : Int32)) hx hb hr (by first | rfl | decide | sorry) (fun t ht hW => ⟨⟨(0 : Int32), (), rfl, ⟨fun hh => absurd hh c1, fun _ => ⟨fun _ => ⟨fun hh => absurd hh c5, fun _ => rfl⟩, fun hh => absurd c2 hh⟩⟩, (by rw [ht]; exact hP9), va_K.moved hW.alike hK9, hD9⟩, hS.F ht⟩) hS.2.2 dX5_mayOrder_54
      · refine lv_iconst (v := 1) hx hb dX5_mayOrder_49 (by decide) ?_
        refine lv_goto (tgt := 54) hx hb dX5_mayOrder_50 (by decide) ?_
        have hP9 := hP.sub (ws' := [(h0, .inr (4, [.ref a_rules, .ref a_loopD, .ref a_loopQ, .ref a_loopPace, .ref a_motor, .ref a_onTimes, .ref a_asked, .ref a_changes, .int f_state, .int f_fault, .int f_lost, .long f_voltsD, .long f_voltsQ, .long f_heat, .int f_beats, .int f_alignBeats])), (a_rules, .inl (ca_rules, 6, .inl fn_rules)), (a_motor, .inr (2, [.long f_motor_d, .long f_motor_q, .long f_motor_pace, .long f_motor_angle]))]) [0, 1, 2] rfl
        have hD9 := hD.sub (ws' := [(h0, .inr (4, [.ref a_rules, .ref a_loopD, .ref a_loopQ, .ref a_loopPace, .ref a_motor, .ref a_onTimes, .ref a_asked, .ref a_changes, .int f_state, .int f_fault, .int f_lost, .long f_voltsD, .long f_voltsQ, .long f_heat, .int f_beats, .int f_alignBeats])), (a_rules, .inl (ca_rules, 6, .inl fn_rules)), (a_motor, .inr (2, [.long f_motor_d, .long f_motor_q, .long f_motor_pace, .long f_motor_angle]))]) [0, 1, 2] (by decide) rfl
        have hK9 := hK.sub (tys' := [(ca_rules, .int)]) [0] rfl
        exact W.zret (v := (1 : Int32)) hx hb hr (by first | rfl | decide | sorry) (fun t ht hW => ⟨⟨(1 : Int32), (), rfl, ⟨fun hh => absurd hh c1, fun _ => ⟨fun _ => ⟨fun _ => rfl, fun hh => absurd c5 hh⟩, fun hh => absurd c2 hh⟩⟩, (by rw [ht]; exact hP9), va_K.moved hW.alike hK9, hD9⟩, hS.F ht⟩) hS.2.2 dX5_mayOrder_54
    · by_cases c3 : p0 = (2 : Int32)
      · refine lv_tableIn (x := p0) (off := 54) (tgt := 55) hx hb dX5_mayOrder_1 (by rw [c3]; decide) (by rw [c3]; decide) (by rw [c3]; rfl) (by decide) ?_
        refine lv_aload_n hx hb dX5_mayOrder_55 rfl (lv_at hl 0 rfl) ?_
        refine va_get (D := (dC, dI)) (ci := 4) (v := .int f_state) (C := RX5) (T := TX5) (N := 16) hx hb hts hinX5 hown hK hP 0 rfl rfl 8 (by decide) hw0 (fun _ h9 => h9) rfl dX5_mayOrder_56 ?_
        refine lv_iconst (v := 4) hx hb dX5_mayOrder_59 (by decide) ?_
        refine lv_icmp_ne (tgt := 74) hx hb dX5_mayOrder_60 (by decide) (fun c6 => ?_) (fun c6 => ?_)
        · refine lv_iconst (v := 0) hx hb dX5_mayOrder_74 (by decide) ?_
          have hP9 := hP.sub (ws' := [(h0, .inr (4, [.ref a_rules, .ref a_loopD, .ref a_loopQ, .ref a_loopPace, .ref a_motor, .ref a_onTimes, .ref a_asked, .ref a_changes, .int f_state, .int f_fault, .int f_lost, .long f_voltsD, .long f_voltsQ, .long f_heat, .int f_beats, .int f_alignBeats])), (a_rules, .inl (ca_rules, 6, .inl fn_rules)), (a_motor, .inr (2, [.long f_motor_d, .long f_motor_q, .long f_motor_pace, .long f_motor_angle]))]) [0, 1, 2] rfl
          have hD9 := hD.sub (ws' := [(h0, .inr (4, [.ref a_rules, .ref a_loopD, .ref a_loopQ, .ref a_loopPace, .ref a_motor, .ref a_onTimes, .ref a_asked, .ref a_changes, .int f_state, .int f_fault, .int f_lost, .long f_voltsD, .long f_voltsQ, .long f_heat, .int f_beats, .int f_alignBeats])), (a_rules, .inl (ca_rules, 6, .inl fn_rules)), (a_motor, .inr (2, [.long f_motor_d, .long f_motor_q, .long f_motor_pace, .long f_motor_angle]))]) [0, 1, 2] (by decide) rfl
          have hK9 := hK.sub (tys' := [(ca_rules, .int)]) [0] rfl
          exact W.zret (v := (0 : Int32)) hx hb hr (by first | rfl | decide | sorry) (fun t ht hW => ⟨⟨(0 : Int32), (), rfl, ⟨fun hh => absurd hh c1, fun _ => ⟨fun hh => absurd hh c2, fun _ => ⟨fun _ => ⟨fun hh => absurd hh c6, fun _ => rfl⟩, fun hh => absurd c3 hh⟩⟩⟩, (by rw [ht]; exact hP9), va_K.moved hW.alike hK9, hD9⟩, hS.F ht⟩) hS.2.2 dX5_mayOrder_75
        · refine lv_aload_n hx hb dX5_mayOrder_63 rfl (lv_at hl 0 rfl) ?_
          refine mw_calli (wc := [(h0, .inr (4, [.ref a_rules, .ref a_loopD, .ref a_loopQ, .ref a_loopPace, .ref a_motor, .ref a_onTimes, .ref a_asked, .ref a_changes, .int f_state, .int f_fault, .int f_lost, .long f_voltsD, .long f_voltsQ, .long f_heat, .int f_beats, .int f_alignBeats])), (a_rules, .inl (ca_rules, 6, .inl fn_rules)), (a_motor, .inr (2, [.long f_motor_d, .long f_motor_q, .long f_motor_pace, .long f_motor_angle]))]) (wr := []) (w1 := fun (u : Unit) => [(h0, .inr (4, [.ref a_rules, .ref a_loopD, .ref a_loopQ, .ref a_loopPace, .ref a_motor, .ref a_onTimes, .ref a_asked, .ref a_changes, .int f_state, .int f_fault, .int f_lost, .long f_voltsD, .long f_voltsQ, .long f_heat, .int f_beats, .int f_alignBeats])), (a_rules, .inl (ca_rules, 6, .inl fn_rules)), (a_motor, .inr (2, [.long f_motor_d, .long f_motor_q, .long f_motor_pace, .long f_motor_angle]))]) (tyc := fun (u : Unit) => [(ca_rules, .int)]) hP hD hS hA [0, 1, 2] [] rfl rfl (by decide) (by decide) (va_runV (As := []) (rest := []) ⟨hx, hb, hml, hown, hts⟩ (c_X5_faultNow l dC dI h0 a_rules a_loopD a_loopQ a_loopPace a_motor a_onTimes a_asked a_changes f_state f_fault f_lost f_voltsD f_voltsQ f_heat f_beats f_alignBeats ca_rules fn_rules f_motor_d f_motor_q f_motor_pace f_motor_angle s.heap.size ) (cwV 0 hts gX5_mayOrder_X5_faultNow rfl rfl rfl (by decide +kernel) ⟨(Nat.le_of_ble_eq_true rfl), (Nat.le_of_ble_eq_true rfl)⟩) (mw_preV (va_recv hK hP (ci := 4) (q0 := 0) rfl rfl) (hP.sub (ws' := [(h0, .inr (4, [.ref a_rules, .ref a_loopD, .ref a_loopQ, .ref a_loopPace, .ref a_motor, .ref a_onTimes, .ref a_asked, .ref a_changes, .int f_state, .int f_fault, .int f_lost, .long f_voltsD, .long f_voltsQ, .long f_heat, .int f_beats, .int f_alignBeats])), (a_rules, .inl (ca_rules, 6, .inl fn_rules)), (a_motor, .inr (2, [.long f_motor_d, .long f_motor_q, .long f_motor_pace, .long f_motor_angle]))]) [0, 1, 2] rfl) (hD.sub (ws' := [(h0, .inr (4, [.ref a_rules, .ref a_loopD, .ref a_loopQ, .ref a_loopPace, .ref a_motor, .ref a_onTimes, .ref a_asked, .ref a_changes, .int f_state, .int f_fault, .int f_lost, .long f_voltsD, .long f_voltsQ, .long f_heat, .int f_beats, .int f_alignBeats])), (a_rules, .inl (ca_rules, 6, .inl fn_rules)), (a_motor, .inr (2, [.long f_motor_d, .long f_motor_q, .long f_motor_pace, .long f_motor_angle]))]) [0, 1, 2] (by decide) rfl) (hK.sub (tys' := [(ca_rules, .int)]) [0] rfl) hN) rfl rfl hl.1 rfl (lv_room (Nat.le_of_ble_eq_true rfl)) dX5_mayOrder_64 ⟨(Nat.le_of_ble_eq_true rfl), (Nat.le_of_ble_eq_true rfl)⟩) (fun r7 u H locs hw_8 hP hD hS hK1 => ?_)
          have hw_8 : R_X5_faultNow f_state f_lost f_heat fn_rules f_motor_d f_motor_q r7 := hw_8
          have hP : va_P (dC, dI) vwCl [(h0, .inr (4, [.ref a_rules, .ref a_loopD, .ref a_loopQ, .ref a_loopPace, .ref a_motor, .ref a_onTimes, .ref a_asked, .ref a_changes, .int f_state, .int f_fault, .int f_lost, .long f_voltsD, .long f_voltsQ, .long f_heat, .int f_beats, .int f_alignBeats])), (a_rules, .inl (ca_rules, 6, .inl fn_rules)), (a_motor, .inr (2, [.long f_motor_d, .long f_motor_q, .long f_motor_pace, .long f_motor_angle]))] H := hP
          have hD : va_D A [(h0, .inr (4, [.ref a_rules, .ref a_loopD, .ref a_loopQ, .ref a_loopPace, .ref a_motor, .ref a_onTimes, .ref a_asked, .ref a_changes, .int f_state, .int f_fault, .int f_lost, .long f_voltsD, .long f_voltsQ, .long f_heat, .int f_beats, .int f_alignBeats])), (a_rules, .inl (ca_rules, 6, .inl fn_rules)), (a_motor, .inr (2, [.long f_motor_d, .long f_motor_q, .long f_motor_pace, .long f_motor_angle]))] := hD
          refine lv_if_ne (tgt := 74) hx hb dX5_mayOrder_67 (by decide) (fun c9 => ?_) (fun c9 => ?_)
          · have c9 : ¬ (r7 = (0 : Int32)) := c9
            refine lv_iconst (v := 0) hx hb dX5_mayOrder_74 (by decide) ?_
            have hP9 := hP.sub (ws' := [(h0, .inr (4, [.ref a_rules, .ref a_loopD, .ref a_loopQ, .ref a_loopPace, .ref a_motor, .ref a_onTimes, .ref a_asked, .ref a_changes, .int f_state, .int f_fault, .int f_lost, .long f_voltsD, .long f_voltsQ, .long f_heat, .int f_beats, .int f_alignBeats])), (a_rules, .inl (ca_rules, 6, .inl fn_rules)), (a_motor, .inr (2, [.long f_motor_d, .long f_motor_q, .long f_motor_pace, .long f_motor_angle]))]) [0, 1, 2] rfl
            have hD9 := hD.sub (ws' := [(h0, .inr (4, [.ref a_rules, .ref a_loopD, .ref a_loopQ, .ref a_loopPace, .ref a_motor, .ref a_onTimes, .ref a_asked, .ref a_changes, .int f_state, .int f_fault, .int f_lost, .long f_voltsD, .long f_voltsQ, .long f_heat, .int f_beats, .int f_alignBeats])), (a_rules, .inl (ca_rules, 6, .inl fn_rules)), (a_motor, .inr (2, [.long f_motor_d, .long f_motor_q, .long f_motor_pace, .long f_motor_angle]))]) [0, 1, 2] (by decide) rfl
            have hK9 := hK.sub (tys' := [(ca_rules, .int)]) [0] rfl
            exact W.zret (v := (0 : Int32)) hx hb hr (by first | rfl | decide | sorry) (fun t ht hW => ⟨⟨(0 : Int32), (), rfl, ⟨fun hh => absurd hh c1, fun _ => ⟨fun hh => absurd hh c2, fun _ => ⟨fun _ => ⟨fun _ => ⟨r7, hw_8, ⟨fun hh => absurd hh c9, fun _ => rfl⟩⟩, fun hh => absurd c6 hh⟩, fun hh => absurd c3 hh⟩⟩⟩, (by rw [ht]; exact hP9), va_K.moved hW.alike hK9, hD9⟩, hS.F ht⟩) hS.2.2 dX5_mayOrder_75
          · have c9 : r7 = (0 : Int32) := c9
            refine lv_iconst (v := 1) hx hb dX5_mayOrder_70 (by decide) ?_
            refine lv_goto (tgt := 75) hx hb dX5_mayOrder_71 (by decide) ?_
            have hP9 := hP.sub (ws' := [(h0, .inr (4, [.ref a_rules, .ref a_loopD, .ref a_loopQ, .ref a_loopPace, .ref a_motor, .ref a_onTimes, .ref a_asked, .ref a_changes, .int f_state, .int f_fault, .int f_lost, .long f_voltsD, .long f_voltsQ, .long f_heat, .int f_beats, .int f_alignBeats])), (a_rules, .inl (ca_rules, 6, .inl fn_rules)), (a_motor, .inr (2, [.long f_motor_d, .long f_motor_q, .long f_motor_pace, .long f_motor_angle]))]) [0, 1, 2] rfl
            have hD9 := hD.sub (ws' := [(h0, .inr (4, [.ref a_rules, .ref a_loopD, .ref a_loopQ, .ref a_loopPace, .ref a_motor, .ref a_onTimes, .ref a_asked, .ref a_changes, .int f_state, .int f_fault, .int f_lost, .long f_voltsD, .long f_voltsQ, .long f_heat, .int f_beats, .int f_alignBeats])), (a_rules, .inl (ca_rules, 6, .inl fn_rules)), (a_motor, .inr (2, [.long f_motor_d, .long f_motor_q, .long f_motor_pace, .long f_motor_angle]))]) [0, 1, 2] (by decide) rfl
            have hK9 := hK.sub (tys' := [(ca_rules, .int)]) [0] rfl
            exact W.zret (v := (1 : Int32)) hx hb hr (by first | rfl | decide | sorry) (fun t ht hW => ⟨⟨(1 : Int32), (), rfl, ⟨fun hh => absurd hh c1, fun _ => ⟨fun hh => absurd hh c2, fun _ => ⟨fun _ => ⟨fun _ => ⟨r7, hw_8, ⟨fun _ => rfl, fun hh => absurd c9 hh⟩⟩, fun hh => absurd c6 hh⟩, fun hh => absurd c3 hh⟩⟩⟩, (by rw [ht]; exact hP9), va_K.moved hW.alike hK9, hD9⟩, hS.F ht⟩) hS.2.2 dX5_mayOrder_75
      · refine lv_tableOut (x := p0) (tgt := 76) hx hb dX5_mayOrder_1 (by have n0 := mw_ne (n := 0) rfl c1; have n1 := mw_ne (n := 1) rfl c2; have n2 := mw_ne (n := 2) rfl c3; omega) (by decide) ?_
        refine lv_aload_n hx hb dX5_mayOrder_76 rfl (lv_at hl 0 rfl) ?_
        refine va_get (D := (dC, dI)) (ci := 4) (v := .int f_state) (C := RX5) (T := TX5) (N := 16) hx hb hts hinX5 hown hK hP 0 rfl rfl 8 (by decide) hw0 (fun _ h9 => h9) rfl dX5_mayOrder_77 ?_
        refine lv_iconst (v := 1) hx hb dX5_mayOrder_80 (by decide) ?_
        refine lv_icmp_eq (tgt := 100) hx hb dX5_mayOrder_81 (by decide) (fun c10 => ?_) (fun c10 => ?_)
        · refine lv_iconst (v := 1) hx hb dX5_mayOrder_100 (by decide) ?_
          refine lv_goto (tgt := 105) hx hb dX5_mayOrder_101 (by decide) ?_
          have hP9 := hP.sub (ws' := [(h0, .inr (4, [.ref a_rules, .ref a_loopD, .ref a_loopQ, .ref a_loopPace, .ref a_motor, .ref a_onTimes, .ref a_asked, .ref a_changes, .int f_state, .int f_fault, .int f_lost, .long f_voltsD, .long f_voltsQ, .long f_heat, .int f_beats, .int f_alignBeats])), (a_rules, .inl (ca_rules, 6, .inl fn_rules)), (a_motor, .inr (2, [.long f_motor_d, .long f_motor_q, .long f_motor_pace, .long f_motor_angle]))]) [0, 1, 2] rfl
          have hD9 := hD.sub (ws' := [(h0, .inr (4, [.ref a_rules, .ref a_loopD, .ref a_loopQ, .ref a_loopPace, .ref a_motor, .ref a_onTimes, .ref a_asked, .ref a_changes, .int f_state, .int f_fault, .int f_lost, .long f_voltsD, .long f_voltsQ, .long f_heat, .int f_beats, .int f_alignBeats])), (a_rules, .inl (ca_rules, 6, .inl fn_rules)), (a_motor, .inr (2, [.long f_motor_d, .long f_motor_q, .long f_motor_pace, .long f_motor_angle]))]) [0, 1, 2] (by decide) rfl
          have hK9 := hK.sub (tys' := [(ca_rules, .int)]) [0] rfl
          exact W.zret (v := (1 : Int32)) hx hb hr (by first | rfl | decide | sorry) (fun t ht hW => ⟨⟨(1 : Int32), (), rfl, ⟨fun hh => absurd hh c1, fun _ => ⟨fun hh => absurd hh c2, fun _ => ⟨fun hh => absurd hh c3, fun _ => ⟨fun _ => rfl, fun hh => absurd c10 hh⟩⟩⟩⟩, (by rw [ht]; exact hP9), va_K.moved hW.alike hK9, hD9⟩, hS.F ht⟩) hS.2.2 dX5_mayOrder_105
        · refine lv_aload_n hx hb dX5_mayOrder_84 rfl (lv_at hl 0 rfl) ?_
          refine va_get (D := (dC, dI)) (ci := 4) (v := .int f_state) (C := RX5) (T := TX5) (N := 16) hx hb hts hinX5 hown hK hP 0 rfl rfl 8 (by decide) hw0 (fun _ h9 => h9) rfl dX5_mayOrder_85 ?_
          refine lv_iconst (v := 2) hx hb dX5_mayOrder_88 (by decide) ?_
          refine lv_icmp_eq (tgt := 100) hx hb dX5_mayOrder_89 (by decide) (fun c11 => ?_) (fun c11 => ?_)
          · refine lv_iconst (v := 1) hx hb dX5_mayOrder_100 (by decide) ?_
            refine lv_goto (tgt := 105) hx hb dX5_mayOrder_101 (by decide) ?_
            have hP9 := hP.sub (ws' := [(h0, .inr (4, [.ref a_rules, .ref a_loopD, .ref a_loopQ, .ref a_loopPace, .ref a_motor, .ref a_onTimes, .ref a_asked, .ref a_changes, .int f_state, .int f_fault, .int f_lost, .long f_voltsD, .long f_voltsQ, .long f_heat, .int f_beats, .int f_alignBeats])), (a_rules, .inl (ca_rules, 6, .inl fn_rules)), (a_motor, .inr (2, [.long f_motor_d, .long f_motor_q, .long f_motor_pace, .long f_motor_angle]))]) [0, 1, 2] rfl
            have hD9 := hD.sub (ws' := [(h0, .inr (4, [.ref a_rules, .ref a_loopD, .ref a_loopQ, .ref a_loopPace, .ref a_motor, .ref a_onTimes, .ref a_asked, .ref a_changes, .int f_state, .int f_fault, .int f_lost, .long f_voltsD, .long f_voltsQ, .long f_heat, .int f_beats, .int f_alignBeats])), (a_rules, .inl (ca_rules, 6, .inl fn_rules)), (a_motor, .inr (2, [.long f_motor_d, .long f_motor_q, .long f_motor_pace, .long f_motor_angle]))]) [0, 1, 2] (by decide) rfl
            have hK9 := hK.sub (tys' := [(ca_rules, .int)]) [0] rfl
            exact W.zret (v := (1 : Int32)) hx hb hr (by first | rfl | decide | sorry) (fun t ht hW => ⟨⟨(1 : Int32), (), rfl, ⟨fun hh => absurd hh c1, fun _ => ⟨fun hh => absurd hh c2, fun _ => ⟨fun hh => absurd hh c3, fun _ => ⟨fun hh => absurd hh c10, fun _ => ⟨fun _ => rfl, fun hh => absurd c11 hh⟩⟩⟩⟩⟩, (by rw [ht]; exact hP9), va_K.moved hW.alike hK9, hD9⟩, hS.F ht⟩) hS.2.2 dX5_mayOrder_105
          · refine lv_aload_n hx hb dX5_mayOrder_92 rfl (lv_at hl 0 rfl) ?_
            refine va_get (D := (dC, dI)) (ci := 4) (v := .int f_state) (C := RX5) (T := TX5) (N := 16) hx hb hts hinX5 hown hK hP 0 rfl rfl 8 (by decide) hw0 (fun _ h9 => h9) rfl dX5_mayOrder_93 ?_
            refine lv_iconst (v := 3) hx hb dX5_mayOrder_96 (by decide) ?_
            refine lv_icmp_ne (tgt := 104) hx hb dX5_mayOrder_97 (by decide) (fun c12 => ?_) (fun c12 => ?_)
            · refine lv_iconst (v := 0) hx hb dX5_mayOrder_104 (by decide) ?_
              have hP9 := hP.sub (ws' := [(h0, .inr (4, [.ref a_rules, .ref a_loopD, .ref a_loopQ, .ref a_loopPace, .ref a_motor, .ref a_onTimes, .ref a_asked, .ref a_changes, .int f_state, .int f_fault, .int f_lost, .long f_voltsD, .long f_voltsQ, .long f_heat, .int f_beats, .int f_alignBeats])), (a_rules, .inl (ca_rules, 6, .inl fn_rules)), (a_motor, .inr (2, [.long f_motor_d, .long f_motor_q, .long f_motor_pace, .long f_motor_angle]))]) [0, 1, 2] rfl
              have hD9 := hD.sub (ws' := [(h0, .inr (4, [.ref a_rules, .ref a_loopD, .ref a_loopQ, .ref a_loopPace, .ref a_motor, .ref a_onTimes, .ref a_asked, .ref a_changes, .int f_state, .int f_fault, .int f_lost, .long f_voltsD, .long f_voltsQ, .long f_heat, .int f_beats, .int f_alignBeats])), (a_rules, .inl (ca_rules, 6, .inl fn_rules)), (a_motor, .inr (2, [.long f_motor_d, .long f_motor_q, .long f_motor_pace, .long f_motor_angle]))]) [0, 1, 2] (by decide) rfl
              have hK9 := hK.sub (tys' := [(ca_rules, .int)]) [0] rfl
              exact W.zret (v := (0 : Int32)) hx hb hr (by first | rfl | decide | sorry) (fun t ht hW => ⟨⟨(0 : Int32), (), rfl, ⟨fun hh => absurd hh c1, fun _ => ⟨fun hh => absurd hh c2, fun _ => ⟨fun hh => absurd hh c3, fun _ => ⟨fun hh => absurd hh c10, fun _ => ⟨fun hh => absurd hh c11, fun _ => ⟨fun hh => absurd hh c12, fun _ => rfl⟩⟩⟩⟩⟩⟩, (by rw [ht]; exact hP9), va_K.moved hW.alike hK9, hD9⟩, hS.F ht⟩) hS.2.2 dX5_mayOrder_105
            · refine lv_iconst (v := 1) hx hb dX5_mayOrder_100 (by decide) ?_
              refine lv_goto (tgt := 105) hx hb dX5_mayOrder_101 (by decide) ?_
              have hP9 := hP.sub (ws' := [(h0, .inr (4, [.ref a_rules, .ref a_loopD, .ref a_loopQ, .ref a_loopPace, .ref a_motor, .ref a_onTimes, .ref a_asked, .ref a_changes, .int f_state, .int f_fault, .int f_lost, .long f_voltsD, .long f_voltsQ, .long f_heat, .int f_beats, .int f_alignBeats])), (a_rules, .inl (ca_rules, 6, .inl fn_rules)), (a_motor, .inr (2, [.long f_motor_d, .long f_motor_q, .long f_motor_pace, .long f_motor_angle]))]) [0, 1, 2] rfl
              have hD9 := hD.sub (ws' := [(h0, .inr (4, [.ref a_rules, .ref a_loopD, .ref a_loopQ, .ref a_loopPace, .ref a_motor, .ref a_onTimes, .ref a_asked, .ref a_changes, .int f_state, .int f_fault, .int f_lost, .long f_voltsD, .long f_voltsQ, .long f_heat, .int f_beats, .int f_alignBeats])), (a_rules, .inl (ca_rules, 6, .inl fn_rules)), (a_motor, .inr (2, [.long f_motor_d, .long f_motor_q, .long f_motor_pace, .long f_motor_angle]))]) [0, 1, 2] (by decide) rfl
              have hK9 := hK.sub (tys' := [(ca_rules, .int)]) [0] rfl
              exact W.zret (v := (1 : Int32)) hx hb hr (by first | rfl | decide | sorry) (fun t ht hW => ⟨⟨(1 : Int32), (), rfl, ⟨fun hh => absurd hh c1, fun _ => ⟨fun hh => absurd hh c2, fun _ => ⟨fun hh => absurd hh c3, fun _ => ⟨fun hh => absurd hh c10, fun _ => ⟨fun hh => absurd hh c11, fun _ => ⟨fun _ => rfl, fun hh => absurd c12 hh⟩⟩⟩⟩⟩⟩, (by rw [ht]; exact hP9), va_K.moved hW.alike hK9, hD9⟩, hS.F ht⟩) hS.2.2 dX5_mayOrder_105
def R_X5_changeTo (f_beats : Int32) (f_changes_next : Int32) (f_changes_held : Int32) (fn_changes_rows : Nat → Int32) (p0 : Int32) (p1 : Int32) (u_0_state : Int32) (u_0_fault : Int32) (u_1_next : Int32) (u_1_held : Int32) (u_2_fn : Nat → Int32) : Prop := ∃ (o1 : Int32) (o2 : Int32) (o3 : Nat → Int32), R_X0_note f_changes_next f_changes_held fn_changes_rows f_beats p0 p1 o1 o2 o3 ∧ (u_0_state = p0 ∧ u_0_fault = p1 ∧ u_1_next = o1 ∧ u_1_held = o2 ∧ u_2_fn = o3)
set_option maxHeartbeats 4000000 in
set_option maxRecDepth 100000 in
theorem c_X5_changeTo (l : Launch) (dC : Nat → ClassId) (dI : Nat → Nat → Nat) (h0 : Nat) (a_rules : Nat) (a_loopD : Nat) (a_loopQ : Nat) (a_loopPace : Nat) (a_motor : Nat) (a_onTimes : Nat) (a_asked : Nat) (a_changes : Nat) (f_state : Int32) (f_fault : Int32) (f_lost : Int32) (f_voltsD : Int64) (f_voltsQ : Int64) (f_heat : Int64) (f_beats : Int32) (f_alignBeats : Int32) (a_changes_rows : Nat) (f_changes_next : Int32) (f_changes_held : Int32) (ca_changes_rows : ClassId) (fn_changes_rows : Nat → Int32) (p0 : Int32) (p1 : Int32) (sz : Nat)  : Met l yX5_changeTo wsX5_changeTo ({ frames := 2, cells := 0, slots := 0, locals := 46 }) (va_Pc [.ref h0, .int p0, .int p1] (mw_pre (dC, dI) vwCl [(h0, .inr (4, [.ref a_rules, .ref a_loopD, .ref a_loopQ, .ref a_loopPace, .ref a_motor, .ref a_onTimes, .ref a_asked, .ref a_changes, .int f_state, .int f_fault, .int f_lost, .long f_voltsD, .long f_voltsQ, .long f_heat, .int f_beats, .int f_alignBeats])), (a_changes, .inr (0, [.ref a_changes_rows, .int f_changes_next, .int f_changes_held])), (a_changes_rows, .inl (ca_changes_rows, 60, .inl fn_changes_rows))] [(ca_changes_rows, .int)] sz)) (va_Qv (fun (u : Int32 × Int32 × Int32 × Int32 × (Nat → Int32)) => R_X5_changeTo f_beats f_changes_next f_changes_held fn_changes_rows p0 p1 u.1 u.2.1 u.2.2.1 u.2.2.2.1 u.2.2.2.2) (fun u t => mw_at (dC, dI) vwCl [(h0, .inr (4, [.ref a_rules, .ref a_loopD, .ref a_loopQ, .ref a_loopPace, .ref a_motor, .ref a_onTimes, .ref a_asked, .ref a_changes, .int u.1, .int u.2.1, .int f_lost, .long f_voltsD, .long f_voltsQ, .long f_heat, .int f_beats, .int (0 : Int32)])), (a_changes, .inr (0, [.ref a_changes_rows, .int u.2.2.1, .int u.2.2.2.1])), (a_changes_rows, .inl (ca_changes_rows, 60, .inl u.2.2.2.2))] [(ca_changes_rows, .int)] (va_A [(h0, .inr (4, [.ref a_rules, .ref a_loopD, .ref a_loopQ, .ref a_loopPace, .ref a_motor, .ref a_onTimes, .ref a_asked, .ref a_changes, .int f_state, .int f_fault, .int f_lost, .long f_voltsD, .long f_voltsQ, .long f_heat, .int f_beats, .int f_alignBeats])), (a_changes, .inr (0, [.ref a_changes_rows, .int f_changes_next, .int f_changes_held])), (a_changes_rows, .inl (ca_changes_rows, 60, .inl fn_changes_rows))] sz) t) (va_A [(h0, .inr (4, [.ref a_rules, .ref a_loopD, .ref a_loopQ, .ref a_loopPace, .ref a_motor, .ref a_onTimes, .ref a_asked, .ref a_changes, .int f_state, .int f_fault, .int f_lost, .long f_voltsD, .long f_voltsQ, .long f_heat, .int f_beats, .int f_alignBeats])), (a_changes, .inr (0, [.ref a_changes_rows, .int f_changes_next, .int f_changes_held])), (a_changes_rows, .inl (ca_changes_rows, 60, .inl fn_changes_rows))] sz)) 0 0 (va_A [(h0, .inr (4, [.ref a_rules, .ref a_loopD, .ref a_loopQ, .ref a_loopPace, .ref a_motor, .ref a_onTimes, .ref a_asked, .ref a_changes, .int f_state, .int f_fault, .int f_lost, .long f_voltsD, .long f_voltsQ, .long f_heat, .int f_beats, .int f_alignBeats])), (a_changes, .inr (0, [.ref a_changes_rows, .int f_changes_next, .int f_changes_held])), (a_changes_rows, .inl (ca_changes_rows, 60, .inl fn_changes_rows))] sz) := by
  refine Met.ofW (cc := cX5_changeTo) (maxL := 3) (ret := none) (by decide) rfl ?_
  intro p e s m args below meth c s₁ B hml hv
  obtain ⟨rfl, hsz, hP, hK, hD0, hN⟩ := hv
  have hx := B.exec
  have hb := B.bytes
  have hr := B.returns
  have hts := atoms_spec (ws := wsX5_changeTo) B.pre
  have hown : s.vm.findClass RX5 = some m.cls := findClass_of_methodNamed B.named
  have hlocks := B.notSynchronized
  subst hsz
  have hD := hD0.self (sz := s.heap.size)
  generalize hAe : va_A [(h0, .inr (4, [.ref a_rules, .ref a_loopD, .ref a_loopQ, .ref a_loopPace, .ref a_motor, .ref a_onTimes, .ref a_asked, .ref a_changes, .int f_state, .int f_fault, .int f_lost, .long f_voltsD, .long f_voltsQ, .long f_heat, .int f_beats, .int f_alignBeats])), (a_changes, .inr (0, [.ref a_changes_rows, .int f_changes_next, .int f_changes_held])), (a_changes_rows, .inl (ca_changes_rows, 60, .inl fn_changes_rows))] s.heap.size = A at hD ⊢
  have hA : ∀ q : Nat, s.heap.size ≤ q → A q := fun q h => by rw [← hAe]; exact Or.inr h
  have hS : va_S A s.heap s.heap [] := va_S.rf
  have hP : va_P (dC, dI) vwCl [(h0, .inr (4, [.ref a_rules, .ref a_loopD, .ref a_loopQ, .ref a_loopPace, .ref a_motor, .ref a_onTimes, .ref a_asked, .ref a_changes, .int f_state, .int f_fault, .int f_lost, .long f_voltsD, .long f_voltsQ, .long f_heat, .int f_beats, .int f_alignBeats])), (a_changes, .inr (0, [.ref a_changes_rows, .int f_changes_next, .int f_changes_held])), (a_changes_rows, .inl (ca_changes_rows, 60, .inl fn_changes_rows))] s.heap := hP
  have hl := lv_entry ([.ref h0, .int p0, .int p1]) (n := 3) (Nat.le_of_ble_eq_true rfl)
  rw [lg_entry_eq]
  generalize (lg_sl ([.ref h0, .int p0, .int p1]) ++ List.replicate (3 - (lg_sl ([.ref h0, .int p0, .int p1])).length) Slot.unset).toArray = ls at hl ⊢
  have hl : lv_has ls 3 [(0, .ref h0), (1, .int p0), (2, .int p1)] := hl
  have hw0 := hts (.fieldLink RX5 50 "TurnedFields" "state" "I") (by decide +kernel)
  have hw1 := hts (.fieldLink RX5 54 "TurnedFields" "fault" "I") (by decide +kernel)
  have hw2 := hts (.fieldLink RX5 74 "TurnedFields" "alignBeats" "I") (by decide +kernel)
  have hw3 := hts (.fieldLink RX5 46 "TurnedFields" "changes" "LTurnedFields$Changes;") (by decide +kernel)
  have hw4 := hts (.fieldLink RX5 71 "TurnedFields" "beats" "I") (by decide +kernel)
  have hinX5 : ∀ w ∈ wsX50, w ∈ wsX5_changeTo := by decide +kernel
  refine lv_aload_n hx hb dX5_changeTo_0 rfl (lv_at hl 0 rfl) ?_
  refine lv_iload_n hx hb dX5_changeTo_1 rfl (lv_at hl 1 rfl) ?_
  refine va_put (D := (dC, dI)) (ci := 4) (v := .int p0) (ty := .int) (C := RX5) (T := TX5) (N := 16) hx hb hts hinX5 tyX5 tyX5_ok nmX5 hown hK hP hD hS 0 rfl rfl 8 (by decide) hw0 (fun _ h9 => h9) rfl (by decide +kernel) rfl rfl (Nat.le_of_ble_eq_true rfl) dX5_changeTo_2 (fun H locs hP hD hS => ?_)
  have hP : va_P (dC, dI) vwCl [(h0, .inr (4, [.ref a_rules, .ref a_loopD, .ref a_loopQ, .ref a_loopPace, .ref a_motor, .ref a_onTimes, .ref a_asked, .ref a_changes, .int p0, .int f_fault, .int f_lost, .long f_voltsD, .long f_voltsQ, .long f_heat, .int f_beats, .int f_alignBeats])), (a_changes, .inr (0, [.ref a_changes_rows, .int f_changes_next, .int f_changes_held])), (a_changes_rows, .inl (ca_changes_rows, 60, .inl fn_changes_rows))] H := hP
  have hD : va_D A [(h0, .inr (4, [.ref a_rules, .ref a_loopD, .ref a_loopQ, .ref a_loopPace, .ref a_motor, .ref a_onTimes, .ref a_asked, .ref a_changes, .int p0, .int f_fault, .int f_lost, .long f_voltsD, .long f_voltsQ, .long f_heat, .int f_beats, .int f_alignBeats])), (a_changes, .inr (0, [.ref a_changes_rows, .int f_changes_next, .int f_changes_held])), (a_changes_rows, .inl (ca_changes_rows, 60, .inl fn_changes_rows))] := hD
  refine lv_aload_n hx hb dX5_changeTo_5 rfl (lv_at hl 0 rfl) ?_
  refine lv_iload_n hx hb dX5_changeTo_6 rfl (lv_at hl 2 rfl) ?_
  refine va_put (D := (dC, dI)) (ci := 4) (v := .int p1) (ty := .int) (C := RX5) (T := TX5) (N := 16) hx hb hts hinX5 tyX5 tyX5_ok nmX5 hown hK hP hD hS 0 rfl rfl 9 (by decide) hw1 (fun _ h9 => h9) rfl (by decide +kernel) rfl rfl (Nat.le_of_ble_eq_true rfl) dX5_changeTo_7 (fun H locs hP hD hS => ?_)
  have hP : va_P (dC, dI) vwCl [(h0, .inr (4, [.ref a_rules, .ref a_loopD, .ref a_loopQ, .ref a_loopPace, .ref a_motor, .ref a_onTimes, .ref a_asked, .ref a_changes, .int p0, .int p1, .int f_lost, .long f_voltsD, .long f_voltsQ, .long f_heat, .int f_beats, .int f_alignBeats])), (a_changes, .inr (0, [.ref a_changes_rows, .int f_changes_next, .int f_changes_held])), (a_changes_rows, .inl (ca_changes_rows, 60, .inl fn_changes_rows))] H := hP
  have hD : va_D A [(h0, .inr (4, [.ref a_rules, .ref a_loopD, .ref a_loopQ, .ref a_loopPace, .ref a_motor, .ref a_onTimes, .ref a_asked, .ref a_changes, .int p0, .int p1, .int f_lost, .long f_voltsD, .long f_voltsQ, .long f_heat, .int f_beats, .int f_alignBeats])), (a_changes, .inr (0, [.ref a_changes_rows, .int f_changes_next, .int f_changes_held])), (a_changes_rows, .inl (ca_changes_rows, 60, .inl fn_changes_rows))] := hD
  refine lv_aload_n hx hb dX5_changeTo_10 rfl (lv_at hl 0 rfl) ?_
  refine lv_iconst (v := 0) hx hb dX5_changeTo_11 (by decide) ?_
  refine va_put (D := (dC, dI)) (ci := 4) (v := .int (0 : Int32)) (ty := .int) (C := RX5) (T := TX5) (N := 16) hx hb hts hinX5 tyX5 tyX5_ok nmX5 hown hK hP hD hS 0 rfl rfl 15 (by decide) hw2 (fun _ h9 => h9) rfl (by decide +kernel) rfl rfl (Nat.le_of_ble_eq_true rfl) dX5_changeTo_12 (fun H locs hP hD hS => ?_)
  have hP : va_P (dC, dI) vwCl [(h0, .inr (4, [.ref a_rules, .ref a_loopD, .ref a_loopQ, .ref a_loopPace, .ref a_motor, .ref a_onTimes, .ref a_asked, .ref a_changes, .int p0, .int p1, .int f_lost, .long f_voltsD, .long f_voltsQ, .long f_heat, .int f_beats, .int (0 : Int32)])), (a_changes, .inr (0, [.ref a_changes_rows, .int f_changes_next, .int f_changes_held])), (a_changes_rows, .inl (ca_changes_rows, 60, .inl fn_changes_rows))] H := hP
  have hD : va_D A [(h0, .inr (4, [.ref a_rules, .ref a_loopD, .ref a_loopQ, .ref a_loopPace, .ref a_motor, .ref a_onTimes, .ref a_asked, .ref a_changes, .int p0, .int p1, .int f_lost, .long f_voltsD, .long f_voltsQ, .long f_heat, .int f_beats, .int (0 : Int32)])), (a_changes, .inr (0, [.ref a_changes_rows, .int f_changes_next, .int f_changes_held])), (a_changes_rows, .inl (ca_changes_rows, 60, .inl fn_changes_rows))] := hD
  refine lv_aload_n hx hb dX5_changeTo_15 rfl (lv_at hl 0 rfl) ?_
  refine va_get (D := (dC, dI)) (ci := 4) (v := .ref a_changes) (C := RX5) (T := TX5) (N := 16) hx hb hts hinX5 hown hK hP 0 rfl rfl 7 (by decide) hw3 (fun _ h9 => h9) rfl dX5_changeTo_16 ?_
  refine lv_aload_n hx hb dX5_changeTo_19 rfl (lv_at hl 0 rfl) ?_
  refine va_get (D := (dC, dI)) (ci := 4) (v := .int f_beats) (C := RX5) (T := TX5) (N := 16) hx hb hts hinX5 hown hK hP 0 rfl rfl 14 (by decide) hw4 (fun _ h9 => h9) rfl dX5_changeTo_20 ?_
  refine lv_iload_n hx hb dX5_changeTo_23 rfl (lv_at hl 1 rfl) ?_
  refine lv_iload_n hx hb dX5_changeTo_24 rfl (lv_at hl 2 rfl) ?_
  refine mw_callv (wc := [(a_changes, .inr (0, [.ref a_changes_rows, .int f_changes_next, .int f_changes_held])), (a_changes_rows, .inl (ca_changes_rows, 60, .inl fn_changes_rows))]) (wr := [(h0, .inr (4, [.ref a_rules, .ref a_loopD, .ref a_loopQ, .ref a_loopPace, .ref a_motor, .ref a_onTimes, .ref a_asked, .ref a_changes, .int p0, .int p1, .int f_lost, .long f_voltsD, .long f_voltsQ, .long f_heat, .int f_beats, .int (0 : Int32)]))]) (w1 := fun (u : Int32 × Int32 × (Nat → Int32)) => [(a_changes, .inr (0, [.ref a_changes_rows, .int u.1, .int u.2.1])), (a_changes_rows, .inl (ca_changes_rows, 60, .inl u.2.2))]) (tyc := fun (u : Int32 × Int32 × (Nat → Int32)) => [(ca_changes_rows, .int)]) hP hD hS hA [1, 2] [0] rfl rfl (by decide) (by decide) (va_runV (As := [.int f_beats, .int p0, .int p1]) (rest := []) ⟨hx, hb, hml, hown, hts⟩ (c_X0_note l dC dI a_changes a_changes_rows f_changes_next f_changes_held ca_changes_rows fn_changes_rows f_beats p0 p1 H.size ) (cwV 3 hts gX5_changeTo_X0_note rfl rfl rfl (by decide +kernel) ⟨(Nat.le_of_ble_eq_true rfl), (Nat.le_of_ble_eq_true rfl)⟩) (mw_preV (va_recv hK hP (ci := 0) (q0 := 1) rfl rfl) (hP.sub (ws' := [(a_changes, .inr (0, [.ref a_changes_rows, .int f_changes_next, .int f_changes_held])), (a_changes_rows, .inl (ca_changes_rows, 60, .inl fn_changes_rows))]) [1, 2] rfl) (hD.sub (ws' := [(a_changes, .inr (0, [.ref a_changes_rows, .int f_changes_next, .int f_changes_held])), (a_changes_rows, .inl (ca_changes_rows, 60, .inl fn_changes_rows))]) [1, 2] (by decide) rfl) (hK.sub (tys' := [(ca_changes_rows, .int)]) [0] rfl) hN) rfl rfl hl.1 rfl (lv_room (Nat.le_of_ble_eq_true rfl)) dX5_changeTo_25 ⟨(Nat.le_of_ble_eq_true rfl), (Nat.le_of_ble_eq_true rfl)⟩) (fun u H locs hw_4 hP hD hS hK1 => ?_)
  obtain ⟨o1, o2, o3⟩ := u
  have hw_4 : R_X0_note f_changes_next f_changes_held fn_changes_rows f_beats p0 p1 o1 o2 o3 := hw_4
  have hP : va_P (dC, dI) vwCl [(h0, .inr (4, [.ref a_rules, .ref a_loopD, .ref a_loopQ, .ref a_loopPace, .ref a_motor, .ref a_onTimes, .ref a_asked, .ref a_changes, .int p0, .int p1, .int f_lost, .long f_voltsD, .long f_voltsQ, .long f_heat, .int f_beats, .int (0 : Int32)])), (a_changes, .inr (0, [.ref a_changes_rows, .int o1, .int o2])), (a_changes_rows, .inl (ca_changes_rows, 60, .inl o3))] H := hP
  have hD : va_D A [(h0, .inr (4, [.ref a_rules, .ref a_loopD, .ref a_loopQ, .ref a_loopPace, .ref a_motor, .ref a_onTimes, .ref a_asked, .ref a_changes, .int p0, .int p1, .int f_lost, .long f_voltsD, .long f_voltsQ, .long f_heat, .int f_beats, .int (0 : Int32)])), (a_changes, .inr (0, [.ref a_changes_rows, .int o1, .int o2])), (a_changes_rows, .inl (ca_changes_rows, 60, .inl o3))] := hD
  have hP9 := hP.sub (ws' := [(h0, .inr (4, [.ref a_rules, .ref a_loopD, .ref a_loopQ, .ref a_loopPace, .ref a_motor, .ref a_onTimes, .ref a_asked, .ref a_changes, .int p0, .int p1, .int f_lost, .long f_voltsD, .long f_voltsQ, .long f_heat, .int f_beats, .int (0 : Int32)])), (a_changes, .inr (0, [.ref a_changes_rows, .int o1, .int o2])), (a_changes_rows, .inl (ca_changes_rows, 60, .inl o3))]) [0, 1, 2] rfl
  have hD9 := hD.sub (ws' := [(h0, .inr (4, [.ref a_rules, .ref a_loopD, .ref a_loopQ, .ref a_loopPace, .ref a_motor, .ref a_onTimes, .ref a_asked, .ref a_changes, .int p0, .int p1, .int f_lost, .long f_voltsD, .long f_voltsQ, .long f_heat, .int f_beats, .int (0 : Int32)])), (a_changes, .inr (0, [.ref a_changes_rows, .int o1, .int o2])), (a_changes_rows, .inl (ca_changes_rows, 60, .inl o3))]) [0, 1, 2] (by decide) rfl
  have hK9 := hK.sub (tys' := [(ca_changes_rows, .int)]) [0] rfl
  exact W.vret hx hb hr (fun t ht hW => ⟨⟨(p0, p1, o1, o2, o3), rfl, ⟨o1, o2, o3, hw_4, ⟨rfl, rfl, rfl, rfl, rfl⟩⟩, (by rw [ht]; exact hP9), va_K.moved hW.alike hK9, hD9⟩, hS.F ht⟩) hS.2.2 dX5_changeTo_28
def R_X5_stopAtFault (f_state : Int32) (f_fault : Int32) (f_lost : Int32) (f_heat : Int64) (f_beats : Int32) (f_alignBeats : Int32) (fn_rules : Nat → Int32) (f_motor_d : Int64) (f_motor_q : Int64) (f_changes_next : Int32) (f_changes_held : Int32) (fn_changes_rows : Nat → Int32) (u_0_state : Int32) (u_0_fault : Int32) (u_0_alignBeats : Int32) (u_3_next : Int32) (u_3_held : Int32) (u_4_fn : Nat → Int32) : Prop := ∃ (r1 : Int32), R_X5_faultNow f_state f_lost f_heat fn_rules f_motor_d f_motor_q r1 ∧ ((r1 = (0 : Int32) → (u_0_state = f_state ∧ u_0_fault = f_fault ∧ u_0_alignBeats = f_alignBeats ∧ u_3_next = f_changes_next ∧ u_3_held = f_changes_held ∧ u_4_fn = fn_changes_rows)) ∧ (¬ (r1 = (0 : Int32)) → ((f_state = (4 : Int32) → (u_0_state = f_state ∧ u_0_fault = f_fault ∧ u_0_alignBeats = f_alignBeats ∧ u_3_next = f_changes_next ∧ u_3_held = f_changes_held ∧ u_4_fn = fn_changes_rows)) ∧ (¬ (f_state = (4 : Int32)) → (∃ (o5 : Int32) (o6 : Int32) (o7 : Int32) (o8 : Int32) (o9 : Nat → Int32), R_X5_changeTo f_beats f_changes_next f_changes_held fn_changes_rows (4 : Int32) r1 o5 o6 o7 o8 o9 ∧ (u_0_state = o5 ∧ u_0_fault = o6 ∧ u_0_alignBeats = (0 : Int32) ∧ u_3_next = o7 ∧ u_3_held = o8 ∧ u_4_fn = o9))))))
set_option maxHeartbeats 4000000 in
set_option maxRecDepth 100000 in
theorem c_X5_stopAtFault (l : Launch) (dC : Nat → ClassId) (dI : Nat → Nat → Nat) (h0 : Nat) (a_rules : Nat) (a_loopD : Nat) (a_loopQ : Nat) (a_loopPace : Nat) (a_motor : Nat) (a_onTimes : Nat) (a_asked : Nat) (a_changes : Nat) (f_state : Int32) (f_fault : Int32) (f_lost : Int32) (f_voltsD : Int64) (f_voltsQ : Int64) (f_heat : Int64) (f_beats : Int32) (f_alignBeats : Int32) (ca_rules : ClassId) (fn_rules : Nat → Int32) (f_motor_d : Int64) (f_motor_q : Int64) (f_motor_pace : Int64) (f_motor_angle : Int64) (a_changes_rows : Nat) (f_changes_next : Int32) (f_changes_held : Int32) (ca_changes_rows : ClassId) (fn_changes_rows : Nat → Int32) (sz : Nat)  : Met l yX5_stopAtFault wsX5_stopAtFault ({ frames := 3, cells := 0, slots := 0, locals := 68 }) (va_Pc [.ref h0] (mw_pre (dC, dI) vwCl [(h0, .inr (4, [.ref a_rules, .ref a_loopD, .ref a_loopQ, .ref a_loopPace, .ref a_motor, .ref a_onTimes, .ref a_asked, .ref a_changes, .int f_state, .int f_fault, .int f_lost, .long f_voltsD, .long f_voltsQ, .long f_heat, .int f_beats, .int f_alignBeats])), (a_rules, .inl (ca_rules, 6, .inl fn_rules)), (a_motor, .inr (2, [.long f_motor_d, .long f_motor_q, .long f_motor_pace, .long f_motor_angle])), (a_changes, .inr (0, [.ref a_changes_rows, .int f_changes_next, .int f_changes_held])), (a_changes_rows, .inl (ca_changes_rows, 60, .inl fn_changes_rows))] [(ca_rules, .int), (ca_changes_rows, .int)] sz)) (va_Qv (fun (u : Int32 × Int32 × Int32 × Int32 × Int32 × (Nat → Int32)) => R_X5_stopAtFault f_state f_fault f_lost f_heat f_beats f_alignBeats fn_rules f_motor_d f_motor_q f_changes_next f_changes_held fn_changes_rows u.1 u.2.1 u.2.2.1 u.2.2.2.1 u.2.2.2.2.1 u.2.2.2.2.2) (fun u t => mw_at (dC, dI) vwCl [(h0, .inr (4, [.ref a_rules, .ref a_loopD, .ref a_loopQ, .ref a_loopPace, .ref a_motor, .ref a_onTimes, .ref a_asked, .ref a_changes, .int u.1, .int u.2.1, .int f_lost, .long f_voltsD, .long f_voltsQ, .long f_heat, .int f_beats, .int u.2.2.1])), (a_rules, .inl (ca_rules, 6, .inl fn_rules)), (a_motor, .inr (2, [.long f_motor_d, .long f_motor_q, .long f_motor_pace, .long f_motor_angle])), (a_changes, .inr (0, [.ref a_changes_rows, .int u.2.2.2.1, .int u.2.2.2.2.1])), (a_changes_rows, .inl (ca_changes_rows, 60, .inl u.2.2.2.2.2))] [(ca_rules, .int), (ca_changes_rows, .int)] (va_A [(h0, .inr (4, [.ref a_rules, .ref a_loopD, .ref a_loopQ, .ref a_loopPace, .ref a_motor, .ref a_onTimes, .ref a_asked, .ref a_changes, .int f_state, .int f_fault, .int f_lost, .long f_voltsD, .long f_voltsQ, .long f_heat, .int f_beats, .int f_alignBeats])), (a_rules, .inl (ca_rules, 6, .inl fn_rules)), (a_motor, .inr (2, [.long f_motor_d, .long f_motor_q, .long f_motor_pace, .long f_motor_angle])), (a_changes, .inr (0, [.ref a_changes_rows, .int f_changes_next, .int f_changes_held])), (a_changes_rows, .inl (ca_changes_rows, 60, .inl fn_changes_rows))] sz) t) (va_A [(h0, .inr (4, [.ref a_rules, .ref a_loopD, .ref a_loopQ, .ref a_loopPace, .ref a_motor, .ref a_onTimes, .ref a_asked, .ref a_changes, .int f_state, .int f_fault, .int f_lost, .long f_voltsD, .long f_voltsQ, .long f_heat, .int f_beats, .int f_alignBeats])), (a_rules, .inl (ca_rules, 6, .inl fn_rules)), (a_motor, .inr (2, [.long f_motor_d, .long f_motor_q, .long f_motor_pace, .long f_motor_angle])), (a_changes, .inr (0, [.ref a_changes_rows, .int f_changes_next, .int f_changes_held])), (a_changes_rows, .inl (ca_changes_rows, 60, .inl fn_changes_rows))] sz)) 0 0 (va_A [(h0, .inr (4, [.ref a_rules, .ref a_loopD, .ref a_loopQ, .ref a_loopPace, .ref a_motor, .ref a_onTimes, .ref a_asked, .ref a_changes, .int f_state, .int f_fault, .int f_lost, .long f_voltsD, .long f_voltsQ, .long f_heat, .int f_beats, .int f_alignBeats])), (a_rules, .inl (ca_rules, 6, .inl fn_rules)), (a_motor, .inr (2, [.long f_motor_d, .long f_motor_q, .long f_motor_pace, .long f_motor_angle])), (a_changes, .inr (0, [.ref a_changes_rows, .int f_changes_next, .int f_changes_held])), (a_changes_rows, .inl (ca_changes_rows, 60, .inl fn_changes_rows))] sz) := by
  refine Met.ofW (cc := cX5_stopAtFault) (maxL := 2) (ret := none) (by decide) rfl ?_
  intro p e s m args below meth c s₁ B hml hv
  obtain ⟨rfl, hsz, hP, hK, hD0, hN⟩ := hv
  have hx := B.exec
  have hb := B.bytes
  have hr := B.returns
  have hts := atoms_spec (ws := wsX5_stopAtFault) B.pre
  have hown : s.vm.findClass RX5 = some m.cls := findClass_of_methodNamed B.named
  have hlocks := B.notSynchronized
  subst hsz
  have hD := hD0.self (sz := s.heap.size)
  generalize hAe : va_A [(h0, .inr (4, [.ref a_rules, .ref a_loopD, .ref a_loopQ, .ref a_loopPace, .ref a_motor, .ref a_onTimes, .ref a_asked, .ref a_changes, .int f_state, .int f_fault, .int f_lost, .long f_voltsD, .long f_voltsQ, .long f_heat, .int f_beats, .int f_alignBeats])), (a_rules, .inl (ca_rules, 6, .inl fn_rules)), (a_motor, .inr (2, [.long f_motor_d, .long f_motor_q, .long f_motor_pace, .long f_motor_angle])), (a_changes, .inr (0, [.ref a_changes_rows, .int f_changes_next, .int f_changes_held])), (a_changes_rows, .inl (ca_changes_rows, 60, .inl fn_changes_rows))] s.heap.size = A at hD ⊢
  have hA : ∀ q : Nat, s.heap.size ≤ q → A q := fun q h => by rw [← hAe]; exact Or.inr h
  have hS : va_S A s.heap s.heap [] := va_S.rf
  have hP : va_P (dC, dI) vwCl [(h0, .inr (4, [.ref a_rules, .ref a_loopD, .ref a_loopQ, .ref a_loopPace, .ref a_motor, .ref a_onTimes, .ref a_asked, .ref a_changes, .int f_state, .int f_fault, .int f_lost, .long f_voltsD, .long f_voltsQ, .long f_heat, .int f_beats, .int f_alignBeats])), (a_rules, .inl (ca_rules, 6, .inl fn_rules)), (a_motor, .inr (2, [.long f_motor_d, .long f_motor_q, .long f_motor_pace, .long f_motor_angle])), (a_changes, .inr (0, [.ref a_changes_rows, .int f_changes_next, .int f_changes_held])), (a_changes_rows, .inl (ca_changes_rows, 60, .inl fn_changes_rows))] s.heap := hP
  have hl := lv_entry ([.ref h0]) (n := 2) (Nat.le_of_ble_eq_true rfl)
  rw [lg_entry_eq]
  generalize (lg_sl ([.ref h0]) ++ List.replicate (2 - (lg_sl ([.ref h0])).length) Slot.unset).toArray = ls at hl ⊢
  have hl : lv_has ls 2 [(0, .ref h0)] := hl
  have hw0 := hts (.fieldLink RX5 50 "TurnedFields" "state" "I") (by decide +kernel)
  have hinX5 : ∀ w ∈ wsX50, w ∈ wsX5_stopAtFault := by decide +kernel
  refine lv_aload_n hx hb dX5_stopAtFault_0 rfl (lv_at hl 0 rfl) ?_
  refine mw_calli (wc := [(h0, .inr (4, [.ref a_rules, .ref a_loopD, .ref a_loopQ, .ref a_loopPace, .ref a_motor, .ref a_onTimes, .ref a_asked, .ref a_changes, .int f_state, .int f_fault, .int f_lost, .long f_voltsD, .long f_voltsQ, .long f_heat, .int f_beats, .int f_alignBeats])), (a_rules, .inl (ca_rules, 6, .inl fn_rules)), (a_motor, .inr (2, [.long f_motor_d, .long f_motor_q, .long f_motor_pace, .long f_motor_angle]))]) (wr := [(a_changes, .inr (0, [.ref a_changes_rows, .int f_changes_next, .int f_changes_held])), (a_changes_rows, .inl (ca_changes_rows, 60, .inl fn_changes_rows))]) (w1 := fun (u : Unit) => [(h0, .inr (4, [.ref a_rules, .ref a_loopD, .ref a_loopQ, .ref a_loopPace, .ref a_motor, .ref a_onTimes, .ref a_asked, .ref a_changes, .int f_state, .int f_fault, .int f_lost, .long f_voltsD, .long f_voltsQ, .long f_heat, .int f_beats, .int f_alignBeats])), (a_rules, .inl (ca_rules, 6, .inl fn_rules)), (a_motor, .inr (2, [.long f_motor_d, .long f_motor_q, .long f_motor_pace, .long f_motor_angle]))]) (tyc := fun (u : Unit) => [(ca_rules, .int)]) hP hD hS hA [0, 1, 2] [3, 4] rfl rfl (by decide) (by decide) (va_runV (As := []) (rest := []) ⟨hx, hb, hml, hown, hts⟩ (c_X5_faultNow l dC dI h0 a_rules a_loopD a_loopQ a_loopPace a_motor a_onTimes a_asked a_changes f_state f_fault f_lost f_voltsD f_voltsQ f_heat f_beats f_alignBeats ca_rules fn_rules f_motor_d f_motor_q f_motor_pace f_motor_angle s.heap.size ) (cwV 0 hts gX5_stopAtFault_X5_faultNow rfl rfl rfl (by decide +kernel) ⟨(Nat.le_of_ble_eq_true rfl), (Nat.le_of_ble_eq_true rfl)⟩) (mw_preV (va_recv hK hP (ci := 4) (q0 := 0) rfl rfl) (hP.sub (ws' := [(h0, .inr (4, [.ref a_rules, .ref a_loopD, .ref a_loopQ, .ref a_loopPace, .ref a_motor, .ref a_onTimes, .ref a_asked, .ref a_changes, .int f_state, .int f_fault, .int f_lost, .long f_voltsD, .long f_voltsQ, .long f_heat, .int f_beats, .int f_alignBeats])), (a_rules, .inl (ca_rules, 6, .inl fn_rules)), (a_motor, .inr (2, [.long f_motor_d, .long f_motor_q, .long f_motor_pace, .long f_motor_angle]))]) [0, 1, 2] rfl) (hD.sub (ws' := [(h0, .inr (4, [.ref a_rules, .ref a_loopD, .ref a_loopQ, .ref a_loopPace, .ref a_motor, .ref a_onTimes, .ref a_asked, .ref a_changes, .int f_state, .int f_fault, .int f_lost, .long f_voltsD, .long f_voltsQ, .long f_heat, .int f_beats, .int f_alignBeats])), (a_rules, .inl (ca_rules, 6, .inl fn_rules)), (a_motor, .inr (2, [.long f_motor_d, .long f_motor_q, .long f_motor_pace, .long f_motor_angle]))]) [0, 1, 2] (by decide) rfl) (hK.sub (tys' := [(ca_rules, .int)]) [0] rfl) hN) rfl rfl hl.1 rfl (lv_room (Nat.le_of_ble_eq_true rfl)) dX5_stopAtFault_1 ⟨(Nat.le_of_ble_eq_true rfl), (Nat.le_of_ble_eq_true rfl)⟩) (fun r1 u H locs hw_2 hP hD hS hK1 => ?_)
  have hw_2 : R_X5_faultNow f_state f_lost f_heat fn_rules f_motor_d f_motor_q r1 := hw_2
  have hP : va_P (dC, dI) vwCl [(a_changes, .inr (0, [.ref a_changes_rows, .int f_changes_next, .int f_changes_held])), (a_changes_rows, .inl (ca_changes_rows, 60, .inl fn_changes_rows)), (h0, .inr (4, [.ref a_rules, .ref a_loopD, .ref a_loopQ, .ref a_loopPace, .ref a_motor, .ref a_onTimes, .ref a_asked, .ref a_changes, .int f_state, .int f_fault, .int f_lost, .long f_voltsD, .long f_voltsQ, .long f_heat, .int f_beats, .int f_alignBeats])), (a_rules, .inl (ca_rules, 6, .inl fn_rules)), (a_motor, .inr (2, [.long f_motor_d, .long f_motor_q, .long f_motor_pace, .long f_motor_angle]))] H := hP
  have hD : va_D A [(a_changes, .inr (0, [.ref a_changes_rows, .int f_changes_next, .int f_changes_held])), (a_changes_rows, .inl (ca_changes_rows, 60, .inl fn_changes_rows)), (h0, .inr (4, [.ref a_rules, .ref a_loopD, .ref a_loopQ, .ref a_loopPace, .ref a_motor, .ref a_onTimes, .ref a_asked, .ref a_changes, .int f_state, .int f_fault, .int f_lost, .long f_voltsD, .long f_voltsQ, .long f_heat, .int f_beats, .int f_alignBeats])), (a_rules, .inl (ca_rules, 6, .inl fn_rules)), (a_motor, .inr (2, [.long f_motor_d, .long f_motor_q, .long f_motor_pace, .long f_motor_angle]))] := hD
  refine lv_istore_n (lv' := [(1, .int r1), (0, .ref h0)]) hx hb dX5_stopAtFault_4 rfl hl (by decide) rfl (fun ls hl => ?_)
  refine lv_iload_n hx hb dX5_stopAtFault_5 rfl (lv_at hl 0 rfl) ?_
  refine lv_if_eq (tgt := 23) hx hb dX5_stopAtFault_6 (by decide) (fun c3 => ?_) (fun c3 => ?_)
  · have c3 : r1 = (0 : Int32) := c3
    have hP9 := hP.sub (ws' := [(h0, .inr (4, [.ref a_rules, .ref a_loopD, .ref a_loopQ, .ref a_loopPace, .ref a_motor, .ref a_onTimes, .ref a_asked, .ref a_changes, .int f_state, .int f_fault, .int f_lost, .long f_voltsD, .long f_voltsQ, .long f_heat, .int f_beats, .int f_alignBeats])), (a_rules, .inl (ca_rules, 6, .inl fn_rules)), (a_motor, .inr (2, [.long f_motor_d, .long f_motor_q, .long f_motor_pace, .long f_motor_angle])), (a_changes, .inr (0, [.ref a_changes_rows, .int f_changes_next, .int f_changes_held])), (a_changes_rows, .inl (ca_changes_rows, 60, .inl fn_changes_rows))]) [2, 3, 4, 0, 1] rfl
    have hD9 := hD.sub (ws' := [(h0, .inr (4, [.ref a_rules, .ref a_loopD, .ref a_loopQ, .ref a_loopPace, .ref a_motor, .ref a_onTimes, .ref a_asked, .ref a_changes, .int f_state, .int f_fault, .int f_lost, .long f_voltsD, .long f_voltsQ, .long f_heat, .int f_beats, .int f_alignBeats])), (a_rules, .inl (ca_rules, 6, .inl fn_rules)), (a_motor, .inr (2, [.long f_motor_d, .long f_motor_q, .long f_motor_pace, .long f_motor_angle])), (a_changes, .inr (0, [.ref a_changes_rows, .int f_changes_next, .int f_changes_held])), (a_changes_rows, .inl (ca_changes_rows, 60, .inl fn_changes_rows))]) [2, 3, 4, 0, 1] (by decide) rfl
    have hK9 := hK.sub (tys' := [(ca_rules, .int), (ca_changes_rows, .int)]) [0, 1] rfl
    exact W.vret hx hb hr (fun t ht hW => ⟨⟨(f_state, f_fault, f_alignBeats, f_changes_next, f_changes_held, fn_changes_rows), rfl, ⟨r1, hw_2, ⟨fun _ => ⟨rfl, rfl, rfl, rfl, rfl, rfl⟩, fun hh => absurd c3 hh⟩⟩, (by rw [ht]; exact hP9), va_K.moved hW.alike hK9, hD9⟩, hS.F ht⟩) hS.2.2 dX5_stopAtFault_23
  · have c3 : ¬ (r1 = (0 : Int32)) := c3
    refine lv_aload_n hx hb dX5_stopAtFault_9 rfl (lv_at hl 1 rfl) ?_
    refine va_get (D := (dC, dI)) (ci := 4) (v := .int f_state) (C := RX5) (T := TX5) (N := 16) hx hb hts hinX5 hown hK hP 2 rfl rfl 8 (by decide) hw0 (fun _ h9 => h9) rfl dX5_stopAtFault_10 ?_
    refine lv_iconst (v := 4) hx hb dX5_stopAtFault_13 (by decide) ?_
    refine lv_icmp_eq (tgt := 23) hx hb dX5_stopAtFault_14 (by decide) (fun c4 => ?_) (fun c4 => ?_)
    · have hP9 := hP.sub (ws' := [(h0, .inr (4, [.ref a_rules, .ref a_loopD, .ref a_loopQ, .ref a_loopPace, .ref a_motor, .ref a_onTimes, .ref a_asked, .ref a_changes, .int f_state, .int f_fault, .int f_lost, .long f_voltsD, .long f_voltsQ, .long f_heat, .int f_beats, .int f_alignBeats])), (a_rules, .inl (ca_rules, 6, .inl fn_rules)), (a_motor, .inr (2, [.long f_motor_d, .long f_motor_q, .long f_motor_pace, .long f_motor_angle])), (a_changes, .inr (0, [.ref a_changes_rows, .int f_changes_next, .int f_changes_held])), (a_changes_rows, .inl (ca_changes_rows, 60, .inl fn_changes_rows))]) [2, 3, 4, 0, 1] rfl
      have hD9 := hD.sub (ws' := [(h0, .inr (4, [.ref a_rules, .ref a_loopD, .ref a_loopQ, .ref a_loopPace, .ref a_motor, .ref a_onTimes, .ref a_asked, .ref a_changes, .int f_state, .int f_fault, .int f_lost, .long f_voltsD, .long f_voltsQ, .long f_heat, .int f_beats, .int f_alignBeats])), (a_rules, .inl (ca_rules, 6, .inl fn_rules)), (a_motor, .inr (2, [.long f_motor_d, .long f_motor_q, .long f_motor_pace, .long f_motor_angle])), (a_changes, .inr (0, [.ref a_changes_rows, .int f_changes_next, .int f_changes_held])), (a_changes_rows, .inl (ca_changes_rows, 60, .inl fn_changes_rows))]) [2, 3, 4, 0, 1] (by decide) rfl
      have hK9 := hK.sub (tys' := [(ca_rules, .int), (ca_changes_rows, .int)]) [0, 1] rfl
      exact W.vret hx hb hr (fun t ht hW => ⟨⟨(f_state, f_fault, f_alignBeats, f_changes_next, f_changes_held, fn_changes_rows), rfl, ⟨r1, hw_2, ⟨fun hh => absurd hh c3, fun _ => ⟨fun _ => ⟨rfl, rfl, rfl, rfl, rfl, rfl⟩, fun hh => absurd c4 hh⟩⟩⟩, (by rw [ht]; exact hP9), va_K.moved hW.alike hK9, hD9⟩, hS.F ht⟩) hS.2.2 dX5_stopAtFault_23
    · refine lv_aload_n hx hb dX5_stopAtFault_17 rfl (lv_at hl 1 rfl) ?_
      refine lv_iconst (v := 4) hx hb dX5_stopAtFault_18 (by decide) ?_
      refine lv_iload_n hx hb dX5_stopAtFault_19 rfl (lv_at hl 0 rfl) ?_
      refine mw_callv (wc := [(h0, .inr (4, [.ref a_rules, .ref a_loopD, .ref a_loopQ, .ref a_loopPace, .ref a_motor, .ref a_onTimes, .ref a_asked, .ref a_changes, .int f_state, .int f_fault, .int f_lost, .long f_voltsD, .long f_voltsQ, .long f_heat, .int f_beats, .int f_alignBeats])), (a_changes, .inr (0, [.ref a_changes_rows, .int f_changes_next, .int f_changes_held])), (a_changes_rows, .inl (ca_changes_rows, 60, .inl fn_changes_rows))]) (wr := [(a_rules, .inl (ca_rules, 6, .inl fn_rules)), (a_motor, .inr (2, [.long f_motor_d, .long f_motor_q, .long f_motor_pace, .long f_motor_angle]))]) (w1 := fun (u : Int32 × Int32 × Int32 × Int32 × (Nat → Int32)) => [(h0, .inr (4, [.ref a_rules, .ref a_loopD, .ref a_loopQ, .ref a_loopPace, .ref a_motor, .ref a_onTimes, .ref a_asked, .ref a_changes, .int u.1, .int u.2.1, .int f_lost, .long f_voltsD, .long f_voltsQ, .long f_heat, .int f_beats, .int (0 : Int32)])), (a_changes, .inr (0, [.ref a_changes_rows, .int u.2.2.1, .int u.2.2.2.1])), (a_changes_rows, .inl (ca_changes_rows, 60, .inl u.2.2.2.2))]) (tyc := fun (u : Int32 × Int32 × Int32 × Int32 × (Nat → Int32)) => [(ca_changes_rows, .int)]) hP hD hS hA [2, 0, 1] [3, 4] rfl rfl (by decide) (by decide) (va_runV (As := [.int (4 : Int32), .int r1]) (rest := []) ⟨hx, hb, hml, hown, hts⟩ (c_X5_changeTo l dC dI h0 a_rules a_loopD a_loopQ a_loopPace a_motor a_onTimes a_asked a_changes f_state f_fault f_lost f_voltsD f_voltsQ f_heat f_beats f_alignBeats a_changes_rows f_changes_next f_changes_held ca_changes_rows fn_changes_rows (4 : Int32) r1 H.size ) (cwV 2 hts gX5_stopAtFault_X5_changeTo rfl rfl rfl (by decide +kernel) ⟨(Nat.le_of_ble_eq_true rfl), (Nat.le_of_ble_eq_true rfl)⟩) (mw_preV (va_recv hK hP (ci := 4) (q0 := 2) rfl rfl) (hP.sub (ws' := [(h0, .inr (4, [.ref a_rules, .ref a_loopD, .ref a_loopQ, .ref a_loopPace, .ref a_motor, .ref a_onTimes, .ref a_asked, .ref a_changes, .int f_state, .int f_fault, .int f_lost, .long f_voltsD, .long f_voltsQ, .long f_heat, .int f_beats, .int f_alignBeats])), (a_changes, .inr (0, [.ref a_changes_rows, .int f_changes_next, .int f_changes_held])), (a_changes_rows, .inl (ca_changes_rows, 60, .inl fn_changes_rows))]) [2, 0, 1] rfl) (hD.sub (ws' := [(h0, .inr (4, [.ref a_rules, .ref a_loopD, .ref a_loopQ, .ref a_loopPace, .ref a_motor, .ref a_onTimes, .ref a_asked, .ref a_changes, .int f_state, .int f_fault, .int f_lost, .long f_voltsD, .long f_voltsQ, .long f_heat, .int f_beats, .int f_alignBeats])), (a_changes, .inr (0, [.ref a_changes_rows, .int f_changes_next, .int f_changes_held])), (a_changes_rows, .inl (ca_changes_rows, 60, .inl fn_changes_rows))]) [2, 0, 1] (by decide) rfl) (hK.sub (tys' := [(ca_changes_rows, .int)]) [1] rfl) hN) rfl rfl hl.1 rfl (lv_room (Nat.le_of_ble_eq_true rfl)) dX5_stopAtFault_20 ⟨(Nat.le_of_ble_eq_true rfl), (Nat.le_of_ble_eq_true rfl)⟩) (fun u H locs hw_10 hP hD hS hK1 => ?_)
      obtain ⟨o5, o6, o7, o8, o9⟩ := u
      have hw_10 : R_X5_changeTo f_beats f_changes_next f_changes_held fn_changes_rows (4 : Int32) r1 o5 o6 o7 o8 o9 := hw_10
      have hP : va_P (dC, dI) vwCl [(a_rules, .inl (ca_rules, 6, .inl fn_rules)), (a_motor, .inr (2, [.long f_motor_d, .long f_motor_q, .long f_motor_pace, .long f_motor_angle])), (h0, .inr (4, [.ref a_rules, .ref a_loopD, .ref a_loopQ, .ref a_loopPace, .ref a_motor, .ref a_onTimes, .ref a_asked, .ref a_changes, .int o5, .int o6, .int f_lost, .long f_voltsD, .long f_voltsQ, .long f_heat, .int f_beats, .int (0 : Int32)])), (a_changes, .inr (0, [.ref a_changes_rows, .int o7, .int o8])), (a_changes_rows, .inl (ca_changes_rows, 60, .inl o9))] H := hP
      have hD : va_D A [(a_rules, .inl (ca_rules, 6, .inl fn_rules)), (a_motor, .inr (2, [.long f_motor_d, .long f_motor_q, .long f_motor_pace, .long f_motor_angle])), (h0, .inr (4, [.ref a_rules, .ref a_loopD, .ref a_loopQ, .ref a_loopPace, .ref a_motor, .ref a_onTimes, .ref a_asked, .ref a_changes, .int o5, .int o6, .int f_lost, .long f_voltsD, .long f_voltsQ, .long f_heat, .int f_beats, .int (0 : Int32)])), (a_changes, .inr (0, [.ref a_changes_rows, .int o7, .int o8])), (a_changes_rows, .inl (ca_changes_rows, 60, .inl o9))] := hD
      have hP9 := hP.sub (ws' := [(h0, .inr (4, [.ref a_rules, .ref a_loopD, .ref a_loopQ, .ref a_loopPace, .ref a_motor, .ref a_onTimes, .ref a_asked, .ref a_changes, .int o5, .int o6, .int f_lost, .long f_voltsD, .long f_voltsQ, .long f_heat, .int f_beats, .int (0 : Int32)])), (a_rules, .inl (ca_rules, 6, .inl fn_rules)), (a_motor, .inr (2, [.long f_motor_d, .long f_motor_q, .long f_motor_pace, .long f_motor_angle])), (a_changes, .inr (0, [.ref a_changes_rows, .int o7, .int o8])), (a_changes_rows, .inl (ca_changes_rows, 60, .inl o9))]) [2, 0, 1, 3, 4] rfl
      have hD9 := hD.sub (ws' := [(h0, .inr (4, [.ref a_rules, .ref a_loopD, .ref a_loopQ, .ref a_loopPace, .ref a_motor, .ref a_onTimes, .ref a_asked, .ref a_changes, .int o5, .int o6, .int f_lost, .long f_voltsD, .long f_voltsQ, .long f_heat, .int f_beats, .int (0 : Int32)])), (a_rules, .inl (ca_rules, 6, .inl fn_rules)), (a_motor, .inr (2, [.long f_motor_d, .long f_motor_q, .long f_motor_pace, .long f_motor_angle])), (a_changes, .inr (0, [.ref a_changes_rows, .int o7, .int o8])), (a_changes_rows, .inl (ca_changes_rows, 60, .inl o9))]) [2, 0, 1, 3, 4] (by decide) rfl
      have hK9 := hK.sub (tys' := [(ca_rules, .int), (ca_changes_rows, .int)]) [0, 1] rfl
      exact W.vret hx hb hr (fun t ht hW => ⟨⟨(o5, o6, (0 : Int32), o7, o8, o9), rfl, ⟨r1, hw_2, ⟨fun hh => absurd hh c3, fun _ => ⟨fun hh => absurd hh c4, fun _ => ⟨o5, o6, o7, o8, o9, hw_10, ⟨rfl, rfl, rfl, rfl, rfl, rfl⟩⟩⟩⟩⟩, (by rw [ht]; exact hP9), va_K.moved hW.alike hK9, hD9⟩, hS.F ht⟩) hS.2.2 dX5_stopAtFault_23
def R_X5_wantedD (fn_rules : Nat → Int32) (f_motor_pace : Int64) (r : Int64) : Prop := ∃ v1 : Int32, v1 = fn_rules 4 ∧ (∃ v2 : Int64, v2 = (if 0 < f_motor_pace then f_motor_pace else -f_motor_pace) ∧ (∃ v3 : Int64, v3 = ((v1.toInt64) - v2) ∧ (((0 : Int64) ≤ v3 → (r = (0 : Int64))) ∧ (¬ ((0 : Int64) ≤ v3) → (∃ v5 : Int64, v5 = (if (v3 >>> (4 : Int64)) < (-4000 : Int64) then (-4000 : Int64) else (v3 >>> (4 : Int64))) ∧ (r = v5))))))
set_option maxHeartbeats 4000000 in
set_option maxRecDepth 100000 in
theorem c_X5_wantedD (l : Launch) (dC : Nat → ClassId) (dI : Nat → Nat → Nat) (h0 : Nat) (a_rules : Nat) (a_loopD : Nat) (a_loopQ : Nat) (a_loopPace : Nat) (a_motor : Nat) (a_onTimes : Nat) (a_asked : Nat) (a_changes : Nat) (f_state : Int32) (f_fault : Int32) (f_lost : Int32) (f_voltsD : Int64) (f_voltsQ : Int64) (f_heat : Int64) (f_beats : Int32) (f_alignBeats : Int32) (ca_rules : ClassId) (fn_rules : Nat → Int32) (f_motor_d : Int64) (f_motor_q : Int64) (f_motor_pace : Int64) (f_motor_angle : Int64) (sz : Nat)  : Met l yX5_wantedD wsX5_wantedD ({ frames := 1, cells := 0, slots := 0, locals := 17 }) (va_Pc [.ref h0] (mw_pre (dC, dI) vwCl [(h0, .inr (4, [.ref a_rules, .ref a_loopD, .ref a_loopQ, .ref a_loopPace, .ref a_motor, .ref a_onTimes, .ref a_asked, .ref a_changes, .int f_state, .int f_fault, .int f_lost, .long f_voltsD, .long f_voltsQ, .long f_heat, .int f_beats, .int f_alignBeats])), (a_rules, .inl (ca_rules, 6, .inl fn_rules)), (a_motor, .inr (2, [.long f_motor_d, .long f_motor_q, .long f_motor_pace, .long f_motor_angle]))] [(ca_rules, .int)] sz)) (va_Ql (fun (r : Int64) (u : Unit) => R_X5_wantedD fn_rules f_motor_pace r) (fun u t => mw_at (dC, dI) vwCl [(h0, .inr (4, [.ref a_rules, .ref a_loopD, .ref a_loopQ, .ref a_loopPace, .ref a_motor, .ref a_onTimes, .ref a_asked, .ref a_changes, .int f_state, .int f_fault, .int f_lost, .long f_voltsD, .long f_voltsQ, .long f_heat, .int f_beats, .int f_alignBeats])), (a_rules, .inl (ca_rules, 6, .inl fn_rules)), (a_motor, .inr (2, [.long f_motor_d, .long f_motor_q, .long f_motor_pace, .long f_motor_angle]))] [(ca_rules, .int)] (va_A [(h0, .inr (4, [.ref a_rules, .ref a_loopD, .ref a_loopQ, .ref a_loopPace, .ref a_motor, .ref a_onTimes, .ref a_asked, .ref a_changes, .int f_state, .int f_fault, .int f_lost, .long f_voltsD, .long f_voltsQ, .long f_heat, .int f_beats, .int f_alignBeats])), (a_rules, .inl (ca_rules, 6, .inl fn_rules)), (a_motor, .inr (2, [.long f_motor_d, .long f_motor_q, .long f_motor_pace, .long f_motor_angle]))] sz) t) (va_A [(h0, .inr (4, [.ref a_rules, .ref a_loopD, .ref a_loopQ, .ref a_loopPace, .ref a_motor, .ref a_onTimes, .ref a_asked, .ref a_changes, .int f_state, .int f_fault, .int f_lost, .long f_voltsD, .long f_voltsQ, .long f_heat, .int f_beats, .int f_alignBeats])), (a_rules, .inl (ca_rules, 6, .inl fn_rules)), (a_motor, .inr (2, [.long f_motor_d, .long f_motor_q, .long f_motor_pace, .long f_motor_angle]))] sz)) 0 0 (va_A [(h0, .inr (4, [.ref a_rules, .ref a_loopD, .ref a_loopQ, .ref a_loopPace, .ref a_motor, .ref a_onTimes, .ref a_asked, .ref a_changes, .int f_state, .int f_fault, .int f_lost, .long f_voltsD, .long f_voltsQ, .long f_heat, .int f_beats, .int f_alignBeats])), (a_rules, .inl (ca_rules, 6, .inl fn_rules)), (a_motor, .inr (2, [.long f_motor_d, .long f_motor_q, .long f_motor_pace, .long f_motor_angle]))] sz) := by
  refine Met.ofW (cc := cX5_wantedD) (maxL := 3) (ret := (some .long)) (by decide) rfl ?_
  intro p e s m args below meth c s₁ B hml hv
  obtain ⟨rfl, hsz, hP, hK, hD0, hN⟩ := hv
  have hx := B.exec
  have hb := B.bytes
  have hr := B.returns
  have hts := atoms_spec (ws := wsX5_wantedD) B.pre
  have hown : s.vm.findClass RX5 = some m.cls := findClass_of_methodNamed B.named
  have hlocks := B.notSynchronized
  subst hsz
  have hD := hD0.self (sz := s.heap.size)
  generalize hAe : va_A [(h0, .inr (4, [.ref a_rules, .ref a_loopD, .ref a_loopQ, .ref a_loopPace, .ref a_motor, .ref a_onTimes, .ref a_asked, .ref a_changes, .int f_state, .int f_fault, .int f_lost, .long f_voltsD, .long f_voltsQ, .long f_heat, .int f_beats, .int f_alignBeats])), (a_rules, .inl (ca_rules, 6, .inl fn_rules)), (a_motor, .inr (2, [.long f_motor_d, .long f_motor_q, .long f_motor_pace, .long f_motor_angle]))] s.heap.size = A at hD ⊢
  have hA : ∀ q : Nat, s.heap.size ≤ q → A q := fun q h => by rw [← hAe]; exact Or.inr h
  have hS : va_S A s.heap s.heap [] := va_S.rf
  have hP : va_P (dC, dI) vwCl [(h0, .inr (4, [.ref a_rules, .ref a_loopD, .ref a_loopQ, .ref a_loopPace, .ref a_motor, .ref a_onTimes, .ref a_asked, .ref a_changes, .int f_state, .int f_fault, .int f_lost, .long f_voltsD, .long f_voltsQ, .long f_heat, .int f_beats, .int f_alignBeats])), (a_rules, .inl (ca_rules, 6, .inl fn_rules)), (a_motor, .inr (2, [.long f_motor_d, .long f_motor_q, .long f_motor_pace, .long f_motor_angle]))] s.heap := hP
  have hl := lv_entry ([.ref h0]) (n := 3) (Nat.le_of_ble_eq_true rfl)
  rw [lg_entry_eq]
  generalize (lg_sl ([.ref h0]) ++ List.replicate (3 - (lg_sl ([.ref h0])).length) Slot.unset).toArray = ls at hl ⊢
  have hl : lv_has ls 3 [(0, .ref h0)] := hl
  have hw0 := hts (.fieldLink RX5 9 "TurnedFields" "rules" "[I") (by decide +kernel)
  have hw1 := hts (.fieldLink RX5 29 "TurnedFields" "motor" "LTurnedFields$Motor;") (by decide +kernel)
  have hw2 := hts (.fieldLink RX5 167 "TurnedFields$Motor" "pace" "J") (by decide +kernel)
  have hw3 := hts (.methodLink RX5 218 Lib.MathLoose.abs_long.x) (by decide +kernel)
  have hw4 := hts (.static Lib.MathLoose.abs_long.x) (by decide +kernel)
  have hw5 := hts (.initialized "java/lang/Math") (by decide +kernel)
  have hw6 := hts (.code Lib.MathLoose.abs_long.x Lib.MathLoose.abs_long.code 2 (some .long)) (by decide +kernel)
  have hw7 := hts (.constantLong RX5 242 (-4000)) (by decide +kernel)
  have hw8 := hts (.methodLink RX5 244 Lib.MathLoose.max_long.x) (by decide +kernel)
  have hw9 := hts (.static Lib.MathLoose.max_long.x) (by decide +kernel)
  have hw10 := hts (.code Lib.MathLoose.max_long.x Lib.MathLoose.max_long.code 4 (some .long)) (by decide +kernel)
  have hinX3 : ∀ w ∈ wsX30, w ∈ wsX5_wantedD := by decide +kernel
  have hinX5 : ∀ w ∈ wsX50, w ∈ wsX5_wantedD := by decide +kernel
  refine lv_aload_n hx hb dX5_wantedD_0 rfl (lv_at hl 0 rfl) ?_
  refine va_get (D := (dC, dI)) (ci := 4) (v := .ref a_rules) (C := RX5) (T := TX5) (N := 16) hx hb hts hinX5 hown hK hP 0 rfl rfl 0 (by decide) hw0 (fun _ h9 => h9) rfl dX5_wantedD_1 ?_
  refine lv_iconst (v := 4) hx hb dX5_wantedD_4 (by decide) ?_
  refine va_iald hx hb hK hP 1 0 rfl rfl (by unfold vp_in; decide) dX5_wantedD_5 ?_
  refine lv_topi (fun v1 ev1 => ?_)
  have ev1 : v1 = fn_rules 4 := ev1
  refine lv_i2l hx hb dX5_wantedD_6 rfl ?_
  refine lv_aload_n hx hb dX5_wantedD_7 rfl (lv_at hl 0 rfl) ?_
  refine va_get (D := (dC, dI)) (ci := 4) (v := .ref a_motor) (C := RX5) (T := TX5) (N := 16) hx hb hts hinX5 hown hK hP 0 rfl rfl 4 (by decide) hw1 (fun _ h9 => h9) rfl dX5_wantedD_8 ?_
  refine va_get (D := (dC, dI)) (ci := 2) (v := .long f_motor_pace) (C := RX3) (T := TX3) (N := 4) hx hb hts hinX3 hown hK hP 2 rfl rfl 2 (by decide) hw2 (fun _ h9 => h9) rfl dX5_wantedD_11 ?_
  refine va_mabs_long hx hb (hml.trans hl.1.symm) hown hw3 hw4 hw5 hw6 (Nat.le_of_ble_eq_true rfl) (Nat.le_of_ble_eq_true rfl) (Nat.le_of_ble_eq_true rfl) (Nat.le_of_ble_eq_true rfl) dX5_wantedD_14 ?_
  refine lv_topl (fun v2 ev2 => ?_)
  refine lv_lsub hx hb dX5_wantedD_17 ?_
  refine lv_topl (fun v3 ev3 => ?_)
  refine lv_lstore_n (lv' := [(1, .long v3), (0, .ref h0)]) hx hb dX5_wantedD_18 rfl hl (by decide) rfl (fun ls hl => ?_)
  refine lv_lload_n hx hb dX5_wantedD_19 rfl (lv_at hl 0 rfl) ?_
  refine lv_lconst (v := 0) hx hb dX5_wantedD_20 (by decide) ?_
  refine W.lcmp hx hb dX5_wantedD_21 ?_
  refine lv_if_ge (tgt := 37) hx hb dX5_wantedD_22 (by decide) (fun c4 => ?_) (fun c4 => ?_)
  · have c4 : (0 : Int64) ≤ v3 := (lg_cmp_ge _ _).mp c4
    refine lv_lconst (v := 0) hx hb dX5_wantedD_37 (by decide) ?_
    have hP9 := hP.sub (ws' := [(h0, .inr (4, [.ref a_rules, .ref a_loopD, .ref a_loopQ, .ref a_loopPace, .ref a_motor, .ref a_onTimes, .ref a_asked, .ref a_changes, .int f_state, .int f_fault, .int f_lost, .long f_voltsD, .long f_voltsQ, .long f_heat, .int f_beats, .int f_alignBeats])), (a_rules, .inl (ca_rules, 6, .inl fn_rules)), (a_motor, .inr (2, [.long f_motor_d, .long f_motor_q, .long f_motor_pace, .long f_motor_angle]))]) [0, 1, 2] rfl
    have hD9 := hD.sub (ws' := [(h0, .inr (4, [.ref a_rules, .ref a_loopD, .ref a_loopQ, .ref a_loopPace, .ref a_motor, .ref a_onTimes, .ref a_asked, .ref a_changes, .int f_state, .int f_fault, .int f_lost, .long f_voltsD, .long f_voltsQ, .long f_heat, .int f_beats, .int f_alignBeats])), (a_rules, .inl (ca_rules, 6, .inl fn_rules)), (a_motor, .inr (2, [.long f_motor_d, .long f_motor_q, .long f_motor_pace, .long f_motor_angle]))]) [0, 1, 2] (by decide) rfl
    have hK9 := hK.sub (tys' := [(ca_rules, .int)]) [0] rfl
    exact W.lret (v := (0 : Int64)) hx hb hr (fun t ht hW => ⟨⟨(0 : Int64), (), rfl, ⟨v1, ev1, ⟨v2, ev2, ⟨v3, ev3, ⟨fun _ => rfl, fun hh => absurd c4 hh⟩⟩⟩⟩, (by rw [ht]; exact hP9), va_K.moved hW.alike hK9, hD9⟩, hS.F ht⟩) hS.2.2 dX5_wantedD_38
  · have c4 : ¬ ((0 : Int64) ≤ v3) := mw_fge c4
    refine lv_ldc2 hx hb hown hw7 dX5_wantedD_25 ?_
    refine lv_lload_n hx hb dX5_wantedD_28 rfl (lv_at hl 0 rfl) ?_
    refine lv_iconst (v := 4) hx hb dX5_wantedD_29 (by decide) ?_
    refine lv_lshr hx hb dX5_wantedD_30 (mw_sh _ _ 4 (by decide)) ?_
    refine va_mmax_long hx hb (hml.trans hl.1.symm) hown hw8 hw9 hw5 hw10 (Nat.le_of_ble_eq_true rfl) (Nat.le_of_ble_eq_true rfl) (Nat.le_of_ble_eq_true rfl) (Nat.le_of_ble_eq_true rfl) dX5_wantedD_31 ?_
    refine lv_topl (fun v5 ev5 => ?_)
    refine lv_goto (tgt := 38) hx hb dX5_wantedD_34 (by decide) ?_
    have hP9 := hP.sub (ws' := [(h0, .inr (4, [.ref a_rules, .ref a_loopD, .ref a_loopQ, .ref a_loopPace, .ref a_motor, .ref a_onTimes, .ref a_asked, .ref a_changes, .int f_state, .int f_fault, .int f_lost, .long f_voltsD, .long f_voltsQ, .long f_heat, .int f_beats, .int f_alignBeats])), (a_rules, .inl (ca_rules, 6, .inl fn_rules)), (a_motor, .inr (2, [.long f_motor_d, .long f_motor_q, .long f_motor_pace, .long f_motor_angle]))]) [0, 1, 2] rfl
    have hD9 := hD.sub (ws' := [(h0, .inr (4, [.ref a_rules, .ref a_loopD, .ref a_loopQ, .ref a_loopPace, .ref a_motor, .ref a_onTimes, .ref a_asked, .ref a_changes, .int f_state, .int f_fault, .int f_lost, .long f_voltsD, .long f_voltsQ, .long f_heat, .int f_beats, .int f_alignBeats])), (a_rules, .inl (ca_rules, 6, .inl fn_rules)), (a_motor, .inr (2, [.long f_motor_d, .long f_motor_q, .long f_motor_pace, .long f_motor_angle]))]) [0, 1, 2] (by decide) rfl
    have hK9 := hK.sub (tys' := [(ca_rules, .int)]) [0] rfl
    exact W.lret (v := v5) hx hb hr (fun t ht hW => ⟨⟨v5, (), rfl, ⟨v1, ev1, ⟨v2, ev2, ⟨v3, ev3, ⟨fun hh => absurd hh c4, fun _ => ⟨v5, ev5, rfl⟩⟩⟩⟩⟩, (by rw [ht]; exact hP9), va_K.moved hW.alike hK9, hD9⟩, hS.F ht⟩) hS.2.2 dX5_wantedD_38
def R_X5_followPace (fn_rules : Nat → Int32) (f_loopD_kp : Int64) (f_loopD_ki : Int64) (f_loopD_sum : Int64) (f_loopQ_kp : Int64) (f_loopQ_ki : Int64) (f_loopQ_sum : Int64) (f_loopPace_kp : Int64) (f_loopPace_ki : Int64) (f_loopPace_sum : Int64) (f_motor_d : Int64) (f_motor_q : Int64) (f_motor_pace : Int64) (p0 : Int64) (u_0_voltsD : Int64) (u_0_voltsQ : Int64) (u_2_sum : Int64) (u_3_sum : Int64) (u_4_sum : Int64) : Prop := ∃ v1 : Int32, v1 = fn_rules 0 ∧ (∃ v2 : Int64, v2 = (((v1.toInt64) * (9459 : Int64)) >>> (14 : Int64)) ∧ (∃ v3 : Int32, v3 = fn_rules 1 ∧ (∃ (r5 : Int64) (o4 : Int64), R_X2_step f_loopPace_kp f_loopPace_ki f_loopPace_sum (v3.toInt64) (p0 - f_motor_pace) r5 o4 ∧ (∃ (r7 : Int64), R_X5_wantedD fn_rules f_motor_pace r7 ∧ (∃ (r10 : Int64) (o9 : Int64), R_X2_step f_loopD_kp f_loopD_ki f_loopD_sum v2 (r7 - f_motor_d) r10 o9 ∧ (∃ (r13 : Int64) (o12 : Int64), R_X2_step f_loopQ_kp f_loopQ_ki f_loopQ_sum v2 (r5 - f_motor_q) r13 o12 ∧ (u_0_voltsD = r10 ∧ u_0_voltsQ = r13 ∧ u_2_sum = o9 ∧ u_3_sum = o12 ∧ u_4_sum = o4)))))))
set_option maxHeartbeats 4000000 in
set_option maxRecDepth 100000 in
theorem c_X5_followPace (l : Launch) (dC : Nat → ClassId) (dI : Nat → Nat → Nat) (h0 : Nat) (a_rules : Nat) (a_loopD : Nat) (a_loopQ : Nat) (a_loopPace : Nat) (a_motor : Nat) (a_onTimes : Nat) (a_asked : Nat) (a_changes : Nat) (f_state : Int32) (f_fault : Int32) (f_lost : Int32) (f_voltsD : Int64) (f_voltsQ : Int64) (f_heat : Int64) (f_beats : Int32) (f_alignBeats : Int32) (ca_rules : ClassId) (fn_rules : Nat → Int32) (f_loopD_kp : Int64) (f_loopD_ki : Int64) (f_loopD_sum : Int64) (f_loopQ_kp : Int64) (f_loopQ_ki : Int64) (f_loopQ_sum : Int64) (f_loopPace_kp : Int64) (f_loopPace_ki : Int64) (f_loopPace_sum : Int64) (f_motor_d : Int64) (f_motor_q : Int64) (f_motor_pace : Int64) (f_motor_angle : Int64) (p0 : Int64) (sz : Nat)  : Met l yX5_followPace wsX5_followPace ({ frames := 3, cells := 0, slots := 0, locals := 66 }) (va_Pc [.ref h0, .long p0] (mw_pre (dC, dI) vwCl [(h0, .inr (4, [.ref a_rules, .ref a_loopD, .ref a_loopQ, .ref a_loopPace, .ref a_motor, .ref a_onTimes, .ref a_asked, .ref a_changes, .int f_state, .int f_fault, .int f_lost, .long f_voltsD, .long f_voltsQ, .long f_heat, .int f_beats, .int f_alignBeats])), (a_rules, .inl (ca_rules, 6, .inl fn_rules)), (a_loopD, .inr (1, [.long f_loopD_kp, .long f_loopD_ki, .long f_loopD_sum])), (a_loopQ, .inr (1, [.long f_loopQ_kp, .long f_loopQ_ki, .long f_loopQ_sum])), (a_loopPace, .inr (1, [.long f_loopPace_kp, .long f_loopPace_ki, .long f_loopPace_sum])), (a_motor, .inr (2, [.long f_motor_d, .long f_motor_q, .long f_motor_pace, .long f_motor_angle]))] [(ca_rules, .int)] sz)) (va_Qv (fun (u : Int64 × Int64 × Int64 × Int64 × Int64) => R_X5_followPace fn_rules f_loopD_kp f_loopD_ki f_loopD_sum f_loopQ_kp f_loopQ_ki f_loopQ_sum f_loopPace_kp f_loopPace_ki f_loopPace_sum f_motor_d f_motor_q f_motor_pace p0 u.1 u.2.1 u.2.2.1 u.2.2.2.1 u.2.2.2.2) (fun u t => mw_at (dC, dI) vwCl [(h0, .inr (4, [.ref a_rules, .ref a_loopD, .ref a_loopQ, .ref a_loopPace, .ref a_motor, .ref a_onTimes, .ref a_asked, .ref a_changes, .int f_state, .int f_fault, .int f_lost, .long u.1, .long u.2.1, .long f_heat, .int f_beats, .int f_alignBeats])), (a_rules, .inl (ca_rules, 6, .inl fn_rules)), (a_loopD, .inr (1, [.long f_loopD_kp, .long f_loopD_ki, .long u.2.2.1])), (a_loopQ, .inr (1, [.long f_loopQ_kp, .long f_loopQ_ki, .long u.2.2.2.1])), (a_loopPace, .inr (1, [.long f_loopPace_kp, .long f_loopPace_ki, .long u.2.2.2.2])), (a_motor, .inr (2, [.long f_motor_d, .long f_motor_q, .long f_motor_pace, .long f_motor_angle]))] [(ca_rules, .int)] (va_A [(h0, .inr (4, [.ref a_rules, .ref a_loopD, .ref a_loopQ, .ref a_loopPace, .ref a_motor, .ref a_onTimes, .ref a_asked, .ref a_changes, .int f_state, .int f_fault, .int f_lost, .long f_voltsD, .long f_voltsQ, .long f_heat, .int f_beats, .int f_alignBeats])), (a_rules, .inl (ca_rules, 6, .inl fn_rules)), (a_loopD, .inr (1, [.long f_loopD_kp, .long f_loopD_ki, .long f_loopD_sum])), (a_loopQ, .inr (1, [.long f_loopQ_kp, .long f_loopQ_ki, .long f_loopQ_sum])), (a_loopPace, .inr (1, [.long f_loopPace_kp, .long f_loopPace_ki, .long f_loopPace_sum])), (a_motor, .inr (2, [.long f_motor_d, .long f_motor_q, .long f_motor_pace, .long f_motor_angle]))] sz) t) (va_A [(h0, .inr (4, [.ref a_rules, .ref a_loopD, .ref a_loopQ, .ref a_loopPace, .ref a_motor, .ref a_onTimes, .ref a_asked, .ref a_changes, .int f_state, .int f_fault, .int f_lost, .long f_voltsD, .long f_voltsQ, .long f_heat, .int f_beats, .int f_alignBeats])), (a_rules, .inl (ca_rules, 6, .inl fn_rules)), (a_loopD, .inr (1, [.long f_loopD_kp, .long f_loopD_ki, .long f_loopD_sum])), (a_loopQ, .inr (1, [.long f_loopQ_kp, .long f_loopQ_ki, .long f_loopQ_sum])), (a_loopPace, .inr (1, [.long f_loopPace_kp, .long f_loopPace_ki, .long f_loopPace_sum])), (a_motor, .inr (2, [.long f_motor_d, .long f_motor_q, .long f_motor_pace, .long f_motor_angle]))] sz)) 0 0 (va_A [(h0, .inr (4, [.ref a_rules, .ref a_loopD, .ref a_loopQ, .ref a_loopPace, .ref a_motor, .ref a_onTimes, .ref a_asked, .ref a_changes, .int f_state, .int f_fault, .int f_lost, .long f_voltsD, .long f_voltsQ, .long f_heat, .int f_beats, .int f_alignBeats])), (a_rules, .inl (ca_rules, 6, .inl fn_rules)), (a_loopD, .inr (1, [.long f_loopD_kp, .long f_loopD_ki, .long f_loopD_sum])), (a_loopQ, .inr (1, [.long f_loopQ_kp, .long f_loopQ_ki, .long f_loopQ_sum])), (a_loopPace, .inr (1, [.long f_loopPace_kp, .long f_loopPace_ki, .long f_loopPace_sum])), (a_motor, .inr (2, [.long f_motor_d, .long f_motor_q, .long f_motor_pace, .long f_motor_angle]))] sz) := by
  refine Met.ofW (cc := cX5_followPace) (maxL := 7) (ret := none) (by decide) rfl ?_
  intro p e s m args below meth c s₁ B hml hv
  obtain ⟨rfl, hsz, hP, hK, hD0, hN⟩ := hv
  have hx := B.exec
  have hb := B.bytes
  have hr := B.returns
  have hts := atoms_spec (ws := wsX5_followPace) B.pre
  have hown : s.vm.findClass RX5 = some m.cls := findClass_of_methodNamed B.named
  have hlocks := B.notSynchronized
  subst hsz
  have hD := hD0.self (sz := s.heap.size)
  generalize hAe : va_A [(h0, .inr (4, [.ref a_rules, .ref a_loopD, .ref a_loopQ, .ref a_loopPace, .ref a_motor, .ref a_onTimes, .ref a_asked, .ref a_changes, .int f_state, .int f_fault, .int f_lost, .long f_voltsD, .long f_voltsQ, .long f_heat, .int f_beats, .int f_alignBeats])), (a_rules, .inl (ca_rules, 6, .inl fn_rules)), (a_loopD, .inr (1, [.long f_loopD_kp, .long f_loopD_ki, .long f_loopD_sum])), (a_loopQ, .inr (1, [.long f_loopQ_kp, .long f_loopQ_ki, .long f_loopQ_sum])), (a_loopPace, .inr (1, [.long f_loopPace_kp, .long f_loopPace_ki, .long f_loopPace_sum])), (a_motor, .inr (2, [.long f_motor_d, .long f_motor_q, .long f_motor_pace, .long f_motor_angle]))] s.heap.size = A at hD ⊢
  have hA : ∀ q : Nat, s.heap.size ≤ q → A q := fun q h => by rw [← hAe]; exact Or.inr h
  have hS : va_S A s.heap s.heap [] := va_S.rf
  have hP : va_P (dC, dI) vwCl [(h0, .inr (4, [.ref a_rules, .ref a_loopD, .ref a_loopQ, .ref a_loopPace, .ref a_motor, .ref a_onTimes, .ref a_asked, .ref a_changes, .int f_state, .int f_fault, .int f_lost, .long f_voltsD, .long f_voltsQ, .long f_heat, .int f_beats, .int f_alignBeats])), (a_rules, .inl (ca_rules, 6, .inl fn_rules)), (a_loopD, .inr (1, [.long f_loopD_kp, .long f_loopD_ki, .long f_loopD_sum])), (a_loopQ, .inr (1, [.long f_loopQ_kp, .long f_loopQ_ki, .long f_loopQ_sum])), (a_loopPace, .inr (1, [.long f_loopPace_kp, .long f_loopPace_ki, .long f_loopPace_sum])), (a_motor, .inr (2, [.long f_motor_d, .long f_motor_q, .long f_motor_pace, .long f_motor_angle]))] s.heap := hP
  have hl := lv_entry ([.ref h0, .long p0]) (n := 7) (Nat.le_of_ble_eq_true rfl)
  rw [lg_entry_eq]
  generalize (lg_sl ([.ref h0, .long p0]) ++ List.replicate (7 - (lg_sl ([.ref h0, .long p0])).length) Slot.unset).toArray = ls at hl ⊢
  have hl : lv_has ls 7 [(0, .ref h0), (1, .long p0)] := hl
  have hw0 := hts (.fieldLink RX5 9 "TurnedFields" "rules" "[I") (by decide +kernel)
  have hw1 := hts (.constantLong RX5 234 (9459)) (by decide +kernel)
  have hw2 := hts (.fieldLink RX5 23 "TurnedFields" "loopPace" "LTurnedFields$Loop;") (by decide +kernel)
  have hw3 := hts (.fieldLink RX5 29 "TurnedFields" "motor" "LTurnedFields$Motor;") (by decide +kernel)
  have hw4 := hts (.fieldLink RX5 167 "TurnedFields$Motor" "pace" "J") (by decide +kernel)
  have hw5 := hts (.fieldLink RX5 16 "TurnedFields" "loopD" "LTurnedFields$Loop;") (by decide +kernel)
  have hw6 := hts (.fieldLink RX5 161 "TurnedFields$Motor" "d" "J") (by decide +kernel)
  have hw7 := hts (.fieldLink RX5 61 "TurnedFields" "voltsD" "J") (by decide +kernel)
  have hw8 := hts (.fieldLink RX5 20 "TurnedFields" "loopQ" "LTurnedFields$Loop;") (by decide +kernel)
  have hw9 := hts (.fieldLink RX5 164 "TurnedFields$Motor" "q" "J") (by decide +kernel)
  have hw10 := hts (.fieldLink RX5 65 "TurnedFields" "voltsQ" "J") (by decide +kernel)
  have hinX3 : ∀ w ∈ wsX30, w ∈ wsX5_followPace := by decide +kernel
  have hinX5 : ∀ w ∈ wsX50, w ∈ wsX5_followPace := by decide +kernel
  refine lv_aload_n hx hb dX5_followPace_0 rfl (lv_at hl 0 rfl) ?_
  refine va_get (D := (dC, dI)) (ci := 4) (v := .ref a_rules) (C := RX5) (T := TX5) (N := 16) hx hb hts hinX5 hown hK hP 0 rfl rfl 0 (by decide) hw0 (fun _ h9 => h9) rfl dX5_followPace_1 ?_
  refine lv_iconst (v := 0) hx hb dX5_followPace_4 (by decide) ?_
  refine va_iald hx hb hK hP 1 0 rfl rfl (by unfold vp_in; decide) dX5_followPace_5 ?_
  refine lv_topi (fun v1 ev1 => ?_)
  have ev1 : v1 = fn_rules 0 := ev1
  refine lv_i2l hx hb dX5_followPace_6 rfl ?_
  refine lv_ldc2 hx hb hown hw1 dX5_followPace_7 ?_
  refine lv_lmul hx hb dX5_followPace_10 ?_
  refine lv_bipush (v := 14) hx hb dX5_followPace_11 (by decide) ?_
  refine lv_lshr hx hb dX5_followPace_13 (mw_sh _ _ 14 (by decide)) ?_
  refine lv_topl (fun v2 ev2 => ?_)
  refine lv_lstore_n (lv' := [(3, .long v2), (0, .ref h0), (1, .long p0)]) hx hb dX5_followPace_14 rfl hl (by decide) rfl (fun ls hl => ?_)
  refine lv_aload_n hx hb dX5_followPace_15 rfl (lv_at hl 1 rfl) ?_
  refine va_get (D := (dC, dI)) (ci := 4) (v := .ref a_loopPace) (C := RX5) (T := TX5) (N := 16) hx hb hts hinX5 hown hK hP 0 rfl rfl 3 (by decide) hw2 (fun _ h9 => h9) rfl dX5_followPace_16 ?_
  refine lv_aload_n hx hb dX5_followPace_19 rfl (lv_at hl 1 rfl) ?_
  refine va_get (D := (dC, dI)) (ci := 4) (v := .ref a_rules) (C := RX5) (T := TX5) (N := 16) hx hb hts hinX5 hown hK hP 0 rfl rfl 0 (by decide) hw0 (fun _ h9 => h9) rfl dX5_followPace_20 ?_
  refine lv_iconst (v := 1) hx hb dX5_followPace_23 (by decide) ?_
  refine va_iald hx hb hK hP 1 0 rfl rfl (by unfold vp_in; decide) dX5_followPace_24 ?_
  refine lv_topi (fun v3 ev3 => ?_)
  have ev3 : v3 = fn_rules 1 := ev3
  refine lv_i2l hx hb dX5_followPace_25 rfl ?_
  refine lv_lload_n hx hb dX5_followPace_26 rfl (lv_at hl 2 rfl) ?_
  refine lv_aload_n hx hb dX5_followPace_27 rfl (lv_at hl 1 rfl) ?_
  refine va_get (D := (dC, dI)) (ci := 4) (v := .ref a_motor) (C := RX5) (T := TX5) (N := 16) hx hb hts hinX5 hown hK hP 0 rfl rfl 4 (by decide) hw3 (fun _ h9 => h9) rfl dX5_followPace_28 ?_
  refine va_get (D := (dC, dI)) (ci := 2) (v := .long f_motor_pace) (C := RX3) (T := TX3) (N := 4) hx hb hts hinX3 hown hK hP 5 rfl rfl 2 (by decide) hw4 (fun _ h9 => h9) rfl dX5_followPace_31 ?_
  refine lv_lsub hx hb dX5_followPace_34 ?_
  refine mw_calll (wc := [(a_loopPace, .inr (1, [.long f_loopPace_kp, .long f_loopPace_ki, .long f_loopPace_sum]))]) (wr := [(h0, .inr (4, [.ref a_rules, .ref a_loopD, .ref a_loopQ, .ref a_loopPace, .ref a_motor, .ref a_onTimes, .ref a_asked, .ref a_changes, .int f_state, .int f_fault, .int f_lost, .long f_voltsD, .long f_voltsQ, .long f_heat, .int f_beats, .int f_alignBeats])), (a_rules, .inl (ca_rules, 6, .inl fn_rules)), (a_loopD, .inr (1, [.long f_loopD_kp, .long f_loopD_ki, .long f_loopD_sum])), (a_loopQ, .inr (1, [.long f_loopQ_kp, .long f_loopQ_ki, .long f_loopQ_sum])), (a_motor, .inr (2, [.long f_motor_d, .long f_motor_q, .long f_motor_pace, .long f_motor_angle]))]) (w1 := fun (u : Int64) => [(a_loopPace, .inr (1, [.long f_loopPace_kp, .long f_loopPace_ki, .long u]))]) (tyc := fun (u : Int64) => []) hP hD hS hA [4] [0, 1, 2, 3, 5] rfl rfl (by decide) (by decide) (va_runV (As := [.long (v3.toInt64), .long (p0 - f_motor_pace)]) (rest := []) ⟨hx, hb, hml, hown, hts⟩ (c_X2_step l dC dI a_loopPace f_loopPace_kp f_loopPace_ki f_loopPace_sum (v3.toInt64) (p0 - f_motor_pace) s.heap.size ) (cwV 2 hts gX5_followPace_X2_step rfl rfl rfl (by decide +kernel) ⟨(Nat.le_of_ble_eq_true rfl), (Nat.le_of_ble_eq_true rfl)⟩) (mw_preV (va_recv hK hP (ci := 1) (q0 := 4) rfl rfl) (hP.sub (ws' := [(a_loopPace, .inr (1, [.long f_loopPace_kp, .long f_loopPace_ki, .long f_loopPace_sum]))]) [4] rfl) (hD.sub (ws' := [(a_loopPace, .inr (1, [.long f_loopPace_kp, .long f_loopPace_ki, .long f_loopPace_sum]))]) [4] (by decide) rfl) (hK.sub (tys' := []) [] rfl) hN) rfl rfl hl.1 rfl (lv_room (Nat.le_of_ble_eq_true rfl)) dX5_followPace_35 ⟨(Nat.le_of_ble_eq_true rfl), (Nat.le_of_ble_eq_true rfl)⟩) (fun r5 u H locs hw_6 hP hD hS hK1 => ?_)
  obtain ⟨o4, rfl⟩ : ∃ z, z = u := ⟨_, rfl⟩
  have hw_6 : R_X2_step f_loopPace_kp f_loopPace_ki f_loopPace_sum (v3.toInt64) (p0 - f_motor_pace) r5 o4 := hw_6
  have hP : va_P (dC, dI) vwCl [(h0, .inr (4, [.ref a_rules, .ref a_loopD, .ref a_loopQ, .ref a_loopPace, .ref a_motor, .ref a_onTimes, .ref a_asked, .ref a_changes, .int f_state, .int f_fault, .int f_lost, .long f_voltsD, .long f_voltsQ, .long f_heat, .int f_beats, .int f_alignBeats])), (a_rules, .inl (ca_rules, 6, .inl fn_rules)), (a_loopD, .inr (1, [.long f_loopD_kp, .long f_loopD_ki, .long f_loopD_sum])), (a_loopQ, .inr (1, [.long f_loopQ_kp, .long f_loopQ_ki, .long f_loopQ_sum])), (a_motor, .inr (2, [.long f_motor_d, .long f_motor_q, .long f_motor_pace, .long f_motor_angle])), (a_loopPace, .inr (1, [.long f_loopPace_kp, .long f_loopPace_ki, .long o4]))] H := hP
  have hD : va_D A [(h0, .inr (4, [.ref a_rules, .ref a_loopD, .ref a_loopQ, .ref a_loopPace, .ref a_motor, .ref a_onTimes, .ref a_asked, .ref a_changes, .int f_state, .int f_fault, .int f_lost, .long f_voltsD, .long f_voltsQ, .long f_heat, .int f_beats, .int f_alignBeats])), (a_rules, .inl (ca_rules, 6, .inl fn_rules)), (a_loopD, .inr (1, [.long f_loopD_kp, .long f_loopD_ki, .long f_loopD_sum])), (a_loopQ, .inr (1, [.long f_loopQ_kp, .long f_loopQ_ki, .long f_loopQ_sum])), (a_motor, .inr (2, [.long f_motor_d, .long f_motor_q, .long f_motor_pace, .long f_motor_angle])), (a_loopPace, .inr (1, [.long f_loopPace_kp, .long f_loopPace_ki, .long o4]))] := hD
  refine lv_lstore (lv' := [(5, .long r5), (3, .long v2), (0, .ref h0), (1, .long p0)]) hx hb dX5_followPace_38 hl (by decide) rfl (fun ls hl => ?_)
  refine lv_aload_n hx hb dX5_followPace_40 rfl (lv_at hl 2 rfl) ?_
  refine lv_aload_n hx hb dX5_followPace_41 rfl (lv_at hl 2 rfl) ?_
  refine va_get (D := (dC, dI)) (ci := 4) (v := .ref a_loopD) (C := RX5) (T := TX5) (N := 16) hx hb hts hinX5 hown hK hP 0 rfl rfl 1 (by decide) hw5 (fun _ h9 => h9) rfl dX5_followPace_42 ?_
  refine lv_lload_n hx hb dX5_followPace_45 rfl (lv_at hl 1 rfl) ?_
  refine lv_aload_n hx hb dX5_followPace_46 rfl (lv_at hl 2 rfl) ?_
  refine mw_calll (wc := [(h0, .inr (4, [.ref a_rules, .ref a_loopD, .ref a_loopQ, .ref a_loopPace, .ref a_motor, .ref a_onTimes, .ref a_asked, .ref a_changes, .int f_state, .int f_fault, .int f_lost, .long f_voltsD, .long f_voltsQ, .long f_heat, .int f_beats, .int f_alignBeats])), (a_rules, .inl (ca_rules, 6, .inl fn_rules)), (a_motor, .inr (2, [.long f_motor_d, .long f_motor_q, .long f_motor_pace, .long f_motor_angle]))]) (wr := [(a_loopD, .inr (1, [.long f_loopD_kp, .long f_loopD_ki, .long f_loopD_sum])), (a_loopQ, .inr (1, [.long f_loopQ_kp, .long f_loopQ_ki, .long f_loopQ_sum])), (a_loopPace, .inr (1, [.long f_loopPace_kp, .long f_loopPace_ki, .long o4]))]) (w1 := fun (u : Unit) => [(h0, .inr (4, [.ref a_rules, .ref a_loopD, .ref a_loopQ, .ref a_loopPace, .ref a_motor, .ref a_onTimes, .ref a_asked, .ref a_changes, .int f_state, .int f_fault, .int f_lost, .long f_voltsD, .long f_voltsQ, .long f_heat, .int f_beats, .int f_alignBeats])), (a_rules, .inl (ca_rules, 6, .inl fn_rules)), (a_motor, .inr (2, [.long f_motor_d, .long f_motor_q, .long f_motor_pace, .long f_motor_angle]))]) (tyc := fun (u : Unit) => [(ca_rules, .int)]) hP hD hS hA [0, 1, 4] [2, 3, 5] rfl rfl (by decide) (by decide) (va_runV (As := []) (rest := [.long v2, .ref a_loopD, .ref h0]) ⟨hx, hb, hml, hown, hts⟩ (c_X5_wantedD l dC dI h0 a_rules a_loopD a_loopQ a_loopPace a_motor a_onTimes a_asked a_changes f_state f_fault f_lost f_voltsD f_voltsQ f_heat f_beats f_alignBeats ca_rules fn_rules f_motor_d f_motor_q f_motor_pace f_motor_angle H.size ) (cwV 0 hts gX5_followPace_X5_wantedD rfl rfl rfl (by decide +kernel) ⟨(Nat.le_of_ble_eq_true rfl), (Nat.le_of_ble_eq_true rfl)⟩) (mw_preV (va_recv hK hP (ci := 4) (q0 := 0) rfl rfl) (hP.sub (ws' := [(h0, .inr (4, [.ref a_rules, .ref a_loopD, .ref a_loopQ, .ref a_loopPace, .ref a_motor, .ref a_onTimes, .ref a_asked, .ref a_changes, .int f_state, .int f_fault, .int f_lost, .long f_voltsD, .long f_voltsQ, .long f_heat, .int f_beats, .int f_alignBeats])), (a_rules, .inl (ca_rules, 6, .inl fn_rules)), (a_motor, .inr (2, [.long f_motor_d, .long f_motor_q, .long f_motor_pace, .long f_motor_angle]))]) [0, 1, 4] rfl) (hD.sub (ws' := [(h0, .inr (4, [.ref a_rules, .ref a_loopD, .ref a_loopQ, .ref a_loopPace, .ref a_motor, .ref a_onTimes, .ref a_asked, .ref a_changes, .int f_state, .int f_fault, .int f_lost, .long f_voltsD, .long f_voltsQ, .long f_heat, .int f_beats, .int f_alignBeats])), (a_rules, .inl (ca_rules, 6, .inl fn_rules)), (a_motor, .inr (2, [.long f_motor_d, .long f_motor_q, .long f_motor_pace, .long f_motor_angle]))]) [0, 1, 4] (by decide) rfl) (hK.sub (tys' := [(ca_rules, .int)]) [0] rfl) hN) rfl rfl hl.1 rfl (lv_room (Nat.le_of_ble_eq_true rfl)) dX5_followPace_47 ⟨(Nat.le_of_ble_eq_true rfl), (Nat.le_of_ble_eq_true rfl)⟩) (fun r7 u H locs hw_8 hP hD hS hK1 => ?_)
  have hw_8 : R_X5_wantedD fn_rules f_motor_pace r7 := hw_8
  have hP : va_P (dC, dI) vwCl [(a_loopD, .inr (1, [.long f_loopD_kp, .long f_loopD_ki, .long f_loopD_sum])), (a_loopQ, .inr (1, [.long f_loopQ_kp, .long f_loopQ_ki, .long f_loopQ_sum])), (a_loopPace, .inr (1, [.long f_loopPace_kp, .long f_loopPace_ki, .long o4])), (h0, .inr (4, [.ref a_rules, .ref a_loopD, .ref a_loopQ, .ref a_loopPace, .ref a_motor, .ref a_onTimes, .ref a_asked, .ref a_changes, .int f_state, .int f_fault, .int f_lost, .long f_voltsD, .long f_voltsQ, .long f_heat, .int f_beats, .int f_alignBeats])), (a_rules, .inl (ca_rules, 6, .inl fn_rules)), (a_motor, .inr (2, [.long f_motor_d, .long f_motor_q, .long f_motor_pace, .long f_motor_angle]))] H := hP
  have hD : va_D A [(a_loopD, .inr (1, [.long f_loopD_kp, .long f_loopD_ki, .long f_loopD_sum])), (a_loopQ, .inr (1, [.long f_loopQ_kp, .long f_loopQ_ki, .long f_loopQ_sum])), (a_loopPace, .inr (1, [.long f_loopPace_kp, .long f_loopPace_ki, .long o4])), (h0, .inr (4, [.ref a_rules, .ref a_loopD, .ref a_loopQ, .ref a_loopPace, .ref a_motor, .ref a_onTimes, .ref a_asked, .ref a_changes, .int f_state, .int f_fault, .int f_lost, .long f_voltsD, .long f_voltsQ, .long f_heat, .int f_beats, .int f_alignBeats])), (a_rules, .inl (ca_rules, 6, .inl fn_rules)), (a_motor, .inr (2, [.long f_motor_d, .long f_motor_q, .long f_motor_pace, .long f_motor_angle]))] := hD
  refine lv_aload_n hx hb dX5_followPace_50 rfl (lv_at hl 2 rfl) ?_
  refine va_get (D := (dC, dI)) (ci := 4) (v := .ref a_motor) (C := RX5) (T := TX5) (N := 16) hx hb hts hinX5 hown hK hP 3 rfl rfl 4 (by decide) hw3 (fun _ h9 => h9) rfl dX5_followPace_51 ?_
  refine va_get (D := (dC, dI)) (ci := 2) (v := .long f_motor_d) (C := RX3) (T := TX3) (N := 4) hx hb hts hinX3 hown hK hP 5 rfl rfl 0 (by decide) hw6 (fun _ h9 => h9) rfl dX5_followPace_54 ?_
  refine lv_lsub hx hb dX5_followPace_57 ?_
  refine mw_calll (wc := [(a_loopD, .inr (1, [.long f_loopD_kp, .long f_loopD_ki, .long f_loopD_sum]))]) (wr := [(a_loopQ, .inr (1, [.long f_loopQ_kp, .long f_loopQ_ki, .long f_loopQ_sum])), (a_loopPace, .inr (1, [.long f_loopPace_kp, .long f_loopPace_ki, .long o4])), (h0, .inr (4, [.ref a_rules, .ref a_loopD, .ref a_loopQ, .ref a_loopPace, .ref a_motor, .ref a_onTimes, .ref a_asked, .ref a_changes, .int f_state, .int f_fault, .int f_lost, .long f_voltsD, .long f_voltsQ, .long f_heat, .int f_beats, .int f_alignBeats])), (a_rules, .inl (ca_rules, 6, .inl fn_rules)), (a_motor, .inr (2, [.long f_motor_d, .long f_motor_q, .long f_motor_pace, .long f_motor_angle]))]) (w1 := fun (u : Int64) => [(a_loopD, .inr (1, [.long f_loopD_kp, .long f_loopD_ki, .long u]))]) (tyc := fun (u : Int64) => []) hP hD hS hA [0] [1, 2, 3, 4, 5] rfl rfl (by decide) (by decide) (va_runV (As := [.long v2, .long (r7 - f_motor_d)]) (rest := [.ref h0]) ⟨hx, hb, hml, hown, hts⟩ (c_X2_step l dC dI a_loopD f_loopD_kp f_loopD_ki f_loopD_sum v2 (r7 - f_motor_d) H.size ) (cwV 2 hts gX5_followPace_X2_step rfl rfl rfl (by decide +kernel) ⟨(Nat.le_of_ble_eq_true rfl), (Nat.le_of_ble_eq_true rfl)⟩) (mw_preV (va_recv hK hP (ci := 1) (q0 := 0) rfl rfl) (hP.sub (ws' := [(a_loopD, .inr (1, [.long f_loopD_kp, .long f_loopD_ki, .long f_loopD_sum]))]) [0] rfl) (hD.sub (ws' := [(a_loopD, .inr (1, [.long f_loopD_kp, .long f_loopD_ki, .long f_loopD_sum]))]) [0] (by decide) rfl) (hK.sub (tys' := []) [] rfl) hN) rfl rfl hl.1 rfl (lv_room (Nat.le_of_ble_eq_true rfl)) dX5_followPace_58 ⟨(Nat.le_of_ble_eq_true rfl), (Nat.le_of_ble_eq_true rfl)⟩) (fun r10 u H locs hw_11 hP hD hS hK1 => ?_)
  obtain ⟨o9, rfl⟩ : ∃ z, z = u := ⟨_, rfl⟩
  have hw_11 : R_X2_step f_loopD_kp f_loopD_ki f_loopD_sum v2 (r7 - f_motor_d) r10 o9 := hw_11
  have hP : va_P (dC, dI) vwCl [(a_loopQ, .inr (1, [.long f_loopQ_kp, .long f_loopQ_ki, .long f_loopQ_sum])), (a_loopPace, .inr (1, [.long f_loopPace_kp, .long f_loopPace_ki, .long o4])), (h0, .inr (4, [.ref a_rules, .ref a_loopD, .ref a_loopQ, .ref a_loopPace, .ref a_motor, .ref a_onTimes, .ref a_asked, .ref a_changes, .int f_state, .int f_fault, .int f_lost, .long f_voltsD, .long f_voltsQ, .long f_heat, .int f_beats, .int f_alignBeats])), (a_rules, .inl (ca_rules, 6, .inl fn_rules)), (a_motor, .inr (2, [.long f_motor_d, .long f_motor_q, .long f_motor_pace, .long f_motor_angle])), (a_loopD, .inr (1, [.long f_loopD_kp, .long f_loopD_ki, .long o9]))] H := hP
  have hD : va_D A [(a_loopQ, .inr (1, [.long f_loopQ_kp, .long f_loopQ_ki, .long f_loopQ_sum])), (a_loopPace, .inr (1, [.long f_loopPace_kp, .long f_loopPace_ki, .long o4])), (h0, .inr (4, [.ref a_rules, .ref a_loopD, .ref a_loopQ, .ref a_loopPace, .ref a_motor, .ref a_onTimes, .ref a_asked, .ref a_changes, .int f_state, .int f_fault, .int f_lost, .long f_voltsD, .long f_voltsQ, .long f_heat, .int f_beats, .int f_alignBeats])), (a_rules, .inl (ca_rules, 6, .inl fn_rules)), (a_motor, .inr (2, [.long f_motor_d, .long f_motor_q, .long f_motor_pace, .long f_motor_angle])), (a_loopD, .inr (1, [.long f_loopD_kp, .long f_loopD_ki, .long o9]))] := hD
  refine va_put (D := (dC, dI)) (ci := 4) (v := .long r10) (ty := .long) (C := RX5) (T := TX5) (N := 16) hx hb hts hinX5 tyX5 tyX5_ok nmX5 hown hK hP hD hS 2 rfl rfl 11 (by decide) hw7 (fun _ h9 => h9) rfl (by decide +kernel) rfl rfl (Nat.le_of_ble_eq_true rfl) dX5_followPace_61 (fun H locs hP hD hS => ?_)
  have hP : va_P (dC, dI) vwCl [(a_loopQ, .inr (1, [.long f_loopQ_kp, .long f_loopQ_ki, .long f_loopQ_sum])), (a_loopPace, .inr (1, [.long f_loopPace_kp, .long f_loopPace_ki, .long o4])), (h0, .inr (4, [.ref a_rules, .ref a_loopD, .ref a_loopQ, .ref a_loopPace, .ref a_motor, .ref a_onTimes, .ref a_asked, .ref a_changes, .int f_state, .int f_fault, .int f_lost, .long r10, .long f_voltsQ, .long f_heat, .int f_beats, .int f_alignBeats])), (a_rules, .inl (ca_rules, 6, .inl fn_rules)), (a_motor, .inr (2, [.long f_motor_d, .long f_motor_q, .long f_motor_pace, .long f_motor_angle])), (a_loopD, .inr (1, [.long f_loopD_kp, .long f_loopD_ki, .long o9]))] H := hP
  have hD : va_D A [(a_loopQ, .inr (1, [.long f_loopQ_kp, .long f_loopQ_ki, .long f_loopQ_sum])), (a_loopPace, .inr (1, [.long f_loopPace_kp, .long f_loopPace_ki, .long o4])), (h0, .inr (4, [.ref a_rules, .ref a_loopD, .ref a_loopQ, .ref a_loopPace, .ref a_motor, .ref a_onTimes, .ref a_asked, .ref a_changes, .int f_state, .int f_fault, .int f_lost, .long r10, .long f_voltsQ, .long f_heat, .int f_beats, .int f_alignBeats])), (a_rules, .inl (ca_rules, 6, .inl fn_rules)), (a_motor, .inr (2, [.long f_motor_d, .long f_motor_q, .long f_motor_pace, .long f_motor_angle])), (a_loopD, .inr (1, [.long f_loopD_kp, .long f_loopD_ki, .long o9]))] := hD
  refine lv_aload_n hx hb dX5_followPace_64 rfl (lv_at hl 2 rfl) ?_
  refine lv_aload_n hx hb dX5_followPace_65 rfl (lv_at hl 2 rfl) ?_
  refine va_get (D := (dC, dI)) (ci := 4) (v := .ref a_loopQ) (C := RX5) (T := TX5) (N := 16) hx hb hts hinX5 hown hK hP 2 rfl rfl 2 (by decide) hw8 (fun _ h9 => h9) rfl dX5_followPace_66 ?_
  refine lv_lload_n hx hb dX5_followPace_69 rfl (lv_at hl 1 rfl) ?_
  refine lv_lload hx hb dX5_followPace_70 (lv_at hl 0 rfl) ?_
  refine lv_aload_n hx hb dX5_followPace_72 rfl (lv_at hl 2 rfl) ?_
  refine va_get (D := (dC, dI)) (ci := 4) (v := .ref a_motor) (C := RX5) (T := TX5) (N := 16) hx hb hts hinX5 hown hK hP 2 rfl rfl 4 (by decide) hw3 (fun _ h9 => h9) rfl dX5_followPace_73 ?_
  refine va_get (D := (dC, dI)) (ci := 2) (v := .long f_motor_q) (C := RX3) (T := TX3) (N := 4) hx hb hts hinX3 hown hK hP 4 rfl rfl 1 (by decide) hw9 (fun _ h9 => h9) rfl dX5_followPace_76 ?_
  refine lv_lsub hx hb dX5_followPace_79 ?_
  refine mw_calll (wc := [(a_loopQ, .inr (1, [.long f_loopQ_kp, .long f_loopQ_ki, .long f_loopQ_sum]))]) (wr := [(a_loopPace, .inr (1, [.long f_loopPace_kp, .long f_loopPace_ki, .long o4])), (h0, .inr (4, [.ref a_rules, .ref a_loopD, .ref a_loopQ, .ref a_loopPace, .ref a_motor, .ref a_onTimes, .ref a_asked, .ref a_changes, .int f_state, .int f_fault, .int f_lost, .long r10, .long f_voltsQ, .long f_heat, .int f_beats, .int f_alignBeats])), (a_rules, .inl (ca_rules, 6, .inl fn_rules)), (a_motor, .inr (2, [.long f_motor_d, .long f_motor_q, .long f_motor_pace, .long f_motor_angle])), (a_loopD, .inr (1, [.long f_loopD_kp, .long f_loopD_ki, .long o9]))]) (w1 := fun (u : Int64) => [(a_loopQ, .inr (1, [.long f_loopQ_kp, .long f_loopQ_ki, .long u]))]) (tyc := fun (u : Int64) => []) hP hD hS hA [0] [1, 2, 3, 4, 5] rfl rfl (by decide) (by decide) (va_runV (As := [.long v2, .long (r5 - f_motor_q)]) (rest := [.ref h0]) ⟨hx, hb, hml, hown, hts⟩ (c_X2_step l dC dI a_loopQ f_loopQ_kp f_loopQ_ki f_loopQ_sum v2 (r5 - f_motor_q) H.size ) (cwV 2 hts gX5_followPace_X2_step rfl rfl rfl (by decide +kernel) ⟨(Nat.le_of_ble_eq_true rfl), (Nat.le_of_ble_eq_true rfl)⟩) (mw_preV (va_recv hK hP (ci := 1) (q0 := 0) rfl rfl) (hP.sub (ws' := [(a_loopQ, .inr (1, [.long f_loopQ_kp, .long f_loopQ_ki, .long f_loopQ_sum]))]) [0] rfl) (hD.sub (ws' := [(a_loopQ, .inr (1, [.long f_loopQ_kp, .long f_loopQ_ki, .long f_loopQ_sum]))]) [0] (by decide) rfl) (hK.sub (tys' := []) [] rfl) hN) rfl rfl hl.1 rfl (lv_room (Nat.le_of_ble_eq_true rfl)) dX5_followPace_80 ⟨(Nat.le_of_ble_eq_true rfl), (Nat.le_of_ble_eq_true rfl)⟩) (fun r13 u H locs hw_14 hP hD hS hK1 => ?_)
  obtain ⟨o12, rfl⟩ : ∃ z, z = u := ⟨_, rfl⟩
  have hw_14 : R_X2_step f_loopQ_kp f_loopQ_ki f_loopQ_sum v2 (r5 - f_motor_q) r13 o12 := hw_14
  have hP : va_P (dC, dI) vwCl [(a_loopPace, .inr (1, [.long f_loopPace_kp, .long f_loopPace_ki, .long o4])), (h0, .inr (4, [.ref a_rules, .ref a_loopD, .ref a_loopQ, .ref a_loopPace, .ref a_motor, .ref a_onTimes, .ref a_asked, .ref a_changes, .int f_state, .int f_fault, .int f_lost, .long r10, .long f_voltsQ, .long f_heat, .int f_beats, .int f_alignBeats])), (a_rules, .inl (ca_rules, 6, .inl fn_rules)), (a_motor, .inr (2, [.long f_motor_d, .long f_motor_q, .long f_motor_pace, .long f_motor_angle])), (a_loopD, .inr (1, [.long f_loopD_kp, .long f_loopD_ki, .long o9])), (a_loopQ, .inr (1, [.long f_loopQ_kp, .long f_loopQ_ki, .long o12]))] H := hP
  have hD : va_D A [(a_loopPace, .inr (1, [.long f_loopPace_kp, .long f_loopPace_ki, .long o4])), (h0, .inr (4, [.ref a_rules, .ref a_loopD, .ref a_loopQ, .ref a_loopPace, .ref a_motor, .ref a_onTimes, .ref a_asked, .ref a_changes, .int f_state, .int f_fault, .int f_lost, .long r10, .long f_voltsQ, .long f_heat, .int f_beats, .int f_alignBeats])), (a_rules, .inl (ca_rules, 6, .inl fn_rules)), (a_motor, .inr (2, [.long f_motor_d, .long f_motor_q, .long f_motor_pace, .long f_motor_angle])), (a_loopD, .inr (1, [.long f_loopD_kp, .long f_loopD_ki, .long o9])), (a_loopQ, .inr (1, [.long f_loopQ_kp, .long f_loopQ_ki, .long o12]))] := hD
  refine va_put (D := (dC, dI)) (ci := 4) (v := .long r13) (ty := .long) (C := RX5) (T := TX5) (N := 16) hx hb hts hinX5 tyX5 tyX5_ok nmX5 hown hK hP hD hS 1 rfl rfl 12 (by decide) hw10 (fun _ h9 => h9) rfl (by decide +kernel) rfl rfl (Nat.le_of_ble_eq_true rfl) dX5_followPace_83 (fun H locs hP hD hS => ?_)
  have hP : va_P (dC, dI) vwCl [(a_loopPace, .inr (1, [.long f_loopPace_kp, .long f_loopPace_ki, .long o4])), (h0, .inr (4, [.ref a_rules, .ref a_loopD, .ref a_loopQ, .ref a_loopPace, .ref a_motor, .ref a_onTimes, .ref a_asked, .ref a_changes, .int f_state, .int f_fault, .int f_lost, .long r10, .long r13, .long f_heat, .int f_beats, .int f_alignBeats])), (a_rules, .inl (ca_rules, 6, .inl fn_rules)), (a_motor, .inr (2, [.long f_motor_d, .long f_motor_q, .long f_motor_pace, .long f_motor_angle])), (a_loopD, .inr (1, [.long f_loopD_kp, .long f_loopD_ki, .long o9])), (a_loopQ, .inr (1, [.long f_loopQ_kp, .long f_loopQ_ki, .long o12]))] H := hP
  have hD : va_D A [(a_loopPace, .inr (1, [.long f_loopPace_kp, .long f_loopPace_ki, .long o4])), (h0, .inr (4, [.ref a_rules, .ref a_loopD, .ref a_loopQ, .ref a_loopPace, .ref a_motor, .ref a_onTimes, .ref a_asked, .ref a_changes, .int f_state, .int f_fault, .int f_lost, .long r10, .long r13, .long f_heat, .int f_beats, .int f_alignBeats])), (a_rules, .inl (ca_rules, 6, .inl fn_rules)), (a_motor, .inr (2, [.long f_motor_d, .long f_motor_q, .long f_motor_pace, .long f_motor_angle])), (a_loopD, .inr (1, [.long f_loopD_kp, .long f_loopD_ki, .long o9])), (a_loopQ, .inr (1, [.long f_loopQ_kp, .long f_loopQ_ki, .long o12]))] := hD
  have hP9 := hP.sub (ws' := [(h0, .inr (4, [.ref a_rules, .ref a_loopD, .ref a_loopQ, .ref a_loopPace, .ref a_motor, .ref a_onTimes, .ref a_asked, .ref a_changes, .int f_state, .int f_fault, .int f_lost, .long r10, .long r13, .long f_heat, .int f_beats, .int f_alignBeats])), (a_rules, .inl (ca_rules, 6, .inl fn_rules)), (a_loopD, .inr (1, [.long f_loopD_kp, .long f_loopD_ki, .long o9])), (a_loopQ, .inr (1, [.long f_loopQ_kp, .long f_loopQ_ki, .long o12])), (a_loopPace, .inr (1, [.long f_loopPace_kp, .long f_loopPace_ki, .long o4])), (a_motor, .inr (2, [.long f_motor_d, .long f_motor_q, .long f_motor_pace, .long f_motor_angle]))]) [1, 2, 4, 5, 0, 3] rfl
  have hD9 := hD.sub (ws' := [(h0, .inr (4, [.ref a_rules, .ref a_loopD, .ref a_loopQ, .ref a_loopPace, .ref a_motor, .ref a_onTimes, .ref a_asked, .ref a_changes, .int f_state, .int f_fault, .int f_lost, .long r10, .long r13, .long f_heat, .int f_beats, .int f_alignBeats])), (a_rules, .inl (ca_rules, 6, .inl fn_rules)), (a_loopD, .inr (1, [.long f_loopD_kp, .long f_loopD_ki, .long o9])), (a_loopQ, .inr (1, [.long f_loopQ_kp, .long f_loopQ_ki, .long o12])), (a_loopPace, .inr (1, [.long f_loopPace_kp, .long f_loopPace_ki, .long o4])), (a_motor, .inr (2, [.long f_motor_d, .long f_motor_q, .long f_motor_pace, .long f_motor_angle]))]) [1, 2, 4, 5, 0, 3] (by decide) rfl
  have hK9 := hK.sub (tys' := [(ca_rules, .int)]) [0] rfl
  exact W.vret hx hb hr (fun t ht hW => ⟨⟨(r10, r13, o9, o12, o4), rfl, ⟨v1, ev1, ⟨v2, ev2, ⟨v3, ev3, ⟨r5, o4, hw_6, ⟨r7, hw_8, ⟨r10, o9, hw_11, ⟨r13, o12, hw_14, ⟨rfl, rfl, rfl, rfl, rfl⟩⟩⟩⟩⟩⟩⟩⟩, (by rw [ht]; exact hP9), va_K.moved hW.alike hK9, hD9⟩, hS.F ht⟩) hS.2.2 dX5_followPace_86
def R_X5_cutWires  : Prop := True
set_option maxHeartbeats 4000000 in
set_option maxRecDepth 100000 in
theorem c_X5_cutWires (l : Launch) (dC : Nat → ClassId) (dI : Nat → Nat → Nat) (h0 : Nat) (a_rules : Nat) (a_loopD : Nat) (a_loopQ : Nat) (a_loopPace : Nat) (a_motor : Nat) (a_onTimes : Nat) (a_asked : Nat) (a_changes : Nat) (f_state : Int32) (f_fault : Int32) (f_lost : Int32) (f_voltsD : Int64) (f_voltsQ : Int64) (f_heat : Int64) (f_beats : Int32) (f_alignBeats : Int32) (f_loopD_kp : Int64) (f_loopD_ki : Int64) (f_loopD_sum : Int64) (f_loopQ_kp : Int64) (f_loopQ_ki : Int64) (f_loopQ_sum : Int64) (f_loopPace_kp : Int64) (f_loopPace_ki : Int64) (f_loopPace_sum : Int64) (sz : Nat)  : Met l yX5_cutWires wsX5_cutWires ({ frames := 0, cells := 0, slots := 0, locals := 0 }) (va_Pc [.ref h0] (mw_pre (dC, dI) vwCl [(h0, .inr (4, [.ref a_rules, .ref a_loopD, .ref a_loopQ, .ref a_loopPace, .ref a_motor, .ref a_onTimes, .ref a_asked, .ref a_changes, .int f_state, .int f_fault, .int f_lost, .long f_voltsD, .long f_voltsQ, .long f_heat, .int f_beats, .int f_alignBeats])), (a_loopD, .inr (1, [.long f_loopD_kp, .long f_loopD_ki, .long f_loopD_sum])), (a_loopQ, .inr (1, [.long f_loopQ_kp, .long f_loopQ_ki, .long f_loopQ_sum])), (a_loopPace, .inr (1, [.long f_loopPace_kp, .long f_loopPace_ki, .long f_loopPace_sum]))] [] sz)) (va_Qv (fun (u : Unit) => R_X5_cutWires ) (fun u t => mw_at (dC, dI) vwCl [(h0, .inr (4, [.ref a_rules, .ref a_loopD, .ref a_loopQ, .ref a_loopPace, .ref a_motor, .ref a_onTimes, .ref a_asked, .ref a_changes, .int f_state, .int f_fault, .int f_lost, .long (0 : Int64), .long (0 : Int64), .long f_heat, .int f_beats, .int f_alignBeats])), (a_loopD, .inr (1, [.long f_loopD_kp, .long f_loopD_ki, .long (0 : Int64)])), (a_loopQ, .inr (1, [.long f_loopQ_kp, .long f_loopQ_ki, .long (0 : Int64)])), (a_loopPace, .inr (1, [.long f_loopPace_kp, .long f_loopPace_ki, .long (0 : Int64)]))] [] (va_A [(h0, .inr (4, [.ref a_rules, .ref a_loopD, .ref a_loopQ, .ref a_loopPace, .ref a_motor, .ref a_onTimes, .ref a_asked, .ref a_changes, .int f_state, .int f_fault, .int f_lost, .long f_voltsD, .long f_voltsQ, .long f_heat, .int f_beats, .int f_alignBeats])), (a_loopD, .inr (1, [.long f_loopD_kp, .long f_loopD_ki, .long f_loopD_sum])), (a_loopQ, .inr (1, [.long f_loopQ_kp, .long f_loopQ_ki, .long f_loopQ_sum])), (a_loopPace, .inr (1, [.long f_loopPace_kp, .long f_loopPace_ki, .long f_loopPace_sum]))] sz) t) (va_A [(h0, .inr (4, [.ref a_rules, .ref a_loopD, .ref a_loopQ, .ref a_loopPace, .ref a_motor, .ref a_onTimes, .ref a_asked, .ref a_changes, .int f_state, .int f_fault, .int f_lost, .long f_voltsD, .long f_voltsQ, .long f_heat, .int f_beats, .int f_alignBeats])), (a_loopD, .inr (1, [.long f_loopD_kp, .long f_loopD_ki, .long f_loopD_sum])), (a_loopQ, .inr (1, [.long f_loopQ_kp, .long f_loopQ_ki, .long f_loopQ_sum])), (a_loopPace, .inr (1, [.long f_loopPace_kp, .long f_loopPace_ki, .long f_loopPace_sum]))] sz)) 0 0 (va_A [(h0, .inr (4, [.ref a_rules, .ref a_loopD, .ref a_loopQ, .ref a_loopPace, .ref a_motor, .ref a_onTimes, .ref a_asked, .ref a_changes, .int f_state, .int f_fault, .int f_lost, .long f_voltsD, .long f_voltsQ, .long f_heat, .int f_beats, .int f_alignBeats])), (a_loopD, .inr (1, [.long f_loopD_kp, .long f_loopD_ki, .long f_loopD_sum])), (a_loopQ, .inr (1, [.long f_loopQ_kp, .long f_loopQ_ki, .long f_loopQ_sum])), (a_loopPace, .inr (1, [.long f_loopPace_kp, .long f_loopPace_ki, .long f_loopPace_sum]))] sz) := by
  refine Met.ofW (cc := cX5_cutWires) (maxL := 1) (ret := none) (by decide) rfl ?_
  intro p e s m args below meth c s₁ B hml hv
  obtain ⟨rfl, hsz, hP, hK, hD0, hN⟩ := hv
  have hx := B.exec
  have hb := B.bytes
  have hr := B.returns
  have hts := atoms_spec (ws := wsX5_cutWires) B.pre
  have hown : s.vm.findClass RX5 = some m.cls := findClass_of_methodNamed B.named
  have hlocks := B.notSynchronized
  subst hsz
  have hD := hD0.self (sz := s.heap.size)
  generalize hAe : va_A [(h0, .inr (4, [.ref a_rules, .ref a_loopD, .ref a_loopQ, .ref a_loopPace, .ref a_motor, .ref a_onTimes, .ref a_asked, .ref a_changes, .int f_state, .int f_fault, .int f_lost, .long f_voltsD, .long f_voltsQ, .long f_heat, .int f_beats, .int f_alignBeats])), (a_loopD, .inr (1, [.long f_loopD_kp, .long f_loopD_ki, .long f_loopD_sum])), (a_loopQ, .inr (1, [.long f_loopQ_kp, .long f_loopQ_ki, .long f_loopQ_sum])), (a_loopPace, .inr (1, [.long f_loopPace_kp, .long f_loopPace_ki, .long f_loopPace_sum]))] s.heap.size = A at hD ⊢
  have hA : ∀ q : Nat, s.heap.size ≤ q → A q := fun q h => by rw [← hAe]; exact Or.inr h
  have hS : va_S A s.heap s.heap [] := va_S.rf
  have hP : va_P (dC, dI) vwCl [(h0, .inr (4, [.ref a_rules, .ref a_loopD, .ref a_loopQ, .ref a_loopPace, .ref a_motor, .ref a_onTimes, .ref a_asked, .ref a_changes, .int f_state, .int f_fault, .int f_lost, .long f_voltsD, .long f_voltsQ, .long f_heat, .int f_beats, .int f_alignBeats])), (a_loopD, .inr (1, [.long f_loopD_kp, .long f_loopD_ki, .long f_loopD_sum])), (a_loopQ, .inr (1, [.long f_loopQ_kp, .long f_loopQ_ki, .long f_loopQ_sum])), (a_loopPace, .inr (1, [.long f_loopPace_kp, .long f_loopPace_ki, .long f_loopPace_sum]))] s.heap := hP
  have hl := lv_entry ([.ref h0]) (n := 1) (Nat.le_of_ble_eq_true rfl)
  rw [lg_entry_eq]
  generalize (lg_sl ([.ref h0]) ++ List.replicate (1 - (lg_sl ([.ref h0])).length) Slot.unset).toArray = ls at hl ⊢
  have hl : lv_has ls 1 [(0, .ref h0)] := hl
  have hw0 := hts (.fieldLink RX5 61 "TurnedFields" "voltsD" "J") (by decide +kernel)
  have hw1 := hts (.fieldLink RX5 65 "TurnedFields" "voltsQ" "J") (by decide +kernel)
  have hw2 := hts (.fieldLink RX5 16 "TurnedFields" "loopD" "LTurnedFields$Loop;") (by decide +kernel)
  have hw3 := hts (.fieldLink RX5 173 "TurnedFields$Loop" "sum" "J") (by decide +kernel)
  have hw4 := hts (.fieldLink RX5 20 "TurnedFields" "loopQ" "LTurnedFields$Loop;") (by decide +kernel)
  have hw5 := hts (.fieldLink RX5 23 "TurnedFields" "loopPace" "LTurnedFields$Loop;") (by decide +kernel)
  have hinX2 : ∀ w ∈ wsX20, w ∈ wsX5_cutWires := by decide +kernel
  have hinX5 : ∀ w ∈ wsX50, w ∈ wsX5_cutWires := by decide +kernel
  refine lv_aload_n hx hb dX5_cutWires_0 rfl (lv_at hl 0 rfl) ?_
  refine lv_lconst (v := 0) hx hb dX5_cutWires_1 (by decide) ?_
  refine va_put (D := (dC, dI)) (ci := 4) (v := .long (0 : Int64)) (ty := .long) (C := RX5) (T := TX5) (N := 16) hx hb hts hinX5 tyX5 tyX5_ok nmX5 hown hK hP hD hS 0 rfl rfl 11 (by decide) hw0 (fun _ h9 => h9) rfl (by decide +kernel) rfl rfl (Nat.le_of_ble_eq_true rfl) dX5_cutWires_2 (fun H locs hP hD hS => ?_)
  have hP : va_P (dC, dI) vwCl [(h0, .inr (4, [.ref a_rules, .ref a_loopD, .ref a_loopQ, .ref a_loopPace, .ref a_motor, .ref a_onTimes, .ref a_asked, .ref a_changes, .int f_state, .int f_fault, .int f_lost, .long (0 : Int64), .long f_voltsQ, .long f_heat, .int f_beats, .int f_alignBeats])), (a_loopD, .inr (1, [.long f_loopD_kp, .long f_loopD_ki, .long f_loopD_sum])), (a_loopQ, .inr (1, [.long f_loopQ_kp, .long f_loopQ_ki, .long f_loopQ_sum])), (a_loopPace, .inr (1, [.long f_loopPace_kp, .long f_loopPace_ki, .long f_loopPace_sum]))] H := hP
  have hD : va_D A [(h0, .inr (4, [.ref a_rules, .ref a_loopD, .ref a_loopQ, .ref a_loopPace, .ref a_motor, .ref a_onTimes, .ref a_asked, .ref a_changes, .int f_state, .int f_fault, .int f_lost, .long (0 : Int64), .long f_voltsQ, .long f_heat, .int f_beats, .int f_alignBeats])), (a_loopD, .inr (1, [.long f_loopD_kp, .long f_loopD_ki, .long f_loopD_sum])), (a_loopQ, .inr (1, [.long f_loopQ_kp, .long f_loopQ_ki, .long f_loopQ_sum])), (a_loopPace, .inr (1, [.long f_loopPace_kp, .long f_loopPace_ki, .long f_loopPace_sum]))] := hD
  refine lv_aload_n hx hb dX5_cutWires_5 rfl (lv_at hl 0 rfl) ?_
  refine lv_lconst (v := 0) hx hb dX5_cutWires_6 (by decide) ?_
  refine va_put (D := (dC, dI)) (ci := 4) (v := .long (0 : Int64)) (ty := .long) (C := RX5) (T := TX5) (N := 16) hx hb hts hinX5 tyX5 tyX5_ok nmX5 hown hK hP hD hS 0 rfl rfl 12 (by decide) hw1 (fun _ h9 => h9) rfl (by decide +kernel) rfl rfl (Nat.le_of_ble_eq_true rfl) dX5_cutWires_7 (fun H locs hP hD hS => ?_)
  have hP : va_P (dC, dI) vwCl [(h0, .inr (4, [.ref a_rules, .ref a_loopD, .ref a_loopQ, .ref a_loopPace, .ref a_motor, .ref a_onTimes, .ref a_asked, .ref a_changes, .int f_state, .int f_fault, .int f_lost, .long (0 : Int64), .long (0 : Int64), .long f_heat, .int f_beats, .int f_alignBeats])), (a_loopD, .inr (1, [.long f_loopD_kp, .long f_loopD_ki, .long f_loopD_sum])), (a_loopQ, .inr (1, [.long f_loopQ_kp, .long f_loopQ_ki, .long f_loopQ_sum])), (a_loopPace, .inr (1, [.long f_loopPace_kp, .long f_loopPace_ki, .long f_loopPace_sum]))] H := hP
  have hD : va_D A [(h0, .inr (4, [.ref a_rules, .ref a_loopD, .ref a_loopQ, .ref a_loopPace, .ref a_motor, .ref a_onTimes, .ref a_asked, .ref a_changes, .int f_state, .int f_fault, .int f_lost, .long (0 : Int64), .long (0 : Int64), .long f_heat, .int f_beats, .int f_alignBeats])), (a_loopD, .inr (1, [.long f_loopD_kp, .long f_loopD_ki, .long f_loopD_sum])), (a_loopQ, .inr (1, [.long f_loopQ_kp, .long f_loopQ_ki, .long f_loopQ_sum])), (a_loopPace, .inr (1, [.long f_loopPace_kp, .long f_loopPace_ki, .long f_loopPace_sum]))] := hD
  refine lv_aload_n hx hb dX5_cutWires_10 rfl (lv_at hl 0 rfl) ?_
  refine va_get (D := (dC, dI)) (ci := 4) (v := .ref a_loopD) (C := RX5) (T := TX5) (N := 16) hx hb hts hinX5 hown hK hP 0 rfl rfl 1 (by decide) hw2 (fun _ h9 => h9) rfl dX5_cutWires_11 ?_
  refine lv_lconst (v := 0) hx hb dX5_cutWires_14 (by decide) ?_
  refine va_put (D := (dC, dI)) (ci := 1) (v := .long (0 : Int64)) (ty := .long) (C := RX2) (T := TX2) (N := 3) hx hb hts hinX2 tyX2 tyX2_ok nmX2 hown hK hP hD hS 1 rfl rfl 2 (by decide) hw3 (fun _ h9 => h9) rfl (by decide +kernel) rfl rfl (Nat.le_of_ble_eq_true rfl) dX5_cutWires_15 (fun H locs hP hD hS => ?_)
  have hP : va_P (dC, dI) vwCl [(h0, .inr (4, [.ref a_rules, .ref a_loopD, .ref a_loopQ, .ref a_loopPace, .ref a_motor, .ref a_onTimes, .ref a_asked, .ref a_changes, .int f_state, .int f_fault, .int f_lost, .long (0 : Int64), .long (0 : Int64), .long f_heat, .int f_beats, .int f_alignBeats])), (a_loopD, .inr (1, [.long f_loopD_kp, .long f_loopD_ki, .long (0 : Int64)])), (a_loopQ, .inr (1, [.long f_loopQ_kp, .long f_loopQ_ki, .long f_loopQ_sum])), (a_loopPace, .inr (1, [.long f_loopPace_kp, .long f_loopPace_ki, .long f_loopPace_sum]))] H := hP
  have hD : va_D A [(h0, .inr (4, [.ref a_rules, .ref a_loopD, .ref a_loopQ, .ref a_loopPace, .ref a_motor, .ref a_onTimes, .ref a_asked, .ref a_changes, .int f_state, .int f_fault, .int f_lost, .long (0 : Int64), .long (0 : Int64), .long f_heat, .int f_beats, .int f_alignBeats])), (a_loopD, .inr (1, [.long f_loopD_kp, .long f_loopD_ki, .long (0 : Int64)])), (a_loopQ, .inr (1, [.long f_loopQ_kp, .long f_loopQ_ki, .long f_loopQ_sum])), (a_loopPace, .inr (1, [.long f_loopPace_kp, .long f_loopPace_ki, .long f_loopPace_sum]))] := hD
  refine lv_aload_n hx hb dX5_cutWires_18 rfl (lv_at hl 0 rfl) ?_
  refine va_get (D := (dC, dI)) (ci := 4) (v := .ref a_loopQ) (C := RX5) (T := TX5) (N := 16) hx hb hts hinX5 hown hK hP 0 rfl rfl 2 (by decide) hw4 (fun _ h9 => h9) rfl dX5_cutWires_19 ?_
  refine lv_lconst (v := 0) hx hb dX5_cutWires_22 (by decide) ?_
  refine va_put (D := (dC, dI)) (ci := 1) (v := .long (0 : Int64)) (ty := .long) (C := RX2) (T := TX2) (N := 3) hx hb hts hinX2 tyX2 tyX2_ok nmX2 hown hK hP hD hS 2 rfl rfl 2 (by decide) hw3 (fun _ h9 => h9) rfl (by decide +kernel) rfl rfl (Nat.le_of_ble_eq_true rfl) dX5_cutWires_23 (fun H locs hP hD hS => ?_)
  have hP : va_P (dC, dI) vwCl [(h0, .inr (4, [.ref a_rules, .ref a_loopD, .ref a_loopQ, .ref a_loopPace, .ref a_motor, .ref a_onTimes, .ref a_asked, .ref a_changes, .int f_state, .int f_fault, .int f_lost, .long (0 : Int64), .long (0 : Int64), .long f_heat, .int f_beats, .int f_alignBeats])), (a_loopD, .inr (1, [.long f_loopD_kp, .long f_loopD_ki, .long (0 : Int64)])), (a_loopQ, .inr (1, [.long f_loopQ_kp, .long f_loopQ_ki, .long (0 : Int64)])), (a_loopPace, .inr (1, [.long f_loopPace_kp, .long f_loopPace_ki, .long f_loopPace_sum]))] H := hP
  have hD : va_D A [(h0, .inr (4, [.ref a_rules, .ref a_loopD, .ref a_loopQ, .ref a_loopPace, .ref a_motor, .ref a_onTimes, .ref a_asked, .ref a_changes, .int f_state, .int f_fault, .int f_lost, .long (0 : Int64), .long (0 : Int64), .long f_heat, .int f_beats, .int f_alignBeats])), (a_loopD, .inr (1, [.long f_loopD_kp, .long f_loopD_ki, .long (0 : Int64)])), (a_loopQ, .inr (1, [.long f_loopQ_kp, .long f_loopQ_ki, .long (0 : Int64)])), (a_loopPace, .inr (1, [.long f_loopPace_kp, .long f_loopPace_ki, .long f_loopPace_sum]))] := hD
  refine lv_aload_n hx hb dX5_cutWires_26 rfl (lv_at hl 0 rfl) ?_
  refine va_get (D := (dC, dI)) (ci := 4) (v := .ref a_loopPace) (C := RX5) (T := TX5) (N := 16) hx hb hts hinX5 hown hK hP 0 rfl rfl 3 (by decide) hw5 (fun _ h9 => h9) rfl dX5_cutWires_27 ?_
  refine lv_lconst (v := 0) hx hb dX5_cutWires_30 (by decide) ?_
  refine va_put (D := (dC, dI)) (ci := 1) (v := .long (0 : Int64)) (ty := .long) (C := RX2) (T := TX2) (N := 3) hx hb hts hinX2 tyX2 tyX2_ok nmX2 hown hK hP hD hS 3 rfl rfl 2 (by decide) hw3 (fun _ h9 => h9) rfl (by decide +kernel) rfl rfl (Nat.le_of_ble_eq_true rfl) dX5_cutWires_31 (fun H locs hP hD hS => ?_)
  have hP : va_P (dC, dI) vwCl [(h0, .inr (4, [.ref a_rules, .ref a_loopD, .ref a_loopQ, .ref a_loopPace, .ref a_motor, .ref a_onTimes, .ref a_asked, .ref a_changes, .int f_state, .int f_fault, .int f_lost, .long (0 : Int64), .long (0 : Int64), .long f_heat, .int f_beats, .int f_alignBeats])), (a_loopD, .inr (1, [.long f_loopD_kp, .long f_loopD_ki, .long (0 : Int64)])), (a_loopQ, .inr (1, [.long f_loopQ_kp, .long f_loopQ_ki, .long (0 : Int64)])), (a_loopPace, .inr (1, [.long f_loopPace_kp, .long f_loopPace_ki, .long (0 : Int64)]))] H := hP
  have hD : va_D A [(h0, .inr (4, [.ref a_rules, .ref a_loopD, .ref a_loopQ, .ref a_loopPace, .ref a_motor, .ref a_onTimes, .ref a_asked, .ref a_changes, .int f_state, .int f_fault, .int f_lost, .long (0 : Int64), .long (0 : Int64), .long f_heat, .int f_beats, .int f_alignBeats])), (a_loopD, .inr (1, [.long f_loopD_kp, .long f_loopD_ki, .long (0 : Int64)])), (a_loopQ, .inr (1, [.long f_loopQ_kp, .long f_loopQ_ki, .long (0 : Int64)])), (a_loopPace, .inr (1, [.long f_loopPace_kp, .long f_loopPace_ki, .long (0 : Int64)]))] := hD
  have hP9 := hP.sub (ws' := [(h0, .inr (4, [.ref a_rules, .ref a_loopD, .ref a_loopQ, .ref a_loopPace, .ref a_motor, .ref a_onTimes, .ref a_asked, .ref a_changes, .int f_state, .int f_fault, .int f_lost, .long (0 : Int64), .long (0 : Int64), .long f_heat, .int f_beats, .int f_alignBeats])), (a_loopD, .inr (1, [.long f_loopD_kp, .long f_loopD_ki, .long (0 : Int64)])), (a_loopQ, .inr (1, [.long f_loopQ_kp, .long f_loopQ_ki, .long (0 : Int64)])), (a_loopPace, .inr (1, [.long f_loopPace_kp, .long f_loopPace_ki, .long (0 : Int64)]))]) [0, 1, 2, 3] rfl
  have hD9 := hD.sub (ws' := [(h0, .inr (4, [.ref a_rules, .ref a_loopD, .ref a_loopQ, .ref a_loopPace, .ref a_motor, .ref a_onTimes, .ref a_asked, .ref a_changes, .int f_state, .int f_fault, .int f_lost, .long (0 : Int64), .long (0 : Int64), .long f_heat, .int f_beats, .int f_alignBeats])), (a_loopD, .inr (1, [.long f_loopD_kp, .long f_loopD_ki, .long (0 : Int64)])), (a_loopQ, .inr (1, [.long f_loopQ_kp, .long f_loopQ_ki, .long (0 : Int64)])), (a_loopPace, .inr (1, [.long f_loopPace_kp, .long f_loopPace_ki, .long (0 : Int64)]))]) [0, 1, 2, 3] (by decide) rfl
  have hK9 := hK.sub (tys' := []) [] rfl
  exact W.vret hx hb hr (fun t ht hW => ⟨⟨(), rfl, trivial, (by rw [ht]; exact hP9), va_K.moved hW.alike hK9, hD9⟩, hS.F ht⟩) hS.2.2 dX5_cutWires_34
def R_X5_chooseVolts (f_state : Int32) (f_alignBeats : Int32) (fn_rules : Nat → Int32) (f_loopD_kp : Int64) (f_loopD_ki : Int64) (f_loopD_sum : Int64) (f_loopQ_kp : Int64) (f_loopQ_ki : Int64) (f_loopQ_sum : Int64) (f_loopPace_kp : Int64) (f_loopPace_ki : Int64) (f_loopPace_sum : Int64) (f_motor_d : Int64) (f_motor_q : Int64) (f_motor_pace : Int64) (u_0_voltsD : Int64) (u_0_voltsQ : Int64) (u_0_alignBeats : Int32) (u_2_sum : Int64) (u_3_sum : Int64) (u_4_sum : Int64) : Prop := (f_state = (1 : Int32) → (∃ v4 : Int32, v4 = (f_alignBeats + (1 : Int32)) ∧ (u_0_voltsD = (600 : Int64) ∧ u_0_voltsQ = (0 : Int64) ∧ u_0_alignBeats = v4 ∧ u_2_sum = f_loopD_sum ∧ u_3_sum = f_loopQ_sum ∧ u_4_sum = f_loopPace_sum))) ∧ (¬ (f_state = (1 : Int32)) → ((f_state = (2 : Int32) → (∃ v5 : Int32, v5 = fn_rules 5 ∧ (∃ (o6 : Int64) (o7 : Int64) (o8 : Int64) (o9 : Int64) (o10 : Int64), R_X5_followPace fn_rules f_loopD_kp f_loopD_ki f_loopD_sum f_loopQ_kp f_loopQ_ki f_loopQ_sum f_loopPace_kp f_loopPace_ki f_loopPace_sum f_motor_d f_motor_q f_motor_pace (v5.toInt64) o6 o7 o8 o9 o10 ∧ (u_0_voltsD = o6 ∧ u_0_voltsQ = o7 ∧ u_0_alignBeats = f_alignBeats ∧ u_2_sum = o8 ∧ u_3_sum = o9 ∧ u_4_sum = o10)))) ∧ (¬ (f_state = (2 : Int32)) → ((f_state = (3 : Int32) → (∃ (o12 : Int64) (o13 : Int64) (o14 : Int64) (o15 : Int64) (o16 : Int64), R_X5_followPace fn_rules f_loopD_kp f_loopD_ki f_loopD_sum f_loopQ_kp f_loopQ_ki f_loopQ_sum f_loopPace_kp f_loopPace_ki f_loopPace_sum f_motor_d f_motor_q f_motor_pace (0 : Int64) o12 o13 o14 o15 o16 ∧ (u_0_voltsD = o12 ∧ u_0_voltsQ = o13 ∧ u_0_alignBeats = f_alignBeats ∧ u_2_sum = o14 ∧ u_3_sum = o15 ∧ u_4_sum = o16))) ∧ (¬ (f_state = (3 : Int32)) → (R_X5_cutWires ∧ (u_0_voltsD = (0 : Int64) ∧ u_0_voltsQ = (0 : Int64) ∧ u_0_alignBeats = f_alignBeats ∧ u_2_sum = (0 : Int64) ∧ u_3_sum = (0 : Int64) ∧ u_4_sum = (0 : Int64))))))))
set_option maxHeartbeats 4000000 in
set_option maxRecDepth 100000 in
theorem c_X5_chooseVolts (l : Launch) (dC : Nat → ClassId) (dI : Nat → Nat → Nat) (h0 : Nat) (a_rules : Nat) (a_loopD : Nat) (a_loopQ : Nat) (a_loopPace : Nat) (a_motor : Nat) (a_onTimes : Nat) (a_asked : Nat) (a_changes : Nat) (f_state : Int32) (f_fault : Int32) (f_lost : Int32) (f_voltsD : Int64) (f_voltsQ : Int64) (f_heat : Int64) (f_beats : Int32) (f_alignBeats : Int32) (ca_rules : ClassId) (fn_rules : Nat → Int32) (f_loopD_kp : Int64) (f_loopD_ki : Int64) (f_loopD_sum : Int64) (f_loopQ_kp : Int64) (f_loopQ_ki : Int64) (f_loopQ_sum : Int64) (f_loopPace_kp : Int64) (f_loopPace_ki : Int64) (f_loopPace_sum : Int64) (f_motor_d : Int64) (f_motor_q : Int64) (f_motor_pace : Int64) (f_motor_angle : Int64) (sz : Nat)  : Met l yX5_chooseVolts wsX5_chooseVolts ({ frames := 4, cells := 0, slots := 0, locals := 92 }) (va_Pc [.ref h0] (mw_pre (dC, dI) vwCl [(h0, .inr (4, [.ref a_rules, .ref a_loopD, .ref a_loopQ, .ref a_loopPace, .ref a_motor, .ref a_onTimes, .ref a_asked, .ref a_changes, .int f_state, .int f_fault, .int f_lost, .long f_voltsD, .long f_voltsQ, .long f_heat, .int f_beats, .int f_alignBeats])), (a_rules, .inl (ca_rules, 6, .inl fn_rules)), (a_loopD, .inr (1, [.long f_loopD_kp, .long f_loopD_ki, .long f_loopD_sum])), (a_loopQ, .inr (1, [.long f_loopQ_kp, .long f_loopQ_ki, .long f_loopQ_sum])), (a_loopPace, .inr (1, [.long f_loopPace_kp, .long f_loopPace_ki, .long f_loopPace_sum])), (a_motor, .inr (2, [.long f_motor_d, .long f_motor_q, .long f_motor_pace, .long f_motor_angle]))] [(ca_rules, .int)] sz)) (va_Qv (fun (u : Int64 × Int64 × Int32 × Int64 × Int64 × Int64) => R_X5_chooseVolts f_state f_alignBeats fn_rules f_loopD_kp f_loopD_ki f_loopD_sum f_loopQ_kp f_loopQ_ki f_loopQ_sum f_loopPace_kp f_loopPace_ki f_loopPace_sum f_motor_d f_motor_q f_motor_pace u.1 u.2.1 u.2.2.1 u.2.2.2.1 u.2.2.2.2.1 u.2.2.2.2.2) (fun u t => mw_at (dC, dI) vwCl [(h0, .inr (4, [.ref a_rules, .ref a_loopD, .ref a_loopQ, .ref a_loopPace, .ref a_motor, .ref a_onTimes, .ref a_asked, .ref a_changes, .int f_state, .int f_fault, .int f_lost, .long u.1, .long u.2.1, .long f_heat, .int f_beats, .int u.2.2.1])), (a_rules, .inl (ca_rules, 6, .inl fn_rules)), (a_loopD, .inr (1, [.long f_loopD_kp, .long f_loopD_ki, .long u.2.2.2.1])), (a_loopQ, .inr (1, [.long f_loopQ_kp, .long f_loopQ_ki, .long u.2.2.2.2.1])), (a_loopPace, .inr (1, [.long f_loopPace_kp, .long f_loopPace_ki, .long u.2.2.2.2.2])), (a_motor, .inr (2, [.long f_motor_d, .long f_motor_q, .long f_motor_pace, .long f_motor_angle]))] [(ca_rules, .int)] (va_A [(h0, .inr (4, [.ref a_rules, .ref a_loopD, .ref a_loopQ, .ref a_loopPace, .ref a_motor, .ref a_onTimes, .ref a_asked, .ref a_changes, .int f_state, .int f_fault, .int f_lost, .long f_voltsD, .long f_voltsQ, .long f_heat, .int f_beats, .int f_alignBeats])), (a_rules, .inl (ca_rules, 6, .inl fn_rules)), (a_loopD, .inr (1, [.long f_loopD_kp, .long f_loopD_ki, .long f_loopD_sum])), (a_loopQ, .inr (1, [.long f_loopQ_kp, .long f_loopQ_ki, .long f_loopQ_sum])), (a_loopPace, .inr (1, [.long f_loopPace_kp, .long f_loopPace_ki, .long f_loopPace_sum])), (a_motor, .inr (2, [.long f_motor_d, .long f_motor_q, .long f_motor_pace, .long f_motor_angle]))] sz) t) (va_A [(h0, .inr (4, [.ref a_rules, .ref a_loopD, .ref a_loopQ, .ref a_loopPace, .ref a_motor, .ref a_onTimes, .ref a_asked, .ref a_changes, .int f_state, .int f_fault, .int f_lost, .long f_voltsD, .long f_voltsQ, .long f_heat, .int f_beats, .int f_alignBeats])), (a_rules, .inl (ca_rules, 6, .inl fn_rules)), (a_loopD, .inr (1, [.long f_loopD_kp, .long f_loopD_ki, .long f_loopD_sum])), (a_loopQ, .inr (1, [.long f_loopQ_kp, .long f_loopQ_ki, .long f_loopQ_sum])), (a_loopPace, .inr (1, [.long f_loopPace_kp, .long f_loopPace_ki, .long f_loopPace_sum])), (a_motor, .inr (2, [.long f_motor_d, .long f_motor_q, .long f_motor_pace, .long f_motor_angle]))] sz)) 0 0 (va_A [(h0, .inr (4, [.ref a_rules, .ref a_loopD, .ref a_loopQ, .ref a_loopPace, .ref a_motor, .ref a_onTimes, .ref a_asked, .ref a_changes, .int f_state, .int f_fault, .int f_lost, .long f_voltsD, .long f_voltsQ, .long f_heat, .int f_beats, .int f_alignBeats])), (a_rules, .inl (ca_rules, 6, .inl fn_rules)), (a_loopD, .inr (1, [.long f_loopD_kp, .long f_loopD_ki, .long f_loopD_sum])), (a_loopQ, .inr (1, [.long f_loopQ_kp, .long f_loopQ_ki, .long f_loopQ_sum])), (a_loopPace, .inr (1, [.long f_loopPace_kp, .long f_loopPace_ki, .long f_loopPace_sum])), (a_motor, .inr (2, [.long f_motor_d, .long f_motor_q, .long f_motor_pace, .long f_motor_angle]))] sz) := by
  refine Met.ofW (cc := cX5_chooseVolts) (maxL := 1) (ret := none) (by decide) rfl ?_
  intro p e s m args below meth c s₁ B hml hv
  obtain ⟨rfl, hsz, hP, hK, hD0, hN⟩ := hv
  have hx := B.exec
  have hb := B.bytes
  have hr := B.returns
  have hts := atoms_spec (ws := wsX5_chooseVolts) B.pre
  have hown : s.vm.findClass RX5 = some m.cls := findClass_of_methodNamed B.named
  have hlocks := B.notSynchronized
  subst hsz
  have hD := hD0.self (sz := s.heap.size)
  generalize hAe : va_A [(h0, .inr (4, [.ref a_rules, .ref a_loopD, .ref a_loopQ, .ref a_loopPace, .ref a_motor, .ref a_onTimes, .ref a_asked, .ref a_changes, .int f_state, .int f_fault, .int f_lost, .long f_voltsD, .long f_voltsQ, .long f_heat, .int f_beats, .int f_alignBeats])), (a_rules, .inl (ca_rules, 6, .inl fn_rules)), (a_loopD, .inr (1, [.long f_loopD_kp, .long f_loopD_ki, .long f_loopD_sum])), (a_loopQ, .inr (1, [.long f_loopQ_kp, .long f_loopQ_ki, .long f_loopQ_sum])), (a_loopPace, .inr (1, [.long f_loopPace_kp, .long f_loopPace_ki, .long f_loopPace_sum])), (a_motor, .inr (2, [.long f_motor_d, .long f_motor_q, .long f_motor_pace, .long f_motor_angle]))] s.heap.size = A at hD ⊢
  have hA : ∀ q : Nat, s.heap.size ≤ q → A q := fun q h => by rw [← hAe]; exact Or.inr h
  have hS : va_S A s.heap s.heap [] := va_S.rf
  have hP : va_P (dC, dI) vwCl [(h0, .inr (4, [.ref a_rules, .ref a_loopD, .ref a_loopQ, .ref a_loopPace, .ref a_motor, .ref a_onTimes, .ref a_asked, .ref a_changes, .int f_state, .int f_fault, .int f_lost, .long f_voltsD, .long f_voltsQ, .long f_heat, .int f_beats, .int f_alignBeats])), (a_rules, .inl (ca_rules, 6, .inl fn_rules)), (a_loopD, .inr (1, [.long f_loopD_kp, .long f_loopD_ki, .long f_loopD_sum])), (a_loopQ, .inr (1, [.long f_loopQ_kp, .long f_loopQ_ki, .long f_loopQ_sum])), (a_loopPace, .inr (1, [.long f_loopPace_kp, .long f_loopPace_ki, .long f_loopPace_sum])), (a_motor, .inr (2, [.long f_motor_d, .long f_motor_q, .long f_motor_pace, .long f_motor_angle]))] s.heap := hP
  have hl := lv_entry ([.ref h0]) (n := 1) (Nat.le_of_ble_eq_true rfl)
  rw [lg_entry_eq]
  generalize (lg_sl ([.ref h0]) ++ List.replicate (1 - (lg_sl ([.ref h0])).length) Slot.unset).toArray = ls at hl ⊢
  have hl : lv_has ls 1 [(0, .ref h0)] := hl
  have hw0 := hts (.fieldLink RX5 50 "TurnedFields" "state" "I") (by decide +kernel)
  have hw1 := hts (.fieldLink RX5 74 "TurnedFields" "alignBeats" "I") (by decide +kernel)
  have hw2 := hts (.constantLong RX5 225 (600)) (by decide +kernel)
  have hw3 := hts (.fieldLink RX5 61 "TurnedFields" "voltsD" "J") (by decide +kernel)
  have hw4 := hts (.fieldLink RX5 65 "TurnedFields" "voltsQ" "J") (by decide +kernel)
  have hw5 := hts (.fieldLink RX5 9 "TurnedFields" "rules" "[I") (by decide +kernel)
  have hinX5 : ∀ w ∈ wsX50, w ∈ wsX5_chooseVolts := by decide +kernel
  refine lv_aload_n hx hb dX5_chooseVolts_0 rfl (lv_at hl 0 rfl) ?_
  refine va_get (D := (dC, dI)) (ci := 4) (v := .int f_state) (C := RX5) (T := TX5) (N := 16) hx hb hts hinX5 hown hK hP 0 rfl rfl 8 (by decide) hw0 (fun _ h9 => h9) rfl dX5_chooseVolts_1 ?_
  by_cases c1 : f_state = (1 : Int32)
  · refine lv_tableIn (x := f_state) (off := 28) (tgt := 32) hx hb dX5_chooseVolts_4 (by rw [c1]; decide) (by rw [c1]; decide) (by rw [c1]; rfl) (by decide) ?_
    refine lv_aload_n hx hb dX5_chooseVolts_32 rfl (lv_at hl 0 rfl) ?_
    refine lv_dup hx hb dX5_chooseVolts_33 rfl ?_
    refine va_get (D := (dC, dI)) (ci := 4) (v := .int f_alignBeats) (C := RX5) (T := TX5) (N := 16) hx hb hts hinX5 hown hK hP 0 rfl rfl 15 (by decide) hw1 (fun _ h9 => h9) rfl dX5_chooseVolts_34 ?_
    refine lv_iconst (v := 1) hx hb dX5_chooseVolts_37 (by decide) ?_
    refine lv_iadd hx hb dX5_chooseVolts_38 ?_
    refine lv_topi (fun v4 ev4 => ?_)
    refine va_put (D := (dC, dI)) (ci := 4) (v := .int v4) (ty := .int) (C := RX5) (T := TX5) (N := 16) hx hb hts hinX5 tyX5 tyX5_ok nmX5 hown hK hP hD hS 0 rfl rfl 15 (by decide) hw1 (fun _ h9 => h9) rfl (by decide +kernel) rfl rfl (Nat.le_of_ble_eq_true rfl) dX5_chooseVolts_39 (fun H locs hP hD hS => ?_)
    have hP : va_P (dC, dI) vwCl [(h0, .inr (4, [.ref a_rules, .ref a_loopD, .ref a_loopQ, .ref a_loopPace, .ref a_motor, .ref a_onTimes, .ref a_asked, .ref a_changes, .int f_state, .int f_fault, .int f_lost, .long f_voltsD, .long f_voltsQ, .long f_heat, .int f_beats, .int v4])), (a_rules, .inl (ca_rules, 6, .inl fn_rules)), (a_loopD, .inr (1, [.long f_loopD_kp, .long f_loopD_ki, .long f_loopD_sum])), (a_loopQ, .inr (1, [.long f_loopQ_kp, .long f_loopQ_ki, .long f_loopQ_sum])), (a_loopPace, .inr (1, [.long f_loopPace_kp, .long f_loopPace_ki, .long f_loopPace_sum])), (a_motor, .inr (2, [.long f_motor_d, .long f_motor_q, .long f_motor_pace, .long f_motor_angle]))] H := hP
    have hD : va_D A [(h0, .inr (4, [.ref a_rules, .ref a_loopD, .ref a_loopQ, .ref a_loopPace, .ref a_motor, .ref a_onTimes, .ref a_asked, .ref a_changes, .int f_state, .int f_fault, .int f_lost, .long f_voltsD, .long f_voltsQ, .long f_heat, .int f_beats, .int v4])), (a_rules, .inl (ca_rules, 6, .inl fn_rules)), (a_loopD, .inr (1, [.long f_loopD_kp, .long f_loopD_ki, .long f_loopD_sum])), (a_loopQ, .inr (1, [.long f_loopQ_kp, .long f_loopQ_ki, .long f_loopQ_sum])), (a_loopPace, .inr (1, [.long f_loopPace_kp, .long f_loopPace_ki, .long f_loopPace_sum])), (a_motor, .inr (2, [.long f_motor_d, .long f_motor_q, .long f_motor_pace, .long f_motor_angle]))] := hD
    refine lv_aload_n hx hb dX5_chooseVolts_42 rfl (lv_at hl 0 rfl) ?_
    refine lv_ldc2 hx hb hown hw2 dX5_chooseVolts_43 ?_
    refine va_put (D := (dC, dI)) (ci := 4) (v := .long (600 : Int64)) (ty := .long) (C := RX5) (T := TX5) (N := 16) hx hb hts hinX5 tyX5 tyX5_ok nmX5 hown hK hP hD hS 0 rfl rfl 11 (by decide) hw3 (fun _ h9 => h9) rfl (by decide +kernel) rfl rfl (Nat.le_of_ble_eq_true rfl) dX5_chooseVolts_46 (fun H locs hP hD hS => ?_)
    have hP : va_P (dC, dI) vwCl [(h0, .inr (4, [.ref a_rules, .ref a_loopD, .ref a_loopQ, .ref a_loopPace, .ref a_motor, .ref a_onTimes, .ref a_asked, .ref a_changes, .int f_state, .int f_fault, .int f_lost, .long (600 : Int64), .long f_voltsQ, .long f_heat, .int f_beats, .int v4])), (a_rules, .inl (ca_rules, 6, .inl fn_rules)), (a_loopD, .inr (1, [.long f_loopD_kp, .long f_loopD_ki, .long f_loopD_sum])), (a_loopQ, .inr (1, [.long f_loopQ_kp, .long f_loopQ_ki, .long f_loopQ_sum])), (a_loopPace, .inr (1, [.long f_loopPace_kp, .long f_loopPace_ki, .long f_loopPace_sum])), (a_motor, .inr (2, [.long f_motor_d, .long f_motor_q, .long f_motor_pace, .long f_motor_angle]))] H := hP
    have hD : va_D A [(h0, .inr (4, [.ref a_rules, .ref a_loopD, .ref a_loopQ, .ref a_loopPace, .ref a_motor, .ref a_onTimes, .ref a_asked, .ref a_changes, .int f_state, .int f_fault, .int f_lost, .long (600 : Int64), .long f_voltsQ, .long f_heat, .int f_beats, .int v4])), (a_rules, .inl (ca_rules, 6, .inl fn_rules)), (a_loopD, .inr (1, [.long f_loopD_kp, .long f_loopD_ki, .long f_loopD_sum])), (a_loopQ, .inr (1, [.long f_loopQ_kp, .long f_loopQ_ki, .long f_loopQ_sum])), (a_loopPace, .inr (1, [.long f_loopPace_kp, .long f_loopPace_ki, .long f_loopPace_sum])), (a_motor, .inr (2, [.long f_motor_d, .long f_motor_q, .long f_motor_pace, .long f_motor_angle]))] := hD
    refine lv_aload_n hx hb dX5_chooseVolts_49 rfl (lv_at hl 0 rfl) ?_
    refine lv_lconst (v := 0) hx hb dX5_chooseVolts_50 (by decide) ?_
    refine va_put (D := (dC, dI)) (ci := 4) (v := .long (0 : Int64)) (ty := .long) (C := RX5) (T := TX5) (N := 16) hx hb hts hinX5 tyX5 tyX5_ok nmX5 hown hK hP hD hS 0 rfl rfl 12 (by decide) hw4 (fun _ h9 => h9) rfl (by decide +kernel) rfl rfl (Nat.le_of_ble_eq_true rfl) dX5_chooseVolts_51 (fun H locs hP hD hS => ?_)
    have hP : va_P (dC, dI) vwCl [(h0, .inr (4, [.ref a_rules, .ref a_loopD, .ref a_loopQ, .ref a_loopPace, .ref a_motor, .ref a_onTimes, .ref a_asked, .ref a_changes, .int f_state, .int f_fault, .int f_lost, .long (600 : Int64), .long (0 : Int64), .long f_heat, .int f_beats, .int v4])), (a_rules, .inl (ca_rules, 6, .inl fn_rules)), (a_loopD, .inr (1, [.long f_loopD_kp, .long f_loopD_ki, .long f_loopD_sum])), (a_loopQ, .inr (1, [.long f_loopQ_kp, .long f_loopQ_ki, .long f_loopQ_sum])), (a_loopPace, .inr (1, [.long f_loopPace_kp, .long f_loopPace_ki, .long f_loopPace_sum])), (a_motor, .inr (2, [.long f_motor_d, .long f_motor_q, .long f_motor_pace, .long f_motor_angle]))] H := hP
    have hD : va_D A [(h0, .inr (4, [.ref a_rules, .ref a_loopD, .ref a_loopQ, .ref a_loopPace, .ref a_motor, .ref a_onTimes, .ref a_asked, .ref a_changes, .int f_state, .int f_fault, .int f_lost, .long (600 : Int64), .long (0 : Int64), .long f_heat, .int f_beats, .int v4])), (a_rules, .inl (ca_rules, 6, .inl fn_rules)), (a_loopD, .inr (1, [.long f_loopD_kp, .long f_loopD_ki, .long f_loopD_sum])), (a_loopQ, .inr (1, [.long f_loopQ_kp, .long f_loopQ_ki, .long f_loopQ_sum])), (a_loopPace, .inr (1, [.long f_loopPace_kp, .long f_loopPace_ki, .long f_loopPace_sum])), (a_motor, .inr (2, [.long f_motor_d, .long f_motor_q, .long f_motor_pace, .long f_motor_angle]))] := hD
    refine lv_goto (tgt := 83) hx hb dX5_chooseVolts_54 (by decide) ?_
    have hP9 := hP.sub (ws' := [(h0, .inr (4, [.ref a_rules, .ref a_loopD, .ref a_loopQ, .ref a_loopPace, .ref a_motor, .ref a_onTimes, .ref a_asked, .ref a_changes, .int f_state, .int f_fault, .int f_lost, .long (600 : Int64), .long (0 : Int64), .long f_heat, .int f_beats, .int v4])), (a_rules, .inl (ca_rules, 6, .inl fn_rules)), (a_loopD, .inr (1, [.long f_loopD_kp, .long f_loopD_ki, .long f_loopD_sum])), (a_loopQ, .inr (1, [.long f_loopQ_kp, .long f_loopQ_ki, .long f_loopQ_sum])), (a_loopPace, .inr (1, [.long f_loopPace_kp, .long f_loopPace_ki, .long f_loopPace_sum])), (a_motor, .inr (2, [.long f_motor_d, .long f_motor_q, .long f_motor_pace, .long f_motor_angle]))]) [0, 1, 2, 3, 4, 5] rfl
    have hD9 := hD.sub (ws' := [(h0, .inr (4, [.ref a_rules, .ref a_loopD, .ref a_loopQ, .ref a_loopPace, .ref a_motor, .ref a_onTimes, .ref a_asked, .ref a_changes, .int f_state, .int f_fault, .int f_lost, .long (600 : Int64), .long (0 : Int64), .long f_heat, .int f_beats, .int v4])), (a_rules, .inl (ca_rules, 6, .inl fn_rules)), (a_loopD, .inr (1, [.long f_loopD_kp, .long f_loopD_ki, .long f_loopD_sum])), (a_loopQ, .inr (1, [.long f_loopQ_kp, .long f_loopQ_ki, .long f_loopQ_sum])), (a_loopPace, .inr (1, [.long f_loopPace_kp, .long f_loopPace_ki, .long f_loopPace_sum])), (a_motor, .inr (2, [.long f_motor_d, .long f_motor_q, .long f_motor_pace, .long f_motor_angle]))]) [0, 1, 2, 3, 4, 5] (by decide) rfl
    have hK9 := hK.sub (tys' := [(ca_rules, .int)]) [0] rfl
    exact W.vret hx hb hr (fun t ht hW => ⟨⟨((600 : Int64), (0 : Int64), v4, f_loopD_sum, f_loopQ_sum, f_loopPace_sum), rfl, ⟨fun _ => ⟨v4, ev4, ⟨rfl, rfl, rfl, rfl, rfl, rfl⟩⟩, fun hh => absurd c1 hh⟩, (by rw [ht]; exact hP9), va_K.moved hW.alike hK9, hD9⟩, hS.F ht⟩) hS.2.2 dX5_chooseVolts_83
  · by_cases c2 : f_state = (2 : Int32)
    · refine lv_tableIn (x := f_state) (off := 53) (tgt := 57) hx hb dX5_chooseVolts_4 (by rw [c2]; decide) (by rw [c2]; decide) (by rw [c2]; rfl) (by decide) ?_
      refine lv_aload_n hx hb dX5_chooseVolts_57 rfl (lv_at hl 0 rfl) ?_
      refine lv_aload_n hx hb dX5_chooseVolts_58 rfl (lv_at hl 0 rfl) ?_
      refine va_get (D := (dC, dI)) (ci := 4) (v := .ref a_rules) (C := RX5) (T := TX5) (N := 16) hx hb hts hinX5 hown hK hP 0 rfl rfl 0 (by decide) hw5 (fun _ h9 => h9) rfl dX5_chooseVolts_59 ?_
      refine lv_iconst (v := 5) hx hb dX5_chooseVolts_62 (by decide) ?_
      refine va_iald hx hb hK hP 1 0 rfl rfl (by unfold vp_in; decide) dX5_chooseVolts_63 ?_
      refine lv_topi (fun v5 ev5 => ?_)
      have ev5 : v5 = fn_rules 5 := ev5
      refine lv_i2l hx hb dX5_chooseVolts_64 rfl ?_
      refine mw_callv (wc := [(h0, .inr (4, [.ref a_rules, .ref a_loopD, .ref a_loopQ, .ref a_loopPace, .ref a_motor, .ref a_onTimes, .ref a_asked, .ref a_changes, .int f_state, .int f_fault, .int f_lost, .long f_voltsD, .long f_voltsQ, .long f_heat, .int f_beats, .int f_alignBeats])), (a_rules, .inl (ca_rules, 6, .inl fn_rules)), (a_loopD, .inr (1, [.long f_loopD_kp, .long f_loopD_ki, .long f_loopD_sum])), (a_loopQ, .inr (1, [.long f_loopQ_kp, .long f_loopQ_ki, .long f_loopQ_sum])), (a_loopPace, .inr (1, [.long f_loopPace_kp, .long f_loopPace_ki, .long f_loopPace_sum])), (a_motor, .inr (2, [.long f_motor_d, .long f_motor_q, .long f_motor_pace, .long f_motor_angle]))]) (wr := []) (w1 := fun (u : Int64 × Int64 × Int64 × Int64 × Int64) => [(h0, .inr (4, [.ref a_rules, .ref a_loopD, .ref a_loopQ, .ref a_loopPace, .ref a_motor, .ref a_onTimes, .ref a_asked, .ref a_changes, .int f_state, .int f_fault, .int f_lost, .long u.1, .long u.2.1, .long f_heat, .int f_beats, .int f_alignBeats])), (a_rules, .inl (ca_rules, 6, .inl fn_rules)), (a_loopD, .inr (1, [.long f_loopD_kp, .long f_loopD_ki, .long u.2.2.1])), (a_loopQ, .inr (1, [.long f_loopQ_kp, .long f_loopQ_ki, .long u.2.2.2.1])), (a_loopPace, .inr (1, [.long f_loopPace_kp, .long f_loopPace_ki, .long u.2.2.2.2])), (a_motor, .inr (2, [.long f_motor_d, .long f_motor_q, .long f_motor_pace, .long f_motor_angle]))]) (tyc := fun (u : Int64 × Int64 × Int64 × Int64 × Int64) => [(ca_rules, .int)]) hP hD hS hA [0, 1, 2, 3, 4, 5] [] rfl rfl (by decide) (by decide) (va_runV (As := [.long (v5.toInt64)]) (rest := []) ⟨hx, hb, hml, hown, hts⟩ (c_X5_followPace l dC dI h0 a_rules a_loopD a_loopQ a_loopPace a_motor a_onTimes a_asked a_changes f_state f_fault f_lost f_voltsD f_voltsQ f_heat f_beats f_alignBeats ca_rules fn_rules f_loopD_kp f_loopD_ki f_loopD_sum f_loopQ_kp f_loopQ_ki f_loopQ_sum f_loopPace_kp f_loopPace_ki f_loopPace_sum f_motor_d f_motor_q f_motor_pace f_motor_angle (v5.toInt64) s.heap.size ) (cwV 1 hts gX5_chooseVolts_X5_followPace rfl rfl rfl (by decide +kernel) ⟨(Nat.le_of_ble_eq_true rfl), (Nat.le_of_ble_eq_true rfl)⟩) (mw_preV (va_recv hK hP (ci := 4) (q0 := 0) rfl rfl) (hP.sub (ws' := [(h0, .inr (4, [.ref a_rules, .ref a_loopD, .ref a_loopQ, .ref a_loopPace, .ref a_motor, .ref a_onTimes, .ref a_asked, .ref a_changes, .int f_state, .int f_fault, .int f_lost, .long f_voltsD, .long f_voltsQ, .long f_heat, .int f_beats, .int f_alignBeats])), (a_rules, .inl (ca_rules, 6, .inl fn_rules)), (a_loopD, .inr (1, [.long f_loopD_kp, .long f_loopD_ki, .long f_loopD_sum])), (a_loopQ, .inr (1, [.long f_loopQ_kp, .long f_loopQ_ki, .long f_loopQ_sum])), (a_loopPace, .inr (1, [.long f_loopPace_kp, .long f_loopPace_ki, .long f_loopPace_sum])), (a_motor, .inr (2, [.long f_motor_d, .long f_motor_q, .long f_motor_pace, .long f_motor_angle]))]) [0, 1, 2, 3, 4, 5] rfl) (hD.sub (ws' := [(h0, .inr (4, [.ref a_rules, .ref a_loopD, .ref a_loopQ, .ref a_loopPace, .ref a_motor, .ref a_onTimes, .ref a_asked, .ref a_changes, .int f_state, .int f_fault, .int f_lost, .long f_voltsD, .long f_voltsQ, .long f_heat, .int f_beats, .int f_alignBeats])), (a_rules, .inl (ca_rules, 6, .inl fn_rules)), (a_loopD, .inr (1, [.long f_loopD_kp, .long f_loopD_ki, .long f_loopD_sum])), (a_loopQ, .inr (1, [.long f_loopQ_kp, .long f_loopQ_ki, .long f_loopQ_sum])), (a_loopPace, .inr (1, [.long f_loopPace_kp, .long f_loopPace_ki, .long f_loopPace_sum])), (a_motor, .inr (2, [.long f_motor_d, .long f_motor_q, .long f_motor_pace, .long f_motor_angle]))]) [0, 1, 2, 3, 4, 5] (by decide) rfl) (hK.sub (tys' := [(ca_rules, .int)]) [0] rfl) hN) rfl rfl hl.1 rfl (lv_room (Nat.le_of_ble_eq_true rfl)) dX5_chooseVolts_65 ⟨(Nat.le_of_ble_eq_true rfl), (Nat.le_of_ble_eq_true rfl)⟩) (fun u H locs hw_11 hP hD hS hK1 => ?_)
      obtain ⟨o6, o7, o8, o9, o10⟩ := u
      have hw_11 : R_X5_followPace fn_rules f_loopD_kp f_loopD_ki f_loopD_sum f_loopQ_kp f_loopQ_ki f_loopQ_sum f_loopPace_kp f_loopPace_ki f_loopPace_sum f_motor_d f_motor_q f_motor_pace (v5.toInt64) o6 o7 o8 o9 o10 := hw_11
      have hP : va_P (dC, dI) vwCl [(h0, .inr (4, [.ref a_rules, .ref a_loopD, .ref a_loopQ, .ref a_loopPace, .ref a_motor, .ref a_onTimes, .ref a_asked, .ref a_changes, .int f_state, .int f_fault, .int f_lost, .long o6, .long o7, .long f_heat, .int f_beats, .int f_alignBeats])), (a_rules, .inl (ca_rules, 6, .inl fn_rules)), (a_loopD, .inr (1, [.long f_loopD_kp, .long f_loopD_ki, .long o8])), (a_loopQ, .inr (1, [.long f_loopQ_kp, .long f_loopQ_ki, .long o9])), (a_loopPace, .inr (1, [.long f_loopPace_kp, .long f_loopPace_ki, .long o10])), (a_motor, .inr (2, [.long f_motor_d, .long f_motor_q, .long f_motor_pace, .long f_motor_angle]))] H := hP
      have hD : va_D A [(h0, .inr (4, [.ref a_rules, .ref a_loopD, .ref a_loopQ, .ref a_loopPace, .ref a_motor, .ref a_onTimes, .ref a_asked, .ref a_changes, .int f_state, .int f_fault, .int f_lost, .long o6, .long o7, .long f_heat, .int f_beats, .int f_alignBeats])), (a_rules, .inl (ca_rules, 6, .inl fn_rules)), (a_loopD, .inr (1, [.long f_loopD_kp, .long f_loopD_ki, .long o8])), (a_loopQ, .inr (1, [.long f_loopQ_kp, .long f_loopQ_ki, .long o9])), (a_loopPace, .inr (1, [.long f_loopPace_kp, .long f_loopPace_ki, .long o10])), (a_motor, .inr (2, [.long f_motor_d, .long f_motor_q, .long f_motor_pace, .long f_motor_angle]))] := hD
      refine lv_goto (tgt := 83) hx hb dX5_chooseVolts_68 (by decide) ?_
      have hP9 := hP.sub (ws' := [(h0, .inr (4, [.ref a_rules, .ref a_loopD, .ref a_loopQ, .ref a_loopPace, .ref a_motor, .ref a_onTimes, .ref a_asked, .ref a_changes, .int f_state, .int f_fault, .int f_lost, .long o6, .long o7, .long f_heat, .int f_beats, .int f_alignBeats])), (a_rules, .inl (ca_rules, 6, .inl fn_rules)), (a_loopD, .inr (1, [.long f_loopD_kp, .long f_loopD_ki, .long o8])), (a_loopQ, .inr (1, [.long f_loopQ_kp, .long f_loopQ_ki, .long o9])), (a_loopPace, .inr (1, [.long f_loopPace_kp, .long f_loopPace_ki, .long o10])), (a_motor, .inr (2, [.long f_motor_d, .long f_motor_q, .long f_motor_pace, .long f_motor_angle]))]) [0, 1, 2, 3, 4, 5] rfl
      have hD9 := hD.sub (ws' := [(h0, .inr (4, [.ref a_rules, .ref a_loopD, .ref a_loopQ, .ref a_loopPace, .ref a_motor, .ref a_onTimes, .ref a_asked, .ref a_changes, .int f_state, .int f_fault, .int f_lost, .long o6, .long o7, .long f_heat, .int f_beats, .int f_alignBeats])), (a_rules, .inl (ca_rules, 6, .inl fn_rules)), (a_loopD, .inr (1, [.long f_loopD_kp, .long f_loopD_ki, .long o8])), (a_loopQ, .inr (1, [.long f_loopQ_kp, .long f_loopQ_ki, .long o9])), (a_loopPace, .inr (1, [.long f_loopPace_kp, .long f_loopPace_ki, .long o10])), (a_motor, .inr (2, [.long f_motor_d, .long f_motor_q, .long f_motor_pace, .long f_motor_angle]))]) [0, 1, 2, 3, 4, 5] (by decide) rfl
      have hK9 := hK.sub (tys' := [(ca_rules, .int)]) [0] rfl
      exact W.vret hx hb hr (fun t ht hW => ⟨⟨(o6, o7, f_alignBeats, o8, o9, o10), rfl, ⟨fun hh => absurd hh c1, fun _ => ⟨fun _ => ⟨v5, ev5, ⟨o6, o7, o8, o9, o10, hw_11, ⟨rfl, rfl, rfl, rfl, rfl, rfl⟩⟩⟩, fun hh => absurd c2 hh⟩⟩, (by rw [ht]; exact hP9), va_K.moved hW.alike hK9, hD9⟩, hS.F ht⟩) hS.2.2 dX5_chooseVolts_83
    · by_cases c3 : f_state = (3 : Int32)
      · refine lv_tableIn (x := f_state) (off := 67) (tgt := 71) hx hb dX5_chooseVolts_4 (by rw [c3]; decide) (by rw [c3]; decide) (by rw [c3]; rfl) (by decide) ?_
        refine lv_aload_n hx hb dX5_chooseVolts_71 rfl (lv_at hl 0 rfl) ?_
        refine lv_lconst (v := 0) hx hb dX5_chooseVolts_72 (by decide) ?_
        refine mw_callv (wc := [(h0, .inr (4, [.ref a_rules, .ref a_loopD, .ref a_loopQ, .ref a_loopPace, .ref a_motor, .ref a_onTimes, .ref a_asked, .ref a_changes, .int f_state, .int f_fault, .int f_lost, .long f_voltsD, .long f_voltsQ, .long f_heat, .int f_beats, .int f_alignBeats])), (a_rules, .inl (ca_rules, 6, .inl fn_rules)), (a_loopD, .inr (1, [.long f_loopD_kp, .long f_loopD_ki, .long f_loopD_sum])), (a_loopQ, .inr (1, [.long f_loopQ_kp, .long f_loopQ_ki, .long f_loopQ_sum])), (a_loopPace, .inr (1, [.long f_loopPace_kp, .long f_loopPace_ki, .long f_loopPace_sum])), (a_motor, .inr (2, [.long f_motor_d, .long f_motor_q, .long f_motor_pace, .long f_motor_angle]))]) (wr := []) (w1 := fun (u : Int64 × Int64 × Int64 × Int64 × Int64) => [(h0, .inr (4, [.ref a_rules, .ref a_loopD, .ref a_loopQ, .ref a_loopPace, .ref a_motor, .ref a_onTimes, .ref a_asked, .ref a_changes, .int f_state, .int f_fault, .int f_lost, .long u.1, .long u.2.1, .long f_heat, .int f_beats, .int f_alignBeats])), (a_rules, .inl (ca_rules, 6, .inl fn_rules)), (a_loopD, .inr (1, [.long f_loopD_kp, .long f_loopD_ki, .long u.2.2.1])), (a_loopQ, .inr (1, [.long f_loopQ_kp, .long f_loopQ_ki, .long u.2.2.2.1])), (a_loopPace, .inr (1, [.long f_loopPace_kp, .long f_loopPace_ki, .long u.2.2.2.2])), (a_motor, .inr (2, [.long f_motor_d, .long f_motor_q, .long f_motor_pace, .long f_motor_angle]))]) (tyc := fun (u : Int64 × Int64 × Int64 × Int64 × Int64) => [(ca_rules, .int)]) hP hD hS hA [0, 1, 2, 3, 4, 5] [] rfl rfl (by decide) (by decide) (va_runV (As := [.long (0 : Int64)]) (rest := []) ⟨hx, hb, hml, hown, hts⟩ (c_X5_followPace l dC dI h0 a_rules a_loopD a_loopQ a_loopPace a_motor a_onTimes a_asked a_changes f_state f_fault f_lost f_voltsD f_voltsQ f_heat f_beats f_alignBeats ca_rules fn_rules f_loopD_kp f_loopD_ki f_loopD_sum f_loopQ_kp f_loopQ_ki f_loopQ_sum f_loopPace_kp f_loopPace_ki f_loopPace_sum f_motor_d f_motor_q f_motor_pace f_motor_angle (0 : Int64) s.heap.size ) (cwV 1 hts gX5_chooseVolts_X5_followPace rfl rfl rfl (by decide +kernel) ⟨(Nat.le_of_ble_eq_true rfl), (Nat.le_of_ble_eq_true rfl)⟩) (mw_preV (va_recv hK hP (ci := 4) (q0 := 0) rfl rfl) (hP.sub (ws' := [(h0, .inr (4, [.ref a_rules, .ref a_loopD, .ref a_loopQ, .ref a_loopPace, .ref a_motor, .ref a_onTimes, .ref a_asked, .ref a_changes, .int f_state, .int f_fault, .int f_lost, .long f_voltsD, .long f_voltsQ, .long f_heat, .int f_beats, .int f_alignBeats])), (a_rules, .inl (ca_rules, 6, .inl fn_rules)), (a_loopD, .inr (1, [.long f_loopD_kp, .long f_loopD_ki, .long f_loopD_sum])), (a_loopQ, .inr (1, [.long f_loopQ_kp, .long f_loopQ_ki, .long f_loopQ_sum])), (a_loopPace, .inr (1, [.long f_loopPace_kp, .long f_loopPace_ki, .long f_loopPace_sum])), (a_motor, .inr (2, [.long f_motor_d, .long f_motor_q, .long f_motor_pace, .long f_motor_angle]))]) [0, 1, 2, 3, 4, 5] rfl) (hD.sub (ws' := [(h0, .inr (4, [.ref a_rules, .ref a_loopD, .ref a_loopQ, .ref a_loopPace, .ref a_motor, .ref a_onTimes, .ref a_asked, .ref a_changes, .int f_state, .int f_fault, .int f_lost, .long f_voltsD, .long f_voltsQ, .long f_heat, .int f_beats, .int f_alignBeats])), (a_rules, .inl (ca_rules, 6, .inl fn_rules)), (a_loopD, .inr (1, [.long f_loopD_kp, .long f_loopD_ki, .long f_loopD_sum])), (a_loopQ, .inr (1, [.long f_loopQ_kp, .long f_loopQ_ki, .long f_loopQ_sum])), (a_loopPace, .inr (1, [.long f_loopPace_kp, .long f_loopPace_ki, .long f_loopPace_sum])), (a_motor, .inr (2, [.long f_motor_d, .long f_motor_q, .long f_motor_pace, .long f_motor_angle]))]) [0, 1, 2, 3, 4, 5] (by decide) rfl) (hK.sub (tys' := [(ca_rules, .int)]) [0] rfl) hN) rfl rfl hl.1 rfl (lv_room (Nat.le_of_ble_eq_true rfl)) dX5_chooseVolts_73 ⟨(Nat.le_of_ble_eq_true rfl), (Nat.le_of_ble_eq_true rfl)⟩) (fun u H locs hw_17 hP hD hS hK1 => ?_)
        obtain ⟨o12, o13, o14, o15, o16⟩ := u
        have hw_17 : R_X5_followPace fn_rules f_loopD_kp f_loopD_ki f_loopD_sum f_loopQ_kp f_loopQ_ki f_loopQ_sum f_loopPace_kp f_loopPace_ki f_loopPace_sum f_motor_d f_motor_q f_motor_pace (0 : Int64) o12 o13 o14 o15 o16 := hw_17
        have hP : va_P (dC, dI) vwCl [(h0, .inr (4, [.ref a_rules, .ref a_loopD, .ref a_loopQ, .ref a_loopPace, .ref a_motor, .ref a_onTimes, .ref a_asked, .ref a_changes, .int f_state, .int f_fault, .int f_lost, .long o12, .long o13, .long f_heat, .int f_beats, .int f_alignBeats])), (a_rules, .inl (ca_rules, 6, .inl fn_rules)), (a_loopD, .inr (1, [.long f_loopD_kp, .long f_loopD_ki, .long o14])), (a_loopQ, .inr (1, [.long f_loopQ_kp, .long f_loopQ_ki, .long o15])), (a_loopPace, .inr (1, [.long f_loopPace_kp, .long f_loopPace_ki, .long o16])), (a_motor, .inr (2, [.long f_motor_d, .long f_motor_q, .long f_motor_pace, .long f_motor_angle]))] H := hP
        have hD : va_D A [(h0, .inr (4, [.ref a_rules, .ref a_loopD, .ref a_loopQ, .ref a_loopPace, .ref a_motor, .ref a_onTimes, .ref a_asked, .ref a_changes, .int f_state, .int f_fault, .int f_lost, .long o12, .long o13, .long f_heat, .int f_beats, .int f_alignBeats])), (a_rules, .inl (ca_rules, 6, .inl fn_rules)), (a_loopD, .inr (1, [.long f_loopD_kp, .long f_loopD_ki, .long o14])), (a_loopQ, .inr (1, [.long f_loopQ_kp, .long f_loopQ_ki, .long o15])), (a_loopPace, .inr (1, [.long f_loopPace_kp, .long f_loopPace_ki, .long o16])), (a_motor, .inr (2, [.long f_motor_d, .long f_motor_q, .long f_motor_pace, .long f_motor_angle]))] := hD
        refine lv_goto (tgt := 83) hx hb dX5_chooseVolts_76 (by decide) ?_
        have hP9 := hP.sub (ws' := [(h0, .inr (4, [.ref a_rules, .ref a_loopD, .ref a_loopQ, .ref a_loopPace, .ref a_motor, .ref a_onTimes, .ref a_asked, .ref a_changes, .int f_state, .int f_fault, .int f_lost, .long o12, .long o13, .long f_heat, .int f_beats, .int f_alignBeats])), (a_rules, .inl (ca_rules, 6, .inl fn_rules)), (a_loopD, .inr (1, [.long f_loopD_kp, .long f_loopD_ki, .long o14])), (a_loopQ, .inr (1, [.long f_loopQ_kp, .long f_loopQ_ki, .long o15])), (a_loopPace, .inr (1, [.long f_loopPace_kp, .long f_loopPace_ki, .long o16])), (a_motor, .inr (2, [.long f_motor_d, .long f_motor_q, .long f_motor_pace, .long f_motor_angle]))]) [0, 1, 2, 3, 4, 5] rfl
        have hD9 := hD.sub (ws' := [(h0, .inr (4, [.ref a_rules, .ref a_loopD, .ref a_loopQ, .ref a_loopPace, .ref a_motor, .ref a_onTimes, .ref a_asked, .ref a_changes, .int f_state, .int f_fault, .int f_lost, .long o12, .long o13, .long f_heat, .int f_beats, .int f_alignBeats])), (a_rules, .inl (ca_rules, 6, .inl fn_rules)), (a_loopD, .inr (1, [.long f_loopD_kp, .long f_loopD_ki, .long o14])), (a_loopQ, .inr (1, [.long f_loopQ_kp, .long f_loopQ_ki, .long o15])), (a_loopPace, .inr (1, [.long f_loopPace_kp, .long f_loopPace_ki, .long o16])), (a_motor, .inr (2, [.long f_motor_d, .long f_motor_q, .long f_motor_pace, .long f_motor_angle]))]) [0, 1, 2, 3, 4, 5] (by decide) rfl
        have hK9 := hK.sub (tys' := [(ca_rules, .int)]) [0] rfl
        exact W.vret hx hb hr (fun t ht hW => ⟨⟨(o12, o13, f_alignBeats, o14, o15, o16), rfl, ⟨fun hh => absurd hh c1, fun _ => ⟨fun hh => absurd hh c2, fun _ => ⟨fun _ => ⟨o12, o13, o14, o15, o16, hw_17, ⟨rfl, rfl, rfl, rfl, rfl, rfl⟩⟩, fun hh => absurd c3 hh⟩⟩⟩, (by rw [ht]; exact hP9), va_K.moved hW.alike hK9, hD9⟩, hS.F ht⟩) hS.2.2 dX5_chooseVolts_83
      · refine lv_tableOut (x := f_state) (tgt := 79) hx hb dX5_chooseVolts_4 (by have n0 := mw_ne (n := 1) rfl c1; have n1 := mw_ne (n := 2) rfl c2; have n2 := mw_ne (n := 3) rfl c3; omega) (by decide) ?_
        refine lv_aload_n hx hb dX5_chooseVolts_79 rfl (lv_at hl 0 rfl) ?_
        refine mw_callv (wc := [(h0, .inr (4, [.ref a_rules, .ref a_loopD, .ref a_loopQ, .ref a_loopPace, .ref a_motor, .ref a_onTimes, .ref a_asked, .ref a_changes, .int f_state, .int f_fault, .int f_lost, .long f_voltsD, .long f_voltsQ, .long f_heat, .int f_beats, .int f_alignBeats])), (a_loopD, .inr (1, [.long f_loopD_kp, .long f_loopD_ki, .long f_loopD_sum])), (a_loopQ, .inr (1, [.long f_loopQ_kp, .long f_loopQ_ki, .long f_loopQ_sum])), (a_loopPace, .inr (1, [.long f_loopPace_kp, .long f_loopPace_ki, .long f_loopPace_sum]))]) (wr := [(a_rules, .inl (ca_rules, 6, .inl fn_rules)), (a_motor, .inr (2, [.long f_motor_d, .long f_motor_q, .long f_motor_pace, .long f_motor_angle]))]) (w1 := fun (u : Unit) => [(h0, .inr (4, [.ref a_rules, .ref a_loopD, .ref a_loopQ, .ref a_loopPace, .ref a_motor, .ref a_onTimes, .ref a_asked, .ref a_changes, .int f_state, .int f_fault, .int f_lost, .long (0 : Int64), .long (0 : Int64), .long f_heat, .int f_beats, .int f_alignBeats])), (a_loopD, .inr (1, [.long f_loopD_kp, .long f_loopD_ki, .long (0 : Int64)])), (a_loopQ, .inr (1, [.long f_loopQ_kp, .long f_loopQ_ki, .long (0 : Int64)])), (a_loopPace, .inr (1, [.long f_loopPace_kp, .long f_loopPace_ki, .long (0 : Int64)]))]) (tyc := fun (u : Unit) => []) hP hD hS hA [0, 2, 3, 4] [1, 5] rfl rfl (by decide) (by decide) (va_runV (As := []) (rest := []) ⟨hx, hb, hml, hown, hts⟩ (c_X5_cutWires l dC dI h0 a_rules a_loopD a_loopQ a_loopPace a_motor a_onTimes a_asked a_changes f_state f_fault f_lost f_voltsD f_voltsQ f_heat f_beats f_alignBeats f_loopD_kp f_loopD_ki f_loopD_sum f_loopQ_kp f_loopQ_ki f_loopQ_sum f_loopPace_kp f_loopPace_ki f_loopPace_sum s.heap.size ) (cwV 0 hts gX5_chooseVolts_X5_cutWires rfl rfl rfl (by decide +kernel) ⟨(Nat.le_of_ble_eq_true rfl), (Nat.le_of_ble_eq_true rfl)⟩) (mw_preV (va_recv hK hP (ci := 4) (q0 := 0) rfl rfl) (hP.sub (ws' := [(h0, .inr (4, [.ref a_rules, .ref a_loopD, .ref a_loopQ, .ref a_loopPace, .ref a_motor, .ref a_onTimes, .ref a_asked, .ref a_changes, .int f_state, .int f_fault, .int f_lost, .long f_voltsD, .long f_voltsQ, .long f_heat, .int f_beats, .int f_alignBeats])), (a_loopD, .inr (1, [.long f_loopD_kp, .long f_loopD_ki, .long f_loopD_sum])), (a_loopQ, .inr (1, [.long f_loopQ_kp, .long f_loopQ_ki, .long f_loopQ_sum])), (a_loopPace, .inr (1, [.long f_loopPace_kp, .long f_loopPace_ki, .long f_loopPace_sum]))]) [0, 2, 3, 4] rfl) (hD.sub (ws' := [(h0, .inr (4, [.ref a_rules, .ref a_loopD, .ref a_loopQ, .ref a_loopPace, .ref a_motor, .ref a_onTimes, .ref a_asked, .ref a_changes, .int f_state, .int f_fault, .int f_lost, .long f_voltsD, .long f_voltsQ, .long f_heat, .int f_beats, .int f_alignBeats])), (a_loopD, .inr (1, [.long f_loopD_kp, .long f_loopD_ki, .long f_loopD_sum])), (a_loopQ, .inr (1, [.long f_loopQ_kp, .long f_loopQ_ki, .long f_loopQ_sum])), (a_loopPace, .inr (1, [.long f_loopPace_kp, .long f_loopPace_ki, .long f_loopPace_sum]))]) [0, 2, 3, 4] (by decide) rfl) (hK.sub (tys' := []) [] rfl) hN) rfl rfl hl.1 rfl (lv_room (Nat.le_of_ble_eq_true rfl)) dX5_chooseVolts_80 ⟨(Nat.le_of_ble_eq_true rfl), (Nat.le_of_ble_eq_true rfl)⟩) (fun u H locs hw_18 hP hD hS hK1 => ?_)
        have hw_18 : R_X5_cutWires := hw_18
        have hP : va_P (dC, dI) vwCl [(a_rules, .inl (ca_rules, 6, .inl fn_rules)), (a_motor, .inr (2, [.long f_motor_d, .long f_motor_q, .long f_motor_pace, .long f_motor_angle])), (h0, .inr (4, [.ref a_rules, .ref a_loopD, .ref a_loopQ, .ref a_loopPace, .ref a_motor, .ref a_onTimes, .ref a_asked, .ref a_changes, .int f_state, .int f_fault, .int f_lost, .long (0 : Int64), .long (0 : Int64), .long f_heat, .int f_beats, .int f_alignBeats])), (a_loopD, .inr (1, [.long f_loopD_kp, .long f_loopD_ki, .long (0 : Int64)])), (a_loopQ, .inr (1, [.long f_loopQ_kp, .long f_loopQ_ki, .long (0 : Int64)])), (a_loopPace, .inr (1, [.long f_loopPace_kp, .long f_loopPace_ki, .long (0 : Int64)]))] H := hP
        have hD : va_D A [(a_rules, .inl (ca_rules, 6, .inl fn_rules)), (a_motor, .inr (2, [.long f_motor_d, .long f_motor_q, .long f_motor_pace, .long f_motor_angle])), (h0, .inr (4, [.ref a_rules, .ref a_loopD, .ref a_loopQ, .ref a_loopPace, .ref a_motor, .ref a_onTimes, .ref a_asked, .ref a_changes, .int f_state, .int f_fault, .int f_lost, .long (0 : Int64), .long (0 : Int64), .long f_heat, .int f_beats, .int f_alignBeats])), (a_loopD, .inr (1, [.long f_loopD_kp, .long f_loopD_ki, .long (0 : Int64)])), (a_loopQ, .inr (1, [.long f_loopQ_kp, .long f_loopQ_ki, .long (0 : Int64)])), (a_loopPace, .inr (1, [.long f_loopPace_kp, .long f_loopPace_ki, .long (0 : Int64)]))] := hD
        have hP9 := hP.sub (ws' := [(h0, .inr (4, [.ref a_rules, .ref a_loopD, .ref a_loopQ, .ref a_loopPace, .ref a_motor, .ref a_onTimes, .ref a_asked, .ref a_changes, .int f_state, .int f_fault, .int f_lost, .long (0 : Int64), .long (0 : Int64), .long f_heat, .int f_beats, .int f_alignBeats])), (a_rules, .inl (ca_rules, 6, .inl fn_rules)), (a_loopD, .inr (1, [.long f_loopD_kp, .long f_loopD_ki, .long (0 : Int64)])), (a_loopQ, .inr (1, [.long f_loopQ_kp, .long f_loopQ_ki, .long (0 : Int64)])), (a_loopPace, .inr (1, [.long f_loopPace_kp, .long f_loopPace_ki, .long (0 : Int64)])), (a_motor, .inr (2, [.long f_motor_d, .long f_motor_q, .long f_motor_pace, .long f_motor_angle]))]) [2, 0, 3, 4, 5, 1] rfl
        have hD9 := hD.sub (ws' := [(h0, .inr (4, [.ref a_rules, .ref a_loopD, .ref a_loopQ, .ref a_loopPace, .ref a_motor, .ref a_onTimes, .ref a_asked, .ref a_changes, .int f_state, .int f_fault, .int f_lost, .long (0 : Int64), .long (0 : Int64), .long f_heat, .int f_beats, .int f_alignBeats])), (a_rules, .inl (ca_rules, 6, .inl fn_rules)), (a_loopD, .inr (1, [.long f_loopD_kp, .long f_loopD_ki, .long (0 : Int64)])), (a_loopQ, .inr (1, [.long f_loopQ_kp, .long f_loopQ_ki, .long (0 : Int64)])), (a_loopPace, .inr (1, [.long f_loopPace_kp, .long f_loopPace_ki, .long (0 : Int64)])), (a_motor, .inr (2, [.long f_motor_d, .long f_motor_q, .long f_motor_pace, .long f_motor_angle]))]) [2, 0, 3, 4, 5, 1] (by decide) rfl
        have hK9 := hK.sub (tys' := [(ca_rules, .int)]) [0] rfl
        exact W.vret hx hb hr (fun t ht hW => ⟨⟨((0 : Int64), (0 : Int64), f_alignBeats, (0 : Int64), (0 : Int64), (0 : Int64)), rfl, ⟨fun hh => absurd hh c1, fun _ => ⟨fun hh => absurd hh c2, fun _ => ⟨fun hh => absurd hh c3, fun _ => ⟨hw_18, ⟨rfl, rfl, rfl, rfl, rfl, rfl⟩⟩⟩⟩⟩, (by rw [ht]; exact hP9), va_K.moved hW.alike hK9, hD9⟩, hS.F ht⟩) hS.2.2 dX5_chooseVolts_83
def RG_X5_leadWires_28 (f_state : Int32) (f_motor_angle : Int64) (x5 : Int64) : Prop := (f_state = (1 : Int32) → (x5 = (0 : Int64))) ∧ (¬ (f_state = (1 : Int32)) → (x5 = f_motor_angle))
def R_X5_leadWires (f_state : Int32) (f_voltsD : Int64) (f_voltsQ : Int64) (fn_rules : Nat → Int32) (f_motor_angle : Int64) (u_3_u : Int64) (u_3_v : Int64) (u_3_w : Int64) (u_3_over : Int32) : Prop := (f_state = (0 : Int32) → (R_X4_off ∧ (u_3_u = (0 : Int64) ∧ u_3_v = (0 : Int64) ∧ u_3_w = (0 : Int64) ∧ u_3_over = (0 : Int32)))) ∧ (¬ (f_state = (0 : Int32)) → ((f_state = (4 : Int32) → (R_X4_off ∧ (u_3_u = (0 : Int64) ∧ u_3_v = (0 : Int64) ∧ u_3_w = (0 : Int64) ∧ u_3_over = (0 : Int32)))) ∧ (¬ (f_state = (4 : Int32)) → (∃ (x5 : Int64), RG_X5_leadWires_28 f_state f_motor_angle x5 ∧ (∃ (r7 : Int64), R_X1_alphaOf f_voltsD f_voltsQ x5 r7 ∧ (∃ (r9 : Int64), R_X1_betaOf f_voltsD f_voltsQ x5 r9 ∧ (∃ v11 : Int32, v11 = fn_rules 0 ∧ (∃ (o12 : Int64) (o13 : Int64) (o14 : Int64) (o15 : Int32), R_X4_lead r7 r9 (v11.toInt64) o12 o13 o14 o15 ∧ (u_3_u = o12 ∧ u_3_v = o13 ∧ u_3_w = o14 ∧ u_3_over = o15)))))))))
set_option maxHeartbeats 4000000 in
set_option maxRecDepth 100000 in
theorem c_X5_leadWires (l : Launch) (dC : Nat → ClassId) (dI : Nat → Nat → Nat) (h0 : Nat) (a_rules : Nat) (a_loopD : Nat) (a_loopQ : Nat) (a_loopPace : Nat) (a_motor : Nat) (a_onTimes : Nat) (a_asked : Nat) (a_changes : Nat) (f_state : Int32) (f_fault : Int32) (f_lost : Int32) (f_voltsD : Int64) (f_voltsQ : Int64) (f_heat : Int64) (f_beats : Int32) (f_alignBeats : Int32) (ca_rules : ClassId) (fn_rules : Nat → Int32) (f_motor_d : Int64) (f_motor_q : Int64) (f_motor_pace : Int64) (f_motor_angle : Int64) (f_onTimes_u : Int64) (f_onTimes_v : Int64) (f_onTimes_w : Int64) (f_onTimes_over : Int32) (sz : Nat)  : Met l yX5_leadWires wsX5_leadWires ({ frames := 4, cells := 0, slots := 0, locals := 96 }) (va_Pc [.ref h0] (mw_pre (dC, dI) vwCl [(h0, .inr (4, [.ref a_rules, .ref a_loopD, .ref a_loopQ, .ref a_loopPace, .ref a_motor, .ref a_onTimes, .ref a_asked, .ref a_changes, .int f_state, .int f_fault, .int f_lost, .long f_voltsD, .long f_voltsQ, .long f_heat, .int f_beats, .int f_alignBeats])), (a_rules, .inl (ca_rules, 6, .inl fn_rules)), (a_motor, .inr (2, [.long f_motor_d, .long f_motor_q, .long f_motor_pace, .long f_motor_angle])), (a_onTimes, .inr (3, [.long f_onTimes_u, .long f_onTimes_v, .long f_onTimes_w, .int f_onTimes_over]))] [(ca_rules, .int)] sz)) (va_Qv (fun (u : Int64 × Int64 × Int64 × Int32) => R_X5_leadWires f_state f_voltsD f_voltsQ fn_rules f_motor_angle u.1 u.2.1 u.2.2.1 u.2.2.2) (fun u t => mw_at (dC, dI) vwCl [(h0, .inr (4, [.ref a_rules, .ref a_loopD, .ref a_loopQ, .ref a_loopPace, .ref a_motor, .ref a_onTimes, .ref a_asked, .ref a_changes, .int f_state, .int f_fault, .int f_lost, .long f_voltsD, .long f_voltsQ, .long f_heat, .int f_beats, .int f_alignBeats])), (a_rules, .inl (ca_rules, 6, .inl fn_rules)), (a_motor, .inr (2, [.long f_motor_d, .long f_motor_q, .long f_motor_pace, .long f_motor_angle])), (a_onTimes, .inr (3, [.long u.1, .long u.2.1, .long u.2.2.1, .int u.2.2.2]))] [(ca_rules, .int)] (va_A [(h0, .inr (4, [.ref a_rules, .ref a_loopD, .ref a_loopQ, .ref a_loopPace, .ref a_motor, .ref a_onTimes, .ref a_asked, .ref a_changes, .int f_state, .int f_fault, .int f_lost, .long f_voltsD, .long f_voltsQ, .long f_heat, .int f_beats, .int f_alignBeats])), (a_rules, .inl (ca_rules, 6, .inl fn_rules)), (a_motor, .inr (2, [.long f_motor_d, .long f_motor_q, .long f_motor_pace, .long f_motor_angle])), (a_onTimes, .inr (3, [.long f_onTimes_u, .long f_onTimes_v, .long f_onTimes_w, .int f_onTimes_over]))] sz) t) (va_A [(h0, .inr (4, [.ref a_rules, .ref a_loopD, .ref a_loopQ, .ref a_loopPace, .ref a_motor, .ref a_onTimes, .ref a_asked, .ref a_changes, .int f_state, .int f_fault, .int f_lost, .long f_voltsD, .long f_voltsQ, .long f_heat, .int f_beats, .int f_alignBeats])), (a_rules, .inl (ca_rules, 6, .inl fn_rules)), (a_motor, .inr (2, [.long f_motor_d, .long f_motor_q, .long f_motor_pace, .long f_motor_angle])), (a_onTimes, .inr (3, [.long f_onTimes_u, .long f_onTimes_v, .long f_onTimes_w, .int f_onTimes_over]))] sz)) 0 0 (va_A [(h0, .inr (4, [.ref a_rules, .ref a_loopD, .ref a_loopQ, .ref a_loopPace, .ref a_motor, .ref a_onTimes, .ref a_asked, .ref a_changes, .int f_state, .int f_fault, .int f_lost, .long f_voltsD, .long f_voltsQ, .long f_heat, .int f_beats, .int f_alignBeats])), (a_rules, .inl (ca_rules, 6, .inl fn_rules)), (a_motor, .inr (2, [.long f_motor_d, .long f_motor_q, .long f_motor_pace, .long f_motor_angle])), (a_onTimes, .inr (3, [.long f_onTimes_u, .long f_onTimes_v, .long f_onTimes_w, .int f_onTimes_over]))] sz) := by
  refine Met.ofW (cc := cX5_leadWires) (maxL := 7) (ret := none) (by decide) rfl ?_
  intro p e s m args below meth c s₁ B hml hv
  obtain ⟨rfl, hsz, hP, hK, hD0, hN⟩ := hv
  have hx := B.exec
  have hb := B.bytes
  have hr := B.returns
  have hts := atoms_spec (ws := wsX5_leadWires) B.pre
  have hown : s.vm.findClass RX5 = some m.cls := findClass_of_methodNamed B.named
  have hlocks := B.notSynchronized
  subst hsz
  have hD := hD0.self (sz := s.heap.size)
  generalize hAe : va_A [(h0, .inr (4, [.ref a_rules, .ref a_loopD, .ref a_loopQ, .ref a_loopPace, .ref a_motor, .ref a_onTimes, .ref a_asked, .ref a_changes, .int f_state, .int f_fault, .int f_lost, .long f_voltsD, .long f_voltsQ, .long f_heat, .int f_beats, .int f_alignBeats])), (a_rules, .inl (ca_rules, 6, .inl fn_rules)), (a_motor, .inr (2, [.long f_motor_d, .long f_motor_q, .long f_motor_pace, .long f_motor_angle])), (a_onTimes, .inr (3, [.long f_onTimes_u, .long f_onTimes_v, .long f_onTimes_w, .int f_onTimes_over]))] s.heap.size = A at hD ⊢
  have hA : ∀ q : Nat, s.heap.size ≤ q → A q := fun q h => by rw [← hAe]; exact Or.inr h
  have hS : va_S A s.heap s.heap [] := va_S.rf
  have hP : va_P (dC, dI) vwCl [(h0, .inr (4, [.ref a_rules, .ref a_loopD, .ref a_loopQ, .ref a_loopPace, .ref a_motor, .ref a_onTimes, .ref a_asked, .ref a_changes, .int f_state, .int f_fault, .int f_lost, .long f_voltsD, .long f_voltsQ, .long f_heat, .int f_beats, .int f_alignBeats])), (a_rules, .inl (ca_rules, 6, .inl fn_rules)), (a_motor, .inr (2, [.long f_motor_d, .long f_motor_q, .long f_motor_pace, .long f_motor_angle])), (a_onTimes, .inr (3, [.long f_onTimes_u, .long f_onTimes_v, .long f_onTimes_w, .int f_onTimes_over]))] s.heap := hP
  have hl := lv_entry ([.ref h0]) (n := 7) (Nat.le_of_ble_eq_true rfl)
  rw [lg_entry_eq]
  generalize (lg_sl ([.ref h0]) ++ List.replicate (7 - (lg_sl ([.ref h0])).length) Slot.unset).toArray = ls at hl ⊢
  have hl : lv_has ls 7 [(0, .ref h0)] := hl
  have hw0 := hts (.fieldLink RX5 50 "TurnedFields" "state" "I") (by decide +kernel)
  have hw1 := hts (.fieldLink RX5 36 "TurnedFields" "onTimes" "LTurnedFields$OnTimes;") (by decide +kernel)
  have hw2 := hts (.fieldLink RX5 29 "TurnedFields" "motor" "LTurnedFields$Motor;") (by decide +kernel)
  have hw3 := hts (.fieldLink RX5 170 "TurnedFields$Motor" "angle" "J") (by decide +kernel)
  have hw4 := hts (.fieldLink RX5 61 "TurnedFields" "voltsD" "J") (by decide +kernel)
  have hw5 := hts (.fieldLink RX5 65 "TurnedFields" "voltsQ" "J") (by decide +kernel)
  have hw6 := hts (.fieldLink RX5 9 "TurnedFields" "rules" "[I") (by decide +kernel)
  have hinX3 : ∀ w ∈ wsX30, w ∈ wsX5_leadWires := by decide +kernel
  have hinX5 : ∀ w ∈ wsX50, w ∈ wsX5_leadWires := by decide +kernel
  refine lv_aload_n hx hb dX5_leadWires_0 rfl (lv_at hl 0 rfl) ?_
  refine va_get (D := (dC, dI)) (ci := 4) (v := .int f_state) (C := RX5) (T := TX5) (N := 16) hx hb hts hinX5 hown hK hP 0 rfl rfl 8 (by decide) hw0 (fun _ h9 => h9) rfl dX5_leadWires_1 ?_
  refine lv_if_eq (tgt := 15) hx hb dX5_leadWires_4 (by decide) (fun c1 => ?_) (fun c1 => ?_)
  · have c1 : f_state = (0 : Int32) := c1
    refine lv_aload_n hx hb dX5_leadWires_15 rfl (lv_at hl 0 rfl) ?_
    refine va_get (D := (dC, dI)) (ci := 4) (v := .ref a_onTimes) (C := RX5) (T := TX5) (N := 16) hx hb hts hinX5 hown hK hP 0 rfl rfl 5 (by decide) hw1 (fun _ h9 => h9) rfl dX5_leadWires_16 ?_
    refine mw_callv (wc := [(a_onTimes, .inr (3, [.long f_onTimes_u, .long f_onTimes_v, .long f_onTimes_w, .int f_onTimes_over]))]) (wr := [(h0, .inr (4, [.ref a_rules, .ref a_loopD, .ref a_loopQ, .ref a_loopPace, .ref a_motor, .ref a_onTimes, .ref a_asked, .ref a_changes, .int f_state, .int f_fault, .int f_lost, .long f_voltsD, .long f_voltsQ, .long f_heat, .int f_beats, .int f_alignBeats])), (a_rules, .inl (ca_rules, 6, .inl fn_rules)), (a_motor, .inr (2, [.long f_motor_d, .long f_motor_q, .long f_motor_pace, .long f_motor_angle]))]) (w1 := fun (u : Unit) => [(a_onTimes, .inr (3, [.long (0 : Int64), .long (0 : Int64), .long (0 : Int64), .int (0 : Int32)]))]) (tyc := fun (u : Unit) => []) hP hD hS hA [3] [0, 1, 2] rfl rfl (by decide) (by decide) (va_runV (As := []) (rest := []) ⟨hx, hb, hml, hown, hts⟩ (c_X4_off l dC dI a_onTimes f_onTimes_u f_onTimes_v f_onTimes_w f_onTimes_over s.heap.size ) (cwV 0 hts gX5_leadWires_X4_off rfl rfl rfl (by decide +kernel) ⟨(Nat.le_of_ble_eq_true rfl), (Nat.le_of_ble_eq_true rfl)⟩) (mw_preV (va_recv hK hP (ci := 3) (q0 := 3) rfl rfl) (hP.sub (ws' := [(a_onTimes, .inr (3, [.long f_onTimes_u, .long f_onTimes_v, .long f_onTimes_w, .int f_onTimes_over]))]) [3] rfl) (hD.sub (ws' := [(a_onTimes, .inr (3, [.long f_onTimes_u, .long f_onTimes_v, .long f_onTimes_w, .int f_onTimes_over]))]) [3] (by decide) rfl) (hK.sub (tys' := []) [] rfl) hN) rfl rfl hl.1 rfl (lv_room (Nat.le_of_ble_eq_true rfl)) dX5_leadWires_19 ⟨(Nat.le_of_ble_eq_true rfl), (Nat.le_of_ble_eq_true rfl)⟩) (fun u H locs hw_2 hP hD hS hK1 => ?_)
    have hw_2 : R_X4_off := hw_2
    have hP : va_P (dC, dI) vwCl [(h0, .inr (4, [.ref a_rules, .ref a_loopD, .ref a_loopQ, .ref a_loopPace, .ref a_motor, .ref a_onTimes, .ref a_asked, .ref a_changes, .int f_state, .int f_fault, .int f_lost, .long f_voltsD, .long f_voltsQ, .long f_heat, .int f_beats, .int f_alignBeats])), (a_rules, .inl (ca_rules, 6, .inl fn_rules)), (a_motor, .inr (2, [.long f_motor_d, .long f_motor_q, .long f_motor_pace, .long f_motor_angle])), (a_onTimes, .inr (3, [.long (0 : Int64), .long (0 : Int64), .long (0 : Int64), .int (0 : Int32)]))] H := hP
    have hD : va_D A [(h0, .inr (4, [.ref a_rules, .ref a_loopD, .ref a_loopQ, .ref a_loopPace, .ref a_motor, .ref a_onTimes, .ref a_asked, .ref a_changes, .int f_state, .int f_fault, .int f_lost, .long f_voltsD, .long f_voltsQ, .long f_heat, .int f_beats, .int f_alignBeats])), (a_rules, .inl (ca_rules, 6, .inl fn_rules)), (a_motor, .inr (2, [.long f_motor_d, .long f_motor_q, .long f_motor_pace, .long f_motor_angle])), (a_onTimes, .inr (3, [.long (0 : Int64), .long (0 : Int64), .long (0 : Int64), .int (0 : Int32)]))] := hD
    have hP9 := hP.sub (ws' := [(h0, .inr (4, [.ref a_rules, .ref a_loopD, .ref a_loopQ, .ref a_loopPace, .ref a_motor, .ref a_onTimes, .ref a_asked, .ref a_changes, .int f_state, .int f_fault, .int f_lost, .long f_voltsD, .long f_voltsQ, .long f_heat, .int f_beats, .int f_alignBeats])), (a_rules, .inl (ca_rules, 6, .inl fn_rules)), (a_motor, .inr (2, [.long f_motor_d, .long f_motor_q, .long f_motor_pace, .long f_motor_angle])), (a_onTimes, .inr (3, [.long (0 : Int64), .long (0 : Int64), .long (0 : Int64), .int (0 : Int32)]))]) [0, 1, 2, 3] rfl
    have hD9 := hD.sub (ws' := [(h0, .inr (4, [.ref a_rules, .ref a_loopD, .ref a_loopQ, .ref a_loopPace, .ref a_motor, .ref a_onTimes, .ref a_asked, .ref a_changes, .int f_state, .int f_fault, .int f_lost, .long f_voltsD, .long f_voltsQ, .long f_heat, .int f_beats, .int f_alignBeats])), (a_rules, .inl (ca_rules, 6, .inl fn_rules)), (a_motor, .inr (2, [.long f_motor_d, .long f_motor_q, .long f_motor_pace, .long f_motor_angle])), (a_onTimes, .inr (3, [.long (0 : Int64), .long (0 : Int64), .long (0 : Int64), .int (0 : Int32)]))]) [0, 1, 2, 3] (by decide) rfl
    have hK9 := hK.sub (tys' := [(ca_rules, .int)]) [0] rfl
    exact W.vret hx hb hr (fun t ht hW => ⟨⟨((0 : Int64), (0 : Int64), (0 : Int64), (0 : Int32)), rfl, ⟨fun _ => ⟨hw_2, ⟨rfl, rfl, rfl, rfl⟩⟩, fun hh => absurd c1 hh⟩, (by rw [ht]; exact hP9), va_K.moved hW.alike hK9, hD9⟩, hS.F ht⟩) hS.2.2 dX5_leadWires_22
  · have c1 : ¬ (f_state = (0 : Int32)) := c1
    refine lv_aload_n hx hb dX5_leadWires_7 rfl (lv_at hl 0 rfl) ?_
    refine va_get (D := (dC, dI)) (ci := 4) (v := .int f_state) (C := RX5) (T := TX5) (N := 16) hx hb hts hinX5 hown hK hP 0 rfl rfl 8 (by decide) hw0 (fun _ h9 => h9) rfl dX5_leadWires_8 ?_
    refine lv_iconst (v := 4) hx hb dX5_leadWires_11 (by decide) ?_
    refine lv_icmp_ne (tgt := 23) hx hb dX5_leadWires_12 (by decide) (fun c3 => ?_) (fun c3 => ?_)
    · refine lv_aload_n hx hb dX5_leadWires_23 rfl (lv_at hl 0 rfl) ?_
      refine va_get (D := (dC, dI)) (ci := 4) (v := .int f_state) (C := RX5) (T := TX5) (N := 16) hx hb hts hinX5 hown hK hP 0 rfl rfl 8 (by decide) hw0 (fun _ h9 => h9) rfl dX5_leadWires_24 ?_
      refine lv_iconst (v := 1) hx hb dX5_leadWires_27 (by decide) ?_
      refine mw_jn (X := Int64) (D := (dC, dI)) (cl := vwCl) (A := A) (H0 := s.heap) (nL := 7) (fun x => [(h0, .inr (4, [.ref a_rules, .ref a_loopD, .ref a_loopQ, .ref a_loopPace, .ref a_motor, .ref a_onTimes, .ref a_asked, .ref a_changes, .int f_state, .int f_fault, .int f_lost, .long f_voltsD, .long f_voltsQ, .long f_heat, .int f_beats, .int f_alignBeats])), (a_rules, .inl (ca_rules, 6, .inl fn_rules)), (a_motor, .inr (2, [.long f_motor_d, .long f_motor_q, .long f_motor_pace, .long f_motor_angle])), (a_onTimes, .inr (3, [.long f_onTimes_u, .long f_onTimes_v, .long f_onTimes_w, .int f_onTimes_over]))]) (fun x => [(0, .ref h0)]) (fun x => [.long x]) 42 (fun x => RG_X5_leadWires_28 f_state f_motor_angle x) (fun x hx_ H locs ls hP hD hS hl => ?_) (fun J => ?_)
      · obtain ⟨x5, rfl⟩ : ∃ z, z = x := ⟨_, rfl⟩
        have hj6 : RG_X5_leadWires_28 f_state f_motor_angle x5 := hx_
        have hP : va_P (dC, dI) vwCl [(h0, .inr (4, [.ref a_rules, .ref a_loopD, .ref a_loopQ, .ref a_loopPace, .ref a_motor, .ref a_onTimes, .ref a_asked, .ref a_changes, .int f_state, .int f_fault, .int f_lost, .long f_voltsD, .long f_voltsQ, .long f_heat, .int f_beats, .int f_alignBeats])), (a_rules, .inl (ca_rules, 6, .inl fn_rules)), (a_motor, .inr (2, [.long f_motor_d, .long f_motor_q, .long f_motor_pace, .long f_motor_angle])), (a_onTimes, .inr (3, [.long f_onTimes_u, .long f_onTimes_v, .long f_onTimes_w, .int f_onTimes_over]))] H := hP
        have hD : va_D A [(h0, .inr (4, [.ref a_rules, .ref a_loopD, .ref a_loopQ, .ref a_loopPace, .ref a_motor, .ref a_onTimes, .ref a_asked, .ref a_changes, .int f_state, .int f_fault, .int f_lost, .long f_voltsD, .long f_voltsQ, .long f_heat, .int f_beats, .int f_alignBeats])), (a_rules, .inl (ca_rules, 6, .inl fn_rules)), (a_motor, .inr (2, [.long f_motor_d, .long f_motor_q, .long f_motor_pace, .long f_motor_angle])), (a_onTimes, .inr (3, [.long f_onTimes_u, .long f_onTimes_v, .long f_onTimes_w, .int f_onTimes_over]))] := hD
        have hl : lv_has ls 7 [(0, .ref h0)] := hl
        refine lv_lstore_n (lv' := [(1, .long x5), (0, .ref h0)]) hx hb dX5_leadWires_42 rfl hl (by decide) rfl (fun ls hl => ?_)
        refine lv_aload_n hx hb dX5_leadWires_43 rfl (lv_at hl 1 rfl) ?_
        refine va_get (D := (dC, dI)) (ci := 4) (v := .long f_voltsD) (C := RX5) (T := TX5) (N := 16) hx hb hts hinX5 hown hK hP 0 rfl rfl 11 (by decide) hw4 (fun _ h9 => h9) rfl dX5_leadWires_44 ?_
        refine lv_aload_n hx hb dX5_leadWires_47 rfl (lv_at hl 1 rfl) ?_
        refine va_get (D := (dC, dI)) (ci := 4) (v := .long f_voltsQ) (C := RX5) (T := TX5) (N := 16) hx hb hts hinX5 hown hK hP 0 rfl rfl 12 (by decide) hw5 (fun _ h9 => h9) rfl dX5_leadWires_48 ?_
        refine lv_lload_n hx hb dX5_leadWires_51 rfl (lv_at hl 0 rfl) ?_
        refine mw_calll (wc := []) (wr := [(h0, .inr (4, [.ref a_rules, .ref a_loopD, .ref a_loopQ, .ref a_loopPace, .ref a_motor, .ref a_onTimes, .ref a_asked, .ref a_changes, .int f_state, .int f_fault, .int f_lost, .long f_voltsD, .long f_voltsQ, .long f_heat, .int f_beats, .int f_alignBeats])), (a_rules, .inl (ca_rules, 6, .inl fn_rules)), (a_motor, .inr (2, [.long f_motor_d, .long f_motor_q, .long f_motor_pace, .long f_motor_angle])), (a_onTimes, .inr (3, [.long f_onTimes_u, .long f_onTimes_v, .long f_onTimes_w, .int f_onTimes_over]))]) (w1 := fun (u : Unit) => []) (tyc := fun (u : Unit) => []) hP hD hS hA [] [0, 1, 2, 3] rfl rfl (by decide) (by decide) (va_runS (As := [.long f_voltsD, .long f_voltsQ, .long x5]) (rest := []) ⟨hx, hb, hml, hown, hts⟩ (c_X1_alphaOf l dC dI f_voltsD f_voltsQ x5 H.size ) (va_cwS 3 hts gX5_leadWires_X1_alphaOf rfl rfl rfl (by decide +kernel) ⟨(Nat.le_of_ble_eq_true rfl), (Nat.le_of_ble_eq_true rfl)⟩) (mw_preS (hP.sub (ws' := []) [] rfl) (hD.sub (ws' := []) [] (by decide) rfl) (hK.sub (tys' := []) [] rfl) hN) rfl rfl hl.1 rfl (lv_room (Nat.le_of_ble_eq_true rfl)) dX5_leadWires_52 ⟨(Nat.le_of_ble_eq_true rfl), (Nat.le_of_ble_eq_true rfl)⟩) (fun r7 u H locs hw_8 hP hD hS hK1 => ?_)
        have hw_8 : R_X1_alphaOf f_voltsD f_voltsQ x5 r7 := hw_8
        have hP : va_P (dC, dI) vwCl [(h0, .inr (4, [.ref a_rules, .ref a_loopD, .ref a_loopQ, .ref a_loopPace, .ref a_motor, .ref a_onTimes, .ref a_asked, .ref a_changes, .int f_state, .int f_fault, .int f_lost, .long f_voltsD, .long f_voltsQ, .long f_heat, .int f_beats, .int f_alignBeats])), (a_rules, .inl (ca_rules, 6, .inl fn_rules)), (a_motor, .inr (2, [.long f_motor_d, .long f_motor_q, .long f_motor_pace, .long f_motor_angle])), (a_onTimes, .inr (3, [.long f_onTimes_u, .long f_onTimes_v, .long f_onTimes_w, .int f_onTimes_over]))] H := hP
        have hD : va_D A [(h0, .inr (4, [.ref a_rules, .ref a_loopD, .ref a_loopQ, .ref a_loopPace, .ref a_motor, .ref a_onTimes, .ref a_asked, .ref a_changes, .int f_state, .int f_fault, .int f_lost, .long f_voltsD, .long f_voltsQ, .long f_heat, .int f_beats, .int f_alignBeats])), (a_rules, .inl (ca_rules, 6, .inl fn_rules)), (a_motor, .inr (2, [.long f_motor_d, .long f_motor_q, .long f_motor_pace, .long f_motor_angle])), (a_onTimes, .inr (3, [.long f_onTimes_u, .long f_onTimes_v, .long f_onTimes_w, .int f_onTimes_over]))] := hD
        refine lv_lstore_n (lv' := [(3, .long r7), (1, .long x5), (0, .ref h0)]) hx hb dX5_leadWires_55 rfl hl (by decide) rfl (fun ls hl => ?_)
        refine lv_aload_n hx hb dX5_leadWires_56 rfl (lv_at hl 2 rfl) ?_
        refine va_get (D := (dC, dI)) (ci := 4) (v := .long f_voltsD) (C := RX5) (T := TX5) (N := 16) hx hb hts hinX5 hown hK hP 0 rfl rfl 11 (by decide) hw4 (fun _ h9 => h9) rfl dX5_leadWires_57 ?_
        refine lv_aload_n hx hb dX5_leadWires_60 rfl (lv_at hl 2 rfl) ?_
        refine va_get (D := (dC, dI)) (ci := 4) (v := .long f_voltsQ) (C := RX5) (T := TX5) (N := 16) hx hb hts hinX5 hown hK hP 0 rfl rfl 12 (by decide) hw5 (fun _ h9 => h9) rfl dX5_leadWires_61 ?_
        refine lv_lload_n hx hb dX5_leadWires_64 rfl (lv_at hl 1 rfl) ?_
        refine mw_calll (wc := []) (wr := [(h0, .inr (4, [.ref a_rules, .ref a_loopD, .ref a_loopQ, .ref a_loopPace, .ref a_motor, .ref a_onTimes, .ref a_asked, .ref a_changes, .int f_state, .int f_fault, .int f_lost, .long f_voltsD, .long f_voltsQ, .long f_heat, .int f_beats, .int f_alignBeats])), (a_rules, .inl (ca_rules, 6, .inl fn_rules)), (a_motor, .inr (2, [.long f_motor_d, .long f_motor_q, .long f_motor_pace, .long f_motor_angle])), (a_onTimes, .inr (3, [.long f_onTimes_u, .long f_onTimes_v, .long f_onTimes_w, .int f_onTimes_over]))]) (w1 := fun (u : Unit) => []) (tyc := fun (u : Unit) => []) hP hD hS hA [] [0, 1, 2, 3] rfl rfl (by decide) (by decide) (va_runS (As := [.long f_voltsD, .long f_voltsQ, .long x5]) (rest := []) ⟨hx, hb, hml, hown, hts⟩ (c_X1_betaOf l dC dI f_voltsD f_voltsQ x5 H.size ) (va_cwS 3 hts gX5_leadWires_X1_betaOf rfl rfl rfl (by decide +kernel) ⟨(Nat.le_of_ble_eq_true rfl), (Nat.le_of_ble_eq_true rfl)⟩) (mw_preS (hP.sub (ws' := []) [] rfl) (hD.sub (ws' := []) [] (by decide) rfl) (hK.sub (tys' := []) [] rfl) hN) rfl rfl hl.1 rfl (lv_room (Nat.le_of_ble_eq_true rfl)) dX5_leadWires_65 ⟨(Nat.le_of_ble_eq_true rfl), (Nat.le_of_ble_eq_true rfl)⟩) (fun r9 u H locs hw_10 hP hD hS hK1 => ?_)
        have hw_10 : R_X1_betaOf f_voltsD f_voltsQ x5 r9 := hw_10
        have hP : va_P (dC, dI) vwCl [(h0, .inr (4, [.ref a_rules, .ref a_loopD, .ref a_loopQ, .ref a_loopPace, .ref a_motor, .ref a_onTimes, .ref a_asked, .ref a_changes, .int f_state, .int f_fault, .int f_lost, .long f_voltsD, .long f_voltsQ, .long f_heat, .int f_beats, .int f_alignBeats])), (a_rules, .inl (ca_rules, 6, .inl fn_rules)), (a_motor, .inr (2, [.long f_motor_d, .long f_motor_q, .long f_motor_pace, .long f_motor_angle])), (a_onTimes, .inr (3, [.long f_onTimes_u, .long f_onTimes_v, .long f_onTimes_w, .int f_onTimes_over]))] H := hP
        have hD : va_D A [(h0, .inr (4, [.ref a_rules, .ref a_loopD, .ref a_loopQ, .ref a_loopPace, .ref a_motor, .ref a_onTimes, .ref a_asked, .ref a_changes, .int f_state, .int f_fault, .int f_lost, .long f_voltsD, .long f_voltsQ, .long f_heat, .int f_beats, .int f_alignBeats])), (a_rules, .inl (ca_rules, 6, .inl fn_rules)), (a_motor, .inr (2, [.long f_motor_d, .long f_motor_q, .long f_motor_pace, .long f_motor_angle])), (a_onTimes, .inr (3, [.long f_onTimes_u, .long f_onTimes_v, .long f_onTimes_w, .int f_onTimes_over]))] := hD
        refine lv_lstore (lv' := [(5, .long r9), (3, .long r7), (1, .long x5), (0, .ref h0)]) hx hb dX5_leadWires_68 hl (by decide) rfl (fun ls hl => ?_)
        refine lv_aload_n hx hb dX5_leadWires_70 rfl (lv_at hl 3 rfl) ?_
        refine va_get (D := (dC, dI)) (ci := 4) (v := .ref a_onTimes) (C := RX5) (T := TX5) (N := 16) hx hb hts hinX5 hown hK hP 0 rfl rfl 5 (by decide) hw1 (fun _ h9 => h9) rfl dX5_leadWires_71 ?_
        refine lv_lload_n hx hb dX5_leadWires_74 rfl (lv_at hl 1 rfl) ?_
        refine lv_lload hx hb dX5_leadWires_75 (lv_at hl 0 rfl) ?_
        refine lv_aload_n hx hb dX5_leadWires_77 rfl (lv_at hl 3 rfl) ?_
        refine va_get (D := (dC, dI)) (ci := 4) (v := .ref a_rules) (C := RX5) (T := TX5) (N := 16) hx hb hts hinX5 hown hK hP 0 rfl rfl 0 (by decide) hw6 (fun _ h9 => h9) rfl dX5_leadWires_78 ?_
        refine lv_iconst (v := 0) hx hb dX5_leadWires_81 (by decide) ?_
        refine va_iald hx hb hK hP 1 0 rfl rfl (by unfold vp_in; decide) dX5_leadWires_82 ?_
        refine lv_topi (fun v11 ev11 => ?_)
        have ev11 : v11 = fn_rules 0 := ev11
        refine lv_i2l hx hb dX5_leadWires_83 rfl ?_
        refine mw_callv (wc := [(a_onTimes, .inr (3, [.long f_onTimes_u, .long f_onTimes_v, .long f_onTimes_w, .int f_onTimes_over]))]) (wr := [(h0, .inr (4, [.ref a_rules, .ref a_loopD, .ref a_loopQ, .ref a_loopPace, .ref a_motor, .ref a_onTimes, .ref a_asked, .ref a_changes, .int f_state, .int f_fault, .int f_lost, .long f_voltsD, .long f_voltsQ, .long f_heat, .int f_beats, .int f_alignBeats])), (a_rules, .inl (ca_rules, 6, .inl fn_rules)), (a_motor, .inr (2, [.long f_motor_d, .long f_motor_q, .long f_motor_pace, .long f_motor_angle]))]) (w1 := fun (u : Int64 × Int64 × Int64 × Int32) => [(a_onTimes, .inr (3, [.long u.1, .long u.2.1, .long u.2.2.1, .int u.2.2.2]))]) (tyc := fun (u : Int64 × Int64 × Int64 × Int32) => []) hP hD hS hA [3] [0, 1, 2] rfl rfl (by decide) (by decide) (va_runV (As := [.long r7, .long r9, .long (v11.toInt64)]) (rest := []) ⟨hx, hb, hml, hown, hts⟩ (c_X4_lead l dC dI a_onTimes f_onTimes_u f_onTimes_v f_onTimes_w f_onTimes_over r7 r9 (v11.toInt64) H.size ) (cwV 3 hts gX5_leadWires_X4_lead rfl rfl rfl (by decide +kernel) ⟨(Nat.le_of_ble_eq_true rfl), (Nat.le_of_ble_eq_true rfl)⟩) (mw_preV (va_recv hK hP (ci := 3) (q0 := 3) rfl rfl) (hP.sub (ws' := [(a_onTimes, .inr (3, [.long f_onTimes_u, .long f_onTimes_v, .long f_onTimes_w, .int f_onTimes_over]))]) [3] rfl) (hD.sub (ws' := [(a_onTimes, .inr (3, [.long f_onTimes_u, .long f_onTimes_v, .long f_onTimes_w, .int f_onTimes_over]))]) [3] (by decide) rfl) (hK.sub (tys' := []) [] rfl) hN) rfl rfl hl.1 rfl (lv_room (Nat.le_of_ble_eq_true rfl)) dX5_leadWires_84 ⟨(Nat.le_of_ble_eq_true rfl), (Nat.le_of_ble_eq_true rfl)⟩) (fun u H locs hw_16 hP hD hS hK1 => ?_)
        obtain ⟨o12, o13, o14, o15⟩ := u
        have hw_16 : R_X4_lead r7 r9 (v11.toInt64) o12 o13 o14 o15 := hw_16
        have hP : va_P (dC, dI) vwCl [(h0, .inr (4, [.ref a_rules, .ref a_loopD, .ref a_loopQ, .ref a_loopPace, .ref a_motor, .ref a_onTimes, .ref a_asked, .ref a_changes, .int f_state, .int f_fault, .int f_lost, .long f_voltsD, .long f_voltsQ, .long f_heat, .int f_beats, .int f_alignBeats])), (a_rules, .inl (ca_rules, 6, .inl fn_rules)), (a_motor, .inr (2, [.long f_motor_d, .long f_motor_q, .long f_motor_pace, .long f_motor_angle])), (a_onTimes, .inr (3, [.long o12, .long o13, .long o14, .int o15]))] H := hP
        have hD : va_D A [(h0, .inr (4, [.ref a_rules, .ref a_loopD, .ref a_loopQ, .ref a_loopPace, .ref a_motor, .ref a_onTimes, .ref a_asked, .ref a_changes, .int f_state, .int f_fault, .int f_lost, .long f_voltsD, .long f_voltsQ, .long f_heat, .int f_beats, .int f_alignBeats])), (a_rules, .inl (ca_rules, 6, .inl fn_rules)), (a_motor, .inr (2, [.long f_motor_d, .long f_motor_q, .long f_motor_pace, .long f_motor_angle])), (a_onTimes, .inr (3, [.long o12, .long o13, .long o14, .int o15]))] := hD
        have hP9 := hP.sub (ws' := [(h0, .inr (4, [.ref a_rules, .ref a_loopD, .ref a_loopQ, .ref a_loopPace, .ref a_motor, .ref a_onTimes, .ref a_asked, .ref a_changes, .int f_state, .int f_fault, .int f_lost, .long f_voltsD, .long f_voltsQ, .long f_heat, .int f_beats, .int f_alignBeats])), (a_rules, .inl (ca_rules, 6, .inl fn_rules)), (a_motor, .inr (2, [.long f_motor_d, .long f_motor_q, .long f_motor_pace, .long f_motor_angle])), (a_onTimes, .inr (3, [.long o12, .long o13, .long o14, .int o15]))]) [0, 1, 2, 3] rfl
        have hD9 := hD.sub (ws' := [(h0, .inr (4, [.ref a_rules, .ref a_loopD, .ref a_loopQ, .ref a_loopPace, .ref a_motor, .ref a_onTimes, .ref a_asked, .ref a_changes, .int f_state, .int f_fault, .int f_lost, .long f_voltsD, .long f_voltsQ, .long f_heat, .int f_beats, .int f_alignBeats])), (a_rules, .inl (ca_rules, 6, .inl fn_rules)), (a_motor, .inr (2, [.long f_motor_d, .long f_motor_q, .long f_motor_pace, .long f_motor_angle])), (a_onTimes, .inr (3, [.long o12, .long o13, .long o14, .int o15]))]) [0, 1, 2, 3] (by decide) rfl
        have hK9 := hK.sub (tys' := [(ca_rules, .int)]) [0] rfl
        exact W.vret hx hb hr (fun t ht hW => ⟨⟨(o12, o13, o14, o15), rfl, ⟨fun hh => absurd hh c1, fun _ => ⟨fun hh => absurd hh c3, fun _ => ⟨x5, hj6, ⟨r7, hw_8, ⟨r9, hw_10, ⟨v11, ev11, ⟨o12, o13, o14, o15, hw_16, ⟨rfl, rfl, rfl, rfl⟩⟩⟩⟩⟩⟩⟩⟩, (by rw [ht]; exact hP9), va_K.moved hW.alike hK9, hD9⟩, hS.F ht⟩) hS.2.2 dX5_leadWires_87
      · refine lv_icmp_ne (tgt := 35) hx hb dX5_leadWires_28 (by decide) (fun c4 => ?_) (fun c4 => ?_)
        · refine lv_aload_n hx hb dX5_leadWires_35 rfl (lv_at hl 0 rfl) ?_
          refine va_get (D := (dC, dI)) (ci := 4) (v := .ref a_motor) (C := RX5) (T := TX5) (N := 16) hx hb hts hinX5 hown hK hP 0 rfl rfl 4 (by decide) hw2 (fun _ h9 => h9) rfl dX5_leadWires_36 ?_
          refine va_get (D := (dC, dI)) (ci := 2) (v := .long f_motor_angle) (C := RX3) (T := TX3) (N := 4) hx hb hts hinX3 hown hK hP 2 rfl rfl 3 (by decide) hw3 (fun _ h9 => h9) rfl dX5_leadWires_39 ?_
          exact J f_motor_angle ⟨fun hh => absurd hh c4, fun _ => rfl⟩ _ _ _ hP hD hS (lv_sub hl [0] rfl)
        · refine lv_lconst (v := 0) hx hb dX5_leadWires_31 (by decide) ?_
          refine lv_goto (tgt := 42) hx hb dX5_leadWires_32 (by decide) ?_
          exact J (0 : Int64) ⟨fun _ => rfl, fun hh => absurd c4 hh⟩ _ _ _ hP hD hS (lv_sub hl [0] rfl)
    · refine lv_aload_n hx hb dX5_leadWires_15 rfl (lv_at hl 0 rfl) ?_
      refine va_get (D := (dC, dI)) (ci := 4) (v := .ref a_onTimes) (C := RX5) (T := TX5) (N := 16) hx hb hts hinX5 hown hK hP 0 rfl rfl 5 (by decide) hw1 (fun _ h9 => h9) rfl dX5_leadWires_16 ?_
      refine mw_callv (wc := [(a_onTimes, .inr (3, [.long f_onTimes_u, .long f_onTimes_v, .long f_onTimes_w, .int f_onTimes_over]))]) (wr := [(h0, .inr (4, [.ref a_rules, .ref a_loopD, .ref a_loopQ, .ref a_loopPace, .ref a_motor, .ref a_onTimes, .ref a_asked, .ref a_changes, .int f_state, .int f_fault, .int f_lost, .long f_voltsD, .long f_voltsQ, .long f_heat, .int f_beats, .int f_alignBeats])), (a_rules, .inl (ca_rules, 6, .inl fn_rules)), (a_motor, .inr (2, [.long f_motor_d, .long f_motor_q, .long f_motor_pace, .long f_motor_angle]))]) (w1 := fun (u : Unit) => [(a_onTimes, .inr (3, [.long (0 : Int64), .long (0 : Int64), .long (0 : Int64), .int (0 : Int32)]))]) (tyc := fun (u : Unit) => []) hP hD hS hA [3] [0, 1, 2] rfl rfl (by decide) (by decide) (va_runV (As := []) (rest := []) ⟨hx, hb, hml, hown, hts⟩ (c_X4_off l dC dI a_onTimes f_onTimes_u f_onTimes_v f_onTimes_w f_onTimes_over s.heap.size ) (cwV 0 hts gX5_leadWires_X4_off rfl rfl rfl (by decide +kernel) ⟨(Nat.le_of_ble_eq_true rfl), (Nat.le_of_ble_eq_true rfl)⟩) (mw_preV (va_recv hK hP (ci := 3) (q0 := 3) rfl rfl) (hP.sub (ws' := [(a_onTimes, .inr (3, [.long f_onTimes_u, .long f_onTimes_v, .long f_onTimes_w, .int f_onTimes_over]))]) [3] rfl) (hD.sub (ws' := [(a_onTimes, .inr (3, [.long f_onTimes_u, .long f_onTimes_v, .long f_onTimes_w, .int f_onTimes_over]))]) [3] (by decide) rfl) (hK.sub (tys' := []) [] rfl) hN) rfl rfl hl.1 rfl (lv_room (Nat.le_of_ble_eq_true rfl)) dX5_leadWires_19 ⟨(Nat.le_of_ble_eq_true rfl), (Nat.le_of_ble_eq_true rfl)⟩) (fun u H locs hw_17 hP hD hS hK1 => ?_)
      have hw_17 : R_X4_off := hw_17
      have hP : va_P (dC, dI) vwCl [(h0, .inr (4, [.ref a_rules, .ref a_loopD, .ref a_loopQ, .ref a_loopPace, .ref a_motor, .ref a_onTimes, .ref a_asked, .ref a_changes, .int f_state, .int f_fault, .int f_lost, .long f_voltsD, .long f_voltsQ, .long f_heat, .int f_beats, .int f_alignBeats])), (a_rules, .inl (ca_rules, 6, .inl fn_rules)), (a_motor, .inr (2, [.long f_motor_d, .long f_motor_q, .long f_motor_pace, .long f_motor_angle])), (a_onTimes, .inr (3, [.long (0 : Int64), .long (0 : Int64), .long (0 : Int64), .int (0 : Int32)]))] H := hP
      have hD : va_D A [(h0, .inr (4, [.ref a_rules, .ref a_loopD, .ref a_loopQ, .ref a_loopPace, .ref a_motor, .ref a_onTimes, .ref a_asked, .ref a_changes, .int f_state, .int f_fault, .int f_lost, .long f_voltsD, .long f_voltsQ, .long f_heat, .int f_beats, .int f_alignBeats])), (a_rules, .inl (ca_rules, 6, .inl fn_rules)), (a_motor, .inr (2, [.long f_motor_d, .long f_motor_q, .long f_motor_pace, .long f_motor_angle])), (a_onTimes, .inr (3, [.long (0 : Int64), .long (0 : Int64), .long (0 : Int64), .int (0 : Int32)]))] := hD
      have hP9 := hP.sub (ws' := [(h0, .inr (4, [.ref a_rules, .ref a_loopD, .ref a_loopQ, .ref a_loopPace, .ref a_motor, .ref a_onTimes, .ref a_asked, .ref a_changes, .int f_state, .int f_fault, .int f_lost, .long f_voltsD, .long f_voltsQ, .long f_heat, .int f_beats, .int f_alignBeats])), (a_rules, .inl (ca_rules, 6, .inl fn_rules)), (a_motor, .inr (2, [.long f_motor_d, .long f_motor_q, .long f_motor_pace, .long f_motor_angle])), (a_onTimes, .inr (3, [.long (0 : Int64), .long (0 : Int64), .long (0 : Int64), .int (0 : Int32)]))]) [0, 1, 2, 3] rfl
      have hD9 := hD.sub (ws' := [(h0, .inr (4, [.ref a_rules, .ref a_loopD, .ref a_loopQ, .ref a_loopPace, .ref a_motor, .ref a_onTimes, .ref a_asked, .ref a_changes, .int f_state, .int f_fault, .int f_lost, .long f_voltsD, .long f_voltsQ, .long f_heat, .int f_beats, .int f_alignBeats])), (a_rules, .inl (ca_rules, 6, .inl fn_rules)), (a_motor, .inr (2, [.long f_motor_d, .long f_motor_q, .long f_motor_pace, .long f_motor_angle])), (a_onTimes, .inr (3, [.long (0 : Int64), .long (0 : Int64), .long (0 : Int64), .int (0 : Int32)]))]) [0, 1, 2, 3] (by decide) rfl
      have hK9 := hK.sub (tys' := [(ca_rules, .int)]) [0] rfl
      exact W.vret hx hb hr (fun t ht hW => ⟨⟨((0 : Int64), (0 : Int64), (0 : Int64), (0 : Int32)), rfl, ⟨fun hh => absurd hh c1, fun _ => ⟨fun _ => ⟨hw_17, ⟨rfl, rfl, rfl, rfl⟩⟩, fun hh => absurd c3 hh⟩⟩, (by rw [ht]; exact hP9), va_K.moved hW.alike hK9, hD9⟩, hS.F ht⟩) hS.2.2 dX5_leadWires_22
def R_X5_leaveState (f_state : Int32) (f_fault : Int32) (f_beats : Int32) (f_alignBeats : Int32) (f_motor_pace : Int64) (f_motor_angle : Int64) (f_changes_next : Int32) (f_changes_held : Int32) (fn_changes_rows : Nat → Int32) (u_0_state : Int32) (u_0_fault : Int32) (u_0_alignBeats : Int32) (u_1_angle : Int64) (u_2_next : Int32) (u_2_held : Int32) (u_3_fn : Nat → Int32) : Prop := (f_state = (1 : Int32) → ((f_alignBeats < (64 : Int32) → ((f_state = (3 : Int32) → (∃ v13 : Int64, v13 = (if 0 < f_motor_pace then f_motor_pace else -f_motor_pace) ∧ (((64 : Int64) ≤ v13 → (u_0_state = f_state ∧ u_0_fault = f_fault ∧ u_0_alignBeats = f_alignBeats ∧ u_1_angle = f_motor_angle ∧ u_2_next = f_changes_next ∧ u_2_held = f_changes_held ∧ u_3_fn = fn_changes_rows)) ∧ (¬ ((64 : Int64) ≤ v13) → (∃ (o15 : Int32) (o16 : Int32) (o17 : Int32) (o18 : Int32) (o19 : Nat → Int32), R_X5_changeTo f_beats f_changes_next f_changes_held fn_changes_rows (0 : Int32) (0 : Int32) o15 o16 o17 o18 o19 ∧ (u_0_state = o15 ∧ u_0_fault = o16 ∧ u_0_alignBeats = (0 : Int32) ∧ u_1_angle = f_motor_angle ∧ u_2_next = o17 ∧ u_2_held = o18 ∧ u_3_fn = o19)))))) ∧ (¬ (f_state = (3 : Int32)) → (u_0_state = f_state ∧ u_0_fault = f_fault ∧ u_0_alignBeats = f_alignBeats ∧ u_1_angle = f_motor_angle ∧ u_2_next = f_changes_next ∧ u_2_held = f_changes_held ∧ u_3_fn = fn_changes_rows)))) ∧ (¬ (f_alignBeats < (64 : Int32)) → (∃ (o21 : Int32) (o22 : Int32) (o23 : Int32) (o24 : Int32) (o25 : Nat → Int32), R_X5_changeTo f_beats f_changes_next f_changes_held fn_changes_rows (2 : Int32) (0 : Int32) o21 o22 o23 o24 o25 ∧ (u_0_state = o21 ∧ u_0_fault = o22 ∧ u_0_alignBeats = (0 : Int32) ∧ u_1_angle = (0 : Int64) ∧ u_2_next = o23 ∧ u_2_held = o24 ∧ u_3_fn = o25))))) ∧ (¬ (f_state = (1 : Int32)) → ((f_state = (3 : Int32) → (∃ v3 : Int64, v3 = (if 0 < f_motor_pace then f_motor_pace else -f_motor_pace) ∧ (((64 : Int64) ≤ v3 → (u_0_state = f_state ∧ u_0_fault = f_fault ∧ u_0_alignBeats = f_alignBeats ∧ u_1_angle = f_motor_angle ∧ u_2_next = f_changes_next ∧ u_2_held = f_changes_held ∧ u_3_fn = fn_changes_rows)) ∧ (¬ ((64 : Int64) ≤ v3) → (∃ (o5 : Int32) (o6 : Int32) (o7 : Int32) (o8 : Int32) (o9 : Nat → Int32), R_X5_changeTo f_beats f_changes_next f_changes_held fn_changes_rows (0 : Int32) (0 : Int32) o5 o6 o7 o8 o9 ∧ (u_0_state = o5 ∧ u_0_fault = o6 ∧ u_0_alignBeats = (0 : Int32) ∧ u_1_angle = f_motor_angle ∧ u_2_next = o7 ∧ u_2_held = o8 ∧ u_3_fn = o9)))))) ∧ (¬ (f_state = (3 : Int32)) → (u_0_state = f_state ∧ u_0_fault = f_fault ∧ u_0_alignBeats = f_alignBeats ∧ u_1_angle = f_motor_angle ∧ u_2_next = f_changes_next ∧ u_2_held = f_changes_held ∧ u_3_fn = fn_changes_rows))))
set_option maxHeartbeats 4000000 in
set_option maxRecDepth 100000 in
theorem c_X5_leaveState (l : Launch) (dC : Nat → ClassId) (dI : Nat → Nat → Nat) (h0 : Nat) (a_rules : Nat) (a_loopD : Nat) (a_loopQ : Nat) (a_loopPace : Nat) (a_motor : Nat) (a_onTimes : Nat) (a_asked : Nat) (a_changes : Nat) (f_state : Int32) (f_fault : Int32) (f_lost : Int32) (f_voltsD : Int64) (f_voltsQ : Int64) (f_heat : Int64) (f_beats : Int32) (f_alignBeats : Int32) (f_motor_d : Int64) (f_motor_q : Int64) (f_motor_pace : Int64) (f_motor_angle : Int64) (a_changes_rows : Nat) (f_changes_next : Int32) (f_changes_held : Int32) (ca_changes_rows : ClassId) (fn_changes_rows : Nat → Int32) (sz : Nat)  : Met l yX5_leaveState wsX5_leaveState ({ frames := 3, cells := 0, slots := 0, locals := 68 }) (va_Pc [.ref h0] (mw_pre (dC, dI) vwCl [(h0, .inr (4, [.ref a_rules, .ref a_loopD, .ref a_loopQ, .ref a_loopPace, .ref a_motor, .ref a_onTimes, .ref a_asked, .ref a_changes, .int f_state, .int f_fault, .int f_lost, .long f_voltsD, .long f_voltsQ, .long f_heat, .int f_beats, .int f_alignBeats])), (a_motor, .inr (2, [.long f_motor_d, .long f_motor_q, .long f_motor_pace, .long f_motor_angle])), (a_changes, .inr (0, [.ref a_changes_rows, .int f_changes_next, .int f_changes_held])), (a_changes_rows, .inl (ca_changes_rows, 60, .inl fn_changes_rows))] [(ca_changes_rows, .int)] sz)) (va_Qv (fun (u : Int32 × Int32 × Int32 × Int64 × Int32 × Int32 × (Nat → Int32)) => R_X5_leaveState f_state f_fault f_beats f_alignBeats f_motor_pace f_motor_angle f_changes_next f_changes_held fn_changes_rows u.1 u.2.1 u.2.2.1 u.2.2.2.1 u.2.2.2.2.1 u.2.2.2.2.2.1 u.2.2.2.2.2.2) (fun u t => mw_at (dC, dI) vwCl [(h0, .inr (4, [.ref a_rules, .ref a_loopD, .ref a_loopQ, .ref a_loopPace, .ref a_motor, .ref a_onTimes, .ref a_asked, .ref a_changes, .int u.1, .int u.2.1, .int f_lost, .long f_voltsD, .long f_voltsQ, .long f_heat, .int f_beats, .int u.2.2.1])), (a_motor, .inr (2, [.long f_motor_d, .long f_motor_q, .long f_motor_pace, .long u.2.2.2.1])), (a_changes, .inr (0, [.ref a_changes_rows, .int u.2.2.2.2.1, .int u.2.2.2.2.2.1])), (a_changes_rows, .inl (ca_changes_rows, 60, .inl u.2.2.2.2.2.2))] [(ca_changes_rows, .int)] (va_A [(h0, .inr (4, [.ref a_rules, .ref a_loopD, .ref a_loopQ, .ref a_loopPace, .ref a_motor, .ref a_onTimes, .ref a_asked, .ref a_changes, .int f_state, .int f_fault, .int f_lost, .long f_voltsD, .long f_voltsQ, .long f_heat, .int f_beats, .int f_alignBeats])), (a_motor, .inr (2, [.long f_motor_d, .long f_motor_q, .long f_motor_pace, .long f_motor_angle])), (a_changes, .inr (0, [.ref a_changes_rows, .int f_changes_next, .int f_changes_held])), (a_changes_rows, .inl (ca_changes_rows, 60, .inl fn_changes_rows))] sz) t) (va_A [(h0, .inr (4, [.ref a_rules, .ref a_loopD, .ref a_loopQ, .ref a_loopPace, .ref a_motor, .ref a_onTimes, .ref a_asked, .ref a_changes, .int f_state, .int f_fault, .int f_lost, .long f_voltsD, .long f_voltsQ, .long f_heat, .int f_beats, .int f_alignBeats])), (a_motor, .inr (2, [.long f_motor_d, .long f_motor_q, .long f_motor_pace, .long f_motor_angle])), (a_changes, .inr (0, [.ref a_changes_rows, .int f_changes_next, .int f_changes_held])), (a_changes_rows, .inl (ca_changes_rows, 60, .inl fn_changes_rows))] sz)) 0 0 (va_A [(h0, .inr (4, [.ref a_rules, .ref a_loopD, .ref a_loopQ, .ref a_loopPace, .ref a_motor, .ref a_onTimes, .ref a_asked, .ref a_changes, .int f_state, .int f_fault, .int f_lost, .long f_voltsD, .long f_voltsQ, .long f_heat, .int f_beats, .int f_alignBeats])), (a_motor, .inr (2, [.long f_motor_d, .long f_motor_q, .long f_motor_pace, .long f_motor_angle])), (a_changes, .inr (0, [.ref a_changes_rows, .int f_changes_next, .int f_changes_held])), (a_changes_rows, .inl (ca_changes_rows, 60, .inl fn_changes_rows))] sz) := by
  refine Met.ofW (cc := cX5_leaveState) (maxL := 1) (ret := none) (by decide) rfl ?_
  intro p e s m args below meth c s₁ B hml hv
  obtain ⟨rfl, hsz, hP, hK, hD0, hN⟩ := hv
  have hx := B.exec
  have hb := B.bytes
  have hr := B.returns
  have hts := atoms_spec (ws := wsX5_leaveState) B.pre
  have hown : s.vm.findClass RX5 = some m.cls := findClass_of_methodNamed B.named
  have hlocks := B.notSynchronized
  subst hsz
  have hD := hD0.self (sz := s.heap.size)
  generalize hAe : va_A [(h0, .inr (4, [.ref a_rules, .ref a_loopD, .ref a_loopQ, .ref a_loopPace, .ref a_motor, .ref a_onTimes, .ref a_asked, .ref a_changes, .int f_state, .int f_fault, .int f_lost, .long f_voltsD, .long f_voltsQ, .long f_heat, .int f_beats, .int f_alignBeats])), (a_motor, .inr (2, [.long f_motor_d, .long f_motor_q, .long f_motor_pace, .long f_motor_angle])), (a_changes, .inr (0, [.ref a_changes_rows, .int f_changes_next, .int f_changes_held])), (a_changes_rows, .inl (ca_changes_rows, 60, .inl fn_changes_rows))] s.heap.size = A at hD ⊢
  have hA : ∀ q : Nat, s.heap.size ≤ q → A q := fun q h => by rw [← hAe]; exact Or.inr h
  have hS : va_S A s.heap s.heap [] := va_S.rf
  have hP : va_P (dC, dI) vwCl [(h0, .inr (4, [.ref a_rules, .ref a_loopD, .ref a_loopQ, .ref a_loopPace, .ref a_motor, .ref a_onTimes, .ref a_asked, .ref a_changes, .int f_state, .int f_fault, .int f_lost, .long f_voltsD, .long f_voltsQ, .long f_heat, .int f_beats, .int f_alignBeats])), (a_motor, .inr (2, [.long f_motor_d, .long f_motor_q, .long f_motor_pace, .long f_motor_angle])), (a_changes, .inr (0, [.ref a_changes_rows, .int f_changes_next, .int f_changes_held])), (a_changes_rows, .inl (ca_changes_rows, 60, .inl fn_changes_rows))] s.heap := hP
  have hl := lv_entry ([.ref h0]) (n := 1) (Nat.le_of_ble_eq_true rfl)
  rw [lg_entry_eq]
  generalize (lg_sl ([.ref h0]) ++ List.replicate (1 - (lg_sl ([.ref h0])).length) Slot.unset).toArray = ls at hl ⊢
  have hl : lv_has ls 1 [(0, .ref h0)] := hl
  have hw0 := hts (.fieldLink RX5 50 "TurnedFields" "state" "I") (by decide +kernel)
  have hw1 := hts (.fieldLink RX5 29 "TurnedFields" "motor" "LTurnedFields$Motor;") (by decide +kernel)
  have hw2 := hts (.fieldLink RX5 167 "TurnedFields$Motor" "pace" "J") (by decide +kernel)
  have hw3 := hts (.methodLink RX5 218 Lib.MathLoose.abs_long.x) (by decide +kernel)
  have hw4 := hts (.static Lib.MathLoose.abs_long.x) (by decide +kernel)
  have hw5 := hts (.initialized "java/lang/Math") (by decide +kernel)
  have hw6 := hts (.code Lib.MathLoose.abs_long.x Lib.MathLoose.abs_long.code 2 (some .long)) (by decide +kernel)
  have hw7 := hts (.constantLong RX5 250 (64)) (by decide +kernel)
  have hw8 := hts (.fieldLink RX5 74 "TurnedFields" "alignBeats" "I") (by decide +kernel)
  have hw9 := hts (.fieldLink RX5 170 "TurnedFields$Motor" "angle" "J") (by decide +kernel)
  have hinX3 : ∀ w ∈ wsX30, w ∈ wsX5_leaveState := by decide +kernel
  have hinX5 : ∀ w ∈ wsX50, w ∈ wsX5_leaveState := by decide +kernel
  refine lv_aload_n hx hb dX5_leaveState_0 rfl (lv_at hl 0 rfl) ?_
  refine va_get (D := (dC, dI)) (ci := 4) (v := .int f_state) (C := RX5) (T := TX5) (N := 16) hx hb hts hinX5 hown hK hP 0 rfl rfl 8 (by decide) hw0 (fun _ h9 => h9) rfl dX5_leaveState_1 ?_
  refine lv_iconst (v := 1) hx hb dX5_leaveState_4 (by decide) ?_
  refine lv_icmp_ne (tgt := 34) hx hb dX5_leaveState_5 (by decide) (fun c1 => ?_) (fun c1 => ?_)
  · refine lv_aload_n hx hb dX5_leaveState_34 rfl (lv_at hl 0 rfl) ?_
    refine va_get (D := (dC, dI)) (ci := 4) (v := .int f_state) (C := RX5) (T := TX5) (N := 16) hx hb hts hinX5 hown hK hP 0 rfl rfl 8 (by decide) hw0 (fun _ h9 => h9) rfl dX5_leaveState_35 ?_
    refine lv_iconst (v := 3) hx hb dX5_leaveState_38 (by decide) ?_
    refine lv_icmp_ne (tgt := 65) hx hb dX5_leaveState_39 (by decide) (fun c2 => ?_) (fun c2 => ?_)
    · have hP9 := hP.sub (ws' := [(h0, .inr (4, [.ref a_rules, .ref a_loopD, .ref a_loopQ, .ref a_loopPace, .ref a_motor, .ref a_onTimes, .ref a_asked, .ref a_changes, .int f_state, .int f_fault, .int f_lost, .long f_voltsD, .long f_voltsQ, .long f_heat, .int f_beats, .int f_alignBeats])), (a_motor, .inr (2, [.long f_motor_d, .long f_motor_q, .long f_motor_pace, .long f_motor_angle])), (a_changes, .inr (0, [.ref a_changes_rows, .int f_changes_next, .int f_changes_held])), (a_changes_rows, .inl (ca_changes_rows, 60, .inl fn_changes_rows))]) [0, 1, 2, 3] rfl
      have hD9 := hD.sub (ws' := [(h0, .inr (4, [.ref a_rules, .ref a_loopD, .ref a_loopQ, .ref a_loopPace, .ref a_motor, .ref a_onTimes, .ref a_asked, .ref a_changes, .int f_state, .int f_fault, .int f_lost, .long f_voltsD, .long f_voltsQ, .long f_heat, .int f_beats, .int f_alignBeats])), (a_motor, .inr (2, [.long f_motor_d, .long f_motor_q, .long f_motor_pace, .long f_motor_angle])), (a_changes, .inr (0, [.ref a_changes_rows, .int f_changes_next, .int f_changes_held])), (a_changes_rows, .inl (ca_changes_rows, 60, .inl fn_changes_rows))]) [0, 1, 2, 3] (by decide) rfl
      have hK9 := hK.sub (tys' := [(ca_changes_rows, .int)]) [0] rfl
      exact W.vret hx hb hr (fun t ht hW => ⟨⟨(f_state, f_fault, f_alignBeats, f_motor_angle, f_changes_next, f_changes_held, fn_changes_rows), rfl, ⟨fun hh => absurd hh c1, fun _ => ⟨fun hh => absurd hh c2, fun _ => ⟨rfl, rfl, rfl, rfl, rfl, rfl, rfl⟩⟩⟩, (by rw [ht]; exact hP9), va_K.moved hW.alike hK9, hD9⟩, hS.F ht⟩) hS.2.2 dX5_leaveState_65
    · refine lv_aload_n hx hb dX5_leaveState_42 rfl (lv_at hl 0 rfl) ?_
      refine va_get (D := (dC, dI)) (ci := 4) (v := .ref a_motor) (C := RX5) (T := TX5) (N := 16) hx hb hts hinX5 hown hK hP 0 rfl rfl 4 (by decide) hw1 (fun _ h9 => h9) rfl dX5_leaveState_43 ?_
      refine va_get (D := (dC, dI)) (ci := 2) (v := .long f_motor_pace) (C := RX3) (T := TX3) (N := 4) hx hb hts hinX3 hown hK hP 1 rfl rfl 2 (by decide) hw2 (fun _ h9 => h9) rfl dX5_leaveState_46 ?_
      refine va_mabs_long hx hb (hml.trans hl.1.symm) hown hw3 hw4 hw5 hw6 (Nat.le_of_ble_eq_true rfl) (Nat.le_of_ble_eq_true rfl) (Nat.le_of_ble_eq_true rfl) (Nat.le_of_ble_eq_true rfl) dX5_leaveState_49 ?_
      refine lv_topl (fun v3 ev3 => ?_)
      refine lv_ldc2 hx hb hown hw7 dX5_leaveState_52 ?_
      refine W.lcmp hx hb dX5_leaveState_55 ?_
      refine lv_if_ge (tgt := 65) hx hb dX5_leaveState_56 (by decide) (fun c4 => ?_) (fun c4 => ?_)
      · have c4 : (64 : Int64) ≤ v3 := (lg_cmp_ge _ _).mp c4
        have hP9 := hP.sub (ws' := [(h0, .inr (4, [.ref a_rules, .ref a_loopD, .ref a_loopQ, .ref a_loopPace, .ref a_motor, .ref a_onTimes, .ref a_asked, .ref a_changes, .int f_state, .int f_fault, .int f_lost, .long f_voltsD, .long f_voltsQ, .long f_heat, .int f_beats, .int f_alignBeats])), (a_motor, .inr (2, [.long f_motor_d, .long f_motor_q, .long f_motor_pace, .long f_motor_angle])), (a_changes, .inr (0, [.ref a_changes_rows, .int f_changes_next, .int f_changes_held])), (a_changes_rows, .inl (ca_changes_rows, 60, .inl fn_changes_rows))]) [0, 1, 2, 3] rfl
        have hD9 := hD.sub (ws' := [(h0, .inr (4, [.ref a_rules, .ref a_loopD, .ref a_loopQ, .ref a_loopPace, .ref a_motor, .ref a_onTimes, .ref a_asked, .ref a_changes, .int f_state, .int f_fault, .int f_lost, .long f_voltsD, .long f_voltsQ, .long f_heat, .int f_beats, .int f_alignBeats])), (a_motor, .inr (2, [.long f_motor_d, .long f_motor_q, .long f_motor_pace, .long f_motor_angle])), (a_changes, .inr (0, [.ref a_changes_rows, .int f_changes_next, .int f_changes_held])), (a_changes_rows, .inl (ca_changes_rows, 60, .inl fn_changes_rows))]) [0, 1, 2, 3] (by decide) rfl
        have hK9 := hK.sub (tys' := [(ca_changes_rows, .int)]) [0] rfl
        exact W.vret hx hb hr (fun t ht hW => ⟨⟨(f_state, f_fault, f_alignBeats, f_motor_angle, f_changes_next, f_changes_held, fn_changes_rows), rfl, ⟨fun hh => absurd hh c1, fun _ => ⟨fun _ => ⟨v3, ev3, ⟨fun _ => ⟨rfl, rfl, rfl, rfl, rfl, rfl, rfl⟩, fun hh => absurd c4 hh⟩⟩, fun hh => absurd c2 hh⟩⟩, (by rw [ht]; exact hP9), va_K.moved hW.alike hK9, hD9⟩, hS.F ht⟩) hS.2.2 dX5_leaveState_65
      · have c4 : ¬ ((64 : Int64) ≤ v3) := mw_fge c4
        refine lv_aload_n hx hb dX5_leaveState_59 rfl (lv_at hl 0 rfl) ?_
        refine lv_iconst (v := 0) hx hb dX5_leaveState_60 (by decide) ?_
        refine lv_iconst (v := 0) hx hb dX5_leaveState_61 (by decide) ?_
        refine mw_callv (wc := [(h0, .inr (4, [.ref a_rules, .ref a_loopD, .ref a_loopQ, .ref a_loopPace, .ref a_motor, .ref a_onTimes, .ref a_asked, .ref a_changes, .int f_state, .int f_fault, .int f_lost, .long f_voltsD, .long f_voltsQ, .long f_heat, .int f_beats, .int f_alignBeats])), (a_changes, .inr (0, [.ref a_changes_rows, .int f_changes_next, .int f_changes_held])), (a_changes_rows, .inl (ca_changes_rows, 60, .inl fn_changes_rows))]) (wr := [(a_motor, .inr (2, [.long f_motor_d, .long f_motor_q, .long f_motor_pace, .long f_motor_angle]))]) (w1 := fun (u : Int32 × Int32 × Int32 × Int32 × (Nat → Int32)) => [(h0, .inr (4, [.ref a_rules, .ref a_loopD, .ref a_loopQ, .ref a_loopPace, .ref a_motor, .ref a_onTimes, .ref a_asked, .ref a_changes, .int u.1, .int u.2.1, .int f_lost, .long f_voltsD, .long f_voltsQ, .long f_heat, .int f_beats, .int (0 : Int32)])), (a_changes, .inr (0, [.ref a_changes_rows, .int u.2.2.1, .int u.2.2.2.1])), (a_changes_rows, .inl (ca_changes_rows, 60, .inl u.2.2.2.2))]) (tyc := fun (u : Int32 × Int32 × Int32 × Int32 × (Nat → Int32)) => [(ca_changes_rows, .int)]) hP hD hS hA [0, 2, 3] [1] rfl rfl (by decide) (by decide) (va_runV (As := [.int (0 : Int32), .int (0 : Int32)]) (rest := []) ⟨hx, hb, hml, hown, hts⟩ (c_X5_changeTo l dC dI h0 a_rules a_loopD a_loopQ a_loopPace a_motor a_onTimes a_asked a_changes f_state f_fault f_lost f_voltsD f_voltsQ f_heat f_beats f_alignBeats a_changes_rows f_changes_next f_changes_held ca_changes_rows fn_changes_rows (0 : Int32) (0 : Int32) s.heap.size ) (cwV 2 hts gX5_leaveState_X5_changeTo rfl rfl rfl (by decide +kernel) ⟨(Nat.le_of_ble_eq_true rfl), (Nat.le_of_ble_eq_true rfl)⟩) (mw_preV (va_recv hK hP (ci := 4) (q0 := 0) rfl rfl) (hP.sub (ws' := [(h0, .inr (4, [.ref a_rules, .ref a_loopD, .ref a_loopQ, .ref a_loopPace, .ref a_motor, .ref a_onTimes, .ref a_asked, .ref a_changes, .int f_state, .int f_fault, .int f_lost, .long f_voltsD, .long f_voltsQ, .long f_heat, .int f_beats, .int f_alignBeats])), (a_changes, .inr (0, [.ref a_changes_rows, .int f_changes_next, .int f_changes_held])), (a_changes_rows, .inl (ca_changes_rows, 60, .inl fn_changes_rows))]) [0, 2, 3] rfl) (hD.sub (ws' := [(h0, .inr (4, [.ref a_rules, .ref a_loopD, .ref a_loopQ, .ref a_loopPace, .ref a_motor, .ref a_onTimes, .ref a_asked, .ref a_changes, .int f_state, .int f_fault, .int f_lost, .long f_voltsD, .long f_voltsQ, .long f_heat, .int f_beats, .int f_alignBeats])), (a_changes, .inr (0, [.ref a_changes_rows, .int f_changes_next, .int f_changes_held])), (a_changes_rows, .inl (ca_changes_rows, 60, .inl fn_changes_rows))]) [0, 2, 3] (by decide) rfl) (hK.sub (tys' := [(ca_changes_rows, .int)]) [0] rfl) hN) rfl rfl hl.1 rfl (lv_room (Nat.le_of_ble_eq_true rfl)) dX5_leaveState_62 ⟨(Nat.le_of_ble_eq_true rfl), (Nat.le_of_ble_eq_true rfl)⟩) (fun u H locs hw_10 hP hD hS hK1 => ?_)
        obtain ⟨o5, o6, o7, o8, o9⟩ := u
        have hw_10 : R_X5_changeTo f_beats f_changes_next f_changes_held fn_changes_rows (0 : Int32) (0 : Int32) o5 o6 o7 o8 o9 := hw_10
        have hP : va_P (dC, dI) vwCl [(a_motor, .inr (2, [.long f_motor_d, .long f_motor_q, .long f_motor_pace, .long f_motor_angle])), (h0, .inr (4, [.ref a_rules, .ref a_loopD, .ref a_loopQ, .ref a_loopPace, .ref a_motor, .ref a_onTimes, .ref a_asked, .ref a_changes, .int o5, .int o6, .int f_lost, .long f_voltsD, .long f_voltsQ, .long f_heat, .int f_beats, .int (0 : Int32)])), (a_changes, .inr (0, [.ref a_changes_rows, .int o7, .int o8])), (a_changes_rows, .inl (ca_changes_rows, 60, .inl o9))] H := hP
        have hD : va_D A [(a_motor, .inr (2, [.long f_motor_d, .long f_motor_q, .long f_motor_pace, .long f_motor_angle])), (h0, .inr (4, [.ref a_rules, .ref a_loopD, .ref a_loopQ, .ref a_loopPace, .ref a_motor, .ref a_onTimes, .ref a_asked, .ref a_changes, .int o5, .int o6, .int f_lost, .long f_voltsD, .long f_voltsQ, .long f_heat, .int f_beats, .int (0 : Int32)])), (a_changes, .inr (0, [.ref a_changes_rows, .int o7, .int o8])), (a_changes_rows, .inl (ca_changes_rows, 60, .inl o9))] := hD
        have hP9 := hP.sub (ws' := [(h0, .inr (4, [.ref a_rules, .ref a_loopD, .ref a_loopQ, .ref a_loopPace, .ref a_motor, .ref a_onTimes, .ref a_asked, .ref a_changes, .int o5, .int o6, .int f_lost, .long f_voltsD, .long f_voltsQ, .long f_heat, .int f_beats, .int (0 : Int32)])), (a_motor, .inr (2, [.long f_motor_d, .long f_motor_q, .long f_motor_pace, .long f_motor_angle])), (a_changes, .inr (0, [.ref a_changes_rows, .int o7, .int o8])), (a_changes_rows, .inl (ca_changes_rows, 60, .inl o9))]) [1, 0, 2, 3] rfl
        have hD9 := hD.sub (ws' := [(h0, .inr (4, [.ref a_rules, .ref a_loopD, .ref a_loopQ, .ref a_loopPace, .ref a_motor, .ref a_onTimes, .ref a_asked, .ref a_changes, .int o5, .int o6, .int f_lost, .long f_voltsD, .long f_voltsQ, .long f_heat, .int f_beats, .int (0 : Int32)])), (a_motor, .inr (2, [.long f_motor_d, .long f_motor_q, .long f_motor_pace, .long f_motor_angle])), (a_changes, .inr (0, [.ref a_changes_rows, .int o7, .int o8])), (a_changes_rows, .inl (ca_changes_rows, 60, .inl o9))]) [1, 0, 2, 3] (by decide) rfl
        have hK9 := hK.sub (tys' := [(ca_changes_rows, .int)]) [0] rfl
        exact W.vret hx hb hr (fun t ht hW => ⟨⟨(o5, o6, (0 : Int32), f_motor_angle, o7, o8, o9), rfl, ⟨fun hh => absurd hh c1, fun _ => ⟨fun _ => ⟨v3, ev3, ⟨fun hh => absurd hh c4, fun _ => ⟨o5, o6, o7, o8, o9, hw_10, ⟨rfl, rfl, rfl, rfl, rfl, rfl, rfl⟩⟩⟩⟩, fun hh => absurd c2 hh⟩⟩, (by rw [ht]; exact hP9), va_K.moved hW.alike hK9, hD9⟩, hS.F ht⟩) hS.2.2 dX5_leaveState_65
  · refine lv_aload_n hx hb dX5_leaveState_8 rfl (lv_at hl 0 rfl) ?_
    refine va_get (D := (dC, dI)) (ci := 4) (v := .int f_alignBeats) (C := RX5) (T := TX5) (N := 16) hx hb hts hinX5 hown hK hP 0 rfl rfl 15 (by decide) hw8 (fun _ h9 => h9) rfl dX5_leaveState_9 ?_
    refine lv_bipush (v := 64) hx hb dX5_leaveState_12 (by decide) ?_
    refine lv_icmp_lt (tgt := 34) hx hb dX5_leaveState_14 (by decide) (fun c11 => ?_) (fun c11 => ?_)
    · refine lv_aload_n hx hb dX5_leaveState_34 rfl (lv_at hl 0 rfl) ?_
      refine va_get (D := (dC, dI)) (ci := 4) (v := .int f_state) (C := RX5) (T := TX5) (N := 16) hx hb hts hinX5 hown hK hP 0 rfl rfl 8 (by decide) hw0 (fun _ h9 => h9) rfl dX5_leaveState_35 ?_
      refine lv_iconst (v := 3) hx hb dX5_leaveState_38 (by decide) ?_
      refine lv_icmp_ne (tgt := 65) hx hb dX5_leaveState_39 (by decide) (fun c12 => ?_) (fun c12 => ?_)
      · have hP9 := hP.sub (ws' := [(h0, .inr (4, [.ref a_rules, .ref a_loopD, .ref a_loopQ, .ref a_loopPace, .ref a_motor, .ref a_onTimes, .ref a_asked, .ref a_changes, .int f_state, .int f_fault, .int f_lost, .long f_voltsD, .long f_voltsQ, .long f_heat, .int f_beats, .int f_alignBeats])), (a_motor, .inr (2, [.long f_motor_d, .long f_motor_q, .long f_motor_pace, .long f_motor_angle])), (a_changes, .inr (0, [.ref a_changes_rows, .int f_changes_next, .int f_changes_held])), (a_changes_rows, .inl (ca_changes_rows, 60, .inl fn_changes_rows))]) [0, 1, 2, 3] rfl
        have hD9 := hD.sub (ws' := [(h0, .inr (4, [.ref a_rules, .ref a_loopD, .ref a_loopQ, .ref a_loopPace, .ref a_motor, .ref a_onTimes, .ref a_asked, .ref a_changes, .int f_state, .int f_fault, .int f_lost, .long f_voltsD, .long f_voltsQ, .long f_heat, .int f_beats, .int f_alignBeats])), (a_motor, .inr (2, [.long f_motor_d, .long f_motor_q, .long f_motor_pace, .long f_motor_angle])), (a_changes, .inr (0, [.ref a_changes_rows, .int f_changes_next, .int f_changes_held])), (a_changes_rows, .inl (ca_changes_rows, 60, .inl fn_changes_rows))]) [0, 1, 2, 3] (by decide) rfl
        have hK9 := hK.sub (tys' := [(ca_changes_rows, .int)]) [0] rfl
        exact W.vret hx hb hr (fun t ht hW => ⟨⟨(f_state, f_fault, f_alignBeats, f_motor_angle, f_changes_next, f_changes_held, fn_changes_rows), rfl, ⟨fun _ => ⟨fun _ => ⟨fun hh => absurd hh c12, fun _ => ⟨rfl, rfl, rfl, rfl, rfl, rfl, rfl⟩⟩, fun hh => absurd c11 hh⟩, fun hh => absurd c1 hh⟩, (by rw [ht]; exact hP9), va_K.moved hW.alike hK9, hD9⟩, hS.F ht⟩) hS.2.2 dX5_leaveState_65
      · refine lv_aload_n hx hb dX5_leaveState_42 rfl (lv_at hl 0 rfl) ?_
        refine va_get (D := (dC, dI)) (ci := 4) (v := .ref a_motor) (C := RX5) (T := TX5) (N := 16) hx hb hts hinX5 hown hK hP 0 rfl rfl 4 (by decide) hw1 (fun _ h9 => h9) rfl dX5_leaveState_43 ?_
        refine va_get (D := (dC, dI)) (ci := 2) (v := .long f_motor_pace) (C := RX3) (T := TX3) (N := 4) hx hb hts hinX3 hown hK hP 1 rfl rfl 2 (by decide) hw2 (fun _ h9 => h9) rfl dX5_leaveState_46 ?_
        refine va_mabs_long hx hb (hml.trans hl.1.symm) hown hw3 hw4 hw5 hw6 (Nat.le_of_ble_eq_true rfl) (Nat.le_of_ble_eq_true rfl) (Nat.le_of_ble_eq_true rfl) (Nat.le_of_ble_eq_true rfl) dX5_leaveState_49 ?_
        refine lv_topl (fun v13 ev13 => ?_)
        refine lv_ldc2 hx hb hown hw7 dX5_leaveState_52 ?_
        refine W.lcmp hx hb dX5_leaveState_55 ?_
        refine lv_if_ge (tgt := 65) hx hb dX5_leaveState_56 (by decide) (fun c14 => ?_) (fun c14 => ?_)
        · have c14 : (64 : Int64) ≤ v13 := (lg_cmp_ge _ _).mp c14
          have hP9 := hP.sub (ws' := [(h0, .inr (4, [.ref a_rules, .ref a_loopD, .ref a_loopQ, .ref a_loopPace, .ref a_motor, .ref a_onTimes, .ref a_asked, .ref a_changes, .int f_state, .int f_fault, .int f_lost, .long f_voltsD, .long f_voltsQ, .long f_heat, .int f_beats, .int f_alignBeats])), (a_motor, .inr (2, [.long f_motor_d, .long f_motor_q, .long f_motor_pace, .long f_motor_angle])), (a_changes, .inr (0, [.ref a_changes_rows, .int f_changes_next, .int f_changes_held])), (a_changes_rows, .inl (ca_changes_rows, 60, .inl fn_changes_rows))]) [0, 1, 2, 3] rfl
          have hD9 := hD.sub (ws' := [(h0, .inr (4, [.ref a_rules, .ref a_loopD, .ref a_loopQ, .ref a_loopPace, .ref a_motor, .ref a_onTimes, .ref a_asked, .ref a_changes, .int f_state, .int f_fault, .int f_lost, .long f_voltsD, .long f_voltsQ, .long f_heat, .int f_beats, .int f_alignBeats])), (a_motor, .inr (2, [.long f_motor_d, .long f_motor_q, .long f_motor_pace, .long f_motor_angle])), (a_changes, .inr (0, [.ref a_changes_rows, .int f_changes_next, .int f_changes_held])), (a_changes_rows, .inl (ca_changes_rows, 60, .inl fn_changes_rows))]) [0, 1, 2, 3] (by decide) rfl
          have hK9 := hK.sub (tys' := [(ca_changes_rows, .int)]) [0] rfl
          exact W.vret hx hb hr (fun t ht hW => ⟨⟨(f_state, f_fault, f_alignBeats, f_motor_angle, f_changes_next, f_changes_held, fn_changes_rows), rfl, ⟨fun _ => ⟨fun _ => ⟨fun _ => ⟨v13, ev13, ⟨fun _ => ⟨rfl, rfl, rfl, rfl, rfl, rfl, rfl⟩, fun hh => absurd c14 hh⟩⟩, fun hh => absurd c12 hh⟩, fun hh => absurd c11 hh⟩, fun hh => absurd c1 hh⟩, (by rw [ht]; exact hP9), va_K.moved hW.alike hK9, hD9⟩, hS.F ht⟩) hS.2.2 dX5_leaveState_65
        · have c14 : ¬ ((64 : Int64) ≤ v13) := mw_fge c14
          refine lv_aload_n hx hb dX5_leaveState_59 rfl (lv_at hl 0 rfl) ?_
          refine lv_iconst (v := 0) hx hb dX5_leaveState_60 (by decide) ?_
          refine lv_iconst (v := 0) hx hb dX5_leaveState_61 (by decide) ?_
          refine mw_callv (wc := [(h0, .inr (4, [.ref a_rules, .ref a_loopD, .ref a_loopQ, .ref a_loopPace, .ref a_motor, .ref a_onTimes, .ref a_asked, .ref a_changes, .int f_state, .int f_fault, .int f_lost, .long f_voltsD, .long f_voltsQ, .long f_heat, .int f_beats, .int f_alignBeats])), (a_changes, .inr (0, [.ref a_changes_rows, .int f_changes_next, .int f_changes_held])), (a_changes_rows, .inl (ca_changes_rows, 60, .inl fn_changes_rows))]) (wr := [(a_motor, .inr (2, [.long f_motor_d, .long f_motor_q, .long f_motor_pace, .long f_motor_angle]))]) (w1 := fun (u : Int32 × Int32 × Int32 × Int32 × (Nat → Int32)) => [(h0, .inr (4, [.ref a_rules, .ref a_loopD, .ref a_loopQ, .ref a_loopPace, .ref a_motor, .ref a_onTimes, .ref a_asked, .ref a_changes, .int u.1, .int u.2.1, .int f_lost, .long f_voltsD, .long f_voltsQ, .long f_heat, .int f_beats, .int (0 : Int32)])), (a_changes, .inr (0, [.ref a_changes_rows, .int u.2.2.1, .int u.2.2.2.1])), (a_changes_rows, .inl (ca_changes_rows, 60, .inl u.2.2.2.2))]) (tyc := fun (u : Int32 × Int32 × Int32 × Int32 × (Nat → Int32)) => [(ca_changes_rows, .int)]) hP hD hS hA [0, 2, 3] [1] rfl rfl (by decide) (by decide) (va_runV (As := [.int (0 : Int32), .int (0 : Int32)]) (rest := []) ⟨hx, hb, hml, hown, hts⟩ (c_X5_changeTo l dC dI h0 a_rules a_loopD a_loopQ a_loopPace a_motor a_onTimes a_asked a_changes f_state f_fault f_lost f_voltsD f_voltsQ f_heat f_beats f_alignBeats a_changes_rows f_changes_next f_changes_held ca_changes_rows fn_changes_rows (0 : Int32) (0 : Int32) s.heap.size ) (cwV 2 hts gX5_leaveState_X5_changeTo rfl rfl rfl (by decide +kernel) ⟨(Nat.le_of_ble_eq_true rfl), (Nat.le_of_ble_eq_true rfl)⟩) (mw_preV (va_recv hK hP (ci := 4) (q0 := 0) rfl rfl) (hP.sub (ws' := [(h0, .inr (4, [.ref a_rules, .ref a_loopD, .ref a_loopQ, .ref a_loopPace, .ref a_motor, .ref a_onTimes, .ref a_asked, .ref a_changes, .int f_state, .int f_fault, .int f_lost, .long f_voltsD, .long f_voltsQ, .long f_heat, .int f_beats, .int f_alignBeats])), (a_changes, .inr (0, [.ref a_changes_rows, .int f_changes_next, .int f_changes_held])), (a_changes_rows, .inl (ca_changes_rows, 60, .inl fn_changes_rows))]) [0, 2, 3] rfl) (hD.sub (ws' := [(h0, .inr (4, [.ref a_rules, .ref a_loopD, .ref a_loopQ, .ref a_loopPace, .ref a_motor, .ref a_onTimes, .ref a_asked, .ref a_changes, .int f_state, .int f_fault, .int f_lost, .long f_voltsD, .long f_voltsQ, .long f_heat, .int f_beats, .int f_alignBeats])), (a_changes, .inr (0, [.ref a_changes_rows, .int f_changes_next, .int f_changes_held])), (a_changes_rows, .inl (ca_changes_rows, 60, .inl fn_changes_rows))]) [0, 2, 3] (by decide) rfl) (hK.sub (tys' := [(ca_changes_rows, .int)]) [0] rfl) hN) rfl rfl hl.1 rfl (lv_room (Nat.le_of_ble_eq_true rfl)) dX5_leaveState_62 ⟨(Nat.le_of_ble_eq_true rfl), (Nat.le_of_ble_eq_true rfl)⟩) (fun u H locs hw_20 hP hD hS hK1 => ?_)
          obtain ⟨o15, o16, o17, o18, o19⟩ := u
          have hw_20 : R_X5_changeTo f_beats f_changes_next f_changes_held fn_changes_rows (0 : Int32) (0 : Int32) o15 o16 o17 o18 o19 := hw_20
          have hP : va_P (dC, dI) vwCl [(a_motor, .inr (2, [.long f_motor_d, .long f_motor_q, .long f_motor_pace, .long f_motor_angle])), (h0, .inr (4, [.ref a_rules, .ref a_loopD, .ref a_loopQ, .ref a_loopPace, .ref a_motor, .ref a_onTimes, .ref a_asked, .ref a_changes, .int o15, .int o16, .int f_lost, .long f_voltsD, .long f_voltsQ, .long f_heat, .int f_beats, .int (0 : Int32)])), (a_changes, .inr (0, [.ref a_changes_rows, .int o17, .int o18])), (a_changes_rows, .inl (ca_changes_rows, 60, .inl o19))] H := hP
          have hD : va_D A [(a_motor, .inr (2, [.long f_motor_d, .long f_motor_q, .long f_motor_pace, .long f_motor_angle])), (h0, .inr (4, [.ref a_rules, .ref a_loopD, .ref a_loopQ, .ref a_loopPace, .ref a_motor, .ref a_onTimes, .ref a_asked, .ref a_changes, .int o15, .int o16, .int f_lost, .long f_voltsD, .long f_voltsQ, .long f_heat, .int f_beats, .int (0 : Int32)])), (a_changes, .inr (0, [.ref a_changes_rows, .int o17, .int o18])), (a_changes_rows, .inl (ca_changes_rows, 60, .inl o19))] := hD
          have hP9 := hP.sub (ws' := [(h0, .inr (4, [.ref a_rules, .ref a_loopD, .ref a_loopQ, .ref a_loopPace, .ref a_motor, .ref a_onTimes, .ref a_asked, .ref a_changes, .int o15, .int o16, .int f_lost, .long f_voltsD, .long f_voltsQ, .long f_heat, .int f_beats, .int (0 : Int32)])), (a_motor, .inr (2, [.long f_motor_d, .long f_motor_q, .long f_motor_pace, .long f_motor_angle])), (a_changes, .inr (0, [.ref a_changes_rows, .int o17, .int o18])), (a_changes_rows, .inl (ca_changes_rows, 60, .inl o19))]) [1, 0, 2, 3] rfl
          have hD9 := hD.sub (ws' := [(h0, .inr (4, [.ref a_rules, .ref a_loopD, .ref a_loopQ, .ref a_loopPace, .ref a_motor, .ref a_onTimes, .ref a_asked, .ref a_changes, .int o15, .int o16, .int f_lost, .long f_voltsD, .long f_voltsQ, .long f_heat, .int f_beats, .int (0 : Int32)])), (a_motor, .inr (2, [.long f_motor_d, .long f_motor_q, .long f_motor_pace, .long f_motor_angle])), (a_changes, .inr (0, [.ref a_changes_rows, .int o17, .int o18])), (a_changes_rows, .inl (ca_changes_rows, 60, .inl o19))]) [1, 0, 2, 3] (by decide) rfl
          have hK9 := hK.sub (tys' := [(ca_changes_rows, .int)]) [0] rfl
          exact W.vret hx hb hr (fun t ht hW => ⟨⟨(o15, o16, (0 : Int32), f_motor_angle, o17, o18, o19), rfl, ⟨fun _ => ⟨fun _ => ⟨fun _ => ⟨v13, ev13, ⟨fun hh => absurd hh c14, fun _ => ⟨o15, o16, o17, o18, o19, hw_20, ⟨rfl, rfl, rfl, rfl, rfl, rfl, rfl⟩⟩⟩⟩, fun hh => absurd c12 hh⟩, fun hh => absurd c11 hh⟩, fun hh => absurd c1 hh⟩, (by rw [ht]; exact hP9), va_K.moved hW.alike hK9, hD9⟩, hS.F ht⟩) hS.2.2 dX5_leaveState_65
    · refine lv_aload_n hx hb dX5_leaveState_17 rfl (lv_at hl 0 rfl) ?_
      refine lv_iconst (v := 2) hx hb dX5_leaveState_18 (by decide) ?_
      refine lv_iconst (v := 0) hx hb dX5_leaveState_19 (by decide) ?_
      refine mw_callv (wc := [(h0, .inr (4, [.ref a_rules, .ref a_loopD, .ref a_loopQ, .ref a_loopPace, .ref a_motor, .ref a_onTimes, .ref a_asked, .ref a_changes, .int f_state, .int f_fault, .int f_lost, .long f_voltsD, .long f_voltsQ, .long f_heat, .int f_beats, .int f_alignBeats])), (a_changes, .inr (0, [.ref a_changes_rows, .int f_changes_next, .int f_changes_held])), (a_changes_rows, .inl (ca_changes_rows, 60, .inl fn_changes_rows))]) (wr := [(a_motor, .inr (2, [.long f_motor_d, .long f_motor_q, .long f_motor_pace, .long f_motor_angle]))]) (w1 := fun (u : Int32 × Int32 × Int32 × Int32 × (Nat → Int32)) => [(h0, .inr (4, [.ref a_rules, .ref a_loopD, .ref a_loopQ, .ref a_loopPace, .ref a_motor, .ref a_onTimes, .ref a_asked, .ref a_changes, .int u.1, .int u.2.1, .int f_lost, .long f_voltsD, .long f_voltsQ, .long f_heat, .int f_beats, .int (0 : Int32)])), (a_changes, .inr (0, [.ref a_changes_rows, .int u.2.2.1, .int u.2.2.2.1])), (a_changes_rows, .inl (ca_changes_rows, 60, .inl u.2.2.2.2))]) (tyc := fun (u : Int32 × Int32 × Int32 × Int32 × (Nat → Int32)) => [(ca_changes_rows, .int)]) hP hD hS hA [0, 2, 3] [1] rfl rfl (by decide) (by decide) (va_runV (As := [.int (2 : Int32), .int (0 : Int32)]) (rest := []) ⟨hx, hb, hml, hown, hts⟩ (c_X5_changeTo l dC dI h0 a_rules a_loopD a_loopQ a_loopPace a_motor a_onTimes a_asked a_changes f_state f_fault f_lost f_voltsD f_voltsQ f_heat f_beats f_alignBeats a_changes_rows f_changes_next f_changes_held ca_changes_rows fn_changes_rows (2 : Int32) (0 : Int32) s.heap.size ) (cwV 2 hts gX5_leaveState_X5_changeTo rfl rfl rfl (by decide +kernel) ⟨(Nat.le_of_ble_eq_true rfl), (Nat.le_of_ble_eq_true rfl)⟩) (mw_preV (va_recv hK hP (ci := 4) (q0 := 0) rfl rfl) (hP.sub (ws' := [(h0, .inr (4, [.ref a_rules, .ref a_loopD, .ref a_loopQ, .ref a_loopPace, .ref a_motor, .ref a_onTimes, .ref a_asked, .ref a_changes, .int f_state, .int f_fault, .int f_lost, .long f_voltsD, .long f_voltsQ, .long f_heat, .int f_beats, .int f_alignBeats])), (a_changes, .inr (0, [.ref a_changes_rows, .int f_changes_next, .int f_changes_held])), (a_changes_rows, .inl (ca_changes_rows, 60, .inl fn_changes_rows))]) [0, 2, 3] rfl) (hD.sub (ws' := [(h0, .inr (4, [.ref a_rules, .ref a_loopD, .ref a_loopQ, .ref a_loopPace, .ref a_motor, .ref a_onTimes, .ref a_asked, .ref a_changes, .int f_state, .int f_fault, .int f_lost, .long f_voltsD, .long f_voltsQ, .long f_heat, .int f_beats, .int f_alignBeats])), (a_changes, .inr (0, [.ref a_changes_rows, .int f_changes_next, .int f_changes_held])), (a_changes_rows, .inl (ca_changes_rows, 60, .inl fn_changes_rows))]) [0, 2, 3] (by decide) rfl) (hK.sub (tys' := [(ca_changes_rows, .int)]) [0] rfl) hN) rfl rfl hl.1 rfl (lv_room (Nat.le_of_ble_eq_true rfl)) dX5_leaveState_20 ⟨(Nat.le_of_ble_eq_true rfl), (Nat.le_of_ble_eq_true rfl)⟩) (fun u H locs hw_26 hP hD hS hK1 => ?_)
      obtain ⟨o21, o22, o23, o24, o25⟩ := u
      have hw_26 : R_X5_changeTo f_beats f_changes_next f_changes_held fn_changes_rows (2 : Int32) (0 : Int32) o21 o22 o23 o24 o25 := hw_26
      have hP : va_P (dC, dI) vwCl [(a_motor, .inr (2, [.long f_motor_d, .long f_motor_q, .long f_motor_pace, .long f_motor_angle])), (h0, .inr (4, [.ref a_rules, .ref a_loopD, .ref a_loopQ, .ref a_loopPace, .ref a_motor, .ref a_onTimes, .ref a_asked, .ref a_changes, .int o21, .int o22, .int f_lost, .long f_voltsD, .long f_voltsQ, .long f_heat, .int f_beats, .int (0 : Int32)])), (a_changes, .inr (0, [.ref a_changes_rows, .int o23, .int o24])), (a_changes_rows, .inl (ca_changes_rows, 60, .inl o25))] H := hP
      have hD : va_D A [(a_motor, .inr (2, [.long f_motor_d, .long f_motor_q, .long f_motor_pace, .long f_motor_angle])), (h0, .inr (4, [.ref a_rules, .ref a_loopD, .ref a_loopQ, .ref a_loopPace, .ref a_motor, .ref a_onTimes, .ref a_asked, .ref a_changes, .int o21, .int o22, .int f_lost, .long f_voltsD, .long f_voltsQ, .long f_heat, .int f_beats, .int (0 : Int32)])), (a_changes, .inr (0, [.ref a_changes_rows, .int o23, .int o24])), (a_changes_rows, .inl (ca_changes_rows, 60, .inl o25))] := hD
      refine lv_aload_n hx hb dX5_leaveState_23 rfl (lv_at hl 0 rfl) ?_
      refine va_get (D := (dC, dI)) (ci := 4) (v := .ref a_motor) (C := RX5) (T := TX5) (N := 16) hx hb hts hinX5 hown hK hP 1 rfl rfl 4 (by decide) hw1 (fun _ h9 => h9) rfl dX5_leaveState_24 ?_
      refine lv_lconst (v := 0) hx hb dX5_leaveState_27 (by decide) ?_
      refine va_put (D := (dC, dI)) (ci := 2) (v := .long (0 : Int64)) (ty := .long) (C := RX3) (T := TX3) (N := 4) hx hb hts hinX3 tyX3 tyX3_ok nmX3 hown hK hP hD hS 0 rfl rfl 3 (by decide) hw9 (fun _ h9 => h9) rfl (by decide +kernel) rfl rfl (Nat.le_of_ble_eq_true rfl) dX5_leaveState_28 (fun H locs hP hD hS => ?_)
      have hP : va_P (dC, dI) vwCl [(a_motor, .inr (2, [.long f_motor_d, .long f_motor_q, .long f_motor_pace, .long (0 : Int64)])), (h0, .inr (4, [.ref a_rules, .ref a_loopD, .ref a_loopQ, .ref a_loopPace, .ref a_motor, .ref a_onTimes, .ref a_asked, .ref a_changes, .int o21, .int o22, .int f_lost, .long f_voltsD, .long f_voltsQ, .long f_heat, .int f_beats, .int (0 : Int32)])), (a_changes, .inr (0, [.ref a_changes_rows, .int o23, .int o24])), (a_changes_rows, .inl (ca_changes_rows, 60, .inl o25))] H := hP
      have hD : va_D A [(a_motor, .inr (2, [.long f_motor_d, .long f_motor_q, .long f_motor_pace, .long (0 : Int64)])), (h0, .inr (4, [.ref a_rules, .ref a_loopD, .ref a_loopQ, .ref a_loopPace, .ref a_motor, .ref a_onTimes, .ref a_asked, .ref a_changes, .int o21, .int o22, .int f_lost, .long f_voltsD, .long f_voltsQ, .long f_heat, .int f_beats, .int (0 : Int32)])), (a_changes, .inr (0, [.ref a_changes_rows, .int o23, .int o24])), (a_changes_rows, .inl (ca_changes_rows, 60, .inl o25))] := hD
      refine lv_goto (tgt := 65) hx hb dX5_leaveState_31 (by decide) ?_
      have hP9 := hP.sub (ws' := [(h0, .inr (4, [.ref a_rules, .ref a_loopD, .ref a_loopQ, .ref a_loopPace, .ref a_motor, .ref a_onTimes, .ref a_asked, .ref a_changes, .int o21, .int o22, .int f_lost, .long f_voltsD, .long f_voltsQ, .long f_heat, .int f_beats, .int (0 : Int32)])), (a_motor, .inr (2, [.long f_motor_d, .long f_motor_q, .long f_motor_pace, .long (0 : Int64)])), (a_changes, .inr (0, [.ref a_changes_rows, .int o23, .int o24])), (a_changes_rows, .inl (ca_changes_rows, 60, .inl o25))]) [1, 0, 2, 3] rfl
      have hD9 := hD.sub (ws' := [(h0, .inr (4, [.ref a_rules, .ref a_loopD, .ref a_loopQ, .ref a_loopPace, .ref a_motor, .ref a_onTimes, .ref a_asked, .ref a_changes, .int o21, .int o22, .int f_lost, .long f_voltsD, .long f_voltsQ, .long f_heat, .int f_beats, .int (0 : Int32)])), (a_motor, .inr (2, [.long f_motor_d, .long f_motor_q, .long f_motor_pace, .long (0 : Int64)])), (a_changes, .inr (0, [.ref a_changes_rows, .int o23, .int o24])), (a_changes_rows, .inl (ca_changes_rows, 60, .inl o25))]) [1, 0, 2, 3] (by decide) rfl
      have hK9 := hK.sub (tys' := [(ca_changes_rows, .int)]) [0] rfl
      exact W.vret hx hb hr (fun t ht hW => ⟨⟨(o21, o22, (0 : Int32), (0 : Int64), o23, o24, o25), rfl, ⟨fun _ => ⟨fun hh => absurd hh c11, fun _ => ⟨o21, o22, o23, o24, o25, hw_26, ⟨rfl, rfl, rfl, rfl, rfl, rfl, rfl⟩⟩⟩, fun hh => absurd c1 hh⟩, (by rw [ht]; exact hP9), va_K.moved hW.alike hK9, hD9⟩, hS.F ht⟩) hS.2.2 dX5_leaveState_65
def R_X5_passBeat (f_state : Int32) (f_fault : Int32) (f_lost : Int32) (f_heat : Int64) (f_beats : Int32) (f_alignBeats : Int32) (fn_rules : Nat → Int32) (f_loopD_kp : Int64) (f_loopD_ki : Int64) (f_loopD_sum : Int64) (f_loopQ_kp : Int64) (f_loopQ_ki : Int64) (f_loopQ_sum : Int64) (f_loopPace_kp : Int64) (f_loopPace_ki : Int64) (f_loopPace_sum : Int64) (f_motor_d : Int64) (f_motor_q : Int64) (f_motor_pace : Int64) (f_motor_angle : Int64) (f_changes_next : Int32) (f_changes_held : Int32) (fn_changes_rows : Nat → Int32) (u_0_state : Int32) (u_0_fault : Int32) (u_0_voltsD : Int64) (u_0_voltsQ : Int64) (u_0_heat : Int64) (u_0_beats : Int32) (u_0_alignBeats : Int32) (u_2_sum : Int64) (u_3_sum : Int64) (u_4_sum : Int64) (u_5_d : Int64) (u_5_q : Int64) (u_5_pace : Int64) (u_5_angle : Int64) (u_6_u : Int64) (u_6_v : Int64) (u_6_w : Int64) (u_6_over : Int32) (u_7_next : Int32) (u_7_held : Int32) (u_8_fn : Nat → Int32) : Prop := ∃ (o1 : Int32) (o2 : Int32) (o3 : Int32) (o4 : Int32) (o5 : Int32) (o6 : Nat → Int32), R_X5_stopAtFault f_state f_fault f_lost f_heat f_beats f_alignBeats fn_rules f_motor_d f_motor_q f_changes_next f_changes_held fn_changes_rows o1 o2 o3 o4 o5 o6 ∧ (∃ (o8 : Int64) (o9 : Int64) (o10 : Int32) (o11 : Int64) (o12 : Int64) (o13 : Int64), R_X5_chooseVolts o1 o3 fn_rules f_loopD_kp f_loopD_ki f_loopD_sum f_loopQ_kp f_loopQ_ki f_loopQ_sum f_loopPace_kp f_loopPace_ki f_loopPace_sum f_motor_d f_motor_q f_motor_pace o8 o9 o10 o11 o12 o13 ∧ (∃ (o15 : Int64) (o16 : Int64) (o17 : Int64) (o18 : Int32), R_X5_leadWires o1 o8 o9 fn_rules f_motor_angle o15 o16 o17 o18 ∧ (∃ v20 : Int32, v20 = fn_rules 2 ∧ (∃ (o21 : Int64) (o22 : Int64) (o23 : Int64) (o24 : Int64), R_X3_step f_motor_d f_motor_q f_motor_pace f_motor_angle o8 o9 (v20.toInt64) o21 o22 o23 o24 ∧ (∃ v26 : Int64, v26 = ((f_heat + (((o21 * o21) + (o22 * o22)) >>> (16 : Int64))) - (f_heat >>> (8 : Int64))) ∧ (∃ (o27 : Int32) (o28 : Int32) (o29 : Int32) (o30 : Int64) (o31 : Int32) (o32 : Int32) (o33 : Nat → Int32), R_X5_leaveState o1 o2 f_beats o10 o23 o24 o4 o5 o6 o27 o28 o29 o30 o31 o32 o33 ∧ (∃ v35 : Int32, v35 = (f_beats + (1 : Int32)) ∧ (u_0_state = o27 ∧ u_0_fault = o28 ∧ u_0_voltsD = o8 ∧ u_0_voltsQ = o9 ∧ u_0_heat = v26 ∧ u_0_beats = v35 ∧ u_0_alignBeats = o29 ∧ u_2_sum = o11 ∧ u_3_sum = o12 ∧ u_4_sum = o13 ∧ u_5_d = o21 ∧ u_5_q = o22 ∧ u_5_pace = o23 ∧ u_5_angle = o30 ∧ u_6_u = o15 ∧ u_6_v = o16 ∧ u_6_w = o17 ∧ u_6_over = o18 ∧ u_7_next = o31 ∧ u_7_held = o32 ∧ u_8_fn = o33))))))))
set_option maxHeartbeats 4000000 in
set_option maxRecDepth 100000 in
theorem c_X5_passBeat (l : Launch) (dC : Nat → ClassId) (dI : Nat → Nat → Nat) (h0 : Nat) (a_rules : Nat) (a_loopD : Nat) (a_loopQ : Nat) (a_loopPace : Nat) (a_motor : Nat) (a_onTimes : Nat) (a_asked : Nat) (a_changes : Nat) (f_state : Int32) (f_fault : Int32) (f_lost : Int32) (f_voltsD : Int64) (f_voltsQ : Int64) (f_heat : Int64) (f_beats : Int32) (f_alignBeats : Int32) (ca_rules : ClassId) (fn_rules : Nat → Int32) (f_loopD_kp : Int64) (f_loopD_ki : Int64) (f_loopD_sum : Int64) (f_loopQ_kp : Int64) (f_loopQ_ki : Int64) (f_loopQ_sum : Int64) (f_loopPace_kp : Int64) (f_loopPace_ki : Int64) (f_loopPace_sum : Int64) (f_motor_d : Int64) (f_motor_q : Int64) (f_motor_pace : Int64) (f_motor_angle : Int64) (f_onTimes_u : Int64) (f_onTimes_v : Int64) (f_onTimes_w : Int64) (f_onTimes_over : Int32) (a_changes_rows : Nat) (f_changes_next : Int32) (f_changes_held : Int32) (ca_changes_rows : ClassId) (fn_changes_rows : Nat → Int32) (sz : Nat)  : Met l yX5_passBeat wsX5_passBeat ({ frames := 5, cells := 0, slots := 0, locals := 122 }) (va_Pc [.ref h0] (mw_pre (dC, dI) vwCl [(h0, .inr (4, [.ref a_rules, .ref a_loopD, .ref a_loopQ, .ref a_loopPace, .ref a_motor, .ref a_onTimes, .ref a_asked, .ref a_changes, .int f_state, .int f_fault, .int f_lost, .long f_voltsD, .long f_voltsQ, .long f_heat, .int f_beats, .int f_alignBeats])), (a_rules, .inl (ca_rules, 6, .inl fn_rules)), (a_loopD, .inr (1, [.long f_loopD_kp, .long f_loopD_ki, .long f_loopD_sum])), (a_loopQ, .inr (1, [.long f_loopQ_kp, .long f_loopQ_ki, .long f_loopQ_sum])), (a_loopPace, .inr (1, [.long f_loopPace_kp, .long f_loopPace_ki, .long f_loopPace_sum])), (a_motor, .inr (2, [.long f_motor_d, .long f_motor_q, .long f_motor_pace, .long f_motor_angle])), (a_onTimes, .inr (3, [.long f_onTimes_u, .long f_onTimes_v, .long f_onTimes_w, .int f_onTimes_over])), (a_changes, .inr (0, [.ref a_changes_rows, .int f_changes_next, .int f_changes_held])), (a_changes_rows, .inl (ca_changes_rows, 60, .inl fn_changes_rows))] [(ca_rules, .int), (ca_changes_rows, .int)] sz)) (va_Qv (fun (u : Int32 × Int32 × Int64 × Int64 × Int64 × Int32 × Int32 × Int64 × Int64 × Int64 × Int64 × Int64 × Int64 × Int64 × Int64 × Int64 × Int64 × Int32 × Int32 × Int32 × (Nat → Int32)) => R_X5_passBeat f_state f_fault f_lost f_heat f_beats f_alignBeats fn_rules f_loopD_kp f_loopD_ki f_loopD_sum f_loopQ_kp f_loopQ_ki f_loopQ_sum f_loopPace_kp f_loopPace_ki f_loopPace_sum f_motor_d f_motor_q f_motor_pace f_motor_angle f_changes_next f_changes_held fn_changes_rows u.1 u.2.1 u.2.2.1 u.2.2.2.1 u.2.2.2.2.1 u.2.2.2.2.2.1 u.2.2.2.2.2.2.1 u.2.2.2.2.2.2.2.1 u.2.2.2.2.2.2.2.2.1 u.2.2.2.2.2.2.2.2.2.1 u.2.2.2.2.2.2.2.2.2.2.1 u.2.2.2.2.2.2.2.2.2.2.2.1 u.2.2.2.2.2.2.2.2.2.2.2.2.1 u.2.2.2.2.2.2.2.2.2.2.2.2.2.1 u.2.2.2.2.2.2.2.2.2.2.2.2.2.2.1 u.2.2.2.2.2.2.2.2.2.2.2.2.2.2.2.1 u.2.2.2.2.2.2.2.2.2.2.2.2.2.2.2.2.1 u.2.2.2.2.2.2.2.2.2.2.2.2.2.2.2.2.2.1 u.2.2.2.2.2.2.2.2.2.2.2.2.2.2.2.2.2.2.1 u.2.2.2.2.2.2.2.2.2.2.2.2.2.2.2.2.2.2.2.1 u.2.2.2.2.2.2.2.2.2.2.2.2.2.2.2.2.2.2.2.2) (fun u t => mw_at (dC, dI) vwCl [(h0, .inr (4, [.ref a_rules, .ref a_loopD, .ref a_loopQ, .ref a_loopPace, .ref a_motor, .ref a_onTimes, .ref a_asked, .ref a_changes, .int u.1, .int u.2.1, .int f_lost, .long u.2.2.1, .long u.2.2.2.1, .long u.2.2.2.2.1, .int u.2.2.2.2.2.1, .int u.2.2.2.2.2.2.1])), (a_rules, .inl (ca_rules, 6, .inl fn_rules)), (a_loopD, .inr (1, [.long f_loopD_kp, .long f_loopD_ki, .long u.2.2.2.2.2.2.2.1])), (a_loopQ, .inr (1, [.long f_loopQ_kp, .long f_loopQ_ki, .long u.2.2.2.2.2.2.2.2.1])), (a_loopPace, .inr (1, [.long f_loopPace_kp, .long f_loopPace_ki, .long u.2.2.2.2.2.2.2.2.2.1])), (a_motor, .inr (2, [.long u.2.2.2.2.2.2.2.2.2.2.1, .long u.2.2.2.2.2.2.2.2.2.2.2.1, .long u.2.2.2.2.2.2.2.2.2.2.2.2.1, .long u.2.2.2.2.2.2.2.2.2.2.2.2.2.1])), (a_onTimes, .inr (3, [.long u.2.2.2.2.2.2.2.2.2.2.2.2.2.2.1, .long u.2.2.2.2.2.2.2.2.2.2.2.2.2.2.2.1, .long u.2.2.2.2.2.2.2.2.2.2.2.2.2.2.2.2.1, .int u.2.2.2.2.2.2.2.2.2.2.2.2.2.2.2.2.2.1])), (a_changes, .inr (0, [.ref a_changes_rows, .int u.2.2.2.2.2.2.2.2.2.2.2.2.2.2.2.2.2.2.1, .int u.2.2.2.2.2.2.2.2.2.2.2.2.2.2.2.2.2.2.2.1])), (a_changes_rows, .inl (ca_changes_rows, 60, .inl u.2.2.2.2.2.2.2.2.2.2.2.2.2.2.2.2.2.2.2.2))] [(ca_rules, .int), (ca_changes_rows, .int)] (va_A [(h0, .inr (4, [.ref a_rules, .ref a_loopD, .ref a_loopQ, .ref a_loopPace, .ref a_motor, .ref a_onTimes, .ref a_asked, .ref a_changes, .int f_state, .int f_fault, .int f_lost, .long f_voltsD, .long f_voltsQ, .long f_heat, .int f_beats, .int f_alignBeats])), (a_rules, .inl (ca_rules, 6, .inl fn_rules)), (a_loopD, .inr (1, [.long f_loopD_kp, .long f_loopD_ki, .long f_loopD_sum])), (a_loopQ, .inr (1, [.long f_loopQ_kp, .long f_loopQ_ki, .long f_loopQ_sum])), (a_loopPace, .inr (1, [.long f_loopPace_kp, .long f_loopPace_ki, .long f_loopPace_sum])), (a_motor, .inr (2, [.long f_motor_d, .long f_motor_q, .long f_motor_pace, .long f_motor_angle])), (a_onTimes, .inr (3, [.long f_onTimes_u, .long f_onTimes_v, .long f_onTimes_w, .int f_onTimes_over])), (a_changes, .inr (0, [.ref a_changes_rows, .int f_changes_next, .int f_changes_held])), (a_changes_rows, .inl (ca_changes_rows, 60, .inl fn_changes_rows))] sz) t) (va_A [(h0, .inr (4, [.ref a_rules, .ref a_loopD, .ref a_loopQ, .ref a_loopPace, .ref a_motor, .ref a_onTimes, .ref a_asked, .ref a_changes, .int f_state, .int f_fault, .int f_lost, .long f_voltsD, .long f_voltsQ, .long f_heat, .int f_beats, .int f_alignBeats])), (a_rules, .inl (ca_rules, 6, .inl fn_rules)), (a_loopD, .inr (1, [.long f_loopD_kp, .long f_loopD_ki, .long f_loopD_sum])), (a_loopQ, .inr (1, [.long f_loopQ_kp, .long f_loopQ_ki, .long f_loopQ_sum])), (a_loopPace, .inr (1, [.long f_loopPace_kp, .long f_loopPace_ki, .long f_loopPace_sum])), (a_motor, .inr (2, [.long f_motor_d, .long f_motor_q, .long f_motor_pace, .long f_motor_angle])), (a_onTimes, .inr (3, [.long f_onTimes_u, .long f_onTimes_v, .long f_onTimes_w, .int f_onTimes_over])), (a_changes, .inr (0, [.ref a_changes_rows, .int f_changes_next, .int f_changes_held])), (a_changes_rows, .inl (ca_changes_rows, 60, .inl fn_changes_rows))] sz)) 0 0 (va_A [(h0, .inr (4, [.ref a_rules, .ref a_loopD, .ref a_loopQ, .ref a_loopPace, .ref a_motor, .ref a_onTimes, .ref a_asked, .ref a_changes, .int f_state, .int f_fault, .int f_lost, .long f_voltsD, .long f_voltsQ, .long f_heat, .int f_beats, .int f_alignBeats])), (a_rules, .inl (ca_rules, 6, .inl fn_rules)), (a_loopD, .inr (1, [.long f_loopD_kp, .long f_loopD_ki, .long f_loopD_sum])), (a_loopQ, .inr (1, [.long f_loopQ_kp, .long f_loopQ_ki, .long f_loopQ_sum])), (a_loopPace, .inr (1, [.long f_loopPace_kp, .long f_loopPace_ki, .long f_loopPace_sum])), (a_motor, .inr (2, [.long f_motor_d, .long f_motor_q, .long f_motor_pace, .long f_motor_angle])), (a_onTimes, .inr (3, [.long f_onTimes_u, .long f_onTimes_v, .long f_onTimes_w, .int f_onTimes_over])), (a_changes, .inr (0, [.ref a_changes_rows, .int f_changes_next, .int f_changes_held])), (a_changes_rows, .inl (ca_changes_rows, 60, .inl fn_changes_rows))] sz) := by
  refine Met.ofW (cc := cX5_passBeat) (maxL := 1) (ret := none) (by decide) rfl ?_
  intro p e s m args below meth c s₁ B hml hv
  obtain ⟨rfl, hsz, hP, hK, hD0, hN⟩ := hv
  have hx := B.exec
  have hb := B.bytes
  have hr := B.returns
  have hts := atoms_spec (ws := wsX5_passBeat) B.pre
  have hown : s.vm.findClass RX5 = some m.cls := findClass_of_methodNamed B.named
  have hlocks := B.notSynchronized
  subst hsz
  have hD := hD0.self (sz := s.heap.size)
  generalize hAe : va_A [(h0, .inr (4, [.ref a_rules, .ref a_loopD, .ref a_loopQ, .ref a_loopPace, .ref a_motor, .ref a_onTimes, .ref a_asked, .ref a_changes, .int f_state, .int f_fault, .int f_lost, .long f_voltsD, .long f_voltsQ, .long f_heat, .int f_beats, .int f_alignBeats])), (a_rules, .inl (ca_rules, 6, .inl fn_rules)), (a_loopD, .inr (1, [.long f_loopD_kp, .long f_loopD_ki, .long f_loopD_sum])), (a_loopQ, .inr (1, [.long f_loopQ_kp, .long f_loopQ_ki, .long f_loopQ_sum])), (a_loopPace, .inr (1, [.long f_loopPace_kp, .long f_loopPace_ki, .long f_loopPace_sum])), (a_motor, .inr (2, [.long f_motor_d, .long f_motor_q, .long f_motor_pace, .long f_motor_angle])), (a_onTimes, .inr (3, [.long f_onTimes_u, .long f_onTimes_v, .long f_onTimes_w, .int f_onTimes_over])), (a_changes, .inr (0, [.ref a_changes_rows, .int f_changes_next, .int f_changes_held])), (a_changes_rows, .inl (ca_changes_rows, 60, .inl fn_changes_rows))] s.heap.size = A at hD ⊢
  have hA : ∀ q : Nat, s.heap.size ≤ q → A q := fun q h => by rw [← hAe]; exact Or.inr h
  have hS : va_S A s.heap s.heap [] := va_S.rf
  have hP : va_P (dC, dI) vwCl [(h0, .inr (4, [.ref a_rules, .ref a_loopD, .ref a_loopQ, .ref a_loopPace, .ref a_motor, .ref a_onTimes, .ref a_asked, .ref a_changes, .int f_state, .int f_fault, .int f_lost, .long f_voltsD, .long f_voltsQ, .long f_heat, .int f_beats, .int f_alignBeats])), (a_rules, .inl (ca_rules, 6, .inl fn_rules)), (a_loopD, .inr (1, [.long f_loopD_kp, .long f_loopD_ki, .long f_loopD_sum])), (a_loopQ, .inr (1, [.long f_loopQ_kp, .long f_loopQ_ki, .long f_loopQ_sum])), (a_loopPace, .inr (1, [.long f_loopPace_kp, .long f_loopPace_ki, .long f_loopPace_sum])), (a_motor, .inr (2, [.long f_motor_d, .long f_motor_q, .long f_motor_pace, .long f_motor_angle])), (a_onTimes, .inr (3, [.long f_onTimes_u, .long f_onTimes_v, .long f_onTimes_w, .int f_onTimes_over])), (a_changes, .inr (0, [.ref a_changes_rows, .int f_changes_next, .int f_changes_held])), (a_changes_rows, .inl (ca_changes_rows, 60, .inl fn_changes_rows))] s.heap := hP
  have hl := lv_entry ([.ref h0]) (n := 1) (Nat.le_of_ble_eq_true rfl)
  rw [lg_entry_eq]
  generalize (lg_sl ([.ref h0]) ++ List.replicate (1 - (lg_sl ([.ref h0])).length) Slot.unset).toArray = ls at hl ⊢
  have hl : lv_has ls 1 [(0, .ref h0)] := hl
  have hw0 := hts (.fieldLink RX5 29 "TurnedFields" "motor" "LTurnedFields$Motor;") (by decide +kernel)
  have hw1 := hts (.fieldLink RX5 61 "TurnedFields" "voltsD" "J") (by decide +kernel)
  have hw2 := hts (.fieldLink RX5 65 "TurnedFields" "voltsQ" "J") (by decide +kernel)
  have hw3 := hts (.fieldLink RX5 9 "TurnedFields" "rules" "[I") (by decide +kernel)
  have hw4 := hts (.fieldLink RX5 68 "TurnedFields" "heat" "J") (by decide +kernel)
  have hw5 := hts (.fieldLink RX5 161 "TurnedFields$Motor" "d" "J") (by decide +kernel)
  have hw6 := hts (.fieldLink RX5 164 "TurnedFields$Motor" "q" "J") (by decide +kernel)
  have hw7 := hts (.fieldLink RX5 71 "TurnedFields" "beats" "I") (by decide +kernel)
  have hinX3 : ∀ w ∈ wsX30, w ∈ wsX5_passBeat := by decide +kernel
  have hinX5 : ∀ w ∈ wsX50, w ∈ wsX5_passBeat := by decide +kernel
  refine lv_aload_n hx hb dX5_passBeat_0 rfl (lv_at hl 0 rfl) ?_
  refine mw_callv (wc := [(h0, .inr (4, [.ref a_rules, .ref a_loopD, .ref a_loopQ, .ref a_loopPace, .ref a_motor, .ref a_onTimes, .ref a_asked, .ref a_changes, .int f_state, .int f_fault, .int f_lost, .long f_voltsD, .long f_voltsQ, .long f_heat, .int f_beats, .int f_alignBeats])), (a_rules, .inl (ca_rules, 6, .inl fn_rules)), (a_motor, .inr (2, [.long f_motor_d, .long f_motor_q, .long f_motor_pace, .long f_motor_angle])), (a_changes, .inr (0, [.ref a_changes_rows, .int f_changes_next, .int f_changes_held])), (a_changes_rows, .inl (ca_changes_rows, 60, .inl fn_changes_rows))]) (wr := [(a_loopD, .inr (1, [.long f_loopD_kp, .long f_loopD_ki, .long f_loopD_sum])), (a_loopQ, .inr (1, [.long f_loopQ_kp, .long f_loopQ_ki, .long f_loopQ_sum])), (a_loopPace, .inr (1, [.long f_loopPace_kp, .long f_loopPace_ki, .long f_loopPace_sum])), (a_onTimes, .inr (3, [.long f_onTimes_u, .long f_onTimes_v, .long f_onTimes_w, .int f_onTimes_over]))]) (w1 := fun (u : Int32 × Int32 × Int32 × Int32 × Int32 × (Nat → Int32)) => [(h0, .inr (4, [.ref a_rules, .ref a_loopD, .ref a_loopQ, .ref a_loopPace, .ref a_motor, .ref a_onTimes, .ref a_asked, .ref a_changes, .int u.1, .int u.2.1, .int f_lost, .long f_voltsD, .long f_voltsQ, .long f_heat, .int f_beats, .int u.2.2.1])), (a_rules, .inl (ca_rules, 6, .inl fn_rules)), (a_motor, .inr (2, [.long f_motor_d, .long f_motor_q, .long f_motor_pace, .long f_motor_angle])), (a_changes, .inr (0, [.ref a_changes_rows, .int u.2.2.2.1, .int u.2.2.2.2.1])), (a_changes_rows, .inl (ca_changes_rows, 60, .inl u.2.2.2.2.2))]) (tyc := fun (u : Int32 × Int32 × Int32 × Int32 × Int32 × (Nat → Int32)) => [(ca_rules, .int), (ca_changes_rows, .int)]) hP hD hS hA [0, 1, 5, 7, 8] [2, 3, 4, 6] rfl rfl (by decide) (by decide) (va_runV (As := []) (rest := []) ⟨hx, hb, hml, hown, hts⟩ (c_X5_stopAtFault l dC dI h0 a_rules a_loopD a_loopQ a_loopPace a_motor a_onTimes a_asked a_changes f_state f_fault f_lost f_voltsD f_voltsQ f_heat f_beats f_alignBeats ca_rules fn_rules f_motor_d f_motor_q f_motor_pace f_motor_angle a_changes_rows f_changes_next f_changes_held ca_changes_rows fn_changes_rows s.heap.size ) (cwV 0 hts gX5_passBeat_X5_stopAtFault rfl rfl rfl (by decide +kernel) ⟨(Nat.le_of_ble_eq_true rfl), (Nat.le_of_ble_eq_true rfl)⟩) (mw_preV (va_recv hK hP (ci := 4) (q0 := 0) rfl rfl) (hP.sub (ws' := [(h0, .inr (4, [.ref a_rules, .ref a_loopD, .ref a_loopQ, .ref a_loopPace, .ref a_motor, .ref a_onTimes, .ref a_asked, .ref a_changes, .int f_state, .int f_fault, .int f_lost, .long f_voltsD, .long f_voltsQ, .long f_heat, .int f_beats, .int f_alignBeats])), (a_rules, .inl (ca_rules, 6, .inl fn_rules)), (a_motor, .inr (2, [.long f_motor_d, .long f_motor_q, .long f_motor_pace, .long f_motor_angle])), (a_changes, .inr (0, [.ref a_changes_rows, .int f_changes_next, .int f_changes_held])), (a_changes_rows, .inl (ca_changes_rows, 60, .inl fn_changes_rows))]) [0, 1, 5, 7, 8] rfl) (hD.sub (ws' := [(h0, .inr (4, [.ref a_rules, .ref a_loopD, .ref a_loopQ, .ref a_loopPace, .ref a_motor, .ref a_onTimes, .ref a_asked, .ref a_changes, .int f_state, .int f_fault, .int f_lost, .long f_voltsD, .long f_voltsQ, .long f_heat, .int f_beats, .int f_alignBeats])), (a_rules, .inl (ca_rules, 6, .inl fn_rules)), (a_motor, .inr (2, [.long f_motor_d, .long f_motor_q, .long f_motor_pace, .long f_motor_angle])), (a_changes, .inr (0, [.ref a_changes_rows, .int f_changes_next, .int f_changes_held])), (a_changes_rows, .inl (ca_changes_rows, 60, .inl fn_changes_rows))]) [0, 1, 5, 7, 8] (by decide) rfl) (hK.sub (tys' := [(ca_rules, .int), (ca_changes_rows, .int)]) [0, 1] rfl) hN) rfl rfl hl.1 rfl (lv_room (Nat.le_of_ble_eq_true rfl)) dX5_passBeat_1 ⟨(Nat.le_of_ble_eq_true rfl), (Nat.le_of_ble_eq_true rfl)⟩) (fun u H locs hw_7 hP hD hS hK1 => ?_)
  obtain ⟨o1, o2, o3, o4, o5, o6⟩ := u
  have hw_7 : R_X5_stopAtFault f_state f_fault f_lost f_heat f_beats f_alignBeats fn_rules f_motor_d f_motor_q f_changes_next f_changes_held fn_changes_rows o1 o2 o3 o4 o5 o6 := hw_7
  have hP : va_P (dC, dI) vwCl [(a_loopD, .inr (1, [.long f_loopD_kp, .long f_loopD_ki, .long f_loopD_sum])), (a_loopQ, .inr (1, [.long f_loopQ_kp, .long f_loopQ_ki, .long f_loopQ_sum])), (a_loopPace, .inr (1, [.long f_loopPace_kp, .long f_loopPace_ki, .long f_loopPace_sum])), (a_onTimes, .inr (3, [.long f_onTimes_u, .long f_onTimes_v, .long f_onTimes_w, .int f_onTimes_over])), (h0, .inr (4, [.ref a_rules, .ref a_loopD, .ref a_loopQ, .ref a_loopPace, .ref a_motor, .ref a_onTimes, .ref a_asked, .ref a_changes, .int o1, .int o2, .int f_lost, .long f_voltsD, .long f_voltsQ, .long f_heat, .int f_beats, .int o3])), (a_rules, .inl (ca_rules, 6, .inl fn_rules)), (a_motor, .inr (2, [.long f_motor_d, .long f_motor_q, .long f_motor_pace, .long f_motor_angle])), (a_changes, .inr (0, [.ref a_changes_rows, .int o4, .int o5])), (a_changes_rows, .inl (ca_changes_rows, 60, .inl o6))] H := hP
  have hD : va_D A [(a_loopD, .inr (1, [.long f_loopD_kp, .long f_loopD_ki, .long f_loopD_sum])), (a_loopQ, .inr (1, [.long f_loopQ_kp, .long f_loopQ_ki, .long f_loopQ_sum])), (a_loopPace, .inr (1, [.long f_loopPace_kp, .long f_loopPace_ki, .long f_loopPace_sum])), (a_onTimes, .inr (3, [.long f_onTimes_u, .long f_onTimes_v, .long f_onTimes_w, .int f_onTimes_over])), (h0, .inr (4, [.ref a_rules, .ref a_loopD, .ref a_loopQ, .ref a_loopPace, .ref a_motor, .ref a_onTimes, .ref a_asked, .ref a_changes, .int o1, .int o2, .int f_lost, .long f_voltsD, .long f_voltsQ, .long f_heat, .int f_beats, .int o3])), (a_rules, .inl (ca_rules, 6, .inl fn_rules)), (a_motor, .inr (2, [.long f_motor_d, .long f_motor_q, .long f_motor_pace, .long f_motor_angle])), (a_changes, .inr (0, [.ref a_changes_rows, .int o4, .int o5])), (a_changes_rows, .inl (ca_changes_rows, 60, .inl o6))] := hD
  refine lv_aload_n hx hb dX5_passBeat_4 rfl (lv_at hl 0 rfl) ?_
  refine mw_callv (wc := [(h0, .inr (4, [.ref a_rules, .ref a_loopD, .ref a_loopQ, .ref a_loopPace, .ref a_motor, .ref a_onTimes, .ref a_asked, .ref a_changes, .int o1, .int o2, .int f_lost, .long f_voltsD, .long f_voltsQ, .long f_heat, .int f_beats, .int o3])), (a_rules, .inl (ca_rules, 6, .inl fn_rules)), (a_loopD, .inr (1, [.long f_loopD_kp, .long f_loopD_ki, .long f_loopD_sum])), (a_loopQ, .inr (1, [.long f_loopQ_kp, .long f_loopQ_ki, .long f_loopQ_sum])), (a_loopPace, .inr (1, [.long f_loopPace_kp, .long f_loopPace_ki, .long f_loopPace_sum])), (a_motor, .inr (2, [.long f_motor_d, .long f_motor_q, .long f_motor_pace, .long f_motor_angle]))]) (wr := [(a_onTimes, .inr (3, [.long f_onTimes_u, .long f_onTimes_v, .long f_onTimes_w, .int f_onTimes_over])), (a_changes, .inr (0, [.ref a_changes_rows, .int o4, .int o5])), (a_changes_rows, .inl (ca_changes_rows, 60, .inl o6))]) (w1 := fun (u : Int64 × Int64 × Int32 × Int64 × Int64 × Int64) => [(h0, .inr (4, [.ref a_rules, .ref a_loopD, .ref a_loopQ, .ref a_loopPace, .ref a_motor, .ref a_onTimes, .ref a_asked, .ref a_changes, .int o1, .int o2, .int f_lost, .long u.1, .long u.2.1, .long f_heat, .int f_beats, .int u.2.2.1])), (a_rules, .inl (ca_rules, 6, .inl fn_rules)), (a_loopD, .inr (1, [.long f_loopD_kp, .long f_loopD_ki, .long u.2.2.2.1])), (a_loopQ, .inr (1, [.long f_loopQ_kp, .long f_loopQ_ki, .long u.2.2.2.2.1])), (a_loopPace, .inr (1, [.long f_loopPace_kp, .long f_loopPace_ki, .long u.2.2.2.2.2])), (a_motor, .inr (2, [.long f_motor_d, .long f_motor_q, .long f_motor_pace, .long f_motor_angle]))]) (tyc := fun (u : Int64 × Int64 × Int32 × Int64 × Int64 × Int64) => [(ca_rules, .int)]) hP hD hS hA [4, 5, 0, 1, 2, 6] [3, 7, 8] rfl rfl (by decide) (by decide) (va_runV (As := []) (rest := []) ⟨hx, hb, hml, hown, hts⟩ (c_X5_chooseVolts l dC dI h0 a_rules a_loopD a_loopQ a_loopPace a_motor a_onTimes a_asked a_changes o1 o2 f_lost f_voltsD f_voltsQ f_heat f_beats o3 ca_rules fn_rules f_loopD_kp f_loopD_ki f_loopD_sum f_loopQ_kp f_loopQ_ki f_loopQ_sum f_loopPace_kp f_loopPace_ki f_loopPace_sum f_motor_d f_motor_q f_motor_pace f_motor_angle H.size ) (cwV 0 hts gX5_passBeat_X5_chooseVolts rfl rfl rfl (by decide +kernel) ⟨(Nat.le_of_ble_eq_true rfl), (Nat.le_of_ble_eq_true rfl)⟩) (mw_preV (va_recv hK hP (ci := 4) (q0 := 4) rfl rfl) (hP.sub (ws' := [(h0, .inr (4, [.ref a_rules, .ref a_loopD, .ref a_loopQ, .ref a_loopPace, .ref a_motor, .ref a_onTimes, .ref a_asked, .ref a_changes, .int o1, .int o2, .int f_lost, .long f_voltsD, .long f_voltsQ, .long f_heat, .int f_beats, .int o3])), (a_rules, .inl (ca_rules, 6, .inl fn_rules)), (a_loopD, .inr (1, [.long f_loopD_kp, .long f_loopD_ki, .long f_loopD_sum])), (a_loopQ, .inr (1, [.long f_loopQ_kp, .long f_loopQ_ki, .long f_loopQ_sum])), (a_loopPace, .inr (1, [.long f_loopPace_kp, .long f_loopPace_ki, .long f_loopPace_sum])), (a_motor, .inr (2, [.long f_motor_d, .long f_motor_q, .long f_motor_pace, .long f_motor_angle]))]) [4, 5, 0, 1, 2, 6] rfl) (hD.sub (ws' := [(h0, .inr (4, [.ref a_rules, .ref a_loopD, .ref a_loopQ, .ref a_loopPace, .ref a_motor, .ref a_onTimes, .ref a_asked, .ref a_changes, .int o1, .int o2, .int f_lost, .long f_voltsD, .long f_voltsQ, .long f_heat, .int f_beats, .int o3])), (a_rules, .inl (ca_rules, 6, .inl fn_rules)), (a_loopD, .inr (1, [.long f_loopD_kp, .long f_loopD_ki, .long f_loopD_sum])), (a_loopQ, .inr (1, [.long f_loopQ_kp, .long f_loopQ_ki, .long f_loopQ_sum])), (a_loopPace, .inr (1, [.long f_loopPace_kp, .long f_loopPace_ki, .long f_loopPace_sum])), (a_motor, .inr (2, [.long f_motor_d, .long f_motor_q, .long f_motor_pace, .long f_motor_angle]))]) [4, 5, 0, 1, 2, 6] (by decide) rfl) (hK.sub (tys' := [(ca_rules, .int)]) [0] rfl) hN) rfl rfl hl.1 rfl (lv_room (Nat.le_of_ble_eq_true rfl)) dX5_passBeat_5 ⟨(Nat.le_of_ble_eq_true rfl), (Nat.le_of_ble_eq_true rfl)⟩) (fun u H locs hw_14 hP hD hS hK1 => ?_)
  obtain ⟨o8, o9, o10, o11, o12, o13⟩ := u
  have hw_14 : R_X5_chooseVolts o1 o3 fn_rules f_loopD_kp f_loopD_ki f_loopD_sum f_loopQ_kp f_loopQ_ki f_loopQ_sum f_loopPace_kp f_loopPace_ki f_loopPace_sum f_motor_d f_motor_q f_motor_pace o8 o9 o10 o11 o12 o13 := hw_14
  have hP : va_P (dC, dI) vwCl [(a_onTimes, .inr (3, [.long f_onTimes_u, .long f_onTimes_v, .long f_onTimes_w, .int f_onTimes_over])), (a_changes, .inr (0, [.ref a_changes_rows, .int o4, .int o5])), (a_changes_rows, .inl (ca_changes_rows, 60, .inl o6)), (h0, .inr (4, [.ref a_rules, .ref a_loopD, .ref a_loopQ, .ref a_loopPace, .ref a_motor, .ref a_onTimes, .ref a_asked, .ref a_changes, .int o1, .int o2, .int f_lost, .long o8, .long o9, .long f_heat, .int f_beats, .int o10])), (a_rules, .inl (ca_rules, 6, .inl fn_rules)), (a_loopD, .inr (1, [.long f_loopD_kp, .long f_loopD_ki, .long o11])), (a_loopQ, .inr (1, [.long f_loopQ_kp, .long f_loopQ_ki, .long o12])), (a_loopPace, .inr (1, [.long f_loopPace_kp, .long f_loopPace_ki, .long o13])), (a_motor, .inr (2, [.long f_motor_d, .long f_motor_q, .long f_motor_pace, .long f_motor_angle]))] H := hP
  have hD : va_D A [(a_onTimes, .inr (3, [.long f_onTimes_u, .long f_onTimes_v, .long f_onTimes_w, .int f_onTimes_over])), (a_changes, .inr (0, [.ref a_changes_rows, .int o4, .int o5])), (a_changes_rows, .inl (ca_changes_rows, 60, .inl o6)), (h0, .inr (4, [.ref a_rules, .ref a_loopD, .ref a_loopQ, .ref a_loopPace, .ref a_motor, .ref a_onTimes, .ref a_asked, .ref a_changes, .int o1, .int o2, .int f_lost, .long o8, .long o9, .long f_heat, .int f_beats, .int o10])), (a_rules, .inl (ca_rules, 6, .inl fn_rules)), (a_loopD, .inr (1, [.long f_loopD_kp, .long f_loopD_ki, .long o11])), (a_loopQ, .inr (1, [.long f_loopQ_kp, .long f_loopQ_ki, .long o12])), (a_loopPace, .inr (1, [.long f_loopPace_kp, .long f_loopPace_ki, .long o13])), (a_motor, .inr (2, [.long f_motor_d, .long f_motor_q, .long f_motor_pace, .long f_motor_angle]))] := hD
  refine lv_aload_n hx hb dX5_passBeat_8 rfl (lv_at hl 0 rfl) ?_
  refine mw_callv (wc := [(h0, .inr (4, [.ref a_rules, .ref a_loopD, .ref a_loopQ, .ref a_loopPace, .ref a_motor, .ref a_onTimes, .ref a_asked, .ref a_changes, .int o1, .int o2, .int f_lost, .long o8, .long o9, .long f_heat, .int f_beats, .int o10])), (a_rules, .inl (ca_rules, 6, .inl fn_rules)), (a_motor, .inr (2, [.long f_motor_d, .long f_motor_q, .long f_motor_pace, .long f_motor_angle])), (a_onTimes, .inr (3, [.long f_onTimes_u, .long f_onTimes_v, .long f_onTimes_w, .int f_onTimes_over]))]) (wr := [(a_changes, .inr (0, [.ref a_changes_rows, .int o4, .int o5])), (a_changes_rows, .inl (ca_changes_rows, 60, .inl o6)), (a_loopD, .inr (1, [.long f_loopD_kp, .long f_loopD_ki, .long o11])), (a_loopQ, .inr (1, [.long f_loopQ_kp, .long f_loopQ_ki, .long o12])), (a_loopPace, .inr (1, [.long f_loopPace_kp, .long f_loopPace_ki, .long o13]))]) (w1 := fun (u : Int64 × Int64 × Int64 × Int32) => [(h0, .inr (4, [.ref a_rules, .ref a_loopD, .ref a_loopQ, .ref a_loopPace, .ref a_motor, .ref a_onTimes, .ref a_asked, .ref a_changes, .int o1, .int o2, .int f_lost, .long o8, .long o9, .long f_heat, .int f_beats, .int o10])), (a_rules, .inl (ca_rules, 6, .inl fn_rules)), (a_motor, .inr (2, [.long f_motor_d, .long f_motor_q, .long f_motor_pace, .long f_motor_angle])), (a_onTimes, .inr (3, [.long u.1, .long u.2.1, .long u.2.2.1, .int u.2.2.2]))]) (tyc := fun (u : Int64 × Int64 × Int64 × Int32) => [(ca_rules, .int)]) hP hD hS hA [3, 4, 8, 0] [1, 2, 5, 6, 7] rfl rfl (by decide) (by decide) (va_runV (As := []) (rest := []) ⟨hx, hb, hml, hown, hts⟩ (c_X5_leadWires l dC dI h0 a_rules a_loopD a_loopQ a_loopPace a_motor a_onTimes a_asked a_changes o1 o2 f_lost o8 o9 f_heat f_beats o10 ca_rules fn_rules f_motor_d f_motor_q f_motor_pace f_motor_angle f_onTimes_u f_onTimes_v f_onTimes_w f_onTimes_over H.size ) (cwV 0 hts gX5_passBeat_X5_leadWires rfl rfl rfl (by decide +kernel) ⟨(Nat.le_of_ble_eq_true rfl), (Nat.le_of_ble_eq_true rfl)⟩) (mw_preV (va_recv hK hP (ci := 4) (q0 := 3) rfl rfl) (hP.sub (ws' := [(h0, .inr (4, [.ref a_rules, .ref a_loopD, .ref a_loopQ, .ref a_loopPace, .ref a_motor, .ref a_onTimes, .ref a_asked, .ref a_changes, .int o1, .int o2, .int f_lost, .long o8, .long o9, .long f_heat, .int f_beats, .int o10])), (a_rules, .inl (ca_rules, 6, .inl fn_rules)), (a_motor, .inr (2, [.long f_motor_d, .long f_motor_q, .long f_motor_pace, .long f_motor_angle])), (a_onTimes, .inr (3, [.long f_onTimes_u, .long f_onTimes_v, .long f_onTimes_w, .int f_onTimes_over]))]) [3, 4, 8, 0] rfl) (hD.sub (ws' := [(h0, .inr (4, [.ref a_rules, .ref a_loopD, .ref a_loopQ, .ref a_loopPace, .ref a_motor, .ref a_onTimes, .ref a_asked, .ref a_changes, .int o1, .int o2, .int f_lost, .long o8, .long o9, .long f_heat, .int f_beats, .int o10])), (a_rules, .inl (ca_rules, 6, .inl fn_rules)), (a_motor, .inr (2, [.long f_motor_d, .long f_motor_q, .long f_motor_pace, .long f_motor_angle])), (a_onTimes, .inr (3, [.long f_onTimes_u, .long f_onTimes_v, .long f_onTimes_w, .int f_onTimes_over]))]) [3, 4, 8, 0] (by decide) rfl) (hK.sub (tys' := [(ca_rules, .int)]) [0] rfl) hN) rfl rfl hl.1 rfl (lv_room (Nat.le_of_ble_eq_true rfl)) dX5_passBeat_9 ⟨(Nat.le_of_ble_eq_true rfl), (Nat.le_of_ble_eq_true rfl)⟩) (fun u H locs hw_19 hP hD hS hK1 => ?_)
  obtain ⟨o15, o16, o17, o18⟩ := u
  have hw_19 : R_X5_leadWires o1 o8 o9 fn_rules f_motor_angle o15 o16 o17 o18 := hw_19
  have hP : va_P (dC, dI) vwCl [(a_changes, .inr (0, [.ref a_changes_rows, .int o4, .int o5])), (a_changes_rows, .inl (ca_changes_rows, 60, .inl o6)), (a_loopD, .inr (1, [.long f_loopD_kp, .long f_loopD_ki, .long o11])), (a_loopQ, .inr (1, [.long f_loopQ_kp, .long f_loopQ_ki, .long o12])), (a_loopPace, .inr (1, [.long f_loopPace_kp, .long f_loopPace_ki, .long o13])), (h0, .inr (4, [.ref a_rules, .ref a_loopD, .ref a_loopQ, .ref a_loopPace, .ref a_motor, .ref a_onTimes, .ref a_asked, .ref a_changes, .int o1, .int o2, .int f_lost, .long o8, .long o9, .long f_heat, .int f_beats, .int o10])), (a_rules, .inl (ca_rules, 6, .inl fn_rules)), (a_motor, .inr (2, [.long f_motor_d, .long f_motor_q, .long f_motor_pace, .long f_motor_angle])), (a_onTimes, .inr (3, [.long o15, .long o16, .long o17, .int o18]))] H := hP
  have hD : va_D A [(a_changes, .inr (0, [.ref a_changes_rows, .int o4, .int o5])), (a_changes_rows, .inl (ca_changes_rows, 60, .inl o6)), (a_loopD, .inr (1, [.long f_loopD_kp, .long f_loopD_ki, .long o11])), (a_loopQ, .inr (1, [.long f_loopQ_kp, .long f_loopQ_ki, .long o12])), (a_loopPace, .inr (1, [.long f_loopPace_kp, .long f_loopPace_ki, .long o13])), (h0, .inr (4, [.ref a_rules, .ref a_loopD, .ref a_loopQ, .ref a_loopPace, .ref a_motor, .ref a_onTimes, .ref a_asked, .ref a_changes, .int o1, .int o2, .int f_lost, .long o8, .long o9, .long f_heat, .int f_beats, .int o10])), (a_rules, .inl (ca_rules, 6, .inl fn_rules)), (a_motor, .inr (2, [.long f_motor_d, .long f_motor_q, .long f_motor_pace, .long f_motor_angle])), (a_onTimes, .inr (3, [.long o15, .long o16, .long o17, .int o18]))] := hD
  refine lv_aload_n hx hb dX5_passBeat_12 rfl (lv_at hl 0 rfl) ?_
  refine va_get (D := (dC, dI)) (ci := 4) (v := .ref a_motor) (C := RX5) (T := TX5) (N := 16) hx hb hts hinX5 hown hK hP 5 rfl rfl 4 (by decide) hw0 (fun _ h9 => h9) rfl dX5_passBeat_13 ?_
  refine lv_aload_n hx hb dX5_passBeat_16 rfl (lv_at hl 0 rfl) ?_
  refine va_get (D := (dC, dI)) (ci := 4) (v := .long o8) (C := RX5) (T := TX5) (N := 16) hx hb hts hinX5 hown hK hP 5 rfl rfl 11 (by decide) hw1 (fun _ h9 => h9) rfl dX5_passBeat_17 ?_
  refine lv_aload_n hx hb dX5_passBeat_20 rfl (lv_at hl 0 rfl) ?_
  refine va_get (D := (dC, dI)) (ci := 4) (v := .long o9) (C := RX5) (T := TX5) (N := 16) hx hb hts hinX5 hown hK hP 5 rfl rfl 12 (by decide) hw2 (fun _ h9 => h9) rfl dX5_passBeat_21 ?_
  refine lv_aload_n hx hb dX5_passBeat_24 rfl (lv_at hl 0 rfl) ?_
  refine va_get (D := (dC, dI)) (ci := 4) (v := .ref a_rules) (C := RX5) (T := TX5) (N := 16) hx hb hts hinX5 hown hK hP 5 rfl rfl 0 (by decide) hw3 (fun _ h9 => h9) rfl dX5_passBeat_25 ?_
  refine lv_iconst (v := 2) hx hb dX5_passBeat_28 (by decide) ?_
  refine va_iald hx hb hK hP 6 0 rfl rfl (by unfold vp_in; decide) dX5_passBeat_29 ?_
  refine lv_topi (fun v20 ev20 => ?_)
  have ev20 : v20 = fn_rules 2 := ev20
  refine lv_i2l hx hb dX5_passBeat_30 rfl ?_
  refine mw_callv (wc := [(a_motor, .inr (2, [.long f_motor_d, .long f_motor_q, .long f_motor_pace, .long f_motor_angle]))]) (wr := [(a_changes, .inr (0, [.ref a_changes_rows, .int o4, .int o5])), (a_changes_rows, .inl (ca_changes_rows, 60, .inl o6)), (a_loopD, .inr (1, [.long f_loopD_kp, .long f_loopD_ki, .long o11])), (a_loopQ, .inr (1, [.long f_loopQ_kp, .long f_loopQ_ki, .long o12])), (a_loopPace, .inr (1, [.long f_loopPace_kp, .long f_loopPace_ki, .long o13])), (h0, .inr (4, [.ref a_rules, .ref a_loopD, .ref a_loopQ, .ref a_loopPace, .ref a_motor, .ref a_onTimes, .ref a_asked, .ref a_changes, .int o1, .int o2, .int f_lost, .long o8, .long o9, .long f_heat, .int f_beats, .int o10])), (a_rules, .inl (ca_rules, 6, .inl fn_rules)), (a_onTimes, .inr (3, [.long o15, .long o16, .long o17, .int o18]))]) (w1 := fun (u : Int64 × Int64 × Int64 × Int64) => [(a_motor, .inr (2, [.long u.1, .long u.2.1, .long u.2.2.1, .long u.2.2.2]))]) (tyc := fun (u : Int64 × Int64 × Int64 × Int64) => []) hP hD hS hA [7] [0, 1, 2, 3, 4, 5, 6, 8] rfl rfl (by decide) (by decide) (va_runV (As := [.long o8, .long o9, .long (v20.toInt64)]) (rest := []) ⟨hx, hb, hml, hown, hts⟩ (c_X3_step l dC dI a_motor f_motor_d f_motor_q f_motor_pace f_motor_angle o8 o9 (v20.toInt64) H.size ) (cwV 3 hts gX5_passBeat_X3_step rfl rfl rfl (by decide +kernel) ⟨(Nat.le_of_ble_eq_true rfl), (Nat.le_of_ble_eq_true rfl)⟩) (mw_preV (va_recv hK hP (ci := 2) (q0 := 7) rfl rfl) (hP.sub (ws' := [(a_motor, .inr (2, [.long f_motor_d, .long f_motor_q, .long f_motor_pace, .long f_motor_angle]))]) [7] rfl) (hD.sub (ws' := [(a_motor, .inr (2, [.long f_motor_d, .long f_motor_q, .long f_motor_pace, .long f_motor_angle]))]) [7] (by decide) rfl) (hK.sub (tys' := []) [] rfl) hN) rfl rfl hl.1 rfl (lv_room (Nat.le_of_ble_eq_true rfl)) dX5_passBeat_31 ⟨(Nat.le_of_ble_eq_true rfl), (Nat.le_of_ble_eq_true rfl)⟩) (fun u H locs hw_25 hP hD hS hK1 => ?_)
  obtain ⟨o21, o22, o23, o24⟩ := u
  have hw_25 : R_X3_step f_motor_d f_motor_q f_motor_pace f_motor_angle o8 o9 (v20.toInt64) o21 o22 o23 o24 := hw_25
  have hP : va_P (dC, dI) vwCl [(a_changes, .inr (0, [.ref a_changes_rows, .int o4, .int o5])), (a_changes_rows, .inl (ca_changes_rows, 60, .inl o6)), (a_loopD, .inr (1, [.long f_loopD_kp, .long f_loopD_ki, .long o11])), (a_loopQ, .inr (1, [.long f_loopQ_kp, .long f_loopQ_ki, .long o12])), (a_loopPace, .inr (1, [.long f_loopPace_kp, .long f_loopPace_ki, .long o13])), (h0, .inr (4, [.ref a_rules, .ref a_loopD, .ref a_loopQ, .ref a_loopPace, .ref a_motor, .ref a_onTimes, .ref a_asked, .ref a_changes, .int o1, .int o2, .int f_lost, .long o8, .long o9, .long f_heat, .int f_beats, .int o10])), (a_rules, .inl (ca_rules, 6, .inl fn_rules)), (a_onTimes, .inr (3, [.long o15, .long o16, .long o17, .int o18])), (a_motor, .inr (2, [.long o21, .long o22, .long o23, .long o24]))] H := hP
  have hD : va_D A [(a_changes, .inr (0, [.ref a_changes_rows, .int o4, .int o5])), (a_changes_rows, .inl (ca_changes_rows, 60, .inl o6)), (a_loopD, .inr (1, [.long f_loopD_kp, .long f_loopD_ki, .long o11])), (a_loopQ, .inr (1, [.long f_loopQ_kp, .long f_loopQ_ki, .long o12])), (a_loopPace, .inr (1, [.long f_loopPace_kp, .long f_loopPace_ki, .long o13])), (h0, .inr (4, [.ref a_rules, .ref a_loopD, .ref a_loopQ, .ref a_loopPace, .ref a_motor, .ref a_onTimes, .ref a_asked, .ref a_changes, .int o1, .int o2, .int f_lost, .long o8, .long o9, .long f_heat, .int f_beats, .int o10])), (a_rules, .inl (ca_rules, 6, .inl fn_rules)), (a_onTimes, .inr (3, [.long o15, .long o16, .long o17, .int o18])), (a_motor, .inr (2, [.long o21, .long o22, .long o23, .long o24]))] := hD
  refine lv_aload_n hx hb dX5_passBeat_34 rfl (lv_at hl 0 rfl) ?_
  refine lv_aload_n hx hb dX5_passBeat_35 rfl (lv_at hl 0 rfl) ?_
  refine va_get (D := (dC, dI)) (ci := 4) (v := .long f_heat) (C := RX5) (T := TX5) (N := 16) hx hb hts hinX5 hown hK hP 5 rfl rfl 13 (by decide) hw4 (fun _ h9 => h9) rfl dX5_passBeat_36 ?_
  refine lv_aload_n hx hb dX5_passBeat_39 rfl (lv_at hl 0 rfl) ?_
  refine va_get (D := (dC, dI)) (ci := 4) (v := .ref a_motor) (C := RX5) (T := TX5) (N := 16) hx hb hts hinX5 hown hK hP 5 rfl rfl 4 (by decide) hw0 (fun _ h9 => h9) rfl dX5_passBeat_40 ?_
  refine va_get (D := (dC, dI)) (ci := 2) (v := .long o21) (C := RX3) (T := TX3) (N := 4) hx hb hts hinX3 hown hK hP 8 rfl rfl 0 (by decide) hw5 (fun _ h9 => h9) rfl dX5_passBeat_43 ?_
  refine lv_aload_n hx hb dX5_passBeat_46 rfl (lv_at hl 0 rfl) ?_
  refine va_get (D := (dC, dI)) (ci := 4) (v := .ref a_motor) (C := RX5) (T := TX5) (N := 16) hx hb hts hinX5 hown hK hP 5 rfl rfl 4 (by decide) hw0 (fun _ h9 => h9) rfl dX5_passBeat_47 ?_
  refine va_get (D := (dC, dI)) (ci := 2) (v := .long o21) (C := RX3) (T := TX3) (N := 4) hx hb hts hinX3 hown hK hP 8 rfl rfl 0 (by decide) hw5 (fun _ h9 => h9) rfl dX5_passBeat_50 ?_
  refine lv_lmul hx hb dX5_passBeat_53 ?_
  refine lv_aload_n hx hb dX5_passBeat_54 rfl (lv_at hl 0 rfl) ?_
  refine va_get (D := (dC, dI)) (ci := 4) (v := .ref a_motor) (C := RX5) (T := TX5) (N := 16) hx hb hts hinX5 hown hK hP 5 rfl rfl 4 (by decide) hw0 (fun _ h9 => h9) rfl dX5_passBeat_55 ?_
  refine va_get (D := (dC, dI)) (ci := 2) (v := .long o22) (C := RX3) (T := TX3) (N := 4) hx hb hts hinX3 hown hK hP 8 rfl rfl 1 (by decide) hw6 (fun _ h9 => h9) rfl dX5_passBeat_58 ?_
  refine lv_aload_n hx hb dX5_passBeat_61 rfl (lv_at hl 0 rfl) ?_
  refine va_get (D := (dC, dI)) (ci := 4) (v := .ref a_motor) (C := RX5) (T := TX5) (N := 16) hx hb hts hinX5 hown hK hP 5 rfl rfl 4 (by decide) hw0 (fun _ h9 => h9) rfl dX5_passBeat_62 ?_
  refine va_get (D := (dC, dI)) (ci := 2) (v := .long o22) (C := RX3) (T := TX3) (N := 4) hx hb hts hinX3 hown hK hP 8 rfl rfl 1 (by decide) hw6 (fun _ h9 => h9) rfl dX5_passBeat_65 ?_
  refine lv_lmul hx hb dX5_passBeat_68 ?_
  refine lv_ladd hx hb dX5_passBeat_69 ?_
  refine lv_bipush (v := 16) hx hb dX5_passBeat_70 (by decide) ?_
  refine lv_lshr hx hb dX5_passBeat_72 (mw_sh _ _ 16 (by decide)) ?_
  refine lv_ladd hx hb dX5_passBeat_73 ?_
  refine lv_aload_n hx hb dX5_passBeat_74 rfl (lv_at hl 0 rfl) ?_
  refine va_get (D := (dC, dI)) (ci := 4) (v := .long f_heat) (C := RX5) (T := TX5) (N := 16) hx hb hts hinX5 hown hK hP 5 rfl rfl 13 (by decide) hw4 (fun _ h9 => h9) rfl dX5_passBeat_75 ?_
  refine lv_bipush (v := 8) hx hb dX5_passBeat_78 (by decide) ?_
  refine lv_lshr hx hb dX5_passBeat_80 (mw_sh _ _ 8 (by decide)) ?_
  refine lv_lsub hx hb dX5_passBeat_81 ?_
  refine lv_topl (fun v26 ev26 => ?_)
  refine va_put (D := (dC, dI)) (ci := 4) (v := .long v26) (ty := .long) (C := RX5) (T := TX5) (N := 16) hx hb hts hinX5 tyX5 tyX5_ok nmX5 hown hK hP hD hS 5 rfl rfl 13 (by decide) hw4 (fun _ h9 => h9) rfl (by decide +kernel) rfl rfl (Nat.le_of_ble_eq_true rfl) dX5_passBeat_82 (fun H locs hP hD hS => ?_)
  have hP : va_P (dC, dI) vwCl [(a_changes, .inr (0, [.ref a_changes_rows, .int o4, .int o5])), (a_changes_rows, .inl (ca_changes_rows, 60, .inl o6)), (a_loopD, .inr (1, [.long f_loopD_kp, .long f_loopD_ki, .long o11])), (a_loopQ, .inr (1, [.long f_loopQ_kp, .long f_loopQ_ki, .long o12])), (a_loopPace, .inr (1, [.long f_loopPace_kp, .long f_loopPace_ki, .long o13])), (h0, .inr (4, [.ref a_rules, .ref a_loopD, .ref a_loopQ, .ref a_loopPace, .ref a_motor, .ref a_onTimes, .ref a_asked, .ref a_changes, .int o1, .int o2, .int f_lost, .long o8, .long o9, .long v26, .int f_beats, .int o10])), (a_rules, .inl (ca_rules, 6, .inl fn_rules)), (a_onTimes, .inr (3, [.long o15, .long o16, .long o17, .int o18])), (a_motor, .inr (2, [.long o21, .long o22, .long o23, .long o24]))] H := hP
  have hD : va_D A [(a_changes, .inr (0, [.ref a_changes_rows, .int o4, .int o5])), (a_changes_rows, .inl (ca_changes_rows, 60, .inl o6)), (a_loopD, .inr (1, [.long f_loopD_kp, .long f_loopD_ki, .long o11])), (a_loopQ, .inr (1, [.long f_loopQ_kp, .long f_loopQ_ki, .long o12])), (a_loopPace, .inr (1, [.long f_loopPace_kp, .long f_loopPace_ki, .long o13])), (h0, .inr (4, [.ref a_rules, .ref a_loopD, .ref a_loopQ, .ref a_loopPace, .ref a_motor, .ref a_onTimes, .ref a_asked, .ref a_changes, .int o1, .int o2, .int f_lost, .long o8, .long o9, .long v26, .int f_beats, .int o10])), (a_rules, .inl (ca_rules, 6, .inl fn_rules)), (a_onTimes, .inr (3, [.long o15, .long o16, .long o17, .int o18])), (a_motor, .inr (2, [.long o21, .long o22, .long o23, .long o24]))] := hD
  refine lv_aload_n hx hb dX5_passBeat_85 rfl (lv_at hl 0 rfl) ?_
  refine mw_callv (wc := [(h0, .inr (4, [.ref a_rules, .ref a_loopD, .ref a_loopQ, .ref a_loopPace, .ref a_motor, .ref a_onTimes, .ref a_asked, .ref a_changes, .int o1, .int o2, .int f_lost, .long o8, .long o9, .long v26, .int f_beats, .int o10])), (a_motor, .inr (2, [.long o21, .long o22, .long o23, .long o24])), (a_changes, .inr (0, [.ref a_changes_rows, .int o4, .int o5])), (a_changes_rows, .inl (ca_changes_rows, 60, .inl o6))]) (wr := [(a_loopD, .inr (1, [.long f_loopD_kp, .long f_loopD_ki, .long o11])), (a_loopQ, .inr (1, [.long f_loopQ_kp, .long f_loopQ_ki, .long o12])), (a_loopPace, .inr (1, [.long f_loopPace_kp, .long f_loopPace_ki, .long o13])), (a_rules, .inl (ca_rules, 6, .inl fn_rules)), (a_onTimes, .inr (3, [.long o15, .long o16, .long o17, .int o18]))]) (w1 := fun (u : Int32 × Int32 × Int32 × Int64 × Int32 × Int32 × (Nat → Int32)) => [(h0, .inr (4, [.ref a_rules, .ref a_loopD, .ref a_loopQ, .ref a_loopPace, .ref a_motor, .ref a_onTimes, .ref a_asked, .ref a_changes, .int u.1, .int u.2.1, .int f_lost, .long o8, .long o9, .long v26, .int f_beats, .int u.2.2.1])), (a_motor, .inr (2, [.long o21, .long o22, .long o23, .long u.2.2.2.1])), (a_changes, .inr (0, [.ref a_changes_rows, .int u.2.2.2.2.1, .int u.2.2.2.2.2.1])), (a_changes_rows, .inl (ca_changes_rows, 60, .inl u.2.2.2.2.2.2))]) (tyc := fun (u : Int32 × Int32 × Int32 × Int64 × Int32 × Int32 × (Nat → Int32)) => [(ca_changes_rows, .int)]) hP hD hS hA [5, 8, 0, 1] [2, 3, 4, 6, 7] rfl rfl (by decide) (by decide) (va_runV (As := []) (rest := []) ⟨hx, hb, hml, hown, hts⟩ (c_X5_leaveState l dC dI h0 a_rules a_loopD a_loopQ a_loopPace a_motor a_onTimes a_asked a_changes o1 o2 f_lost o8 o9 v26 f_beats o10 o21 o22 o23 o24 a_changes_rows o4 o5 ca_changes_rows o6 H.size ) (cwV 0 hts gX5_passBeat_X5_leaveState rfl rfl rfl (by decide +kernel) ⟨(Nat.le_of_ble_eq_true rfl), (Nat.le_of_ble_eq_true rfl)⟩) (mw_preV (va_recv hK hP (ci := 4) (q0 := 5) rfl rfl) (hP.sub (ws' := [(h0, .inr (4, [.ref a_rules, .ref a_loopD, .ref a_loopQ, .ref a_loopPace, .ref a_motor, .ref a_onTimes, .ref a_asked, .ref a_changes, .int o1, .int o2, .int f_lost, .long o8, .long o9, .long v26, .int f_beats, .int o10])), (a_motor, .inr (2, [.long o21, .long o22, .long o23, .long o24])), (a_changes, .inr (0, [.ref a_changes_rows, .int o4, .int o5])), (a_changes_rows, .inl (ca_changes_rows, 60, .inl o6))]) [5, 8, 0, 1] rfl) (hD.sub (ws' := [(h0, .inr (4, [.ref a_rules, .ref a_loopD, .ref a_loopQ, .ref a_loopPace, .ref a_motor, .ref a_onTimes, .ref a_asked, .ref a_changes, .int o1, .int o2, .int f_lost, .long o8, .long o9, .long v26, .int f_beats, .int o10])), (a_motor, .inr (2, [.long o21, .long o22, .long o23, .long o24])), (a_changes, .inr (0, [.ref a_changes_rows, .int o4, .int o5])), (a_changes_rows, .inl (ca_changes_rows, 60, .inl o6))]) [5, 8, 0, 1] (by decide) rfl) (hK.sub (tys' := [(ca_changes_rows, .int)]) [1] rfl) hN) rfl rfl hl.1 rfl (lv_room (Nat.le_of_ble_eq_true rfl)) dX5_passBeat_86 ⟨(Nat.le_of_ble_eq_true rfl), (Nat.le_of_ble_eq_true rfl)⟩) (fun u H locs hw_34 hP hD hS hK1 => ?_)
  obtain ⟨o27, o28, o29, o30, o31, o32, o33⟩ := u
  have hw_34 : R_X5_leaveState o1 o2 f_beats o10 o23 o24 o4 o5 o6 o27 o28 o29 o30 o31 o32 o33 := hw_34
  have hP : va_P (dC, dI) vwCl [(a_loopD, .inr (1, [.long f_loopD_kp, .long f_loopD_ki, .long o11])), (a_loopQ, .inr (1, [.long f_loopQ_kp, .long f_loopQ_ki, .long o12])), (a_loopPace, .inr (1, [.long f_loopPace_kp, .long f_loopPace_ki, .long o13])), (a_rules, .inl (ca_rules, 6, .inl fn_rules)), (a_onTimes, .inr (3, [.long o15, .long o16, .long o17, .int o18])), (h0, .inr (4, [.ref a_rules, .ref a_loopD, .ref a_loopQ, .ref a_loopPace, .ref a_motor, .ref a_onTimes, .ref a_asked, .ref a_changes, .int o27, .int o28, .int f_lost, .long o8, .long o9, .long v26, .int f_beats, .int o29])), (a_motor, .inr (2, [.long o21, .long o22, .long o23, .long o30])), (a_changes, .inr (0, [.ref a_changes_rows, .int o31, .int o32])), (a_changes_rows, .inl (ca_changes_rows, 60, .inl o33))] H := hP
  have hD : va_D A [(a_loopD, .inr (1, [.long f_loopD_kp, .long f_loopD_ki, .long o11])), (a_loopQ, .inr (1, [.long f_loopQ_kp, .long f_loopQ_ki, .long o12])), (a_loopPace, .inr (1, [.long f_loopPace_kp, .long f_loopPace_ki, .long o13])), (a_rules, .inl (ca_rules, 6, .inl fn_rules)), (a_onTimes, .inr (3, [.long o15, .long o16, .long o17, .int o18])), (h0, .inr (4, [.ref a_rules, .ref a_loopD, .ref a_loopQ, .ref a_loopPace, .ref a_motor, .ref a_onTimes, .ref a_asked, .ref a_changes, .int o27, .int o28, .int f_lost, .long o8, .long o9, .long v26, .int f_beats, .int o29])), (a_motor, .inr (2, [.long o21, .long o22, .long o23, .long o30])), (a_changes, .inr (0, [.ref a_changes_rows, .int o31, .int o32])), (a_changes_rows, .inl (ca_changes_rows, 60, .inl o33))] := hD
  refine lv_aload_n hx hb dX5_passBeat_89 rfl (lv_at hl 0 rfl) ?_
  refine lv_dup hx hb dX5_passBeat_90 rfl ?_
  refine va_get (D := (dC, dI)) (ci := 4) (v := .int f_beats) (C := RX5) (T := TX5) (N := 16) hx hb hts hinX5 hown hK hP 5 rfl rfl 14 (by decide) hw7 (fun _ h9 => h9) rfl dX5_passBeat_91 ?_
  refine lv_iconst (v := 1) hx hb dX5_passBeat_94 (by decide) ?_
  refine lv_iadd hx hb dX5_passBeat_95 ?_
  refine lv_topi (fun v35 ev35 => ?_)
  refine va_put (D := (dC, dI)) (ci := 4) (v := .int v35) (ty := .int) (C := RX5) (T := TX5) (N := 16) hx hb hts hinX5 tyX5 tyX5_ok nmX5 hown hK hP hD hS 5 rfl rfl 14 (by decide) hw7 (fun _ h9 => h9) rfl (by decide +kernel) rfl rfl (Nat.le_of_ble_eq_true rfl) dX5_passBeat_96 (fun H locs hP hD hS => ?_)
  have hP : va_P (dC, dI) vwCl [(a_loopD, .inr (1, [.long f_loopD_kp, .long f_loopD_ki, .long o11])), (a_loopQ, .inr (1, [.long f_loopQ_kp, .long f_loopQ_ki, .long o12])), (a_loopPace, .inr (1, [.long f_loopPace_kp, .long f_loopPace_ki, .long o13])), (a_rules, .inl (ca_rules, 6, .inl fn_rules)), (a_onTimes, .inr (3, [.long o15, .long o16, .long o17, .int o18])), (h0, .inr (4, [.ref a_rules, .ref a_loopD, .ref a_loopQ, .ref a_loopPace, .ref a_motor, .ref a_onTimes, .ref a_asked, .ref a_changes, .int o27, .int o28, .int f_lost, .long o8, .long o9, .long v26, .int v35, .int o29])), (a_motor, .inr (2, [.long o21, .long o22, .long o23, .long o30])), (a_changes, .inr (0, [.ref a_changes_rows, .int o31, .int o32])), (a_changes_rows, .inl (ca_changes_rows, 60, .inl o33))] H := hP
  have hD : va_D A [(a_loopD, .inr (1, [.long f_loopD_kp, .long f_loopD_ki, .long o11])), (a_loopQ, .inr (1, [.long f_loopQ_kp, .long f_loopQ_ki, .long o12])), (a_loopPace, .inr (1, [.long f_loopPace_kp, .long f_loopPace_ki, .long o13])), (a_rules, .inl (ca_rules, 6, .inl fn_rules)), (a_onTimes, .inr (3, [.long o15, .long o16, .long o17, .int o18])), (h0, .inr (4, [.ref a_rules, .ref a_loopD, .ref a_loopQ, .ref a_loopPace, .ref a_motor, .ref a_onTimes, .ref a_asked, .ref a_changes, .int o27, .int o28, .int f_lost, .long o8, .long o9, .long v26, .int v35, .int o29])), (a_motor, .inr (2, [.long o21, .long o22, .long o23, .long o30])), (a_changes, .inr (0, [.ref a_changes_rows, .int o31, .int o32])), (a_changes_rows, .inl (ca_changes_rows, 60, .inl o33))] := hD
  have hP9 := hP.sub (ws' := [(h0, .inr (4, [.ref a_rules, .ref a_loopD, .ref a_loopQ, .ref a_loopPace, .ref a_motor, .ref a_onTimes, .ref a_asked, .ref a_changes, .int o27, .int o28, .int f_lost, .long o8, .long o9, .long v26, .int v35, .int o29])), (a_rules, .inl (ca_rules, 6, .inl fn_rules)), (a_loopD, .inr (1, [.long f_loopD_kp, .long f_loopD_ki, .long o11])), (a_loopQ, .inr (1, [.long f_loopQ_kp, .long f_loopQ_ki, .long o12])), (a_loopPace, .inr (1, [.long f_loopPace_kp, .long f_loopPace_ki, .long o13])), (a_motor, .inr (2, [.long o21, .long o22, .long o23, .long o30])), (a_onTimes, .inr (3, [.long o15, .long o16, .long o17, .int o18])), (a_changes, .inr (0, [.ref a_changes_rows, .int o31, .int o32])), (a_changes_rows, .inl (ca_changes_rows, 60, .inl o33))]) [5, 3, 0, 1, 2, 6, 4, 7, 8] rfl
  have hD9 := hD.sub (ws' := [(h0, .inr (4, [.ref a_rules, .ref a_loopD, .ref a_loopQ, .ref a_loopPace, .ref a_motor, .ref a_onTimes, .ref a_asked, .ref a_changes, .int o27, .int o28, .int f_lost, .long o8, .long o9, .long v26, .int v35, .int o29])), (a_rules, .inl (ca_rules, 6, .inl fn_rules)), (a_loopD, .inr (1, [.long f_loopD_kp, .long f_loopD_ki, .long o11])), (a_loopQ, .inr (1, [.long f_loopQ_kp, .long f_loopQ_ki, .long o12])), (a_loopPace, .inr (1, [.long f_loopPace_kp, .long f_loopPace_ki, .long o13])), (a_motor, .inr (2, [.long o21, .long o22, .long o23, .long o30])), (a_onTimes, .inr (3, [.long o15, .long o16, .long o17, .int o18])), (a_changes, .inr (0, [.ref a_changes_rows, .int o31, .int o32])), (a_changes_rows, .inl (ca_changes_rows, 60, .inl o33))]) [5, 3, 0, 1, 2, 6, 4, 7, 8] (by decide) rfl
  have hK9 := hK.sub (tys' := [(ca_rules, .int), (ca_changes_rows, .int)]) [0, 1] rfl
  exact W.vret hx hb hr (fun t ht hW => ⟨⟨(o27, o28, o8, o9, v26, v35, o29, o11, o12, o13, o21, o22, o23, o30, o15, o16, o17, o18, o31, o32, o33), rfl, ⟨o1, o2, o3, o4, o5, o6, hw_7, ⟨o8, o9, o10, o11, o12, o13, hw_14, ⟨o15, o16, o17, o18, hw_19, ⟨v20, ev20, ⟨o21, o22, o23, o24, hw_25, ⟨v26, ev26, ⟨o27, o28, o29, o30, o31, o32, o33, hw_34, ⟨v35, ev35, ⟨rfl, rfl, rfl, rfl, rfl, rfl, rfl, rfl, rfl, rfl, rfl, rfl, rfl, rfl, rfl, rfl, rfl, rfl, rfl, rfl, rfl⟩⟩⟩⟩⟩⟩⟩⟩⟩, (by rw [ht]; exact hP9), va_K.moved hW.alike hK9, hD9⟩, hS.F ht⟩) hS.2.2 dX5_passBeat_99
end
