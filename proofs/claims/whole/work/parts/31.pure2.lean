theorem pu_ite {a b x y z : Int64} (e : z = if a < b then x else y) : (a.toInt < b.toInt ∧ z = x) ∨ (¬ a.toInt < b.toInt ∧ z = y) := by
  by_cases q : a < b
  · rw [if_pos q] at e; exact Or.inl ⟨pu_lt.mp q, e⟩
  · rw [if_neg q] at e; exact Or.inr ⟨fun h => q (pu_lt.mpr h), e⟩
theorem pu_imp {a b : Int64} {P Q : Prop} (h : (a ≤ b → P) ∧ (¬ a ≤ b → Q)) : (a.toInt ≤ b.toInt ∧ P) ∨ (¬ a.toInt ≤ b.toInt ∧ Q) := by
  by_cases q : a ≤ b
  · exact Or.inl ⟨pu_le.mp q, h.1 q⟩
  · exact Or.inr ⟨fun h => q (pu_le.mpr h), h.2 q⟩
theorem pu_imlt {a b : Int64} {P Q : Prop} (h : (a < b → P) ∧ (¬ a < b → Q)) : (a.toInt < b.toInt ∧ P) ∨ (¬ a.toInt < b.toInt ∧ Q) := by
  by_cases q : a < b
  · exact Or.inl ⟨pu_lt.mp q, h.1 q⟩
  · exact Or.inr ⟨fun h => q (pu_lt.mpr h), h.2 q⟩
theorem pu_abs {d v r : Int64} (e : v = if 0 < d then d else -d) (h : R_X6_size d r) : v = r := by
  have e0 : (0 : Int64).toInt = 0 := rfl
  rcases pu_ite e with ⟨a, b⟩ | ⟨a, b⟩ <;> rcases pu_imp h with ⟨c, f⟩ | ⟨c, f⟩
  · rw [b, f]
  · omega
  · have : d = 0 := pu_eq (by omega)
    rw [b, f, this]; rfl
  · rw [b, f]
/-- the greatest and the least of three -/
theorem pu_max {u v w a b x : Int64} (e1 : a = if w < v then v else w) (e2 : b = if a < u then u else a) (h : RG_X6_findTimes_32 u v w x) : b = x := by
  apply pu_eq
  rcases pu_imp h with ⟨c, h⟩ | ⟨c, h⟩ <;> rcases pu_imp h with ⟨d, h⟩ | ⟨d, h⟩ <;> rw [h] <;> rcases pu_ite e1 with ⟨f, g⟩ | ⟨f, g⟩ <;> subst g <;> rcases pu_ite e2 with ⟨i, j⟩ | ⟨i, j⟩ <;> rw [j] <;> omega
theorem pu_min {u v w a b x : Int64} (e1 : a = if w < v then w else v) (e2 : b = if a < u then a else u) (h : RG_X6_findTimes_75 u v w x) : b = x := by
  apply pu_eq
  rcases pu_imp h with ⟨c, h⟩ | ⟨c, h⟩ <;> rcases pu_imp h with ⟨d, h⟩ | ⟨d, h⟩ <;> rw [h] <;> rcases pu_ite e1 with ⟨f, g⟩ | ⟨f, g⟩ <;> subst g <;> rcases pu_ite e2 with ⟨i, j⟩ | ⟨i, j⟩ <;> rw [j] <;> omega
/-- one wire's time, kept within 0 and 8192 -/
theorem pu_clip {t a b x : Int64} (e1 : a = if t < 8192 then t else 8192) (e2 : b = if a < 0 then 0 else a) (h : RG_X6_findTimes_228 t x) : b = x ∧ 0 ≤ x.toInt ∧ x.toInt ≤ 8192 := by
  have e0 : (0 : Int64).toInt = 0 := rfl
  have e8 : (8192 : Int64).toInt = 8192 := rfl
  have key : b.toInt = x.toInt ∧ 0 ≤ x.toInt ∧ x.toInt ≤ 8192 := by
    rcases pu_imp h with ⟨c, h⟩ | ⟨c, h⟩
    · rcases pu_imp h with ⟨d, h⟩ | ⟨d, h⟩ <;> subst h <;> rcases pu_ite e1 with ⟨f, g⟩ | ⟨f, g⟩ <;> subst g <;> rcases pu_ite e2 with ⟨i, j⟩ | ⟨i, j⟩ <;> subst j <;> omega
    · subst h
      rcases pu_ite e1 with ⟨f, g⟩ | ⟨f, g⟩ <;> subst g <;> rcases pu_ite e2 with ⟨i, j⟩ | ⟨i, j⟩ <;> subst j <;> omega
  exact ⟨pu_eq key.1, key.2⟩
theorem pu_over {ov x y : Int32} {t : Int64} (hov : ov = 0 ∨ ov = 1) (h : RG_X4_onTime_19 ov t x) (h' : RG_X6_findTimes_191 ov t y) : x = y ∧ (y = 0 ∨ y = 1) := by
  rcases hov with hv | hv
  · have h' := h'.1 hv
    by_cases a : t < 0
    · rw [h.1 a, h'.1 a]; exact ⟨rfl, Or.inr rfl⟩
    · have h := h.2 a; have h' := h'.2 a
      by_cases b : t ≤ 8192
      · rw [h.1 b, h'.1 b, hv]; exact ⟨rfl, Or.inl rfl⟩
      · rw [h.2 b, h'.2 b]; exact ⟨rfl, Or.inr rfl⟩
  · have h' := h'.2 (by rw [hv]; decide)
    rw [h']
    by_cases a : t < 0
    · rw [h.1 a]; exact ⟨rfl, Or.inr rfl⟩
    · have h := h.2 a
      by_cases b : t ≤ 8192
      · rw [h.1 b, hv]; exact ⟨rfl, Or.inr rfl⟩
      · rw [h.2 b]; exact ⟨rfl, Or.inr rfl⟩
theorem pu_over0 {x : Int32} {t : Int64} (h : RG_X6_findTimes_198 t x) : RG_X6_findTimes_191 0 t x := ⟨fun _ => h, fun q => absurd rfl q⟩
theorem pu_3264 {x : Int64} (h0 : 0 ≤ x.toInt) (h1 : x.toInt ≤ 8192) : x = x.toInt32.toInt64 := by
  apply pu_eq
  rw [Int32.toInt_toInt64, Int64.toInt_toInt32, ar_b32 _ (by omega) (by omega)]
theorem pu_onTime {ov o y bu v : Int32} {x r z : Int64} (hb : ¬ bu.toInt64 = 0) (hov : ov = 0 ∨ ov = 1) (h : R_X4_onTime ov x bu.toInt64 r o) (ev : v = z.toInt32) {t : Int64} (et : t = ((x * 8192) / bu.toInt64) + 4096) (ho : RG_X6_findTimes_191 ov t y) (hz : RG_X6_findTimes_228 t z) : r = v.toInt64 ∧ o = y ∧ (y = 0 ∨ y = 1) := by
  obtain ⟨r1, hq, v3, e3, x6, hx, v8, e8, v9, e9, er, eo⟩ := h
  have k : v3 = t := by rw [e3, et, pu_quot hb hq]
  subst k
  have c := pu_clip e8 e9 hz
  have d := pu_over hov hx ho
  refine ⟨?_, by rw [eo]; exact d.1, d.2⟩
  rw [er, ev, c.1]; exact pu_3264 c.2.1 c.2.2
/-- ON-TIMES -/
theorem pu_lead {ru fo fo' : Nat → Int32} {a b u v w : Int64} {ov ov' : Int32} (hr : ¬ ru 0 = 0) (h : R_X4_lead a b (ru 0).toInt64 u v w ov) (h' : R_X6_findTimes ru fo a b ov' fo') : u = (fo' 0).toInt64 ∧ v = (fo' 1).toInt64 ∧ w = (fo' 2).toInt64 ∧ ov = ov' := by
  obtain ⟨v1, e1, v2, e2, v3, e3, v4, e4, v5, e5, v6, e6, v7, e7, r9, o8, h1, r12, o11, h2, r15, o14, h3, eu, ev, ew, eo⟩ := h
  obtain ⟨w1, f1, w2, f2, x6, k6, x11, k11, w13, f13, w16, f16, w17, f17, x21, k21, x25, k25, w27, f27, g28, f28, w32, f32, w33, f33, x37, k37, x41, k41, w43, f43, g44, f44, w48, f48, w49, f49, x53, k53, x57, k57, w59, f59, g60, f60, eo', ef⟩ := h'
  have a1 : v1 = w1 := by rw [e1, f1]
  subst a1
  have a2 : v2 = w2 := by rw [e2, f2]
  subst a2
  have a4 := pu_max e3 e4 k6
  have a6 := pu_min e5 e6 k11
  have a7 : v7 = w13 := by rw [e7, f13, a4, a6]
  subst a7
  subst f16 f32 f48
  have hb := ar_nz (v := ru 0) rfl hr
  have b1 := pu_onTime hb (Or.inl rfl) h1 f27 f17 (pu_over0 k21) k25
  have b2 := pu_onTime hb (by rw [b1.2.1]; exact b1.2.2) h2 f43 f33 (by rw [b1.2.1]; exact k37) k41
  have b3 := pu_onTime hb (by rw [b2.2.1]; exact b2.2.2) h3 f59 f49 (by rw [b2.2.1]; exact k53) k57
  have c0 : fo' 0 = w27 := by rw [ef, f60, pk_un (by decide), f44, pk_un (by decide), f28, pk_us]
  have c1 : fo' 1 = w43 := by rw [ef, f60, pk_un (by decide), f44, pk_us]
  have c2 : fo' 2 = w59 := by rw [ef, f60, pk_us]
  rw [c0, c1, c2, eu, ev, ew, eo, eo']
  exact ⟨b1.1, b2.1, b3.1, b3.2.1⟩
/-- THE MOTOR's step -/
theorem pu_motor {d q pa vD vQ d1 q1 p1 a1 d2 q2 p2 : Int64} {an a2 : Int32} {ru : Nat → Int32} (h : R_X3_step d q pa an.toInt64 vD vQ (ru 2).toInt64 d1 q1 p1 a1) (h' : R_X6_moveOn d q pa an vD vQ ru d2 q2 p2 a2) : d1 = d2 ∧ q1 = q2 ∧ p1 = p2 ∧ a1 = a2.toInt64 ∧ 0 ≤ a2.toInt ∧ a2.toInt < 65536 ∧ -60000 ≤ p2.toInt ∧ p2.toInt ≤ 60000 := by
  obtain ⟨v1, e1, v2, e2, v3, e3, r4, c4, r6, c6, r8, c8, v10, e10, ed, eq, ep, ea⟩ := h
  obtain ⟨w1, f1, w2, f2, w3, f3, w4, f4, s5, k5, s7, k7, s9, k9, w11, f11, fd, fq, fp, fa⟩ := h'
  subst f3
  have b1 : v1 = w1 := by rw [e1, f1]
  have b2 : v2 = w2 := by rw [e2, f2]
  have b3 : v3 = w4 := by rw [e3, f4]
  subst b1 b2 b3
  have h32 : (32000 : Int64).toInt = 32000 := rfl
  have h60 : (60000 : Int64).toInt = 60000 := rfl
  have g1 := pu_clamp (by omega) c4 k5
  have g2 := pu_clamp (by omega) c6 k7
  have g3 := pu_clamp (by omega) c8 k9
  have g4 := pu_clampB (by omega) c8
  subst g1 g2 g3
  have ha : a2.toInt = (an.toInt64 + (r8 >>> 2)).toInt % 65536 := by
    rw [fa, f11, pu_and32, Int64.toInt_toInt32, pu_bm]
  refine ⟨by rw [ed, fd], by rw [eq, fq], by rw [ep, fp], ?_, by omega, by omega, by rw [fp]; omega, by rw [fp]; omega⟩
  apply pu_eq
  rw [ea, e10, pu_and, Int32.toInt_toInt64, ha]
