theorem pu_ring {rows rb rs rf : Nat → Int32} {nx hd ch i w r r' : Int32} (hR : Ring rows nx hd rb rs rf ch) (h : R_X5_ring nx hd rows i w r) (h' : R_X6_ring ch rb rs rf i w r') : r = r' := by
  obtain ⟨a0, a1, a2, a3⟩ := hR
  obtain ⟨r0, ⟨r1, hw, h1, h2⟩, er⟩ := h
  obtain ⟨s1, hi, k1, k2⟩ := h'
  have z := pu_win rfl rfl hw hi
  subst z
  rw [er]
  by_cases q : r1 = 0
  · rw [h1 q, k1 q]
  · obtain ⟨h3, h4⟩ := h2 q
    obtain ⟨x5, hx, r7, hi2, k3, k4⟩ := k2 q
    have hww := ar_within hw q
    have e0 : (0 : Int32).toInt = 0 := rfl
    have e1 : (1 : Int32).toInt = 1 := rfl
    have e2 : (2 : Int32).toInt = 2 := rfl
    have e20 : (20 : Int32).toInt = 20 := rfl
    have hlt := ch.toInt_lt
    have hx5 : x5.toInt = hd.toInt ∧ 0 ≤ hd.toInt ∧ hd.toInt ≤ 20 ∧ hd.toInt ≤ ch.toInt := by
      by_cases c : (20 : Int32) ≤ ch
      · rw [hx.1 c]; rw [Int32.le_iff_toInt_le] at c; omega
      · rw [hx.2 c]; rw [Int32.le_iff_toInt_le] at c; omega
    have hx1 : (x5 - 1).toInt64.toInt = hd.toInt - 1 := by
      rw [Int32.toInt_toInt64, Int32.toInt_sub, e1, ar_b32 _ (by omega) (by omega), hx5.1]
    by_cases c1 : i < 0
    · rw [h3 c1]
      rw [Int32.lt_iff_toInt_lt] at c1
      rcases pu_inN hi2 with ⟨n, n2⟩ | ⟨n, n2, n3⟩
      · rw [k3 n]
      · omega
    · have h4 := h4 c1
      rw [Int32.lt_iff_toInt_lt] at c1
      by_cases c2 : i < hd
      · obtain ⟨r6, hf, v8, e8, e9⟩ := h4.1 c2
        rw [Int32.lt_iff_toInt_lt] at c2
        rcases pu_inN hi2 with ⟨n, n2⟩ | ⟨n, n2, n3⟩
        · omega
        · obtain ⟨v10, e10, k5, k6⟩ := k4 n
          have g1 : ((ch - 1) - i).toInt = ch.toInt - 1 - i.toInt := by
            rw [Int32.toInt_sub, Int32.toInt_sub, e1, ar_b32 (ch.toInt - 1) (by omega) (by omega)]; exact ar_b32 _ (by omega) (by omega)
          have g2 : ((nx - 1) - i).toInt = nx.toInt - 1 - i.toInt := by
            rw [Int32.toInt_sub, Int32.toInt_sub, e1, ar_b32 (nx.toInt - 1) (by omega) (by omega)]; exact ar_b32 _ (by omega) (by omega)
          have g3 := ar_fm hf
          have g4 := ar_fm_lt hf
          have g5 : v10.toInt = (ch.toInt - 1 - i.toInt) % 20 := by rw [e10, pu_rem20 (by omega), g1]
          have g6 : r6.toInt = v10.toInt := by omega
          obtain ⟨m, hm⟩ : ∃ m : Nat, v10.toInt = m := ⟨v10.toInt.toNat, by omega⟩
          have i10 : v10.toNatClampNeg = m := pu_tn hm
          have g7 := ar_3 (v := r6 * 3) g4 rfl
          have g8 : (r6 * 3 + w).toInt = 3 * m + w.toInt := by
            rw [Int32.toInt_add, g7, ar_b32 _ (by omega) (by omega)]; omega
          obtain ⟨b1, b2, b3⟩ := a3 m (by omega)
          rw [e9, e8]
          by_cases d0 : w = 0
          · obtain ⟨v15, e15, f15⟩ := k5 d0
            have : (r6 * 3 + w).toNatClampNeg = 3 * m := pu_tn (by rw [g8, d0]; omega)
            rw [this, b1, f15, e15, i10]
          · have k6 := k6 d0
            by_cases d1 : w = 1
            · obtain ⟨v14, e14, f14⟩ := k6.1 d1
              have : (r6 * 3 + w).toNatClampNeg = 3 * m + 1 := pu_tn (by rw [g8, d1]; omega)
              rw [this, b2, f14, e14, i10]
            · obtain ⟨v13, e13, f13⟩ := k6.2 d1
              have t0 := mw_ne (n := 0) rfl d0
              have t1 := mw_ne (n := 1) rfl d1
              have : (r6 * 3 + w).toNatClampNeg = 3 * m + 2 := pu_tn (by rw [g8]; omega)
              rw [this, b3, f13, e13, i10]
      · rw [h4.2 c2]
        rw [Int32.lt_iff_toInt_lt] at c2
        rcases pu_inN hi2 with ⟨n, n2⟩ | ⟨n, n2, n3⟩
        · rw [k3 n]
        · omega
theorem pu_may {st lo w r x : Int32} {he d q : Int64} {ru : Nat → Int32} (h : R_X5_mayOrder st lo he ru d q w r) (h' : RG_X6_order_21 lo st d q he ru w x) : r = x := by
  by_cases a0 : w = 0
  · have h := h.1 a0; have h' := h'.1 a0
    by_cases c : st = 0
    · rw [h.1 c, h'.1 c]
    · rw [h.2 c, h'.2 c]
  · have h := h.2 a0; have h' := h'.2 a0
    by_cases a1 : w = 1
    · have h := h.1 a1; have h' := h'.1 a1
      by_cases c : st = 2
      · rw [h.1 c, h'.1 c]
      · rw [h.2 c, h'.2 c]
    · have h := h.2 a1; have h' := h'.2 a1
      by_cases a2 : w = 2
      · have h := h.1 a2; have h' := h'.1 a2
        by_cases c : st = 4
        · obtain ⟨r7, hf, k1, k2⟩ := h.1 c
          obtain ⟨r11, hf', k1', k2'⟩ := h'.1 c
          have z := (pu_fault hf hf').1
          subst z
          by_cases b : r7 = 0
          · rw [k1 b, k1' b]
          · rw [k2 b, k2' b]
        · rw [h.2 c, h'.2 c]
      · have h := h.2 a2; have h' := h'.2 a2
        by_cases c1 : st = 1
        · rw [h.1 c1, h'.1 c1]
        · have h := h.2 c1; have h' := h'.2 c1
          by_cases c2 : st = 2
          · rw [h.1 c2, h'.1 c2]
          · have h := h.2 c2; have h' := h'.2 c2
            by_cases c3 : st = 3
            · rw [h.1 c3, h'.1 c3]
            · rw [h.2 c3, h'.2 c3]
theorem pu_next {w x y : Int32} (h : RG_X5_order_30 w x) (h' : RG_X6_order_109 w y) : x = y ∧ (y = 0 ∨ y = 1 ∨ y = 3) := by
  by_cases a0 : w = 0
  · rw [h.1 a0, h'.1 a0]; exact ⟨rfl, Or.inr (Or.inl rfl)⟩
  · have h := h.2 a0; have h' := h'.2 a0
    by_cases a1 : w = 1
    · rw [h.1 a1, h'.1 a1]; exact ⟨rfl, Or.inr (Or.inr rfl)⟩
    · rw [h.2 a1, h'.2 a1]; exact ⟨rfl, Or.inl rfl⟩
theorem pu_order {ru ru' kps kis rows rw1 ot rb rs rf rb2 rs2 rf2 : Nat → Int32} {sums : Nat → Int64} {lo lo' st fa be al ov nx hd st1 fa1 al1 nx1 hd1 st' fa' an' ov' be' al' ch st2 fa2 al2 ch2 x r r' : Int32} {kpD kiD kpQ kiQ kpP kiP vD vQ he sD sQ sP d q pa an u v w d' q' pa' vD' vQ' he' : Int64}
    (hC : RelC ru lo kpD kiD kpQ kiQ kpP kiP ru' lo' kps kis) (hB : RelB st fa vD vQ he be al sD sQ sP d q pa an u v w ov nx hd rows st' fa' d' q' pa' an' ov' vD' vQ' he' be' al' ch sums ot rb rs rf) (hb : ch.toInt < 890000000)
    (h : R_X5_order st fa lo he be al ru d q nx hd rows x r st1 fa1 al1 nx1 hd1 rw1) (h' : R_X6_order lo' st' fa' d' q' he' be' al' ch ru' rb rs rf x r' st2 fa2 al2 ch2 rb2 rs2 rf2) :
    r = r' ∧ RelB st1 fa1 vD vQ he be al1 sD sQ sP d q pa an u v w ov nx1 hd1 rw1 st2 fa2 d' q' pa' an' ov' vD' vQ' he' be' al2 ch2 sums ot rb2 rs2 rf2 ∧ ch2.toInt ≤ ch.toInt + 1 := by
  obtain ⟨c1, c2, -⟩ := hC
  obtain ⟨e1, e2, e3, e4, e5, e6, e7, e8, e9, e10, e11, e12, e13, e14, e15, e16, e17, e18, hR, i1, i2, i3, i4, i5, i6, i7⟩ := hB
  subst c1 c2 e1 e2 e3 e4 e5 e6 e7 e11 e12 e13 e14 e18
  obtain ⟨r1, w1, h1, g1⟩ := h
  obtain ⟨s1, k1, h1', g1'⟩ := h'
  have z := pu_win rfl rfl w1 k1
  subst z
  by_cases q1 : r1 = 0
  · obtain ⟨z0, z1, z2, z3, z4, z5, z6⟩ := h1 q1
    obtain ⟨y0, y1, y2, y3, y4, y5, y6, y7⟩ := h1' q1
    rw [z0, z1, z2, z3, z4, z5, z6, y0, y1, y2, y3, y4, y5, y6, y7]
    exact ⟨rfl, ⟨rfl, rfl, rfl, rfl, rfl, rfl, rfl, e8, e9, e10, rfl, rfl, rfl, rfl, e15, e16, e17, rfl, hR, i1, i2, i3, i4, i5, i6, i7⟩, by omega⟩
  · obtain ⟨r4, hm, h4, g4⟩ := g1 q1
    obtain ⟨x16, hm', h4', g4'⟩ := g1' q1
    have z := pu_may hm hm'
    subst z
    by_cases q4 : r4 = 0
    · obtain ⟨z0, z1, z2, z3, z4, z5, z6⟩ := h4 q4
      obtain ⟨y0, y1, y2, y3, y4, y5, y6, y7⟩ := h4' q4
      rw [z0, z1, z2, z3, z4, z5, z6, y0, y1, y2, y3, y4, y5, y6, y7]
      exact ⟨rfl, ⟨rfl, rfl, rfl, rfl, rfl, rfl, rfl, e8, e9, e10, rfl, rfl, rfl, rfl, e15, e16, e17, rfl, hR, i1, i2, i3, i4, i5, i6, i7⟩, by omega⟩
    · obtain ⟨x9, hn, o1, o2, o3, o4, o5, hc, z0, z1, z2, z3, z4, z5, z6⟩ := g4 q4
      obtain ⟨x21, hn', p1, p2, p3, p4, p5, p6, hc', y0, y1, y2, y3, y4, y5, y6, y7⟩ := g4' q4
      obtain ⟨z, hy⟩ := pu_next hn hn'
      subst z
      have k := pu_change hR (by omega) hc hc'
      rw [z0, z1, z2, z3, z4, z5, z6, y0, y1, y2, y3, y4, y5, y6, y7]
      refine ⟨rfl, ⟨k.2.1, k.2.2.1, rfl, rfl, rfl, rfl, rfl, e8, e9, e10, rfl, rfl, rfl, rfl, e15, e16, e17, rfl, k.1, i1, i2, i3, i4, by decide, by decide, ?_⟩, by omega⟩
      rw [k.2.2.2.1]
      rcases hy with t | t | t <;> rw [t] <;> decide
theorem pu_lose {lo lo' x r r' l1 l2 : Int32} (e : lo = lo') (h : R_X5_lose lo x r l1) (h' : R_X6_lose lo' x r' l2) : r = r' ∧ l1 = l2 := by
  obtain ⟨a, ha, ea, eb⟩ := h
  obtain ⟨b, hb, fa, fb⟩ := h'
  subst e
  refine ⟨?_, by rw [eb, fb]⟩
  rw [ea, fa]
  by_cases q : lo = 0
  · rw [ha.1 q, hb.1 q]
  · rw [ha.2 q, hb.2 q]
theorem pu_g1 {kp ki x : Int64} {w : Int32} {a b y : Int32} (e1 : kp = a.toInt64) (e2 : ki = b.toInt64) (h : RG_X5_gain_62 kp ki w x) (h1 : w = 0 → y = a) (h2 : ¬ w = 0 → y = b) : x.toInt32 = y := by
  by_cases q : w = 0
  · rw [h.1 q, h1 q, e1, pu_6432]
  · rw [h.2 q, h2 q, e2, pu_6432]
theorem pu_gain {ru ru' kps kis kps2 kis2 : Nat → Int32} {lo lo' k w v r r' : Int32} {kpD kiD kpQ kiQ kpP kiP aD bD aQ bQ aP bP : Int64} (hC : RelC ru lo kpD kiD kpQ kiQ kpP kiP ru' lo' kps kis) (h : R_X5_gain kpD kiD kpQ kiQ kpP kiP k w v r aD bD aQ bQ aP bP) (h' : R_X6_gain kps kis k w v r' kps2 kis2) : r = r' ∧ RelC ru lo aD bD aQ bQ aP bP ru' lo' kps2 kis2 := by
  have hC0 := hC
  obtain ⟨c1, c2, cD, cQ, cP, b0⟩ := hC
  obtain ⟨r1, w1, h1, g1⟩ := h
  obtain ⟨s1, k1, h1', g1'⟩ := h'
  have z := pu_win rfl rfl w1 k1
  subst z
  by_cases q1 : r1 = 0
  · obtain ⟨z0, z1, z2, z3, z4, z5, z6⟩ := h1 q1
    obtain ⟨y0, y1, y2⟩ := h1' q1
    rw [z0, z1, z2, z3, z4, z5, z6, y0, y1, y2]; exact ⟨rfl, hC0⟩
  · obtain ⟨r4, w4, h4, g4⟩ := g1 q1
    obtain ⟨s4, k4, h4', g4'⟩ := g1' q1
    have z := pu_win rfl rfl w4 k4
    subst z
    by_cases q4 : r4 = 0
    · obtain ⟨z0, z1, z2, z3, z4, z5, z6⟩ := h4 q4
      obtain ⟨y0, y1, y2⟩ := h4' q4
      rw [z0, z1, z2, z3, z4, z5, z6, y0, y1, y2]; exact ⟨rfl, hC0⟩
    · obtain ⟨r7, w7, h7, g7⟩ := g4 q4
      obtain ⟨s7, k7, h7', g7'⟩ := g4' q4
      have z := pu_win rfl rfl w7 k7
      subst z
      by_cases q7 : r7 = 0
      · obtain ⟨z0, z1, z2, z3, z4, z5, z6⟩ := h7 q7
        obtain ⟨y0, y1, y2⟩ := h7' q7
        rw [z0, z1, z2, z3, z4, z5, z6, y0, y1, y2]; exact ⟨rfl, hC0⟩
      · have g7 := g7 q7
        obtain ⟨x13, hx13, x18, x19, hx18, y0, y1, y2⟩ := g7' q7
        have hk := ar_within w1 q1
        have e0 : (0 : Int32).toInt = 0 := rfl
        have e2 : (2 : Int32).toInt = 2 := rfl
        obtain ⟨n, hn⟩ : ∃ n : Nat, k.toInt = n := ⟨k.toInt.toNat, by omega⟩
        have ik : k.toNatClampNeg = n := pu_tn hn
        have m1 : w = 0 → x13 = kps n := fun q => by obtain ⟨a, ea, eb⟩ := hx13.1 q; rw [eb, ea, ik]
        have m2 : ¬ w = 0 → x13 = kis n := fun q => by obtain ⟨a, ea, eb⟩ := hx13.2 q; rw [eb, ea, ik]
        have m3 : w = 0 → x18 = upd kps n v ∧ x19 = kis := fun q => by obtain ⟨a, ea, eb, ec⟩ := hx18.1 q; rw [eb, ea, ik]; exact ⟨rfl, ec⟩
        have m4 : ¬ w = 0 → x18 = kps ∧ x19 = upd kis n v := fun q => by obtain ⟨a, ea, eb, ec⟩ := hx18.2 q; rw [ec, ea, ik]; exact ⟨eb, rfl⟩
        rw [y0, y1, y2]
        by_cases d0 : k = 0
        · have n0 : n = 0 := by rw [d0] at hn; omega
          subst n0
          obtain ⟨x31, hx31, x36, x37, hx36, z0, z1, z2, z3, z4, z5, z6⟩ := g7.1 d0
          rw [z0, z1, z2, z3, z4, z5, z6]
          refine ⟨pu_g1 cD.1 cD.2 hx31 m1 m2, c1, c2, ?_, ?_, ?_, b0⟩
          all_goals by_cases q : w = 0
          · obtain ⟨a, ea, eb, ec⟩ := hx36.1 q; rw [(m3 q).1, (m3 q).2, eb, ea, ec, pk_us]; exact ⟨rfl, cD.2⟩
          · obtain ⟨a, ea, eb, ec⟩ := hx36.2 q; rw [(m4 q).1, (m4 q).2, eb, ec, ea, pk_us]; exact ⟨cD.1, rfl⟩
          · rw [(m3 q).1, (m3 q).2, pk_un (by decide)]; exact cQ
          · rw [(m4 q).1, (m4 q).2, pk_un (by decide)]; exact cQ
          · rw [(m3 q).1, (m3 q).2, pk_un (by decide)]; exact cP
          · rw [(m4 q).1, (m4 q).2, pk_un (by decide)]; exact cP
        · have g7 := g7.2 d0
          have t0 := mw_ne (n := 0) rfl d0
          by_cases d1 : k = 1
          · have n1 : n = 1 := by
              have e1 : (1 : Int32).toInt = 1 := rfl
              rw [d1] at hn; omega
            subst n1
            obtain ⟨x31, hx31, x36, x37, hx36, z0, z1, z2, z3, z4, z5, z6⟩ := g7.1 d1
            rw [z0, z1, z2, z3, z4, z5, z6]
            refine ⟨pu_g1 cQ.1 cQ.2 hx31 m1 m2, c1, c2, ?_, ?_, ?_, b0⟩
            all_goals by_cases q : w = 0
            · rw [(m3 q).1, (m3 q).2, pk_un (by decide)]; exact cD
            · rw [(m4 q).1, (m4 q).2, pk_un (by decide)]; exact cD
            · obtain ⟨a, ea, eb, ec⟩ := hx36.1 q; rw [(m3 q).1, (m3 q).2, eb, ea, ec, pk_us]; exact ⟨rfl, cQ.2⟩
            · obtain ⟨a, ea, eb, ec⟩ := hx36.2 q; rw [(m4 q).1, (m4 q).2, eb, ec, ea, pk_us]; exact ⟨cQ.1, rfl⟩
            · rw [(m3 q).1, (m3 q).2, pk_un (by decide)]; exact cP
            · rw [(m4 q).1, (m4 q).2, pk_un (by decide)]; exact cP
          · have t1 := mw_ne (n := 1) rfl d1
            have n2 : n = 2 := by omega
            subst n2
            obtain ⟨x31, hx31, x36, x37, hx36, z0, z1, z2, z3, z4, z5, z6⟩ := g7.2 d1
            rw [z0, z1, z2, z3, z4, z5, z6]
            refine ⟨pu_g1 cP.1 cP.2 hx31 m1 m2, c1, c2, ?_, ?_, ?_, b0⟩
            all_goals by_cases q : w = 0
            · rw [(m3 q).1, (m3 q).2, pk_un (by decide)]; exact cD
            · rw [(m4 q).1, (m4 q).2, pk_un (by decide)]; exact cD
            · rw [(m3 q).1, (m3 q).2, pk_un (by decide)]; exact cQ
            · rw [(m4 q).1, (m4 q).2, pk_un (by decide)]; exact cQ
            · obtain ⟨a, ea, eb, ec⟩ := hx36.1 q; rw [(m3 q).1, (m3 q).2, eb, ea, ec, pk_us]; exact ⟨rfl, cP.2⟩
            · obtain ⟨a, ea, eb, ec⟩ := hx36.2 q; rw [(m4 q).1, (m4 q).2, eb, ec, ea, pk_us]; exact ⟨cP.1, rfl⟩
