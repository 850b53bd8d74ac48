/-- a number within its bounds, asked by the class and by the reference -/
theorem pu_win {x lo hi r r' : Int32} {lo' hi' : Int64} (e1 : lo.toInt = lo'.toInt) (e2 : hi.toInt = hi'.toInt) (h : R_X5_within x lo hi r) (h' : R_X6_in x.toInt64 lo' hi' r') : r = r' := by
  by_cases a : x < lo
  · have a' : x.toInt64 < lo' := by rw [pu_lt, Int32.toInt_toInt64]; rw [Int32.lt_iff_toInt_lt] at a; omega
    rw [h.1 a, h'.1 a']
  · have a' : ¬ x.toInt64 < lo' := by rw [pu_lt, Int32.toInt_toInt64]; rw [Int32.lt_iff_toInt_lt] at a; omega
    by_cases b : hi < x
    · have b' : hi' < x.toInt64 := by rw [pu_lt, Int32.toInt_toInt64]; rw [Int32.lt_iff_toInt_lt] at b; omega
      rw [(h.2 a).1 b, (h'.2 a').1 b']
    · have b' : ¬ hi' < x.toInt64 := by rw [pu_lt, Int32.toInt_toInt64]; rw [Int32.lt_iff_toInt_lt] at b; omega
      rw [(h.2 a).2 b, (h'.2 a').2 b']
theorem pu_ang {x r r' : Int32} (h : R_X5_isAngle x r) (h' : R_X6_isAngle x r') : r = r' ∧ (¬ r' = 0 → 0 ≤ x.toInt ∧ x.toInt < 65536) := by
  obtain ⟨a, ha, ea⟩ := h
  obtain ⟨b, hb, eb⟩ := h'
  have k := pu_win rfl rfl ha hb
  refine ⟨by rw [ea, eb, k], fun q => ?_⟩
  have z := ar_within ha (by rw [k, ← eb]; exact q)
  have e0 : (0 : Int32).toInt = 0 := rfl
  have e1 : (65535 : Int32).toInt = 65535 := rfl
  omega
theorem pu_sine_m {x r r' : Int32} (h : R_X5_sine x r) (h' : R_X6_sine x r') : r = r' := by
  obtain ⟨a, ha, h1, h2⟩ := h
  obtain ⟨b, hb, h1', h2'⟩ := h'
  obtain ⟨k, hk⟩ := pu_ang ha hb
  subst k
  by_cases q : a = 0
  · rw [h1 q, h1' q]
  · obtain ⟨c, hc, ec⟩ := h2 q
    obtain ⟨d, hd, ed⟩ := h2' q
    have z := hk q
    rw [ec, ed, pu_sine1 z.1 z.2 (Int32.toInt_toInt64 x) hc hd]
/-- a vector's two numbers: the class asks both at once -/
theorem pu_vec {x y r a b : Int32} (h : R_X5_isVector x y r) (ha : R_X6_isCurrent x a) : (r = 0 ∧ (a = 0 ∨ ∀ b, R_X6_isCurrent y b → b = 0)) ∨ (¬ r = 0 ∧ ¬ a = 0 ∧ ∀ b, R_X6_isCurrent y b → ¬ b = 0) := by
  obtain ⟨r1, h1, h2, h3⟩ := h
  obtain ⟨a1, k1, e1⟩ := ha
  have z := pu_win rfl rfl h1 k1
  by_cases q : r1 = 0
  · exact Or.inl ⟨h2 q, Or.inl (by rw [e1, ← z, q])⟩
  · obtain ⟨r4, h4, h5, h6⟩ := h3 q
    have hy : ∀ b, R_X6_isCurrent y b → b = r4 := by
      intro b hb
      obtain ⟨b1, k2, e2⟩ := hb
      rw [e2]; exact (pu_win rfl rfl h4 k2).symm
    by_cases q2 : r4 = 0
    · exact Or.inl ⟨h5 q2, Or.inr fun b hb => by rw [hy b hb, q2]⟩
    · exact Or.inr ⟨by rw [h6 q2]; decide, by rw [e1, ← z]; exact q, fun b hb => by rw [hy b hb]; exact q2⟩
theorem pu_inN {x r : Int32} {hi : Int64} (h : R_X6_in x.toInt64 0 hi r) : (r = 0 ∧ (x.toInt < 0 ∨ hi.toInt < x.toInt)) ∨ (¬ r = 0 ∧ 0 ≤ x.toInt ∧ x.toInt ≤ hi.toInt) := by
  have e0 : (0 : Int64).toInt = 0 := rfl
  by_cases q : r = 0
  · refine Or.inl ⟨q, ?_⟩
    apply Classical.byContradiction
    intro n
    have a : (0 : Int64) ≤ x.toInt64 := by rw [pu_le, Int32.toInt_toInt64]; omega
    have b : x.toInt64 ≤ hi := by rw [pu_le, Int32.toInt_toInt64]; omega
    exact pu_in1 h a b q
  · have z := ar_inl h q
    rw [Int32.toInt_toInt64] at z
    exact Or.inr ⟨q, by omega, by omega⟩
theorem pu_isk {x : Int32} {n : Int} (k : Int32) (hk : k.toInt = n) (h : x.toInt = n) : x = k := pu_eq32 (by omega)
theorem pu_nek {x k : Int32} {n : Int} (hk : k.toInt = n) (h : x.toInt ≠ n) : ¬ x = k := fun q => h (by rw [q]; exact hk)
theorem pu_turned {a b an w r r' : Int32} (h : R_X5_turned a b an w r) (h' : R_X6_turned a b an w r') : r = r' := by
  obtain ⟨r1, hv, h1, h2⟩ := h
  obtain ⟨s1, hc, k1, k2⟩ := h'
  rcases pu_vec (b := 0) hv hc with ⟨q, q2⟩ | ⟨q, q2, q3⟩
  · rw [h1 q]
    by_cases c : s1 = 0
    · rw [k1 c]
    · obtain ⟨s4, hc2, k3, k4⟩ := k2 c
      rcases q2 with q2 | q2
      · exact absurd q2 c
      · rw [k3 (q2 s4 hc2)]
  · obtain ⟨r4, ha, h3, h4⟩ := h2 q
    obtain ⟨s4, hc2, k3, k4⟩ := k2 q2
    obtain ⟨s7, ha', k5, k6⟩ := k4 (q3 s4 hc2)
    obtain ⟨e, hk⟩ := pu_ang ha ha'
    subst e
    by_cases c : r4 = 0
    · rw [h3 c, k5 c]
    · obtain ⟨r7, hb, h5, h6⟩ := h4 c
      obtain ⟨s10, hi, k7, k8⟩ := k6 c
      have z := hk c
      have e3 : (3 : Int64).toInt = 3 := rfl
      rcases pu_inN hi with ⟨n, n2⟩ | ⟨n, n2, n3⟩
      · rw [k7 n]
        have d0 : ¬ w = 0 := pu_nek (n := 0) rfl (by omega)
        have d1 : ¬ w = 1 := pu_nek (n := 1) rfl (by omega)
        have d2 : ¬ w = 2 := pu_nek (n := 2) rfl (by omega)
        have d3 : ¬ w = 3 := pu_nek (n := 3) rfl (by omega)
        exact (((h6 d0).2 d1).2 d2).2 d3
      · obtain ⟨v13, e13, v14, e14, s15, hc15, s17, hs17, v19, e19, s20, hc20, s22, hs22, v24, e24, x28, hx, er⟩ := k8 n
        have eb : r7 = v14 := by rw [e14]; exact hb
        subst eb e13
        rw [er]
        by_cases d0 : w = 0
        · rw [h5 d0, hx.1 d0]
          apply pu_eq32
          have := a.le_toInt
          have := a.toInt_lt
          rw [Int64.toInt_toInt32, Int32.toInt_toInt64, ar_b32 _ (by omega) (by omega)]
        · have h6 := h6 d0
          have hx := hx.2 d0
          by_cases d1 : w = 1
          · rw [h6.1 d1, hx.1 d1]
          · have h6 := h6.2 d1
            have hx := hx.2 d1
            by_cases d2 : w = 2
            · obtain ⟨r13, hd, e1⟩ := h6.1 d2
              obtain ⟨c1, hcc, c2, hcs, ec⟩ := hd
              rw [hx.1 d2, e1, ec, e19, pu_cosine z.1 z.2 (Int32.toInt_toInt64 an) hcc hc15, pu_sine1 z.1 z.2 (Int32.toInt_toInt64 an) hcs hs17]
            · have h6 := h6.2 d2
              have d3 : w = 3 := by
                have t0 := mw_ne (n := 0) rfl d0
                have t1 := mw_ne (n := 1) rfl d1
                have t2 := mw_ne (n := 2) rfl d2
                exact pu_isk (n := 3) 3 rfl (by omega)
              obtain ⟨r15, hq, e1⟩ := h6.1 d3
              obtain ⟨c1, hcc, c2, hcs, ec⟩ := hq
              rw [hx.2 d2, e1, ec, e24, pu_cosine z.1 z.2 (Int32.toInt_toInt64 an) hcc hc20, pu_sine1 z.1 z.2 (Int32.toInt_toInt64 an) hcs hs22]
theorem pu_back {a b an w r r' : Int32} (h : R_X5_back a b an w r) (h' : R_X6_back a b an w r') : r = r' := by
  obtain ⟨r1, hv, h1, h2⟩ := h
  obtain ⟨s1, hc, k1, k2⟩ := h'
  rcases pu_vec (b := 0) hv hc with ⟨q, q2⟩ | ⟨q, q2, q3⟩
  · rw [h1 q]
    by_cases c : s1 = 0
    · rw [k1 c]
    · obtain ⟨s4, hc2, k3, k4⟩ := k2 c
      rcases q2 with q2 | q2
      · exact absurd q2 c
      · rw [k3 (q2 s4 hc2)]
  · obtain ⟨r4, ha, h3, h4⟩ := h2 q
    obtain ⟨s4, hc2, k3, k4⟩ := k2 q2
    obtain ⟨s7, ha', k5, k6⟩ := k4 (q3 s4 hc2)
    obtain ⟨e, hk⟩ := pu_ang ha ha'
    subst e
    by_cases c : r4 = 0
    · rw [h3 c, k5 c]
    · obtain ⟨h5, h6⟩ := h4 c
      obtain ⟨s10, hi, k7, k8⟩ := k6 c
      have z := hk c
      have e1 : (1 : Int64).toInt = 1 := rfl
      rcases pu_inN hi with ⟨n, n2⟩ | ⟨n, n2, n3⟩
      · rw [k7 n]
        have d0 : ¬ w = 0 := pu_nek (n := 0) rfl (by omega)
        have d1 : ¬ w = 1 := pu_nek (n := 1) rfl (by omega)
        exact (h6 d0).2 d1
      · obtain ⟨x18, hx, er⟩ := k8 n
        rw [er]
        by_cases d0 : w = 0
        · obtain ⟨r9, hal, e9⟩ := h5 d0
          obtain ⟨r16, hal', e16⟩ := hx.1 d0
          rw [e9, e16, pu_alpha z.1 z.2 (Int32.toInt_toInt64 an) hal hal']
        · have d1 : w = 1 := by
            have t0 := mw_ne (n := 0) rfl d0
            exact pu_isk (n := 1) 1 rfl (by omega)
          obtain ⟨r11, hbe, e11⟩ := (h6 d0).1 d1
          obtain ⟨r14, hbe', e14⟩ := hx.2 d0
          rw [e11, e14, pu_beta z.1 z.2 (Int32.toInt_toInt64 an) hbe hbe']
theorem pu_6432 (x : Int32) : x.toInt64.toInt32 = x := by
  apply pu_eq32
  have := x.le_toInt
  have := x.toInt_lt
  rw [Int64.toInt_toInt32, Int32.toInt_toInt64, ar_b32 _ (by omega) (by omega)]
theorem pu_times {ru fo fo2 : Nat → Int32} {a b w r r' fov fov2 ao ao2 : Int32} {au av aw u2 v2 w2 : Int64} (hr : ¬ ru 0 = 0) (h : R_X5_times ru au av aw ao a b w r u2 v2 w2 ao2) (h' : R_X6_times fov ru fo a b w r' fov2 fo2) : r = r' := by
  obtain ⟨r1, hv, h1, h2⟩ := h
  obtain ⟨s1, hc, k1, k2⟩ := h'
  rcases pu_vec (b := 0) hv hc with ⟨q, q2⟩ | ⟨q, q2, q3⟩
  · rw [(h1 q).1]
    by_cases c : s1 = 0
    · rw [(k1 c).1]
    · obtain ⟨s4, hc2, k3, k4⟩ := k2 c
      rcases q2 with q2 | q2
      · exact absurd q2 c
      · rw [(k3 (q2 s4 hc2)).1]
  · obtain ⟨v4, e4, o5, o6, o7, o8, hl, h5, h6⟩ := h2 q
    subst e4
    obtain ⟨s4, hc2, k3, k4⟩ := k2 q2
    obtain ⟨s7, hi, k5, k6⟩ := k4 (q3 s4 hc2)
    have e3 : (3 : Int64).toInt = 3 := rfl
    rcases pu_inN hi with ⟨n, n2⟩ | ⟨n, n2, n3⟩
    · rw [(k5 n).1]
      have d0 : ¬ w = 0 := pu_nek (n := 0) rfl (by omega)
      have d1 : ¬ w = 1 := pu_nek (n := 1) rfl (by omega)
      have d2 : ¬ w = 2 := pu_nek (n := 2) rfl (by omega)
      have d3 : ¬ w = 3 := pu_nek (n := 3) rfl (by omega)
      exact ((((h6 d0).2 d1).2 d2).2 d3).1
    · obtain ⟨o10, o11, hf, k7, k8⟩ := k6 n
      have z := pu_lead hr hl hf
      have f3 : (3 : Int32).toInt = 3 := rfl
      by_cases d0 : w = 0
      · obtain ⟨v15, e15, er, -⟩ := k8 (by rw [d0]; decide)
        rw [(h5 d0).1, z.1, pu_6432, er, e15, d0]; rfl
      · have h6 := h6 d0
        by_cases d1 : w = 1
        · obtain ⟨v15, e15, er, -⟩ := k8 (by rw [d1]; decide)
          rw [(h6.1 d1).1, z.2.1, pu_6432, er, e15, d1]; rfl
        · have h6 := h6.2 d1
          by_cases d2 : w = 2
          · obtain ⟨v15, e15, er, -⟩ := k8 (by rw [d2]; decide)
            rw [(h6.1 d2).1, z.2.2.1, pu_6432, er, e15, d2]; rfl
          · have h6 := h6.2 d2
            have d3 : w = 3 := by
              have t0 := mw_ne (n := 0) rfl d0
              have t1 := mw_ne (n := 1) rfl d1
              have t2 := mw_ne (n := 2) rfl d2
              exact pu_isk (n := 3) 3 rfl (by omega)
            have h6 := h6.1 d3
            have k7 := k7 (by rw [d3]; decide)
            rw [z.2.2.2] at h6
            by_cases c : o10 = 0
            · rw [(h6.1 c).1, (k7.1 c).1]
            · rw [(h6.2 c).1, (k7.2 c).1]
/-- a step of a LOOP of its own -/
theorem pu_loop {a b c d e w r r' : Int32} {bh bh2 : Int64} (h : R_X5_loop a b c d e w r) (h' : R_X6_loop bh a b c d e w r' bh2) : r = r' := by
  obtain ⟨r1, w1, h1, g1⟩ := h
  obtain ⟨s1, i1, x13, hx, k1, k2⟩ := h'
  have z1 := pu_win rfl rfl w1 i1
  subst z1
  by_cases q1 : r1 = 0
  · rw [h1 q1, (k1 (hx.1 q1)).1]
  · obtain ⟨r4, w4, h4, g4⟩ := g1 q1
    obtain ⟨s4, i4, j4, l4⟩ := hx.2 q1
    have z4 := pu_win rfl rfl w4 i4
    subst z4
    by_cases q4 : r4 = 0
    · rw [h4 q4, (k1 (j4 q4)).1]
    · obtain ⟨r7, w7, h7, g7⟩ := g4 q4
      obtain ⟨s7, i7, j7, l7⟩ := l4 q4
      have z7 := pu_win rfl rfl w7 i7
      subst z7
      by_cases q7 : r7 = 0
      · rw [h7 q7, (k1 (j7 q7)).1]
      · obtain ⟨r10, w10, h10, g10⟩ := g7 q7
        obtain ⟨s10, i10, j10, l10⟩ := l7 q7
        have z10 := pu_win rfl rfl w10 i10
        subst z10
        by_cases q10 : r10 = 0
        · rw [h10 q10, (k1 (j10 q10)).1]
        · have hx1 : ¬ x13 = 0 := by rw [l10 q10]; decide
          obtain ⟨r13, w13, h13, g13⟩ := g10 q10
          obtain ⟨s16, i16, j16, l16⟩ := k2 hx1
          have z13 := pu_win rfl rfl w13 i16
          subst z13
          by_cases q13 : r13 = 0
          · rw [h13 q13, (j16 q13).1]
          · obtain ⟨r16, w16, h16, g16⟩ := g13 q13
            obtain ⟨s19, i19, j19, l19⟩ := l16 q13
            have z16 := pu_win rfl rfl w16 i19
            subst z16
            by_cases q16 : r16 = 0
            · rw [h16 q16, (j19 q16).1]
            · obtain ⟨r19, hfr, x26, hg, er⟩ := g16 q16
              obtain ⟨r23, o22, hs, y26, hg', er', -⟩ := l19 q16
              have hl : 0 ≤ (c.toInt64).toInt := by
                have t := ar_within w7 q7
                have e0 : (0 : Int32).toInt = 0 := rfl
                rw [Int32.toInt_toInt64]; omega
              rw [er, er']
              by_cases d0 : w = 0
              · obtain ⟨r24, hc, ex⟩ := hg.1 d0
                obtain ⟨v1, ev, r2, hi, x11, hgg, x14, hb, r16', hc', es, eu⟩ := hs
                have hf : r19 = v1 := by rw [ev]; exact hfr
                subst hf
                rw [ex, hg'.1 d0, es, pu_clamp hl hc hc']
              · obtain ⟨r22, hsb, ex⟩ := hg.2 d0
                have st : ∃ cc : Int64, R_X5_clamp r19 c.toInt64 cc := ⟨_, _, rfl, _, rfl, rfl⟩
                obtain ⟨cc, hcc⟩ := st
                have zz := pu_step hl (r := cc) (u := r22) ⟨r19, hfr, r22, hsb, cc, hcc, rfl, rfl⟩ hs
                rw [ex, hg'.2 d0, zz.2]
theorem pu_told {st fa be al ov nx hd st' fa' an' ov' be' al' ch x r r' : Int32} {vD vQ he sD sQ sP d q pa an u v w d' q' pa' vD' vQ' he' : Int64} {rows ot rb rs rf : Nat → Int32} {sums : Nat → Int64}
    (hB : RelB st fa vD vQ he be al sD sQ sP d q pa an u v w ov nx hd rows st' fa' d' q' pa' an' ov' vD' vQ' he' be' al' ch sums ot rb rs rf)
    (h : R_X5_told st fa vD vQ he be al sD sQ sP d q pa an u v w ov x r) (h' : R_X6_told st' fa' d' q' pa' an' ov' vD' vQ' he' be' al' sums ot x r') : r = r' := by
  obtain ⟨e1, e2, e3, e4, e5, e6, e7, e8, e9, e10, e11, e12, e13, e14, e15, e16, e17, e18, -⟩ := hB
  by_cases c0 : x = 0
  · rw [h.1 c0, h'.1 c0, e1]
  have h := h.2 c0
  have h' := h'.2 c0
  by_cases c1 : x = 1
  · rw [h.1 c1, h'.1 c1, e2]
  have h := h.2 c1
  have h' := h'.2 c1
  by_cases c2 : x = 2
  · rw [h.1 c2, h'.1 c2, e11]
  have h := h.2 c2
  have h' := h'.2 c2
  by_cases c3 : x = 3
  · rw [h.1 c3, h'.1 c3, e12]
  have h := h.2 c3
  have h' := h'.2 c3
  by_cases c4 : x = 4
  · rw [h.1 c4, h'.1 c4, e13]
  have h := h.2 c4
  have h' := h'.2 c4
  by_cases c5 : x = 5
  · rw [h.1 c5, h'.1 c5, e14, pu_6432]
  have h := h.2 c5
  have h' := h'.2 c5
  by_cases c6 : x = 6
  · obtain ⟨z, ez, er⟩ := h'.1 c6
    rw [h.1 c6, er, ez, e15, pu_6432]
  have h := h.2 c6
  have h' := h'.2 c6
  by_cases c7 : x = 7
  · obtain ⟨z, ez, er⟩ := h'.1 c7
    rw [h.1 c7, er, ez, e16, pu_6432]
  have h := h.2 c7
  have h' := h'.2 c7
  by_cases c8 : x = 8
  · obtain ⟨z, ez, er⟩ := h'.1 c8
    rw [h.1 c8, er, ez, e17, pu_6432]
  have h := h.2 c8
  have h' := h'.2 c8
  by_cases c9 : x = 9
  · rw [h.1 c9, h'.1 c9, e3]
  have h := h.2 c9
  have h' := h'.2 c9
  by_cases c10 : x = 10
  · rw [h.1 c10, h'.1 c10, e4]
  have h := h.2 c10
  have h' := h'.2 c10
  by_cases c11 : x = 11
  · rw [h.1 c11, h'.1 c11, e5]
  have h := h.2 c11
  have h' := h'.2 c11
  by_cases c12 : x = 12
  · rw [h.1 c12, h'.1 c12, e6]
  have h := h.2 c12
  have h' := h'.2 c12
  by_cases c13 : x = 13
  · have h := h.1 c13
    have h' := h'.1 c13
    rw [e18] at h
    by_cases q : ov' = 0
    · rw [h.1 q, h'.1 q]
    · rw [h.2 q, h'.2 q]
  have h := h.2 c13
  have h' := h'.2 c13
  by_cases c14 : x = 14
  · obtain ⟨z, ez, er⟩ := h'.1 c14
    rw [h.1 c14, er, ez, e8]
  have h := h.2 c14
  have h' := h'.2 c14
  by_cases c15 : x = 15
  · obtain ⟨z, ez, er⟩ := h'.1 c15
    rw [h.1 c15, er, ez, e9]
  have h := h.2 c15
  have h' := h'.2 c15
  by_cases c16 : x = 16
  · obtain ⟨z, ez, er⟩ := h'.1 c16
    rw [h.1 c16, er, ez, e10]
  have h := h.2 c16
  have h' := h'.2 c16
  by_cases c17 : x = 17
  · rw [h.1 c17, h'.1 c17, e7]
  have h := h.2 c17
  have h' := h'.2 c17
  rw [h, h']
theorem pu_digest {st fa be al ov nx hd st' fa' an' ov' be' al' ch r r' : Int32} {vD vQ he sD sQ sP d q pa an u v w d' q' pa' vD' vQ' he' : Int64} {rows ot rb rs rf : Nat → Int32} {sums : Nat → Int64}
    (hB : RelB st fa vD vQ he be al sD sQ sP d q pa an u v w ov nx hd rows st' fa' d' q' pa' an' ov' vD' vQ' he' be' al' ch sums ot rb rs rf)
    (h : R_X5_digest st fa vD vQ he be al sD sQ sP d q pa an u v w ov r) (h' : R_X6_digest st' fa' d' q' pa' an' ov' vD' vQ' he' be' al' sums ot r') : r = r' := by
  obtain ⟨a0, ha0, a1, ha1, a2, ha2, a3, ha3, a4, ha4, a5, ha5, a6, ha6, a7, ha7, a8, ha8, a9, ha9, a10, ha10, a11, ha11, a12, ha12, a13, ha13, a14, ha14, a15, ha15, a16, ha16, a17, ha17, a18, ha18, a19, ha19, a20, ha20, a21, ha21, a22, ha22, a23, ha23, a24, ha24, a25, ha25, a26, ha26, a27, ha27, a28, ha28, a29, ha29, a30, ha30, a31, ha31, a32, ha32, a33, ha33, a34, ha34, a35, ha35, er⟩ := h
  obtain ⟨b0, hb0, b1, hb1, b2, hb2, b3, hb3, b4, hb4, b5, hb5, b6, hb6, b7, hb7, b8, hb8, b9, hb9, b10, hb10, b11, hb11, b12, hb12, b13, hb13, b14, hb14, b15, hb15, b16, hb16, b17, hb17, b18, hb18, b19, hb19, b20, hb20, b21, hb21, b22, hb22, b23, hb23, b24, hb24, b25, hb25, b26, hb26, b27, hb27, b28, hb28, b29, hb29, b30, hb30, b31, hb31, b32, hb32, b33, hb33, b34, hb34, b35, hb35, er'⟩ := h'
  have t0 : a0 = b0 := pu_told hB ha0 hb0
  have s0 : a1 = b1 := by rw [ha1, hb1, t0]
  have t1 : a2 = b2 := pu_told hB ha2 hb2
  have s1 : a3 = b3 := by rw [ha3, hb3, t1, s0]
  have t2 : a4 = b4 := pu_told hB ha4 hb4
  have s2 : a5 = b5 := by rw [ha5, hb5, t2, s1]
  have t3 : a6 = b6 := pu_told hB ha6 hb6
  have s3 : a7 = b7 := by rw [ha7, hb7, t3, s2]
  have t4 : a8 = b8 := pu_told hB ha8 hb8
  have s4 : a9 = b9 := by rw [ha9, hb9, t4, s3]
  have t5 : a10 = b10 := pu_told hB ha10 hb10
  have s5 : a11 = b11 := by rw [ha11, hb11, t5, s4]
  have t6 : a12 = b12 := pu_told hB ha12 hb12
  have s6 : a13 = b13 := by rw [ha13, hb13, t6, s5]
  have t7 : a14 = b14 := pu_told hB ha14 hb14
  have s7 : a15 = b15 := by rw [ha15, hb15, t7, s6]
  have t8 : a16 = b16 := pu_told hB ha16 hb16
  have s8 : a17 = b17 := by rw [ha17, hb17, t8, s7]
  have t9 : a18 = b18 := pu_told hB ha18 hb18
  have s9 : a19 = b19 := by rw [ha19, hb19, t9, s8]
  have t10 : a20 = b20 := pu_told hB ha20 hb20
  have s10 : a21 = b21 := by rw [ha21, hb21, t10, s9]
  have t11 : a22 = b22 := pu_told hB ha22 hb22
  have s11 : a23 = b23 := by rw [ha23, hb23, t11, s10]
  have t12 : a24 = b24 := pu_told hB ha24 hb24
  have s12 : a25 = b25 := by rw [ha25, hb25, t12, s11]
  have t13 : a26 = b26 := pu_told hB ha26 hb26
  have s13 : a27 = b27 := by rw [ha27, hb27, t13, s12]
  have t14 : a28 = b28 := pu_told hB ha28 hb28
  have s14 : a29 = b29 := by rw [ha29, hb29, t14, s13]
  have t15 : a30 = b30 := pu_told hB ha30 hb30
  have s15 : a31 = b31 := by rw [ha31, hb31, t15, s14]
  have t16 : a32 = b32 := pu_told hB ha32 hb32
  have s16 : a33 = b33 := by rw [ha33, hb33, t16, s15]
  have t17 : a34 = b34 := pu_told hB ha34 hb34
  have s17 : a35 = b35 := by rw [ha35, hb35, t17, s16]
  rw [er, er', s17]
