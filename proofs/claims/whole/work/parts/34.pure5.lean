/-- a beat's last part: leaving a state -/
theorem pu_leave {st fa be al2 nx hd s1 f1 a1 n1 h1 x17 x18 x106 x107 x108 x109 x110 an : Int32} {pa ang : Int64} {rows rw1 x12 x13 x14 x103 x104 x105 : Nat → Int32} (hst : st = 0 ∨ st = 1 ∨ st = 2 ∨ st = 3 ∨ st = 4) (hal : 0 ≤ x17.toInt ∧ x17.toInt < 64) (ha1 : st = 1 → al2 = x17 + 1) (ha2 : ¬ st = 1 → al2 = x17) (hR : Ring rows nx hd x12 x13 x14 x18) (hb : x18.toInt < 900000000) (han : 0 ≤ an.toInt ∧ an.toInt < 65536)
    (h : R_X5_leaveState st fa be al2 pa an.toInt64 nx hd rows s1 f1 a1 ang n1 h1 rw1) (h' : RG_X6_oneBeat_282 be x12 x13 x14 st fa x17 x18 pa an x103 x104 x105 x106 x107 x108 x109 x110) :
    s1 = x106 ∧ f1 = x107 ∧ a1 = x109 ∧ ang = x108.toInt64 ∧ Ring rw1 n1 h1 x103 x104 x105 x110 ∧ x110.toInt ≤ x18.toInt + 1 ∧ (0 ≤ x109.toInt ∧ x109.toInt < 64) ∧ (0 ≤ x108.toInt ∧ x108.toInt < 65536) ∧ (x106 = 0 ∨ x106 = 1 ∨ x106 = 2 ∨ x106 = 3 ∨ x106 = 4) := by
  have e0 : (0 : Int32).toInt = 0 := rfl
  have e64 : (64 : Int32).toInt = 64 := rfl
  by_cases q1 : st = 1
  · have hA := h.1 q1
    obtain ⟨v94, e94, hB⟩ := h'.1 q1
    have ea := ha1 q1
    have k94 : v94.toInt = x17.toInt + 1 := by rw [e94]; exact ar_addk 1 1 rfl rfl (by omega) (by omega)
    have ev : al2 = v94 := by rw [ea, e94]
    subst ev
    by_cases c : al2 < 64
    · have c' : ¬ al2 = 64 := by intro z; rw [Int32.lt_iff_toInt_lt, z] at c; omega
      obtain ⟨z1, z2, z3, z4, z5, z6, z7⟩ := (hA.1 c).2 (by rw [q1]; decide)
      obtain ⟨y1, y2, y3, y4, y5, y6, y7, y8⟩ := hB.2 c'
      rw [Int32.lt_iff_toInt_lt] at c
      rw [z1, z2, z3, z4, z5, z6, z7, y1, y2, y3, y4, y5, y6, y7, y8]
      exact ⟨rfl, rfl, rfl, rfl, hR, by omega, ⟨by omega, by omega⟩, han, hst⟩
    · have c' : al2 = 64 := by
        apply pu_eq32; rw [Int32.lt_iff_toInt_lt] at c; omega
      obtain ⟨o1, o2, o3, o4, o5, hc, z1, z2, z3, z4, z5, z6, z7⟩ := hA.2 c
      obtain ⟨p1, p2, p3, p4, p5, p6, hc', y1, y2, y3, y4, y5, y6, y7, y8⟩ := hB.1 c'
      have k := pu_change hR hb hc hc'
      rw [z1, z2, z3, z4, z5, z6, z7, y1, y2, y3, y4, y5, y6, y7, y8]
      exact ⟨k.2.1, k.2.2.1, rfl, rfl, k.1, by omega, ⟨by decide, by decide⟩, ⟨by decide, by decide⟩, Or.inr (Or.inr (Or.inl k.2.2.2.1))⟩
  · have hA := h.2 q1
    have hB := h'.2 q1
    have ea := ha2 q1
    subst ea
    by_cases q3 : st = 3
    · obtain ⟨v3, e3, hC, hD⟩ := hA.1 q3
      obtain ⟨r84, hs, hC', hD'⟩ := hB.1 q3
      have k := pu_abs e3 hs
      subst k
      by_cases c : (64 : Int64) ≤ v3
      · obtain ⟨z1, z2, z3, z4, z5, z6, z7⟩ := hC c
        obtain ⟨y1, y2, y3, y4, y5, y6, y7, y8⟩ := hC' c
        rw [z1, z2, z3, z4, z5, z6, z7, y1, y2, y3, y4, y5, y6, y7, y8]
        exact ⟨rfl, rfl, rfl, rfl, hR, by omega, hal, han, hst⟩
      · obtain ⟨o1, o2, o3, o4, o5, hc, z1, z2, z3, z4, z5, z6, z7⟩ := hD c
        obtain ⟨p1, p2, p3, p4, p5, p6, hc', y1, y2, y3, y4, y5, y6, y7, y8⟩ := hD' c
        have k := pu_change hR hb hc hc'
        rw [z1, z2, z3, z4, z5, z6, z7, y1, y2, y3, y4, y5, y6, y7, y8]
        exact ⟨k.2.1, k.2.2.1, rfl, rfl, k.1, by omega, ⟨by decide, by decide⟩, han, Or.inl k.2.2.2.1⟩
    · obtain ⟨z1, z2, z3, z4, z5, z6, z7⟩ := hA.2 q3
      obtain ⟨y1, y2, y3, y4, y5, y6, y7, y8⟩ := hB.2 q3
      rw [z1, z2, z3, z4, z5, z6, z7, y1, y2, y3, y4, y5, y6, y7, y8]
      exact ⟨rfl, rfl, rfl, rfl, hR, by omega, hal, han, hst⟩
/-- a beat's third part: the wires -/
theorem pu_wires {st x22 x44 x56 x62 x68 x74 o50 ov an : Int32} {ru fo o51 ot g58 g64 g70 : Nat → Int32} {vD vQ u v w r46 r48 : Int64} (hO : RG_X6_oneBeat_31 st x22) (hr : ¬ ru 0 = 0) (han : 0 ≤ an.toInt ∧ an.toInt < 65536)
    (h : R_X5_leadWires st vD vQ ru an.toInt64 u v w ov) (ha : RG_X6_oneBeat_137 an st x44) (hA : R_X6_backAlpha vD vQ x44 r46) (hB : R_X6_backBeta vD vQ x44 r48) (hF : R_X6_findTimes ru fo r46 r48 o50 o51)
    (h56 : RG_X6_oneBeat_193 x22 o51 x56) (e58 : g58 = upd ot 0 x56) (h62 : RG_X6_oneBeat_193_62 x22 o51 x62) (e64 : g64 = upd g58 1 x62) (h68 : RG_X6_oneBeat_193_68 x22 o51 x68) (e70 : g70 = upd g64 2 x68) (h74 : RG_X6_oneBeat_216 x22 o50 x74) (ho50 : o50 = 0 ∨ o50 = 1) :
    u = (g70 0).toInt64 ∧ v = (g70 1).toInt64 ∧ w = (g70 2).toInt64 ∧ ov = x74 := by
  have c0 : g70 0 = x56 := by rw [e70, pk_un (by decide), e64, pk_un (by decide), e58, pk_us]
  have c1 : g70 1 = x62 := by rw [e70, pk_un (by decide), e64, pk_us]
  have c2 : g70 2 = x68 := by rw [e70, pk_us]
  rw [c0, c1, c2]
  rcases pu_off hO with ⟨a, n0, n4⟩ | ⟨a, n⟩
  · obtain ⟨x5, h5, r7, h7, r9, h9, v11, e11, o12, o13, o14, o15, hl, z1, z2, z3, z4⟩ := (h.2 n0).2 n4
    subst e11
    obtain ⟨v55, f55, f56⟩ := h56.1 a
    obtain ⟨v61, f61, f62⟩ := h62.1 a
    obtain ⟨v67, f67, f68⟩ := h68.1 a
    have k5 : x5.toInt = x44.toInt ∧ 0 ≤ x44.toInt ∧ x44.toInt < 65536 := by
      by_cases q : st = 1
      · rw [h5.1 q, ha.1 q]; decide
      · rw [h5.2 q, ha.2 q, Int32.toInt_toInt64]; exact ⟨rfl, han⟩
    have k7 := pu_alpha k5.2.1 k5.2.2 k5.1 h7 hA
    have k9 := pu_beta k5.2.1 k5.2.2 k5.1 h9 hB
    subst k7 k9
    have k := pu_lead hr hl hF
    rw [z1, z2, z3, z4, f56, f55, f62, f61, f68, f67]
    refine ⟨k.1, k.2.1, k.2.2.1, ?_⟩
    rw [k.2.2.2]
    have h74 := h74.1 a
    rcases ho50 with q | q
    · rw [h74.1 q, q]
    · rw [h74.2 (by rw [q]; decide), q]
  · have hz : u = 0 ∧ v = 0 ∧ w = 0 ∧ ov = 0 := by
      by_cases q0 : st = 0
      · exact (h.1 q0).2
      · rcases n with n | n
        · exact absurd n q0
        · exact ((h.2 q0).1 n).2
    rw [hz.1, hz.2.1, hz.2.2.1, hz.2.2.2, h56.2 a, h62.2 a, h68.2 a, h74.2 a]
    exact ⟨rfl, rfl, rfl, rfl⟩
/-- A BEAT: the class's and the reference's -/
theorem pu_beat1 {ru ru' kps kis rows rw1 ot rb rs rf ot2 rb2 rs2 rf2 fo fo2 : Nat → Int32} {sums sums2 : Nat → Int64} {lo lo' st fa be al ov nx hd st1 fa1 be1 al1 ov1 nx1 hd1 st' fa' an' ov' be' al' ch st2 fa2 an2 ov2 be2 al2 ch2 fo2b : Int32} {kpD kiD kpQ kiQ kpP kiP vD vQ he sD sQ sP d q pa an u v w vD1 vQ1 he1 sD1 sQ1 sP1 d1 q1 pa1 an1 u1 v1 w1 d' q' pa' vD' vQ' he' d2 q2 pa2 vD2 vQ2 he2 bh bh2 : Int64}
    (hC : RelC ru lo kpD kiD kpQ kiQ kpP kiP ru' lo' kps kis) (hB : RelB st fa vD vQ he be al sD sQ sP d q pa an u v w ov nx hd rows st' fa' d' q' pa' an' ov' vD' vQ' he' be' al' ch sums ot rb rs rf) (hb : ch.toInt < 890000000)
    (h : R_X5_passBeat st fa lo he be al ru kpD kiD sD kpQ kiQ sQ kpP kiP sP d q pa an nx hd rows st1 fa1 vD1 vQ1 he1 be1 al1 sD1 sQ1 sP1 d1 q1 pa1 an1 u1 v1 w1 ov1 nx1 hd1 rw1)
    (h' : R_X6_oneBeat lo' st' fa' d' q' pa' an' he' be' al' ch bh ru' kps kis sums ot rb rs rf fo st2 fa2 d2 q2 pa2 an2 ov2 vD2 vQ2 he2 be2 al2 ch2 fo2b bh2 sums2 ot2 rb2 rs2 rf2 fo2) :
    RelB st1 fa1 vD1 vQ1 he1 be1 al1 sD1 sQ1 sP1 d1 q1 pa1 an1 u1 v1 w1 ov1 nx1 hd1 rw1 st2 fa2 d2 q2 pa2 an2 ov2 vD2 vQ2 he2 be2 al2 ch2 sums2 ot2 rb2 rs2 rf2 ∧ ch2.toInt ≤ ch.toInt + 2 := by
  obtain ⟨c1, c2, cD, cQ, cP, b0, b1, b2, b3, b4⟩ := hC
  obtain ⟨e1, e2, e3, e4, e5, e6, e7, e8, e9, e10, e11, e12, e13, e14, e15, e16, e17, e18, hR, i1, i2, i3, i4, i5, i6, i7⟩ := hB
  subst c1 c2 e1 e2 e3 e4 e5 e6 e7 e11 e12 e13 e14 e18
  obtain ⟨o1, o2, o3, o4, o5, o6, hA, o8, o9, o10, o11, o12, o13, hV, o15, o16, o17, o18, hW, v20, e20, o21, o22, o23, o24, hM, v26, e26, o27, o28, o29, o30, o31, o32, o33, hL, v35, e35, z1, z2, z3, z4, z5, z6, z7, z8, z9, z10, z11, z12, z13, z14, z15, z16, z17, z18, z19, z20, z21⟩ := h
  obtain ⟨r1, hf, x12, x13, x14, x15, x16, x17, x18, hj6, x22, hO, x38, x39, x40, x41, hj49, x44, h44, r46, hal, r48, hbe, p50, p51, hft, x56, h56, g58, f58, x62, h62, g64, f64, x68, h68, g70, f70, x74, h74, p76, p77, p78, p79, hMo, v81, f81, x103, x104, x105, x106, x107, x108, x109, x110, hj282, v112, f112, y1, y2, y3, y4, y5, y6, y7, y8, y9, y10, y11, y12, y13, y14, y15, y16, y17, y18, y19, y20, y21⟩ := h'
  have kA := pu_stop hR (by omega) hA hf hj6
  obtain ⟨kA1, kA2, kA3, kA4, kA5, kA6, kA7⟩ := kA
  subst kA1 kA2 kA3
  have hst : o1 = 0 ∨ o1 = 1 ∨ o1 = 2 ∨ o1 = 3 ∨ o1 = 4 := by
    rcases kA7 with q | q
    · rw [q]; exact i7
    · exact Or.inr (Or.inr (Or.inr (Or.inr q)))
  have e0 : (0 : Int32).toInt = 0 := rfl
  have hal2 : 0 ≤ o3.toInt ∧ o3.toInt < 64 := by
    rcases kA6 with q | q
    · rw [q]; exact ⟨i5, i6⟩
    · rw [q]; omega
  have kV := pu_volts hst hO ⟨cD.1, cD.2, e8⟩ ⟨cQ.1, cQ.2, e9⟩ ⟨cP.1, cP.2, e10⟩ i3 i4 b3 b4 (by omega) b1 b2 hV hj49
  obtain ⟨kV1, kV2, kV3, kV4, kV5, kV6, kV7⟩ := kV
  subst kV1 kV2
  have hr : ¬ ru 0 = 0 := by intro q; rw [q] at b0; omega
  have kW := pu_wires hO hr ⟨i1, i2⟩ hW h44 hal hbe hft h56 f58 h62 f64 h68 f70 h74 (b_X6_findTimes_u_0_foundOver hft)
  subst e20
  have kM := pu_motor hM hMo
  obtain ⟨kM1, kM2, kM3, kM4, kM5, kM6, kM7, kM8⟩ := kM
  subst kM1 kM2 kM3 kM4
  have kL := pu_leave hst hal2 kV6 kV7 kA4 (by omega) ⟨kM5, kM6⟩ hL hj282
  obtain ⟨kL1, kL2, kL3, kL4, kL5, kL6, kL7, kL8, kL9⟩ := kL
  refine ⟨⟨?_, ?_, ?_, ?_, ?_, ?_, ?_, ?_, ?_, ?_, ?_, ?_, ?_, ?_, ?_, ?_, ?_, ?_, ?_, ?_, ?_, ?_, ?_, ?_, ?_, ?_⟩, ?_⟩
  · rw [z1, y1]; exact kL1
  · rw [z2, y2]; exact kL2
  · rw [z3, y8]
  · rw [z4, y9]
  · rw [z5, y10, e26, f81]
  · rw [z6, y11, e35, f112]
  · rw [z7, y12]; exact kL3
  · rw [z8, y16]; exact kV3
  · rw [z9, y16]; exact kV4
  · rw [z10, y16]; exact kV5
  · rw [z11, y3]
  · rw [z12, y4]
  · rw [z13, y5]
  · rw [z14, y6]; exact kL4
  · rw [z15, y17]; exact kW.1
  · rw [z16, y17]; exact kW.2.1
  · rw [z17, y17]; exact kW.2.2.1
  · rw [z18, y7]; exact kW.2.2.2
  · rw [z19, z20, z21, y18, y19, y20, y13]; exact kL5
  · rw [y6]; exact kL8.1
  · rw [y6]; exact kL8.2
  · rw [y5]; exact kM7
  · rw [y5]; exact kM8
  · rw [y12]; exact kL7.1
  · rw [y12]; exact kL7.2
  · rw [y1]; exact kL9
  · rw [y13]; omega
