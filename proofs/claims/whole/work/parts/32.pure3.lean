/-- the D current that is wanted -/
theorem pu_want {ru : Nat → Int32} {pa r r8 x : Int64} (hp : -60000 ≤ pa.toInt) (hp2 : pa.toInt ≤ 60000) (hc : 0 ≤ (ru 4).toInt) (hc2 : (ru 4).toInt ≤ 60000) (h : R_X5_wantedD ru pa r) (hs : R_X6_size pa r8) {v10 : Int32} (e10 : v10 = ru 4) (h' : RG_X6_lead_53 pa ru r8 v10 x) : r = x := by
  obtain ⟨v1, e1, v2, e2, v3, e3, ha, hb⟩ := h
  have k := pu_abs e2 hs
  subst k e1 e10
  have e0 : (0 : Int64).toInt = 0 := rfl
  have hv2 : 0 ≤ v2.toInt ∧ v2.toInt ≤ 60000 := by
    rcases pu_imp hs with ⟨c, f⟩ | ⟨c, f⟩
    · rw [f]; omega
    · rw [f, Int64.toInt_neg, ar_b64 _ (by omega) (by omega)]; omega
  have hv3 : v3.toInt = (ru 4).toInt - v2.toInt := by
    rw [e3, Int64.toInt_sub, Int32.toInt_toInt64, ar_b64 _ (by omega) (by omega)]
  by_cases q : v2 ≤ (ru 4).toInt64
  · rw [h'.1 q]
    apply ha
    rw [pu_le]; rw [pu_le, Int32.toInt_toInt64] at q; omega
  · obtain ⟨v12, e12, r13, hs2, v15, e15, x17, hx, ex⟩ := h'.2 q
    have k2 : r13 = v2 := (pu_abs e2 hs2).symm
    subst k2 e12
    have q3 : ¬ (0 : Int64) ≤ v3 := by
      rw [pu_le]; rw [pu_le, Int32.toInt_toInt64] at q; omega
    obtain ⟨v5, e5, er⟩ := hb q3
    have k3 : v3 >>> 4 = v15 := by rw [e15, e3]
    rw [k3] at e5
    rw [er, ex]
    apply pu_eq
    rcases pu_ite e5 with ⟨a, b⟩ | ⟨a, b⟩ <;> rcases pu_imp hx with ⟨c, d⟩ | ⟨c, d⟩ <;> rw [b, d]
    · omega
    · omega
theorem pu_ledE {kps kis : Nat → Int32} {sums g : Nat → Int64} {k : Int32} {n : Nat} {lim e r b kp ki sum r0 u0 : Int64} (hk : k.toNatClampNeg = n) (hl : 0 ≤ lim.toInt) (e1 : kp = (kps n).toInt64) (e2 : ki = (kis n).toInt64) (e3 : sum = sums n) (h : R_X2_step kp ki sum lim e r0 u0) (h' : R_X6_led kps kis sums k lim e r b g) : r0 = r ∧ g = vp_updL sums n u0 := by
  obtain ⟨v1, f1, v2, f2, v3, f3, r5, o4, hs, g7, eg, er, eb, ef⟩ := h'
  rw [hk] at f1 f2 f3 eg
  have z := pu_step hl (by rw [e1, e2, e3] at h; exact h) (by rw [f1, f2, f3] at hs; exact hs)
  rw [er, ef, eg, z.2]
  exact ⟨z.1, rfl⟩
theorem pu_bus {x : Int32} (h0 : 0 ≤ x.toInt) (h1 : x.toInt ≤ 30000) : 0 ≤ ((x.toInt64 * 9459) >>> 14).toInt := by
  have e : (x.toInt64 * 9459).toInt = x.toInt * 9459 := by
    have : (9459 : Int64).toInt = 9459 := rfl
    rw [Int64.toInt_mul, Int32.toInt_toInt64, this, ar_b64 _ (by omega) (by omega)]
  have h2 : ((x.toInt64 * 9459) >>> 14).toInt = (x.toInt64 * 9459).toInt >>> 14 := by
    show ((x.toInt64 * 9459).toBitVec.sshiftRight ((14 : Int64).toBitVec.smod 64).toNat).toInt = _
    have e14 : ((14 : Int64).toBitVec.smod 64).toNat = 14 := by decide
    rw [e14, BitVec.toInt_sshiftRight]
    rfl
  rw [h2, e, Int.shiftRight_eq_div_pow]
  exact Int.ediv_nonneg (by omega) (by decide)
/-- LOOPS of pace and currents -/
theorem pu_follow {ru kps kis : Nat → Int32} {sums g : Nat → Int64} {kpD kiD sD kpQ kiQ sQ kpP kiP sP d q pa want vD vQ oD oQ oP vD' vQ' be : Int64}
    (hD : kpD = (kps 0).toInt64 ∧ kiD = (kis 0).toInt64 ∧ sD = sums 0) (hQ : kpQ = (kps 1).toInt64 ∧ kiQ = (kis 1).toInt64 ∧ sQ = sums 1) (hP : kpP = (kps 2).toInt64 ∧ kiP = (kis 2).toInt64 ∧ sP = sums 2)
    (hp : -60000 ≤ pa.toInt) (hp2 : pa.toInt ≤ 60000) (hc : 0 ≤ (ru 4).toInt) (hc2 : (ru 4).toInt ≤ 60000) (hb : 0 ≤ (ru 0).toInt) (hb2 : (ru 0).toInt ≤ 30000) (hm : 0 ≤ (ru 1).toInt)
    (h : R_X5_followPace ru kpD kiD sD kpQ kiQ sQ kpP kiP sP d q pa want vD vQ oD oQ oP) (h' : R_X6_lead d q pa ru kps kis sums want vD' vQ' be g) : vD = vD' ∧ vQ = vQ' ∧ oD = g 0 ∧ oQ = g 1 ∧ oP = g 2 := by
  obtain ⟨v1, e1, v2, e2, v3, e3, r5, o4, s1, r7, hw, r10, o9, s2, r13, o12, s3, eD, eQ, f1, f2, f3⟩ := h
  obtain ⟨w1, k1, w2, k2, w3, k3, r6, p4, p5, l1, r8, hs, v10, e10, x19, hx, r23, p21, p22, l2, r27, p25, p26, l3, eD', eQ', fb, fg⟩ := h'
  subst e1 e3 k1 k3
  have b2 : v2 = w2 := by rw [e2, k2]
  subst b2
  have hv2 : 0 ≤ v2.toInt := by rw [e2]; exact pu_bus hb hb2
  have z1 := pu_ledE (n := 2) rfl (by rw [Int32.toInt_toInt64]; exact hm) hP.1 hP.2.1 hP.2.2 s1 l1
  have z2 := pu_want hp hp2 hc hc2 hw hs e10 hx
  subst z2
  have y0 : p5 0 = sums 0 := by rw [z1.2, pk_uLn (by decide)]
  have z3 := pu_ledE (n := 0) rfl hv2 hD.1 hD.2.1 (hD.2.2.trans y0.symm) s2 l2
  have y1 : p22 1 = sums 1 := by rw [z3.2, pk_uLn (by decide), z1.2, pk_uLn (by decide)]
  have z4 := pu_ledE (n := 1) rfl hv2 hQ.1 hQ.2.1 (hQ.2.2.trans y1.symm) s3 (by rw [← z1.1] at l3; exact l3)
  refine ⟨by rw [eD, eD', z3.1], by rw [eQ, eQ', z4.1], ?_, ?_, ?_⟩
  · rw [f1, fg, z4.2, pk_uLn (by decide), z3.2, pk_uLs]
  · rw [f2, fg, z4.2, pk_uLs]
  · rw [f3, fg, z4.2, pk_uLn (by decide), z3.2, pk_uLn (by decide), z1.2, pk_uLs]
/-- FAULTS that are there now -/
theorem pu_fault {st lo : Int32} {he d q : Int64} {ru : Nat → Int32} {r r' : Int32} (h : R_X5_faultNow st lo he ru d q r) (h' : R_X6_faultNow lo st d q he ru r') : r = r' ∧ (r' = 0 ∨ 0 < r'.toInt) := by
  obtain ⟨v1, e1, v2, e2, hA, hB⟩ := h
  obtain ⟨r1, s1, v3, e3, hA', hB'⟩ := h'
  have k := pu_abs e1 s1
  subst k e2 e3
  by_cases c1 : (ru 3).toInt64 < v1
  · rw [hA c1, hA' c1]; exact ⟨rfl, Or.inr (by decide)⟩
  · obtain ⟨v4, e4, v5, e5, hC, hD⟩ := hB c1
    obtain ⟨r5, s5, v7, e7, hC', hD'⟩ := hB' c1
    have k := pu_abs e4 s5
    subst k e5 e7
    by_cases c2 : v4 ≤ (ru 3).toInt64
    · obtain ⟨v7, e7, hE, hF⟩ := hC c2
      obtain ⟨v9, e9, hE', hF'⟩ := hC' c2
      subst e7 e9
      by_cases c3 : ru 0 ≤ 25000
      · obtain ⟨hG, hH⟩ := hE c3
        obtain ⟨hG', hH'⟩ := hE' c3
        have last : ∀ {a b : Int32}, ((he ≤ 100000 → a = 0) ∧ (¬ he ≤ 100000 → a = 4)) → ((he ≤ 100000 → b = 0) ∧ (¬ he ≤ 100000 → b = 4)) → a = b ∧ (b = 0 ∨ 0 < b.toInt) := by
          intro a b p p'
          by_cases c : he ≤ 100000
          · rw [p.1 c, p'.1 c]; exact ⟨rfl, Or.inl rfl⟩
          · rw [p.2 c, p'.2 c]; exact ⟨rfl, Or.inr (by decide)⟩
        by_cases c4 : lo = 0
        · exact last (hG c4) (hG' c4)
        · obtain ⟨hI, hJ⟩ := hH c4
          obtain ⟨hI', hJ'⟩ := hH' c4
          by_cases c5 : st = 2
          · rw [hI c5, hI' c5]; exact ⟨rfl, Or.inr (by decide)⟩
          · obtain ⟨hK, hL⟩ := hJ c5
            obtain ⟨hK', hL'⟩ := hJ' c5
            by_cases c6 : st = 3
            · rw [hK c6, hK' c6]; exact ⟨rfl, Or.inr (by decide)⟩
            · exact last (hL c6) (hL' c6)
      · rw [hF c3, hF' c3]; exact ⟨rfl, Or.inr (by decide)⟩
    · rw [hD c2, hD' c2]; exact ⟨rfl, Or.inr (by decide)⟩
/-- THE RING in the class and in the reference -/
def Ring (rows : Nat → Int32) (nx hd : Int32) (rb rs rf : Nat → Int32) (ch : Int32) : Prop := 0 ≤ ch.toInt ∧ nx.toInt = ch.toInt % 20 ∧ ((ch.toInt < 20 ∧ hd.toInt = ch.toInt) ∨ (20 ≤ ch.toInt ∧ hd.toInt = 20)) ∧ ∀ k : Nat, k < 20 → rows (3 * k) = rb k ∧ rows (3 * k + 1) = rs k ∧ rows (3 * k + 2) = rf k
theorem pu_tn {x : Int32} {n : Nat} (h : x.toInt = n) : x.toNatClampNeg = n := by
  show x.toInt.toNat = n
  omega
theorem pu_rem20 {x : Int32} (h : 0 ≤ x.toInt) : (x - x / 20 * 20).toInt = x.toInt % 20 := by
  rw [ar_rem x 20 20 rfl (by decide) (by decide), Int.tmod_eq_emod_of_nonneg h]
theorem pu_note {rows rb rs rf o3 g1 g2 g3 : Nat → Int32} {nx hd ch be st fa o1 o2 a1 a2 a3 : Int32} (hR : Ring rows nx hd rb rs rf ch) (hb : ch.toInt < 900000000) (h : R_X0_note nx hd rows be st fa o1 o2 o3) (h' : R_X6_become ch rb rs rf st fa be a1 a2 a3 g1 g2 g3) : Ring o3 o1 o2 g1 g2 g3 a3 ∧ a1 = st ∧ a2 = fa ∧ a3.toInt = ch.toInt + 1 := by
  obtain ⟨r0, r1, r2, r3⟩ := hR
  obtain ⟨m1, hf, v3, e3, g4, e4, g5, e5, g6, e6, v7, e7, v8, e8, f1, f2, f3⟩ := h
  obtain ⟨b1, k1, b2, k2, b3, k3, v4, k4, j1, j2, j3, j4, j5, j6⟩ := h'
  have hm := ar_fm hf
  have hm2 := ar_fm_lt hf
  have h3 := ar_3 hm2 e3
  have ha3 : a3.toInt = ch.toInt + 1 := by
    rw [j3, k4]; exact ar_addk 1 1 rfl rfl (by omega) (by omega)
  obtain ⟨n, hn⟩ : ∃ n : Nat, ch.toInt % 20 = n := ⟨(ch.toInt % 20).toNat, by omega⟩
  have i0 : v3.toNatClampNeg = 3 * n := pu_tn (by omega)
  have i1 : (v3 + 1).toNatClampNeg = 3 * n + 1 := pu_tn (by rw [ar_addk 1 1 rfl h3 (by omega) (by omega)]; omega)
  have i2 : (v3 + 2).toNatClampNeg = 3 * n + 2 := pu_tn (by rw [ar_addk 2 2 rfl h3 (by omega) (by omega)]; omega)
  have i3 : (ch - ch / 20 * 20).toNatClampNeg = n := pu_tn (by rw [pu_rem20 r0]; omega)
  rw [i0] at e4; rw [i1] at e5; rw [i2] at e6; rw [i3] at k1 k2 k3
  have hnx : (nx + 1).toInt = nx.toInt + 1 := ar_addk 1 1 rfl rfl (by omega) (by omega)
  have hhd : (hd + 1).toInt = hd.toInt + 1 := ar_addk 1 1 rfl rfl (by omega) (by omega)
  have e20 : (20 : Int32).toInt = 20 := rfl
  refine ⟨⟨by omega, ?_, ?_, ?_⟩, j1, j2, ha3⟩
  · rw [f1, e7, pu_rem20 (by omega), hnx]; omega
  · rw [f2, e8]
    by_cases q : hd + 1 < 20
    · rw [if_pos q]; rw [Int32.lt_iff_toInt_lt] at q; omega
    · rw [if_neg q]; rw [Int32.lt_iff_toInt_lt] at q; omega
  · intro k hk
    obtain ⟨p1, p2, p3⟩ := r3 k hk
    rw [f3, j4, j5, j6, k1, k2, k3, e6, e5, e4]
    by_cases q : k = n
    · subst q
      refine ⟨?_, ?_, ?_⟩
      · rw [pk_un (by omega), pk_un (by omega), pk_us, pk_us]
      · rw [pk_un (by omega), pk_us, pk_us]
      · rw [pk_us, pk_us]
    · refine ⟨?_, ?_, ?_⟩
      · rw [pk_un (by omega), pk_un (by omega), pk_un (by omega), pk_un q]; exact p1
      · rw [pk_un (by omega), pk_un (by omega), pk_un (by omega), pk_un q]; exact p2
      · rw [pk_un (by omega), pk_un (by omega), pk_un (by omega), pk_un q]; exact p3
theorem pu_change {rows rb rs rf o3 g1 g2 g3 : Nat → Int32} {nx hd ch be st fa s1 s2 o1 o2 a1 a2 a3 : Int32} (hR : Ring rows nx hd rb rs rf ch) (hb : ch.toInt < 900000000) (h : R_X5_changeTo be nx hd rows st fa s1 s2 o1 o2 o3) (h' : R_X6_become ch rb rs rf st fa be a1 a2 a3 g1 g2 g3) : Ring o3 o1 o2 g1 g2 g3 a3 ∧ s1 = a1 ∧ s2 = a2 ∧ a1 = st ∧ a2 = fa ∧ a3.toInt = ch.toInt + 1 := by
  obtain ⟨q1, q2, q3, hn, e1, e2, e3, e4, e5⟩ := h
  have z := pu_note hR hb hn h'
  rw [e1, e2, e3, e4, e5]
  exact ⟨z.1, z.2.1.symm, z.2.2.1.symm, z.2.1, z.2.2.1, z.2.2.2⟩
