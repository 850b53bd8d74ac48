theorem pu_neg {m : Int64} (h : 0 ≤ m.toInt) : (-m).toInt = -m.toInt := by
  have := m.toInt_lt
  rw [Int64.toInt_neg, ar_b64 _ (by omega) (by omega)]
theorem pu_eq {a b : Int64} (h : a.toInt = b.toInt) : a = b := Int64.toInt_inj.mp h
theorem pu_eq32 {a b : Int32} (h : a.toInt = b.toInt) : a = b := Int32.toInt_inj.mp h
theorem pu_lt {a b : Int64} : a < b ↔ a.toInt < b.toInt := Int64.lt_iff_toInt_lt
theorem pu_le {a b : Int64} : a ≤ b ↔ a.toInt ≤ b.toInt := Int64.le_iff_toInt_le
/-- CLAMP, as both have it -/
theorem pu_clamp {v m r r' : Int64} (hm : 0 ≤ m.toInt) (h : R_X5_clamp v m r) (h' : R_X6_clamp v m r') : r = r' := by
  obtain ⟨v1, e1, v2, e2, e3⟩ := h
  have hn := pu_neg hm
  rw [e3, e2]
  by_cases q1 : v ≤ m
  · have hv1 : v1 = v := by
      rw [e1]
      by_cases q : v < m
      · rw [if_pos q]
      · rw [if_neg q]; apply pu_eq; rw [pu_le] at q1; rw [pu_lt] at q; omega
    have h' := h'.1 q1
    by_cases q2 : -m ≤ v
    · rw [h'.1 q2, hv1, if_neg]
      rw [pu_lt]; rw [pu_le] at q2; omega
    · rw [h'.2 q2, hv1, if_pos]
      rw [pu_lt]; rw [pu_le] at q2; omega
  · have hv1 : v1 = m := by
      rw [e1, if_neg]
      intro q; apply q1; rw [pu_lt] at q; rw [pu_le]; omega
    rw [h'.2 q1, hv1, if_neg]
    rw [pu_lt]; omega
theorem pu_clampB {v m r : Int64} (hm : 0 ≤ m.toInt) (h : R_X5_clamp v m r) : -m.toInt ≤ r.toInt ∧ r.toInt ≤ m.toInt := by
  obtain ⟨v1, e1, v2, e2, e3⟩ := h
  have hn := pu_neg hm
  have h1 : v1.toInt ≤ m.toInt := by
    rw [e1]
    by_cases q : v < m
    · rw [if_pos q]; rw [pu_lt] at q; omega
    · rw [if_neg q]; omega
  rw [e3, e2]
  by_cases q : v1 < -m
  · rw [if_pos q]; omega
  · rw [if_neg q]; rw [pu_lt] at q; omega
theorem pu_and (a : Int64) : (a &&& 65535).toInt = a.toInt % 65536 := by
  have h1 : (a &&& 65535).toBitVec.toNat = a.toBitVec.toNat % 65536 := by
    rw [Int64.toBitVec_and, BitVec.toNat_and]
    exact Nat.and_two_pow_sub_one_eq_mod a.toBitVec.toNat 16
  have h2 : (a &&& 65535).toInt = ((a &&& 65535).toBitVec.toNat : Int) := BitVec.toInt_eq_toNat_of_lt (by rw [h1]; omega)
  have h3 := BitVec.toInt_eq_toNat_cond a.toBitVec
  have h4 : a.toInt = a.toBitVec.toInt := rfl
  rw [h2, h1, h4, h3]
  split <;> omega
theorem pu_and15 (a : Int64) : (a &&& 32767).toInt = a.toInt % 32768 := by
  have h1 : (a &&& 32767).toBitVec.toNat = a.toBitVec.toNat % 32768 := by
    rw [Int64.toBitVec_and, BitVec.toNat_and]
    exact Nat.and_two_pow_sub_one_eq_mod a.toBitVec.toNat 15
  have h2 : (a &&& 32767).toInt = ((a &&& 32767).toBitVec.toNat : Int) := BitVec.toInt_eq_toNat_of_lt (by rw [h1]; omega)
  have h3 := BitVec.toInt_eq_toNat_cond a.toBitVec
  have h4 : a.toInt = a.toBitVec.toInt := rfl
  rw [h2, h1, h4, h3]
  split <;> omega
theorem pu_and32 (a : Int32) : (a &&& 65535).toInt = a.toInt % 65536 := by
  have h1 : (a &&& 65535).toBitVec.toNat = a.toBitVec.toNat % 65536 := by
    rw [Int32.toBitVec_and, BitVec.toNat_and]
    exact Nat.and_two_pow_sub_one_eq_mod a.toBitVec.toNat 16
  have h2 : (a &&& 65535).toInt = ((a &&& 65535).toBitVec.toNat : Int) := BitVec.toInt_eq_toNat_of_lt (by rw [h1]; omega)
  have h3 := BitVec.toInt_eq_toNat_cond a.toBitVec
  have h4 : a.toInt = a.toBitVec.toInt := rfl
  rw [h2, h1, h4, h3]
  split <;> omega
theorem pu_bm (x : Int) : x.bmod (2 ^ 32) % 65536 = x % 65536 := by
  rw [Int.bmod_def]
  split <;> omega
theorem pu_quot {a b r : Int64} (hb : ¬ b = 0) (h : R_X5_quotient a b r) : r = a / b := h.2 hb
/-- SINE: the class's of any ANGLE, the reference's of the ANGLE within one turn -/
theorem pu_sine {a : Int64} {b : Int32} {r r' : Int64} (h0 : 0 ≤ b.toInt) (h1 : b.toInt < 65536) (e : a.toInt % 65536 = b.toInt) (h : R_X1_sineOf a r) (h' : R_X6_sineOf b r') : r = r' := by
  obtain ⟨v1, e1, v2, e2, r3, hq, ha, hb⟩ := h
  obtain ⟨w1, f1, w2, f2, w3, f3, hc, hd⟩ := h'
  have k1 : v1.toInt = a.toInt % 32768 := by rw [e1]; exact pu_and15 a
  have k2 : w1.toInt = b.toInt % 32768 := by
    rw [f1, Int32.toInt_toInt64, ar_rem b 32768 32768 rfl (by decide) (by decide), Int.tmod_eq_emod_of_nonneg h0]
  have k3 : v1 = w1 := pu_eq (by omega)
  have k4 : v2 = w2 := by rw [e2, f2, k3]
  have hnz := ar_dvs (by omega) (by omega) e2
  have k5 : r3 = w3 := by rw [pu_quot hnz hq, f3, k4]
  have e32 : (32768 : Int64).toInt = 32768 := rfl
  have f32 : (32768 : Int32).toInt = 32768 := rfl
  have k6 := pu_and a
  by_cases q : (32768 : Int32) ≤ b
  · rw [hc q, ← k5]
    apply ha
    rw [pu_le]; rw [Int32.le_iff_toInt_le] at q; omega
  · rw [hd q, ← k5]
    apply hb
    rw [pu_le]; rw [Int32.le_iff_toInt_le] at q; omega
theorem pu_cosine {a : Int64} {b : Int32} {r r' : Int64} (h0 : 0 ≤ b.toInt) (h1 : b.toInt < 65536) (e : a.toInt = b.toInt) (h : R_X1_cosineOf a r) (h' : R_X6_cosineOf b r') : r = r' := by
  obtain ⟨r1, hs, er⟩ := h
  obtain ⟨s1, hs', es⟩ := h'
  have k1 : (a + 16384).toInt = a.toInt + 16384 := by
    have : (16384 : Int64).toInt = 16384 := rfl
    rw [Int64.toInt_add, this, ar_b64 _ (by omega) (by omega)]
  have k2 : (b + 16384).toInt = b.toInt + 16384 := ar_addk 16384 16384 rfl rfl (by omega) (by omega)
  have k3 : ((b + 16384) - (b + 16384) / 65536 * 65536).toInt = (b.toInt + 16384) % 65536 := by
    rw [ar_rem (b + 16384) 65536 65536 rfl (by decide) (by decide), k2, Int.tmod_eq_emod_of_nonneg (by omega)]
  rw [er, es]
  exact pu_sine (by omega) (by omega) (by omega) hs hs'
theorem pu_sine1 {a : Int64} {b : Int32} {r r' : Int64} (h0 : 0 ≤ b.toInt) (h1 : b.toInt < 65536) (e : a.toInt = b.toInt) (h : R_X1_sineOf a r) (h' : R_X6_sineOf b r') : r = r' := pu_sine h0 h1 (by omega) h h'
theorem pu_alpha {d q a r r' : Int64} {b : Int32} (h0 : 0 ≤ b.toInt) (h1 : b.toInt < 65536) (e : a.toInt = b.toInt) (h : R_X1_alphaOf d q a r) (h' : R_X6_backAlpha d q b r') : r = r' := by
  obtain ⟨r1, hc, r3, hs, er⟩ := h
  obtain ⟨s1, hc', s3, hs', es⟩ := h'
  rw [er, es, pu_cosine h0 h1 e hc hc', pu_sine1 h0 h1 e hs hs']
theorem pu_beta {d q a r r' : Int64} {b : Int32} (h0 : 0 ≤ b.toInt) (h1 : b.toInt < 65536) (e : a.toInt = b.toInt) (h : R_X1_betaOf d q a r) (h' : R_X6_backBeta d q b r') : r = r' := by
  obtain ⟨r1, hs, r3, hc, er⟩ := h
  obtain ⟨s1, hs', s3, hc', es⟩ := h'
  rw [er, es, pu_cosine h0 h1 e hc hc', pu_sine1 h0 h1 e hs hs']
theorem pu_in1 {a lo hi : Int64} {r : Int32} (h : R_X6_in a lo hi r) (h1 : lo ≤ a) (h2 : a ≤ hi) : ¬ r = 0 := by
  have q1 : ¬ a < lo := by rw [pu_lt]; rw [pu_le] at h1; omega
  have q2 : ¬ hi < a := by rw [pu_lt]; rw [pu_le] at h2; omega
  rw [(h.2 q1).2 q2]; decide
/-- a step of a LOOP -/
theorem pu_step {kp ki sum lim e r r' u u' : Int64} (hl : 0 ≤ lim.toInt) (h : R_X2_step kp ki sum lim e r u) (h' : R_X6_stepOf kp ki lim sum e r' u') : r = r' ∧ u = u' := by
  obtain ⟨r1, hf, r3, ⟨x7, hx, hy⟩, r5, hc, er, eu⟩ := h
  obtain ⟨v1, ev, r2, hi, x11, hg, x14, hb, r16, hc', er', eu'⟩ := h'
  have hf : r1 = (((kp * e) + sum) + (ki * e)) >>> 8 := hf
  have k1 : r1 = v1 := by rw [hf, ev]
  subst k1
  refine ⟨by rw [er, er']; exact pu_clamp hl hc hc', ?_⟩
  rw [eu, eu']
  have hn := pu_neg hl
  have key : (x7 = 0 ∧ ¬ x11 = 0) ∨ (¬ x7 = 0 ∧ x11 = 0) := by
    by_cases a1 : r1 ≤ lim
    · have hx := hx.1 a1
      by_cases a2 : -lim ≤ r1
      · have hz := pu_in1 hi a2 a1
        exact Or.inl ⟨hx.1 a2, by rw [hg.2 hz]; decide⟩
      · have hx := hx.2 a2
        have hz : r2 = 0 := by
          apply Classical.byContradiction
          intro q
          have := ar_inl hi q
          apply a2; rw [pu_le]; omega
        have hg := hg.1 hz
        by_cases a3 : 0 < e
        · refine Or.inl ⟨hx.1 a3, ?_⟩
          have b1 : (0 : Int64) ≤ e := by rw [pu_le]; rw [pu_lt] at a3; omega
          have b2 : ¬ e ≤ 0 := by rw [pu_le]; rw [pu_lt] at a3; omega
          rw [((hg.1 b1).2 b2).2 a2]; decide
        · refine Or.inr ⟨by rw [hx.2 a3]; decide, ?_⟩
          have b2 : e ≤ 0 := by rw [pu_le]; rw [pu_lt] at a3; omega
          by_cases b1 : (0 : Int64) ≤ e
          · exact (hg.1 b1).1 b2
          · have b3 : ¬ lim < r1 := by rw [pu_lt]; rw [pu_le] at a1; omega
            exact ((hg.2 b1).2 b3).1 b2
    · have hx := hx.2 a1
      have a2 : -lim ≤ r1 := by rw [pu_le]; rw [pu_le] at a1; omega
      have hz : r2 = 0 := by
        apply Classical.byContradiction
        intro q
        have := ar_inl hi q
        apply a1; rw [pu_le]; omega
      have hg := hg.1 hz
      by_cases a3 : 0 ≤ e
      · refine Or.inr ⟨by rw [hx.1 a3]; decide, ?_⟩
        have hg := hg.1 a3
        by_cases b2 : e ≤ 0
        · exact hg.1 b2
        · exact (hg.2 b2).1 a2
      · have hx := hx.2 a3
        refine Or.inl ⟨hx.1 a2, ?_⟩
        have b3 : lim < r1 := by rw [pu_lt]; rw [pu_le] at a1; omega
        rw [(hg.2 a3).1 b3]; decide
  rcases key with ⟨p, q⟩ | ⟨p, q⟩
  · rw [hy.1 p, hb.2 q]
  · rw [hy.2 p, hb.1 q]
