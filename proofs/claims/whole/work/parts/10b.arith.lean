theorem ar_b32 (z : Int) (h1 : -2147483648 ≤ z) (h2 : z < 2147483648) : z.bmod (2 ^ 32) = z := by
  apply Int.bmod_eq_of_le <;> omega
theorem ar_b64 (z : Int) (h1 : -9223372036854775808 ≤ z) (h2 : z < 9223372036854775808) : z.bmod (2 ^ 64) = z := by
  apply Int.bmod_eq_of_le <;> omega
theorem ar_in {x : Int32} {n : Nat} (h0 : 0 ≤ x.toInt) (h1 : x.toInt < n) : vp_in x n := vp_in_iff.mpr ⟨h0, h1⟩
theorem ar_tneg {a b : Int} (h : a ≤ 0) : a.tmod b = -((-a) % b) := by
  have h1 : a.tmod b = (-(-a)).tmod b := by rw [Int.neg_neg]
  rw [h1, Int.neg_tmod, Int.tmod_eq_emod_of_nonneg (by omega)]
theorem ar_tlo (a : Int) {b : Int} (h : 0 < b) : -b < a.tmod b := by
  rcases Int.le_total a 0 with q | q
  · rw [ar_tneg q]
    have := Int.emod_lt_of_pos (-a) h
    omega
  · rw [Int.tmod_eq_emod_of_nonneg q]
    have := Int.emod_nonneg a (b := b) (by omega)
    omega
theorem ar_rem (x y : Int32) (n : Int) (hn : y.toInt = n) (h0 : 0 < n) (hy : y ≠ -1) : (x - x / y * y).toInt = x.toInt.tmod n := by
  have hd : (x / y).toInt = x.toInt.tdiv n := by rw [Int32.toInt_div_of_ne_right x y hy, hn]
  have h1 := Int.tmod_add_tdiv_mul x.toInt n
  have h2 := Int.tmod_lt_of_pos x.toInt h0
  have h3 := ar_tlo x.toInt h0
  have h4 := x.le_toInt
  have h5 := x.toInt_lt
  have h6 : n < 2 ^ 31 := by rw [← hn]; exact y.toInt_lt
  have h9 : x.toInt < 0 → x.toInt.tmod n ≤ 0 := fun q => by
    rw [ar_tneg (by omega)]
    have := Int.emod_nonneg (-x.toInt) (b := n) (by omega)
    omega
  have h10 : 0 ≤ x.toInt → 0 ≤ x.toInt.tmod n := fun q => by
    rw [Int.tmod_eq_emod_of_nonneg q]
    exact Int.emod_nonneg _ (by omega)
  have h7 : (x / y * y).toInt = x.toInt.tdiv n * n := by
    rw [Int32.toInt_mul, hd, hn]
    generalize x.toInt.tdiv n * n = z at *
    apply Int.bmod_eq_of_le <;> omega
  rw [Int32.toInt_sub, h7]
  have h8 : x.toInt - x.toInt.tdiv n * n = x.toInt.tmod n := by omega
  rw [h8]
  apply Int.bmod_eq_of_le <;> omega
theorem ar_msb (x : Int32) : 0 ≤ x ↔ x.toBitVec.msb = false := by
  rw [Int32.le_iff_toInt_le, BitVec.msb_eq_toInt]
  show (0 : Int) ≤ x.toInt ↔ decide (x.toInt < 0) = false
  rw [decide_eq_false_iff_not]; omega
theorem ar_xor20 (x : Int32) : 0 ≤ x ^^^ 20 ↔ 0 ≤ x := by
  rw [ar_msb, ar_msb, Int32.toBitVec_xor, BitVec.msb_xor]
  have : (20 : Int32).toBitVec.msb = false := by decide
  rw [this]; simp
theorem ar_ge0 {x : Int32} : 0 ≤ x ↔ 0 ≤ x.toInt := Int32.le_iff_toInt_le
theorem ar_fm {x r : Int32} (h : R_J9_floorMod_7cf53 x 20 r) : r.toInt = x.toInt % 20 := by
  obtain ⟨v, ev, h1, h2⟩ := h
  have hv : v.toInt = x.toInt.tmod 20 := by rw [ev]; exact ar_rem x 20 20 rfl (by decide) (by decide)
  have h4 := x.le_toInt
  have h5 := x.toInt_lt
  by_cases hc : 0 ≤ x ^^^ 20
  · have hp := ar_ge0.mp ((ar_xor20 x).mp hc)
    rw [h1 hc, hv, Int.tmod_eq_emod_of_nonneg hp]
  · have hp : ¬ 0 ≤ x.toInt := fun q => hc ((ar_xor20 x).mpr (ar_ge0.mpr q))
    obtain ⟨h6, h7⟩ := h2 hc
    have ht := ar_tneg (a := x.toInt) (b := 20) (by omega)
    by_cases hz : v = 0
    · have h8 : v.toInt = 0 := by rw [hz]; rfl
      rw [h6 hz, h8]; omega
    · have h8 : v.toInt ≠ 0 := fun q => hz (Int32.toInt_inj.mp (q.trans rfl))
      rw [h7 hz, Int32.toInt_add, hv]
      have : (20 : Int32).toInt = 20 := rfl
      rw [this, ar_b32 _ (by omega) (by omega)]
      omega
theorem ar_fm_lt {x r : Int32} (h : R_J9_floorMod_7cf53 x 20 r) : 0 ≤ r.toInt ∧ r.toInt < 20 := by
  rw [ar_fm h]; omega
theorem ar_3 {r v : Int32} (h : 0 ≤ r.toInt ∧ r.toInt < 20) (hv : v = r * 3) : v.toInt = r.toInt * 3 := by
  rw [hv, Int32.toInt_mul]
  have : (3 : Int32).toInt = 3 := rfl
  rw [this]; exact ar_b32 _ (by omega) (by omega)
theorem ar_addk {v : Int32} {a : Int} (k : Int32) (n : Int) (hk : k.toInt = n) (hv : v.toInt = a) (h0 : -1000000000 ≤ a + n) (h1 : a + n < 1000000000) : (v + k).toInt = a + n := by
  rw [Int32.toInt_add, hk, hv]; exact ar_b32 _ (by omega) (by omega)
/-- the three places of a row of the class's ring -/
theorem ar_ix {x r v : Int32} (h : R_J9_floorMod_7cf53 x 20 r) (hv : v = r * 3) : vp_in v 60 ∧ vp_in (v + 1) 60 ∧ vp_in (v + 2) 60 := by
  have h0 := ar_fm_lt h
  have h1 := ar_3 h0 hv
  refine ⟨ar_in (by omega) (by omega), ar_in ?_ ?_, ar_in ?_ ?_⟩
  · rw [ar_addk 1 1 rfl h1 (by omega) (by omega)]; omega
  · rw [ar_addk 1 1 rfl h1 (by omega) (by omega)]; omega
  · rw [ar_addk 2 2 rfl h1 (by omega) (by omega)]; omega
  · rw [ar_addk 2 2 rfl h1 (by omega) (by omega)]; omega
theorem ar_within {a lo hi r : Int32} (h : R_X5_within a lo hi r) (hr : ¬ r = 0) : lo.toInt ≤ a.toInt ∧ a.toInt ≤ hi.toInt := by
  by_cases h1 : a < lo
  · exact absurd (h.1 h1) hr
  · have h2 := h.2 h1
    by_cases h3 : hi < a
    · exact absurd (h2.1 h3) hr
    · rw [Int32.lt_iff_toInt_lt] at h1 h3; omega
theorem ar_ix2 {x r w : Int32} (h : R_J9_floorMod_7cf53 x 20 r) (hw : 0 ≤ w.toInt ∧ w.toInt ≤ 2) : vp_in (r * 3 + w) 60 := by
  have h0 := ar_fm_lt h
  have h1 := ar_3 h0 rfl
  have h2 : (r * 3 + w).toInt = r.toInt * 3 + w.toInt := by rw [Int32.toInt_add, h1]; exact ar_b32 _ (by omega) (by omega)
  exact ar_in (by omega) (by omega)
