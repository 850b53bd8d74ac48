theorem ar_ix20 {x : Int32} (h : 0 ≤ x.toInt) : vp_in (x - x / 20 * 20) 20 := by
  have h1 := ar_rem x 20 20 rfl (by decide) (by decide)
  rw [Int.tmod_eq_emod_of_nonneg h] at h1
  exact ar_in (by omega) (by omega)
theorem ar_nz {v : Int32} {f : Int32} (e : v = f) (h : ¬ f = 0) : ¬ v.toInt64 = 0 := by
  intro q
  apply h
  rw [← e]
  apply Int32.toInt_inj.mp
  rw [← Int32.toInt_toInt64, q]; rfl
theorem ar_sq {t : Int} (h1 : -32768 < t) (h2 : t < 32768) : t * (32768 - t) = 32768 * t - t * t ∧ t * t ≤ 1073741824 ∧ 0 ≤ t * t ∧ 32768 * t - t * t ≤ 268435456 := by
  have a := Int.mul_nonneg (show 0 ≤ 32768 - t by omega) (show 0 ≤ 32768 + t by omega)
  have b : 0 ≤ (t - 16384) * (t - 16384) := by
    rcases Int.le_total t 16384 with q | q
    · have := Int.mul_nonneg (show 0 ≤ 16384 - t by omega) (show 0 ≤ 16384 - t by omega)
      rw [← Int.neg_sub 16384 t, Int.neg_mul_neg]; exact this
    · exact Int.mul_nonneg (by omega) (by omega)
  have d : 0 ≤ t * t := by
    rcases Int.le_total 0 t with q | q
    · exact Int.mul_nonneg q q
    · have := Int.mul_nonneg (show 0 ≤ -t by omega) (show 0 ≤ -t by omega)
      rw [Int.neg_mul_neg] at this; exact this
  rw [Int.sub_mul, Int.mul_add, Int.mul_add] at a
  rw [Int.sub_mul, Int.mul_sub, Int.mul_sub] at b
  refine ⟨?_, ?_, d, ?_⟩
  · rw [Int.mul_sub]; omega
  · omega
  · omega
/-- x (32768 - x), in longs -/
theorem ar_par {v1 v2 : Int64} (h1 : -32768 < v1.toInt) (h2 : v1.toInt < 32768) (e : v2 = v1 * (32768 - v1)) : v2.toInt = 32768 * v1.toInt - v1.toInt * v1.toInt := by
  have hq := ar_sq h1 h2
  have e1 : (32768 : Int64).toInt = 32768 := rfl
  rw [e, Int64.toInt_mul, Int64.toInt_sub, e1, ar_b64 (32768 - v1.toInt) (by omega) (by omega), hq.1]
  exact ar_b64 _ (by omega) (by omega)
theorem ar_dvs {v1 v2 : Int64} (h1 : -32768 < v1.toInt) (h2 : v1.toInt < 32768) (e : v2 = v1 * (32768 - v1)) : ¬ (1342177280 - v2) = 0 := by
  have hq := ar_sq h1 h2
  have hp := ar_par h1 h2 e
  intro q
  have q2 : (1342177280 - v2).toInt = 0 := by rw [q]; rfl
  have e1 : (1342177280 : Int64).toInt = 1342177280 := rfl
  rw [Int64.toInt_sub, e1, ar_b64 _ (by omega) (by omega)] at q2
  omega
theorem ar_sdiv {x : Int32} {v1 v2 : Int64} (e1 : v1 = (x - x / 32768 * 32768).toInt64) (e : v2 = v1 * (32768 - v1)) : ¬ (1342177280 - v2) = 0 := by
  have h : v1.toInt = x.toInt.tmod 32768 := by rw [e1, Int32.toInt_toInt64]; exact ar_rem x 32768 32768 rfl (by decide) (by decide)
  have a := ar_tlo x.toInt (b := 32768) (by decide)
  have b := Int.tmod_lt_of_pos x.toInt (b := 32768) (by decide)
  exact ar_dvs (by omega) (by omega) e
