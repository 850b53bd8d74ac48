theorem ar_inl {a lo hi : Int64} {r : Int32} (h : R_X6_in a lo hi r) (hr : ¬ r = 0) : lo.toInt ≤ a.toInt ∧ a.toInt ≤ hi.toInt := by
  have h := h
  unfold R_X6_in at h
  by_cases h1 : a < lo
  · exact absurd (h.1 h1) hr
  · have h2 := h.2 h1
    by_cases h3 : hi < a
    · exact absurd (h2.1 h3) hr
    · rw [Int64.lt_iff_toInt_lt] at h1 h3; omega
theorem ar_inI {x r : Int32} {hi : Int64} {n : Nat} {k : Int} (h : R_X6_in x.toInt64 0 hi r) (hr : ¬ r = 0) (hk : hi.toInt = k) (hn : k + 1 = n) : vp_in x n := by
  have h1 := ar_inl h hr
  rw [Int32.toInt_toInt64, hk] at h1
  have e0 : (0 : Int64).toInt = 0 := rfl
  exact ar_in (by omega) (by omega)
theorem ar_lt3 {x r : Int32} {hi : Int64} (h : R_X6_in x.toInt64 0 hi r) (hr : ¬ r = 0) (hc : ¬ (3 : Int32) ≤ x) : vp_in x 3 := by
  have h1 := ar_inl h hr
  rw [Int32.toInt_toInt64] at h1
  have e0 : (0 : Int64).toInt = 0 := rfl
  rw [Int32.le_iff_toInt_le] at hc
  have e3 : (3 : Int32).toInt = 3 := rfl
  exact ar_in (by omega) (by omega)
