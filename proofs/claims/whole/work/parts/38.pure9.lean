theorem pu_tab {w x8 x14 : Int32} {n : Nat} (hn : w.toInt = n) (h5 : n ≤ 5) (h8 : RG_X6_rule_16 w x8) (h14 : RG_X6_rule_53 w x14) : rl_low n = x8 ∧ rl_high n = x14 := by
  rcases (show n = 0 ∨ n = 1 ∨ n = 2 ∨ n = 3 ∨ n = 4 ∨ n = 5 by omega) with q | q | q | q | q | q <;> subst q
  · have e : w = 0 := pu_isk (n := 0) 0 rfl hn
    subst e
    rw [h8.1 (by decide), h14.1 (by decide)]; exact ⟨rfl, rfl⟩
  · have e : w = 1 := pu_isk (n := 1) 1 rfl hn
    subst e
    rw [(((h8.2 (by decide)).2 (by decide)).2 (by decide)).2 (by decide), (h14.2 (by decide)).1 (by decide)]; exact ⟨rfl, rfl⟩
  · have e : w = 2 := pu_isk (n := 2) 2 rfl hn
    subst e
    rw [((h8.2 (by decide)).2 (by decide)).1 (by decide), ((h14.2 (by decide)).2 (by decide)).1 (by decide)]; exact ⟨rfl, rfl⟩
  · have e : w = 3 := pu_isk (n := 3) 3 rfl hn
    subst e
    rw [(h8.2 (by decide)).1 (by decide), (((h14.2 (by decide)).2 (by decide)).2 (by decide)).1 (by decide)]; exact ⟨rfl, rfl⟩
  · have e : w = 4 := pu_isk (n := 4) 4 rfl hn
    subst e
    rw [(((h8.2 (by decide)).2 (by decide)).2 (by decide)).2 (by decide), (((h14.2 (by decide)).2 (by decide)).2 (by decide)).2 (by decide)]; exact ⟨rfl, rfl⟩
  · have e : w = 5 := pu_isk (n := 5) 5 rfl hn
    subst e
    rw [(((h8.2 (by decide)).2 (by decide)).2 (by decide)).1 (by decide), (((h14.2 (by decide)).2 (by decide)).2 (by decide)).2 (by decide)]; exact ⟨rfl, rfl⟩
theorem pu_rule {ru ru' ru2 ru3 kps kis : Nat → Int32} {lo lo' w v r r' : Int32} {kpD kiD kpQ kiQ kpP kiP : Int64} (hC : RelC ru lo kpD kiD kpQ kiQ kpP kiP ru' lo' kps kis) (h : R_X5_rule ru w v r ru2) (h' : R_X6_rule ru' w v r' ru3) : r = r' ∧ RelC ru2 lo kpD kiD kpQ kiQ kpP kiP ru3 lo' kps kis := by
  have hC0 := hC
  obtain ⟨c1, c2, cD, cQ, cP, b0, b1, b2, b3, b4⟩ := hC
  subst c1
  obtain ⟨s1, k1, h1', g1'⟩ := h'
  have e0 : (0 : Int32).toInt = 0 := rfl
  have e6 : (6 : Int32).toInt = 6 := rfl
  have e5 : (5 : Int64).toInt = 5 := rfl
  by_cases a1 : w < 0
  · rw [(h.1 a1).1, (h.1 a1).2]
    rw [Int32.lt_iff_toInt_lt] at a1
    rcases pu_inN k1 with ⟨n, n2⟩ | ⟨n, n2, n3⟩
    · rw [(h1' n).1, (h1' n).2]; exact ⟨rfl, hC0⟩
    · omega
  · have h := h.2 a1
    by_cases a2 : w < 6
    · obtain ⟨v3, e3, v4, e4, r5, hw, h5, h6⟩ := h.1 a2
      rw [Int32.lt_iff_toInt_lt] at a1 a2
      rcases pu_inN k1 with ⟨n, n2⟩ | ⟨n, n2, n3⟩
      · omega
      · obtain ⟨x8, hx8, x14, hx14, r16, hi, k5, k6⟩ := g1' n
        obtain ⟨m, hm⟩ : ∃ m : Nat, w.toInt = m := ⟨w.toInt.toNat, by omega⟩
        have im : w.toNatClampNeg = m := pu_tn hm
        obtain ⟨t1, t2⟩ := pu_tab hm (by omega) hx8 hx14
        rw [im, t1] at e3
        rw [im, t2] at e4
        subst e3 e4
        have z := pu_win (Int32.toInt_toInt64 _).symm (Int32.toInt_toInt64 _).symm hw hi
        subst z
        by_cases q5 : r5 = 0
        · rw [(h5 q5).1, (h5 q5).2, (k5 q5).1, (k5 q5).2]; exact ⟨rfl, hC0⟩
        · obtain ⟨v8, e8, g9, e9, er, eg⟩ := h6 q5
          obtain ⟨v19, e19, g20, e20, er', eg'⟩ := k6 q5
          rw [er, e8, er', e19, eg, e9, eg', e20, im]
          have hb := ar_within hw q5
          rw [← t1, ← t2] at hb
          refine ⟨rfl, rfl, c2, cD, cQ, cP, ?_⟩
          rcases (show m = 0 ∨ m = 1 ∨ m = 2 ∨ m = 3 ∨ m = 4 ∨ m = 5 by omega) with q | q | q | q | q | q <;> subst q
          · have l0 : (rl_low 0).toInt = 100 := rfl
            have l1 : (rl_high 0).toInt = 30000 := rfl
            rw [pk_us, pk_un (by decide), pk_un (by decide)]; omega
          · have l0 : (rl_low 1).toInt = 0 := rfl
            rw [pk_us, pk_un (by decide), pk_un (by decide)]; omega
          · rw [pk_un (by decide), pk_un (by decide), pk_un (by decide)]; omega
          · rw [pk_un (by decide), pk_un (by decide), pk_un (by decide)]; omega
          · have l0 : (rl_low 4).toInt = 0 := rfl
            have l1 : (rl_high 4).toInt = 60000 := rfl
            rw [pk_us, pk_un (by decide), pk_un (by decide)]; omega
          · rw [pk_un (by decide), pk_un (by decide), pk_un (by decide)]; omega
    · rw [(h.2 a2).1, (h.2 a2).2]
      rw [Int32.lt_iff_toInt_lt] at a2
      rcases pu_inN k1 with ⟨n, n2⟩ | ⟨n, n2, n3⟩
      · rw [(h1' n).1, (h1' n).2]; exact ⟨rfl, hC0⟩
      · omega
/-- a new object -/
theorem pu_init {ru rows ru' kps kis ot rb rs rf fo : Nat → Int32} {sums : Nat → Int64} (h : R_X5_init ru rows) (h' : R_X6_init ru' kps kis sums ot rb rs rf fo) :
    RelC ru 0 200 20 200 20 200 20 ru' 0 kps kis ∧ RelB 0 0 0 0 0 0 0 0 0 0 0 0 0 0 0 0 0 0 0 0 rows 0 0 0 0 0 0 0 0 0 0 0 0 0 sums ot rb rs rf := by
  obtain ⟨g3, e3, -, -, -, -, -, -, o19, ⟨g0, e0, f0⟩, g21, e21, fr, fo'⟩ := h
  obtain ⟨a3, k3, a6, k6, a9, k9, a12, k12, a15, k15, a18, k18, a21, k21, a24, k24, a27, k27, a28, k28, a29, k29, a30, k30, a31, k31, a33, k33, a34, k34, a36, k36, a37, k37, a39, k39, a40, k40, j1, j2, j3, j4, j5, j6, j7, j8, j9⟩ := h'
  have hru : ru = ru' := by
    rw [fr, e21, e3, j1, k31, k30, k29, k28, k3]
    funext j
    rcases (show j = 0 ∨ j = 1 ∨ j = 2 ∨ j = 3 ∨ j = 4 ∨ j = 5 ∨ 6 ≤ j by omega) with q | q | q | q | q | q | q
    · subst q; rfl
    · subst q; rfl
    · subst q; rfl
    · subst q; rfl
    · subst q; rfl
    · subst q; rfl
    · rw [pk_cpy_out (by omega), pk_un (by omega), pk_un (by omega), pk_un (by omega), pk_un (by omega)]
  subst hru
  have hr0 : ru 0 = 10000 := by rw [j1, k31, k30, k29, k28]; rfl
  have hr1 : ru 1 = 4000 := by rw [j1, k31, k30, k29]; rfl
  have hr4 : ru 4 = 40000 := by rw [j1, k31]; rfl
  have hk0 : kps 0 = 200 := by rw [j2, k39, k36, k33]; rfl
  have hk1 : kps 1 = 200 := by rw [j2, k39, k36]; rfl
  have hk2 : kps 2 = 200 := by rw [j2, k39]; rfl
  have hi0 : kis 0 = 20 := by rw [j3, k40, k37, k34]; rfl
  have hi1 : kis 1 = 20 := by rw [j3, k40, k37]; rfl
  have hi2 : kis 2 = 20 := by rw [j3, k40]; rfl
  refine ⟨⟨rfl, rfl, by rw [hk0, hi0]; decide, by rw [hk1, hi1]; decide, by rw [hk2, hi2]; decide, by rw [hr0]; decide, by rw [hr0]; decide, by rw [hr1]; decide, by rw [hr4]; decide, by rw [hr4]; decide⟩, ?_⟩
  rw [j4, k12, j5, k15, j6, k18, j7, k21, j8, k24, fo', f0, e0]
  refine ⟨rfl, rfl, rfl, rfl, rfl, rfl, rfl, rfl, rfl, rfl, rfl, rfl, rfl, by decide, by decide, by decide, by decide, rfl, ⟨by decide, by decide, by decide, fun k _ => ⟨rfl, rfl, rfl⟩⟩, by decide, by decide, by decide, by decide, by decide, by decide, Or.inl rfl⟩
