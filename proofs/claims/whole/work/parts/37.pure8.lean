/-- many beats -/
theorem pu_IT {ru ru' kps kis : Nat → Int32} {lo lo' : Int32} {kpD kiD kpQ kiQ kpP kiP : Int64} (hC : RelC ru lo kpD kiD kpQ kiQ kpP kiP ru' lo' kps kis) : ∀ (n : Nat) (a b : Int32 × Int32 × Int64 × Int64 × Int64 × Int32 × Int32 × Int64 × Int64 × Int64 × Int64 × Int64 × Int64 × Int64 × Int64 × Int64 × Int64 × Int32 × Int32 × Int32 × (Nat → Int32)) (a' b' : Int32 × Int32 × Int64 × Int64 × Int64 × Int32 × Int32 × Int64 × Int64 × Int64 × Int32 × Int32 × Int32 × Int32 × Int64 × (Nat → Int64) × (Nat → Int32) × (Nat → Int32) × (Nat → Int32) × (Nat → Int32) × (Nat → Int32)), n ≤ 400 → (a'.2.2.2.2.2.2.2.2.2.2.2.2.1).toInt < 800000000 → RelB a.1 a.2.1 a.2.2.1 a.2.2.2.1 a.2.2.2.2.1 a.2.2.2.2.2.1 a.2.2.2.2.2.2.1 a.2.2.2.2.2.2.2.1 a.2.2.2.2.2.2.2.2.1 a.2.2.2.2.2.2.2.2.2.1 a.2.2.2.2.2.2.2.2.2.2.1 a.2.2.2.2.2.2.2.2.2.2.2.1 a.2.2.2.2.2.2.2.2.2.2.2.2.1 a.2.2.2.2.2.2.2.2.2.2.2.2.2.1 a.2.2.2.2.2.2.2.2.2.2.2.2.2.2.1 a.2.2.2.2.2.2.2.2.2.2.2.2.2.2.2.1 a.2.2.2.2.2.2.2.2.2.2.2.2.2.2.2.2.1 a.2.2.2.2.2.2.2.2.2.2.2.2.2.2.2.2.2.1 a.2.2.2.2.2.2.2.2.2.2.2.2.2.2.2.2.2.2.1 a.2.2.2.2.2.2.2.2.2.2.2.2.2.2.2.2.2.2.2.1 a.2.2.2.2.2.2.2.2.2.2.2.2.2.2.2.2.2.2.2.2 a'.1 a'.2.1 a'.2.2.1 a'.2.2.2.1 a'.2.2.2.2.1 a'.2.2.2.2.2.1 a'.2.2.2.2.2.2.1 a'.2.2.2.2.2.2.2.1 a'.2.2.2.2.2.2.2.2.1 a'.2.2.2.2.2.2.2.2.2.1 a'.2.2.2.2.2.2.2.2.2.2.1 a'.2.2.2.2.2.2.2.2.2.2.2.1 a'.2.2.2.2.2.2.2.2.2.2.2.2.1 a'.2.2.2.2.2.2.2.2.2.2.2.2.2.2.2.1 a'.2.2.2.2.2.2.2.2.2.2.2.2.2.2.2.2.1 a'.2.2.2.2.2.2.2.2.2.2.2.2.2.2.2.2.2.1 a'.2.2.2.2.2.2.2.2.2.2.2.2.2.2.2.2.2.2.1 a'.2.2.2.2.2.2.2.2.2.2.2.2.2.2.2.2.2.2.2.1 → IT_X5_beat lo ru kpD kiD kpQ kiQ kpP kiP n a b → IT_X6_beat lo' ru' kps kis n a' b' → RelB b.1 b.2.1 b.2.2.1 b.2.2.2.1 b.2.2.2.2.1 b.2.2.2.2.2.1 b.2.2.2.2.2.2.1 b.2.2.2.2.2.2.2.1 b.2.2.2.2.2.2.2.2.1 b.2.2.2.2.2.2.2.2.2.1 b.2.2.2.2.2.2.2.2.2.2.1 b.2.2.2.2.2.2.2.2.2.2.2.1 b.2.2.2.2.2.2.2.2.2.2.2.2.1 b.2.2.2.2.2.2.2.2.2.2.2.2.2.1 b.2.2.2.2.2.2.2.2.2.2.2.2.2.2.1 b.2.2.2.2.2.2.2.2.2.2.2.2.2.2.2.1 b.2.2.2.2.2.2.2.2.2.2.2.2.2.2.2.2.1 b.2.2.2.2.2.2.2.2.2.2.2.2.2.2.2.2.2.1 b.2.2.2.2.2.2.2.2.2.2.2.2.2.2.2.2.2.2.1 b.2.2.2.2.2.2.2.2.2.2.2.2.2.2.2.2.2.2.2.1 b.2.2.2.2.2.2.2.2.2.2.2.2.2.2.2.2.2.2.2.2 b'.1 b'.2.1 b'.2.2.1 b'.2.2.2.1 b'.2.2.2.2.1 b'.2.2.2.2.2.1 b'.2.2.2.2.2.2.1 b'.2.2.2.2.2.2.2.1 b'.2.2.2.2.2.2.2.2.1 b'.2.2.2.2.2.2.2.2.2.1 b'.2.2.2.2.2.2.2.2.2.2.1 b'.2.2.2.2.2.2.2.2.2.2.2.1 b'.2.2.2.2.2.2.2.2.2.2.2.2.1 b'.2.2.2.2.2.2.2.2.2.2.2.2.2.2.2.1 b'.2.2.2.2.2.2.2.2.2.2.2.2.2.2.2.2.1 b'.2.2.2.2.2.2.2.2.2.2.2.2.2.2.2.2.2.1 b'.2.2.2.2.2.2.2.2.2.2.2.2.2.2.2.2.2.2.1 b'.2.2.2.2.2.2.2.2.2.2.2.2.2.2.2.2.2.2.2.1 ∧ (b'.2.2.2.2.2.2.2.2.2.2.2.2.1).toInt ≤ (a'.2.2.2.2.2.2.2.2.2.2.2.2.1).toInt + 2 * n := by
  intro n
  induction n with
  | zero =>
    intro a b a' b' _ _ hB h h'
    have h : a = b := h
    have h' : a' = b' := h'
    rw [← h, ← h']
    exact ⟨hB, by omega⟩
  | succ n ih =>
    intro a b a' b' hn hb hB h h'
    obtain ⟨c, hc, h1⟩ := h
    obtain ⟨c', hc', h1'⟩ := h'
    obtain ⟨k1, k2⟩ := ih a c a' c' (by omega) hb hB hc hc'
    obtain ⟨k3, k4⟩ := pu_beat1 hC k1 (by omega) h1 h1'
    exact ⟨k3, by omega⟩
theorem pu_beat {ru ru' kps kis : Nat → Int32} {lo lo' x r r' : Int32} {kpD kiD kpQ kiQ kpP kiP : Int64} {st : Int32} {fa : Int32} {vD : Int64} {vQ : Int64} {he : Int64} {be : Int32} {al : Int32} {sD : Int64} {sQ : Int64} {sP : Int64} {d : Int64} {q : Int64} {pa : Int64} {an : Int64} {u : Int64} {v : Int64} {w : Int64} {ov : Int32} {nx : Int32} {hd : Int32} {rows : Nat → Int32} {st1 : Int32} {fa1 : Int32} {vD1 : Int64} {vQ1 : Int64} {he1 : Int64} {be1 : Int32} {al1 : Int32} {sD1 : Int64} {sQ1 : Int64} {sP1 : Int64} {d1 : Int64} {q1 : Int64} {pa1 : Int64} {an1 : Int64} {u1 : Int64} {v1 : Int64} {w1 : Int64} {ov1 : Int32} {nx1 : Int32} {hd1 : Int32} {rows1 : Nat → Int32} {st' : Int32} {fa' : Int32} {d' : Int64} {q' : Int64} {pa' : Int64} {an' : Int32} {ov' : Int32} {vD' : Int64} {vQ' : Int64} {he' : Int64} {be' : Int32} {al' : Int32} {ch : Int32} {fv : Int32} {bh : Int64} {sums : Nat → Int64} {ot : Nat → Int32} {rb : Nat → Int32} {rs : Nat → Int32} {rf : Nat → Int32} {fo : Nat → Int32} {st'2 : Int32} {fa'2 : Int32} {d'2 : Int64} {q'2 : Int64} {pa'2 : Int64} {an'2 : Int32} {ov'2 : Int32} {vD'2 : Int64} {vQ'2 : Int64} {he'2 : Int64} {be'2 : Int32} {al'2 : Int32} {ch2 : Int32} {fv2 : Int32} {bh2 : Int64} {sums2 : Nat → Int64} {ot2 : Nat → Int32} {rb2 : Nat → Int32} {rs2 : Nat → Int32} {rf2 : Nat → Int32} {fo2 : Nat → Int32} 
    (hC : RelC ru lo kpD kiD kpQ kiQ kpP kiP ru' lo' kps kis) (hB : RelB st fa vD vQ he be al sD sQ sP d q pa an u v w ov nx hd rows st' fa' d' q' pa' an' ov' vD' vQ' he' be' al' ch sums ot rb rs rf) (hb : ch.toInt < 800000000)
    (h : R_X5_beat st fa lo vD vQ he be al ru kpD kiD sD kpQ kiQ sQ kpP kiP sP d q pa an u v w ov nx hd rows x r st1 fa1 vD1 vQ1 he1 be1 al1 sD1 sQ1 sP1 d1 q1 pa1 an1 u1 v1 w1 ov1 nx1 hd1 rows1) (h' : R_X6_beat lo' st' fa' d' q' pa' an' ov' vD' vQ' he' be' al' ch fv bh ru' kps kis sums ot rb rs rf fo x r' st'2 fa'2 d'2 q'2 pa'2 an'2 ov'2 vD'2 vQ'2 he'2 be'2 al'2 ch2 fv2 bh2 sums2 ot2 rb2 rs2 rf2 fo2) : r = r' ∧ RelB st1 fa1 vD1 vQ1 he1 be1 al1 sD1 sQ1 sP1 d1 q1 pa1 an1 u1 v1 w1 ov1 nx1 hd1 rows1 st'2 fa'2 d'2 q'2 pa'2 an'2 ov'2 vD'2 vQ'2 he'2 be'2 al'2 ch2 sums2 ot2 rb2 rs2 rf2 ∧ ch2.toInt ≤ ch.toInt + 800 := by
  obtain ⟨r1, w1, h1, g1⟩ := h
  obtain ⟨s1, k1, h1', g1'⟩ := h'
  have z := pu_win rfl rfl w1 k1
  subst z
  by_cases q1 : r1 = 0
  · obtain ⟨z0, z1, z2, z3, z4, z5, z6, z7, z8, z9, z10, z11, z12, z13, z14, z15, z16, z17, z18, z19, z20, z21⟩ := h1 q1
    obtain ⟨y0, y1, y2, y3, y4, y5, y6, y7, y8, y9, y10, y11, y12, y13, y14, y15, y16, y17, y18, y19, y20, y21⟩ := h1' q1
    rw [z0, z1, z2, z3, z4, z5, z6, z7, z8, z9, z10, z11, z12, z13, z14, z15, z16, z17, z18, z19, z20, z21, y0, y1, y2, y3, y4, y5, y6, y7, y8, y9, y10, y11, y12, y13, y16, y17, y18, y19, y20]
    exact ⟨rfl, hB, by omega⟩
  · obtain ⟨a0, a1, a2, a3, a4, a5, a6, a7, a8, a9, a10, a11, a12, a13, a14, a15, a16, a17, a18, a19, a20, hI, z0, z1, z2, z3, z4, z5, z6, z7, z8, z9, z10, z11, z12, z13, z14, z15, z16, z17, z18, z19, z20, z21⟩ := g1 q1
    obtain ⟨b0, b1, b2, b3, b4, b5, b6, b7, b8, b9, b10, b11, b12, b13, b14, b15, b16, b17, b18, b19, b20, hI', y0, y1, y2, y3, y4, y5, y6, y7, y8, y9, y10, y11, y12, y13, y14, y15, y16, y17, y18, y19, y20, y21⟩ := g1' q1
    have hn := (lp_n w1 q1).1
    obtain ⟨k2, k3⟩ := pu_IT hC _ (st, fa, vD, vQ, he, be, al, sD, sQ, sP, d, q, pa, an, u, v, w, ov, nx, hd, rows) (a0, a1, a2, a3, a4, a5, a6, a7, a8, a9, a10, a11, a12, a13, a14, a15, a16, a17, a18, a19, a20) (st', fa', d', q', pa', an', ov', vD', vQ', he', be', al', ch, fv, bh, sums, ot, rb, rs, rf, fo) (b0, b1, b2, b3, b4, b5, b6, b7, b8, b9, b10, b11, b12, b13, b14, b15, b16, b17, b18, b19, b20) hn hb hB hI hI'
    rw [z0, z1, z2, z3, z4, z5, z6, z7, z8, z9, z10, z11, z12, z13, z14, z15, z16, z17, z18, z19, z20, z21, y0, y1, y2, y3, y4, y5, y6, y7, y8, y9, y10, y11, y12, y13, y16, y17, y18, y19, y20]
    have k3 : b12.toInt ≤ ch.toInt + 2 * x.toNatClampNeg := k3
    exact ⟨k2.1, k2, by omega⟩
