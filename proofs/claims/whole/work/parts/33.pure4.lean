/-- what the class and the reference hold alike and a beat leaves -/
def RelC (ru : Nat → Int32) (lo : Int32) (kpD kiD kpQ kiQ kpP kiP : Int64) (ru' : Nat → Int32) (lo' : Int32) (kps kis : Nat → Int32) : Prop :=
  ru = ru' ∧ lo = lo' ∧ (kpD = (kps 0).toInt64 ∧ kiD = (kis 0).toInt64) ∧ (kpQ = (kps 1).toInt64 ∧ kiQ = (kis 1).toInt64) ∧ (kpP = (kps 2).toInt64 ∧ kiP = (kis 2).toInt64) ∧ 100 ≤ (ru' 0).toInt ∧ (ru' 0).toInt ≤ 30000 ∧ 0 ≤ (ru' 1).toInt ∧ 0 ≤ (ru' 4).toInt ∧ (ru' 4).toInt ≤ 60000
/-- what a beat changes -/
def RelB (st fa : Int32) (vD vQ he : Int64) (be al : Int32) (sD sQ sP d q pa an u v w : Int64) (ov nx hd : Int32) (rows : Nat → Int32) (st' fa' : Int32) (d' q' pa' : Int64) (an' ov' : Int32) (vD' vQ' he' : Int64) (be' al' ch : Int32) (sums : Nat → Int64) (ot rb rs rf : Nat → Int32) : Prop :=
  st = st' ∧ fa = fa' ∧ vD = vD' ∧ vQ = vQ' ∧ he = he' ∧ be = be' ∧ al = al' ∧ sD = sums 0 ∧ sQ = sums 1 ∧ sP = sums 2 ∧ d = d' ∧ q = q' ∧ pa = pa' ∧ an = an'.toInt64 ∧ u = (ot 0).toInt64 ∧ v = (ot 1).toInt64 ∧ w = (ot 2).toInt64 ∧ ov = ov' ∧ Ring rows nx hd rb rs rf ch ∧ 0 ≤ an'.toInt ∧ an'.toInt < 65536 ∧ -60000 ≤ pa'.toInt ∧ pa'.toInt ≤ 60000 ∧ 0 ≤ al'.toInt ∧ al'.toInt < 64 ∧ (st' = 0 ∨ st' = 1 ∨ st' = 2 ∨ st' = 3 ∨ st' = 4)
/-- a beat's first part: faults -/
theorem pu_stop {st fa lo be al nx hd s1 f1 a1 n1 h1 ch r : Int32} {he d q : Int64} {ru rows rw1 rb rs rf x12 x13 x14 : Nat → Int32} {x15 x16 x17 x18 : Int32} (hR : Ring rows nx hd rb rs rf ch) (hb : ch.toInt < 900000000)
    (h : R_X5_stopAtFault st fa lo he be al ru d q nx hd rows s1 f1 a1 n1 h1 rw1) (hf : R_X6_faultNow lo st d q he ru r) (h' : RG_X6_oneBeat_6 st fa be al ch rb rs rf r x12 x13 x14 x15 x16 x17 x18) :
    s1 = x15 ∧ f1 = x16 ∧ a1 = x17 ∧ Ring rw1 n1 h1 x12 x13 x14 x18 ∧ x18.toInt ≤ ch.toInt + 1 ∧ (x17 = al ∨ x17 = 0) ∧ (x15 = st ∨ x15 = 4) := by
  obtain ⟨r1, h2, h3, h4⟩ := h
  obtain ⟨er, hz⟩ := pu_fault h2 hf
  subst er
  have e0 : (0 : Int32).toInt = 0 := rfl
  by_cases c : r1 = 0
  · obtain ⟨z1, z2, z3, z4, z5, z6⟩ := h3 c
    have c' : r1 ≤ 0 := by rw [c]; decide
    obtain ⟨y1, y2, y3, y4, y5, y6, y7⟩ := h'.1 c'
    rw [z1, z2, z3, z4, z5, z6, y1, y2, y3, y4, y5, y6, y7]
    exact ⟨rfl, rfl, rfl, hR, by omega, Or.inl rfl, Or.inl rfl⟩
  · have c' : ¬ r1 ≤ 0 := by
      rw [Int32.le_iff_toInt_le]
      rcases hz with hz | hz
      · exact absurd hz c
      · omega
    have h4 := h4 c
    have h' := h'.2 c'
    by_cases c2 : st = 4
    · obtain ⟨z1, z2, z3, z4, z5, z6⟩ := h4.1 c2
      obtain ⟨y1, y2, y3, y4, y5, y6, y7⟩ := h'.1 c2
      rw [z1, z2, z3, z4, z5, z6, y1, y2, y3, y4, y5, y6, y7]
      exact ⟨rfl, rfl, rfl, hR, by omega, Or.inl rfl, Or.inl rfl⟩
    · obtain ⟨o5, o6, o7, o8, o9, hc, z1, z2, z3, z4, z5, z6⟩ := h4.2 c2
      obtain ⟨p5, p6, p7, p8, p9, p10, hc', y1, y2, y3, y4, y5, y6, y7⟩ := h'.2 c2
      have k := pu_change hR hb hc hc'
      rw [z1, z2, z3, z4, z5, z6, y1, y2, y3, y4, y5, y6, y7]
      exact ⟨k.2.1, k.2.2.1, rfl, k.1, by omega, Or.inr rfl, Or.inr k.2.2.2.1⟩
theorem pu_off {x15 x22 : Int32} (h : RG_X6_oneBeat_31 x15 x22) : (x22 = 0 ∧ ¬ x15 = 0 ∧ ¬ x15 = 4) ∨ (¬ x22 = 0 ∧ (x15 = 0 ∨ x15 = 4)) := by
  by_cases a : x15 = 0
  · exact Or.inr ⟨by rw [h.1 a]; decide, Or.inl a⟩
  · by_cases b : x15 = 4
    · exact Or.inr ⟨by rw [(h.2 a).1 b]; decide, Or.inr b⟩
    · exact Or.inl ⟨(h.2 a).2 b, a, b⟩
/-- a beat's second part: volts by the state (a state is one of five) -/
theorem pu_volts {st al x22 : Int32} {ru kps kis : Nat → Int32} {sums x38 : Nat → Int64} {kpD kiD sD kpQ kiQ sQ kpP kiP sP d q pa vD vQ oD oQ oP be x39 x40 x41 : Int64} {al2 : Int32} (hst : st = 0 ∨ st = 1 ∨ st = 2 ∨ st = 3 ∨ st = 4) (hO : RG_X6_oneBeat_31 st x22)
    (hD : kpD = (kps 0).toInt64 ∧ kiD = (kis 0).toInt64 ∧ sD = sums 0) (hQ : kpQ = (kps 1).toInt64 ∧ kiQ = (kis 1).toInt64 ∧ sQ = sums 1) (hP : kpP = (kps 2).toInt64 ∧ kiP = (kis 2).toInt64 ∧ sP = sums 2)
    (hp : -60000 ≤ pa.toInt) (hp2 : pa.toInt ≤ 60000) (hc : 0 ≤ (ru 4).toInt) (hc2 : (ru 4).toInt ≤ 60000) (hb : 0 ≤ (ru 0).toInt) (hb2 : (ru 0).toInt ≤ 30000) (hm : 0 ≤ (ru 1).toInt)
    (h : R_X5_chooseVolts st al ru kpD kiD sD kpQ kiQ sQ kpP kiP sP d q pa vD vQ al2 oD oQ oP) (h' : RG_X6_oneBeat_49 d q pa be ru kps kis sums st x22 x38 x39 x40 x41) :
    vD = x39 ∧ vQ = x40 ∧ oD = x38 0 ∧ oQ = x38 1 ∧ oP = x38 2 ∧ (st = 1 → al2 = al + 1) ∧ (¬ st = 1 → al2 = al) := by
  have cut : ∀ {g : Nat → Int64}, (∃ g35 : Nat → Int64, g35 = vp_updL sums 0 0 ∧ (∃ g36 : Nat → Int64, g36 = vp_updL g35 1 0 ∧ (∃ g37 : Nat → Int64, g37 = vp_updL g36 2 0 ∧ (g = g37 ∧ x39 = 0 ∧ x40 = 0 ∧ x41 = be)))) → x39 = 0 ∧ x40 = 0 ∧ g 0 = 0 ∧ g 1 = 0 ∧ g 2 = 0 := by
    intro g hg
    obtain ⟨g35, e1, g36, e2, g37, e3, e4, e5, e6, -⟩ := hg
    refine ⟨e5, e6, ?_, ?_, ?_⟩
    · rw [e4, e3, pk_uLn (by decide), e2, pk_uLn (by decide), e1, pk_uLs]
    · rw [e4, e3, pk_uLn (by decide), e2, pk_uLs]
    · rw [e4, e3, pk_uLs]
  have lead : ∀ (s : Int32) (want : Int64), (s = 2 ∨ s = 3) → st = s → (∀ {o1 o2 o3 o4 : Int64} , True) → ((st = 2 ∧ want = (ru 5).toInt64) ∨ (st = 3 ∧ want = 0)) → (∃ (o6 o7 o8 o9 o10 : Int64), R_X5_followPace ru kpD kiD sD kpQ kiQ sQ kpP kiP sP d q pa want o6 o7 o8 o9 o10 ∧ (vD = o6 ∧ vQ = o7 ∧ al2 = al ∧ oD = o8 ∧ oQ = o9 ∧ oP = o10)) → vD = x39 ∧ vQ = x40 ∧ oD = x38 0 ∧ oQ = x38 1 ∧ oP = x38 2 ∧ (st = 1 → al2 = al + 1) ∧ (¬ st = 1 → al2 = al) := by
    intro s want hs es _ hw hh
    obtain ⟨o6, o7, o8, o9, o10, hfp, z1, z2, z3, z4, z5, z6⟩ := hh
    have n1 : ¬ st = 1 := by rw [es]; rcases hs with q | q <;> rw [q] <;> decide
    have hx : x22 = 0 := by
      rcases pu_off hO with ⟨a, -⟩ | ⟨-, a⟩
      · exact a
      · rw [es] at a; rcases hs with q | q <;> rw [q] at a <;> rcases a with a | a <;> exact absurd a (by decide)
    obtain ⟨x28, h28, o30, o31, o32, o33, hl, y1, y2, y3, y4⟩ := (h'.1 hx).2 n1
    have ew : x28 = want := by
      rcases hw with ⟨a, b⟩ | ⟨a, b⟩
      · obtain ⟨v27, e27, e28⟩ := h28.1 a
        rw [e28, e27, b]
      · rw [h28.2 (by rw [a]; decide), b]
    subst ew
    have k := pu_follow hD hQ hP hp hp2 hc hc2 hb hb2 hm hfp hl
    rw [z1, z2, z4, z5, z6, y1, y2, y3]
    exact ⟨k.1, k.2.1, k.2.2.1, k.2.2.2.1, k.2.2.2.2, fun q => absurd q n1, fun _ => z3⟩
  rcases hst with q | q | q | q | q
  · have h := ((h.2 (by rw [q]; decide)).2 (by rw [q]; decide)).2 (by rw [q]; decide)
    obtain ⟨-, z1, z2, z3, z4, z5, z6⟩ := h
    have hx : ¬ x22 = 0 := by
      rcases pu_off hO with ⟨-, a, -⟩ | ⟨a, -⟩
      · exact absurd q a
      · exact a
    have k := cut (h'.2 hx)
    rw [z1, z2, z4, z5, z6, k.1, k.2.1, k.2.2.1, k.2.2.2.1, k.2.2.2.2]
    exact ⟨rfl, rfl, rfl, rfl, rfl, fun a => absurd (q.symm.trans a) (by decide), fun _ => z3⟩
  · obtain ⟨v4, e4, z1, z2, z3, z4, z5, z6⟩ := h.1 q
    have hx : x22 = 0 := by
      rcases pu_off hO with ⟨a, -⟩ | ⟨-, a⟩
      · exact a
      · rw [q] at a; rcases a with a | a <;> exact absurd a (by decide)
    obtain ⟨y1, y2, y3, y4⟩ := (h'.1 hx).1 q
    rw [z1, z2, z4, z5, z6, y1, y2, y3, hD.2.2, hQ.2.2, hP.2.2]
    exact ⟨rfl, rfl, rfl, rfl, rfl, fun _ => by rw [z3, e4], fun a => absurd q a⟩
  · obtain ⟨v5, e5, hh⟩ := (h.2 (by rw [q]; decide)).1 q
    exact lead 2 (v5.toInt64) (Or.inl rfl) q trivial (Or.inl ⟨q, by rw [e5]⟩) hh
  · have hh := ((h.2 (by rw [q]; decide)).2 (by rw [q]; decide)).1 q
    exact lead 3 0 (Or.inr rfl) q trivial (Or.inr ⟨q, rfl⟩) hh
  · have h := ((h.2 (by rw [q]; decide)).2 (by rw [q]; decide)).2 (by rw [q]; decide)
    obtain ⟨-, z1, z2, z3, z4, z5, z6⟩ := h
    have hx : ¬ x22 = 0 := by
      rcases pu_off hO with ⟨-, -, a⟩ | ⟨a, -⟩
      · exact absurd q a
      · exact a
    have k := cut (h'.2 hx)
    rw [z1, z2, z4, z5, z6, k.1, k.2.1, k.2.2.1, k.2.2.2.1, k.2.2.2.2]
    exact ⟨rfl, rfl, rfl, rfl, rfl, fun a => absurd (q.symm.trans a) (by decide), fun _ => z3⟩
