section
variable {p : Program} {l : Launch} {e : Env} {R : Room} {s : State} {m : MethodId} {args : Array Value} {below : List Frame} {meth : Method} {c : Code} {H H0 : Heap} {locs : List Loc} {cells slots : Nat} {Q : State → Prop} {nL : Nat} {ls : Array Slot} {D : va_G} {cl : List vw_C} {A : Nat → Prop}
/-- a loop that counts from 0 up to N: what holds at its head with i rounds done is Inv i -/
theorem mw_loop {X : Type} (cw : X → va_W) (lw : Int32 → List (Nat × Value)) (pcH : Nat) (Inv : Nat → X → Prop) (N : Nat)
    (kEnd : ∀ x : X, Inv N x → ∀ (H1 : Heap) (locs1 : List Loc) (ls1 : Array Slot), va_P D cl (cw x) H1 → va_D A (cw x) → va_S A H0 H1 locs1 → lv_has ls1 nL (lw (nI N)) → W p l e R s m args below meth c H1 locs1 cells slots Q (F0 m pcH ls1 []))
    (kStep : ∀ (i : Nat) (x : X), i < N → Inv i x → (∀ y : X, Inv (i + 1) y → ∀ (H1 : Heap) (locs1 : List Loc) (ls1 : Array Slot), va_P D cl (cw y) H1 → va_D A (cw y) → va_S A H0 H1 locs1 → lv_has ls1 nL (lw (nI (i + 1))) → W p l e R s m args below meth c H1 locs1 cells slots Q (F0 m pcH ls1 [])) →
      ∀ (H1 : Heap) (locs1 : List Loc) (ls1 : Array Slot), va_P D cl (cw x) H1 → va_D A (cw x) → va_S A H0 H1 locs1 → lv_has ls1 nL (lw (nI i)) → W p l e R s m args below meth c H1 locs1 cells slots Q (F0 m pcH ls1 []))
    (x0 : X) (h0 : Inv 0 x0) (hP : va_P D cl (cw x0) H) (hD : va_D A (cw x0)) (hS : va_S A H0 H locs) (hl : lv_has ls nL (lw 0)) : W p l e R s m args below meth c H locs cells slots Q (F0 m pcH ls []) := by
  have key : ∀ (k i : Nat) (x : X), i + k = N → Inv i x → ∀ (H1 : Heap) (locs1 : List Loc) (ls1 : Array Slot), va_P D cl (cw x) H1 → va_D A (cw x) → va_S A H0 H1 locs1 → lv_has ls1 nL (lw (nI i)) → W p l e R s m args below meth c H1 locs1 cells slots Q (F0 m pcH ls1 []) := by
    intro k
    induction k with
    | zero =>
      intro i x hi hI
      have : i = N := by omega
      subst this
      exact kEnd x hI
    | succ k ih =>
      intro i x hi hI
      exact kStep i x (by omega) hI (fun y hy => ih (i + 1) y (by omega) hy)
  exact key N 0 x0 (by omega) h0 H locs ls hP hD hS hl
end
theorem lp_n {x r : Int32} (h : R_X5_within x 0 400 r) (hr : ¬ r = 0) : x.toNatClampNeg ≤ 400 ∧ x = nI x.toNatClampNeg := by
  have h1 := ar_within h hr
  have e0 : (0 : Int32).toInt = 0 := rfl
  have e4 : (400 : Int32).toInt = 400 := rfl
  obtain ⟨j, hj, ej⟩ := vp_in_of (ar_in (x := x) (n := 401) (by omega) (by omega)) (by omega)
  have hc : x.toNatClampNeg = j := by rw [ej]; exact nI_clamp (by omega)
  rw [hc]; exact ⟨by omega, ej⟩
theorem lp_m {x r : Int32} (h : R_X6_in x.toInt64 0 400 r) (hr : ¬ r = 0) : x.toNatClampNeg ≤ 400 ∧ x = nI x.toNatClampNeg := by
  obtain ⟨j, hj, ej⟩ := vp_in_of (ar_inI (n := 401) h hr rfl rfl) (by omega)
  have hc : x.toNatClampNeg = j := by rw [ej]; exact nI_clamp (by omega)
  rw [hc]; exact ⟨by omega, ej⟩
theorem lp_inc (i : Nat) : nI i + Int32.ofInt 1 = nI (i + 1) := (nI_succ i).symm
/-- the reference's ring number grows by at most two a beat -/
theorem ob_bec {f : Int32} {b st fa : Nat → Int32} {p0 p1 p2 a1 a2 a3 : Int32} {g1 g2 g3 : Nat → Int32} (h : R_X6_become f b st fa p0 p1 p2 a1 a2 a3 g1 g2 g3) : a3 = f + 1 := by
  obtain ⟨g1, -, g2, -, g3, -, v4, ev, hz⟩ := h
  rw [hz.2.2.1, ev]
theorem ob_add1 {f x : Int32} (h0 : 0 ≤ f.toInt) (h1 : f.toInt < 900000000) (h : x = f ∨ x = f + 1) : 0 ≤ x.toInt ∧ f.toInt ≤ x.toInt ∧ x.toInt ≤ f.toInt + 1 := by
  rcases h with h | h
  · rw [h]; omega
  · rw [h, ar_addk 1 1 rfl rfl (by omega) (by omega)]; omega
