def rl_low : Nat → Int32 := fun j => [100, 0, -2000, 100, 0, -60000].getD j 0
def rl_high : Nat → Int32 := fun j => [30000, 20000, 2000, 32000, 60000, 60000].getD j 0
def rl_first : Nat → Int32 := fun j => [10000, 4000, 0, 20000, 40000, 0].getD j 0
/-- a static array of six ints of the class: it stands outside A -/
def mw_sa (nm : String) (t : Nat) (f : Nat → Int32) (A : Nat → Prop) (U : State) : Prop := va_Z RX5 nm "[I" (.ref t) A U U.heap ∧ va_X t 6 f U U.heap ∧ t < U.heap.size ∧ ¬ A t
theorem mw_sa.call {nm : String} {t : Nat} {f : Nat → Int32} {A : Nat → Prop} {U : State} {g : JFrame} {mk : MethodId} {a : Array Value} (h : mw_sa nm t f A U) : mw_sa nm t f A (U.calling g mk a) := ⟨va_Z.moved (u := U) (U := U.calling g mk a) (Vm.Alike.refl U.vm) h.1, va_X.moved (u := U) (U := U.calling g mk a) (Vm.Alike.refl U.vm) h.2.1, h.2.2⟩
theorem mw_sa.use {nm : String} {t : Nat} {f : Nat → Int32} {A B : Nat → Prop} {s U : State} {H : Heap} {locs : List Loc} (h : mw_sa nm t f A s) (hS : va_S A s.heap H locs) (hF : ∀ q, B q → A q) (hU : U.heap = H) (hW : s.WarmedH U.vm) : mw_sa nm t f B U := by
  obtain ⟨hZ, hX, hl, hn⟩ := h
  unfold mw_sa
  rw [hU]
  exact ⟨((hZ.kept hS.2.1).narrow hF).moved hW.alike, (hX.kept (hS.2.1 t hl hn)).moved hW.alike, Nat.lt_of_lt_of_le hl hS.1, fun q => hn (hF t q)⟩
def mw_pre2 (D : va_G) (cl : List vw_C) (ws : va_W) (tys : List (ClassId × FieldType)) (sz tl th : Nat) (U : State) : Prop := mw_pre D cl ws tys sz U ∧ mw_sa "RULE_LOW" tl rl_low (va_A ws sz) U ∧ mw_sa "RULE_HIGH" th rl_high (va_A ws sz) U
def mw_pre3 (D : va_G) (cl : List vw_C) (ws : va_W) (tys : List (ClassId × FieldType)) (sz tf : Nat) (U : State) : Prop := mw_pre D cl ws tys sz U ∧ mw_sa "RULE_FIRST" tf rl_first (va_A ws sz) U
theorem mw_blind2 {av : List Value} {D : va_G} {cl : List vw_C} {ws : va_W} {tys : List (ClassId × FieldType)} {sz tl th : Nat} : FrameBlind (va_Pc av (mw_pre2 D cl ws tys sz tl th)) := fun a U g mk q => ⟨q.1, (mw_blind (av := av) a U g mk ⟨q.1, q.2.1⟩).2, q.2.2.1.call, q.2.2.2.call⟩
theorem mw_blind3 {av : List Value} {D : va_G} {cl : List vw_C} {ws : va_W} {tys : List (ClassId × FieldType)} {sz tf : Nat} : FrameBlind (va_Pc av (mw_pre3 D cl ws tys sz tf)) := fun a U g mk q => ⟨q.1, (mw_blind (av := av) a U g mk ⟨q.1, q.2.1⟩).2, q.2.2.call⟩
theorem mw_preV2 {s : State} {H : Heap} {C : String} {b : Addr} {av : List Value} {D : va_G} {cl : List vw_C} {wc : va_W} {tyc : List (ClassId × FieldType)} {A : Nat → Prop} {tl th : Nat} {locs : List Loc} (hrc : ∃ cell : Cell, H[b]? = some cell ∧ cell.vm.isStatics = false ∧ s.vm.findClass C = some cell.cls) (hPc : va_P D cl wc H) (hDc : va_D A wc) (hKc : va_K D cl tyc s) (hN : mw_nz s) (hS : va_S A s.heap H locs) (hF : ∀ q, va_A wc H.size q → A q) (h1 : mw_sa "RULE_LOW" tl rl_low A s) (h2 : mw_sa "RULE_HIGH" th rl_high A s) : PreV s H C b (va_Pc (.ref b :: av) (mw_pre2 D cl wc tyc H.size tl th)) av :=
  ⟨mw_blind2, hrc, fun U hU hW => ⟨rfl, ((mw_preS (av := .ref b :: av) hPc hDc hKc hN).2 U hU hW).2, h1.use hS hF hU hW, h2.use hS hF hU hW⟩⟩
theorem mw_preS3 {s : State} {H : Heap} {av : List Value} {D : va_G} {cl : List vw_C} {wc : va_W} {tyc : List (ClassId × FieldType)} {A : Nat → Prop} {tf : Nat} {locs : List Loc} (hPc : va_P D cl wc H) (hDc : va_D A wc) (hKc : va_K D cl tyc s) (hN : mw_nz s) (hS : va_S A s.heap H locs) (hF : ∀ q, va_A wc H.size q → A q) (h1 : mw_sa "RULE_FIRST" tf rl_first A s) : PreS s H (va_Pc av (mw_pre3 D cl wc tyc H.size tf)) av :=
  ⟨mw_blind3, fun U hU hW => ⟨rfl, ((mw_preS (av := av) hPc hDc hKc hN).2 U hU hW).2, h1.use hS hF hU hW⟩⟩
theorem ar_06 {x : Int32} (h0 : ¬ x < 0) (h1 : x < 6) : vp_in x 6 := by
  rw [Int32.lt_iff_toInt_lt] at h0 h1
  have e0 : (0 : Int32).toInt = 0 := rfl
  have e6 : (6 : Int32).toInt = 6 := rfl
  exact ar_in (by omega) (by omega)
