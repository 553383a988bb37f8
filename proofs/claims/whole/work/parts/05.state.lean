/-! what every method of the three classes stands on: class numbers, places, words that are no good words, texts, the two statics of Throwable -/
abbrev xIA : String := "java/lang/IllegalArgumentException"
abbrev xIO : String := "java/lang/IndexOutOfBoundsException"
abbrev xUO : String := "java/lang/UnsupportedOperationException"
abbrev xNs : List String := ["java/lang/RuntimeException", "java/lang/Exception"]
abbrev gC : List vw_C := [(RB, TB, 3), (RS, TS, 2), (RM, TM, 9)]
/-- the class numbers; the law's start z, the model's cells m0..m1, the first block b0; the array classes of long, Block, int, boolean -/
abbrev gE : Type := va_G × (Nat × Nat × Nat × Nat) × (ClassId × ClassId × ClassId × ClassId)
abbrev gz (Γ : gE) : Nat := Γ.2.1.1
abbrev gm0 (Γ : gE) : Nat := Γ.2.1.2.1
abbrev gm1 (Γ : gE) : Nat := Γ.2.1.2.2.1
abbrev gb0 (Γ : gE) : Nat := Γ.2.1.2.2.2
abbrev kJ (Γ : gE) : ClassId := Γ.2.2.1
abbrev kO (Γ : gE) : ClassId := Γ.2.2.2.1
abbrev kI (Γ : gE) : ClassId := Γ.2.2.2.2.1
abbrev kZ (Γ : gE) : ClassId := Γ.2.2.2.2.2
def gA (Γ : gE) : Nat → Prop := fun q => gz Γ ≤ q
abbrev gT (Γ : gE) : List (ClassId × FieldType) := [(kJ Γ, .long), (kO Γ, .object RB), (kI Γ, .int), (kZ Γ, .boolean)]
def nW : List Cond := [.methodLinkNest RS 128 yB_init RS, .fieldLinkNest RS 113 "StampTables$Block" "lower" "LStampTables$Block;" RS, .fieldLinkNest RS 117 "StampTables$Block" "upper" "LStampTables$Block;" RS, .fieldLinkNest RS 139 "StampTables$Block" "taken" "[J" RS,
  .castable xIA xIA, .castable xIO xIO, .castable xUO xUO, .declares ⟨"java/lang/RuntimeException", "<init>", "(Ljava/lang/String;)V"⟩, .declares ⟨"java/lang/Exception", "<init>", "(Ljava/lang/String;)V"⟩, .declares ⟨"java/lang/Throwable", "<init>", "(Ljava/lang/String;)V"⟩]
def txts : List (Nat × String) := [(81, "no such table"), (83, "no such key"), (86, "no such stamp"), (88, "there are 400 tables"), (52, "the key has no number"), (59, "low is above high"), (62, "no such what"), (70, "no key has so many keys with numbers below it")]
def ncs : List (String × String) := [(xIO, xIA), (xUO, xIA)]
def PN (U : State) : Prop := (∀ w ∈ nW, va_Nw w U) ∧ (∀ q ∈ txts, ∃ a, vk_R RS q.1 q.2 a U) ∧ (∀ q ∈ ncs, va_Nc q.1 q.2 U) ∧ va_AO RB U
def PZ (Γ : gE) (U : State) (H : Heap) : Prop := gz Γ ≤ H.size ∧ vx_Zq Bundle.tN "UNASSIGNED_STACK" Bundle.steD (gA Γ) U H ∧ vx_Zq Bundle.tN "SUPPRESSED_SENTINEL" Bundle.listD (gA Γ) U H
def PW (Γ : gE) (U : State) : Prop := va_K Γ.1 gC (gT Γ) U ∧ PN U ∧ PZ Γ U U.heap
/-- a method's start: these arguments, this heap -/
abbrev gP (Γ : gE) (H : Heap) (As : List Value) : Array Value → State → Prop := va_Pc As (fun U => U.heap = H ∧ PW Γ U)
theorem PN.warm {s U : State} (hW : s.WarmedH U.vm) (h : PN s) : PN U := by
  refine ⟨fun w hw => ?_, fun q hq => ?_, fun q hq => (h.2.2.1 q hq).moved hW.alike, h.2.2.2.moved hW.alike⟩
  · have h1 := h.1 w hw
    simp only [nW, List.mem_cons, List.not_mem_nil, or_false] at hw
    rcases hw with rfl | rfl | rfl | rfl | rfl | rfl | rfl | rfl | rfl | rfl
    · exact h1.warmM hW
    · exact h1.warmF hW
    · exact h1.warmF hW
    · exact h1.warmF hW
    · exact h1.warmC hW
    · exact h1.warmC hW
    · exact h1.warmC hW
    · exact h1.warmD hW
    · exact h1.warmD hW
    · exact h1.warmD hW
  · obtain ⟨a, ha⟩ := h.2.1 q hq
    exact ⟨a, ha.warm hW⟩
theorem nW_tab : ∀ w ∈ nW, w.onTables = true := by decide +kernel
theorem PN.same {u U : State} (hv : U.vm = u.vm) (h : PN u) : PN U := by
  have hal : u.vm.Alike U.vm := by rw [hv]; exact Vm.Alike.refl _
  refine ⟨fun w hw => (h.1 w hw).same (nW_tab w hw) hv.symm, fun q hq => ?_, fun q hq => (h.2.2.1 q hq).moved hal, h.2.2.2.moved hal⟩
  obtain ⟨a, ha⟩ := h.2.1 q hq
  exact ⟨a, ha.same hv⟩
theorem PW.warm {Γ : gE} {s U : State} {H : Heap} {locs : List Loc} (h : PW Γ s) (hS : va_S (gA Γ) s.heap H locs) (hU : U.heap = H) (hW : s.WarmedH U.vm) : PW Γ U := by
  refine ⟨va_K.moved hW.alike h.1, h.2.1.warm hW, ?_⟩
  rw [hU]
  have hk : ∀ a : Nat, a < s.heap.size → ¬ gA Γ a → H[a]? = s.heap[a]? := hS.2.1
  exact ⟨Nat.le_trans h.2.2.1 hS.1, (h.2.2.2.1.kept hk).moved hW.alike, (h.2.2.2.2.kept hk).moved hW.alike⟩
theorem PW.call {Γ : gE} {U : State} (g : JFrame) (mk : MethodId) (a : Array Value) (h : PW Γ U) : PW Γ (U.calling g mk a) :=
  ⟨va_K.moved (u := U) (U := U.calling g mk a) (Vm.Alike.refl U.vm) h.1, PN.same (u := U) (U := U.calling g mk a) rfl h.2.1, h.2.2.1, vx_Zq.moved (u := U) (U := U.calling g mk a) (Vm.Alike.refl U.vm) h.2.2.2.1, vx_Zq.moved (u := U) (U := U.calling g mk a) (Vm.Alike.refl U.vm) h.2.2.2.2⟩
theorem gP_S {Γ : gE} {s : State} {H : Heap} {locs : List Loc} {As : List Value} (h : PW Γ s) (hS : va_S (gA Γ) s.heap H locs) : PreS s H (gP Γ H As) As :=
  ⟨fun a U g mk q => ⟨q.1, q.2.1, q.2.2.call g mk a⟩, fun U hU hW => ⟨rfl, hU, h.warm hS hU hW⟩⟩
theorem gP_V {Γ : gE} {s : State} {H : Heap} {locs : List Loc} {As : List Value} {b ci : Nat} {q : vw_C} {fs : List Value} (h : PW Γ s) (hS : va_S (gA Γ) s.heap H locs) (hc : gC[ci]? = some q) (hb : va_at Γ.1 gC (b, .inr (ci, fs)) H) : PreV s H q.1 b (gP Γ H (.ref b :: As)) As :=
  ⟨fun a U g mk q => ⟨q.1, q.2.1, q.2.2.call g mk a⟩, va_recv (ws := [(b, .inr (ci, fs))]) (q0 := 0) h.1 (fun k x hx => by
    have hz : k < 1 := (List.getElem?_eq_some_iff.mp hx).1
    rw [show k = 0 by omega] at hx
    cases hx
    exact hb) hc rfl, fun U hU hW => ⟨rfl, hU, h.warm hS hU hW⟩⟩
theorem p1 {D : va_G} {q : Nat × va_E} {H : Heap} (h : va_at D gC q H) : va_P D gC [q] H := fun k x hx => by
  have hz : k < 1 := (List.getElem?_eq_some_iff.mp hx).1
  rw [show k = 0 by omega] at hx
  cases hx
  exact h
theorem d1 {A : Nat → Prop} {q : Nat × va_E} (h : A q.1) : va_D A [q] := by
  refine ⟨fun i j x y hi hj _ => ?_, fun k x hx => ?_⟩
  · have h1 : i < 1 := (List.getElem?_eq_some_iff.mp hi).1
    have h2 : j < 1 := (List.getElem?_eq_some_iff.mp hj).1
    omega
  · have hz : k < 1 := (List.getElem?_eq_some_iff.mp hx).1
    rw [show k = 0 by omega] at hx
    cases hx
    exact h
theorem o1 {D : va_G} {q : Nat × va_E} {H : Heap} (h : va_P D gC [q] H) : va_at D gC q H := h 0 q rfl
/-- the throws of this class -/
abbrev xL (ic : Nat) (E : String) : List Cond := vx_atS RS ic E xNs
theorem xw_IA : ∀ w ∈ (xL 61 xIA).filter goodWord, w ∈ lw_tbl := by decide +kernel
theorem xw_IO : ∀ w ∈ (xL 72 xIO).filter goodWord, w ∈ lw_tbl := by decide +kernel
theorem xw_UO : ∀ w ∈ (xL 54 xUO).filter goodWord, w ∈ lw_tbl := by decide +kernel
theorem xb_IA : ∀ w ∈ (xL 61 xIA).filter (fun w => !goodWord w), w ∈ nW := by decide +kernel
theorem xb_IO : ∀ w ∈ (xL 72 xIO).filter (fun w => !goodWord w), w ∈ nW := by decide +kernel
theorem xb_UO : ∀ w ∈ (xL 54 xUO).filter (fun w => !goodWord w), w ∈ nW := by decide +kernel
theorem x_hat {args : Array Value} {s : State} {L : List Cond} (h1 : ∀ w ∈ L.filter goodWord, w ∈ lw_tbl) (h2 : ∀ w ∈ L.filter (fun w => !goodWord w), w ∈ nW) (hg : ∀ w ∈ gW, w.before args s = true) (hN : PN s) : ∀ w ∈ L, w.before args s = true :=
  vx_hat (B := nW) (fun w hw => hg w (List.mem_filter.mpr ⟨h1 w hw, (List.mem_filter.mp hw).2⟩)) h2 (fun w hw => (hN.1 w hw).use (nW_tab w hw))
theorem xg_IA : ∀ w ∈ Cond.classLink RS 57 xIA :: Cond.initialized xIA :: xL 61 xIA, vx_ot w = true := by decide +kernel
theorem xg_IO : ∀ w ∈ Cond.classLink RS 68 xIO :: Cond.initialized xIO :: xL 72 xIO, vx_ot w = true := by decide +kernel
theorem xg_UO : ∀ w ∈ Cond.classLink RS 50 xUO :: Cond.initialized xUO :: xL 54 xUO, vx_ot w = true := by decide +kernel
/-- what a method says where it throws: which class, and nothing old has changed -/
abbrev xT (P : String → Prop) : String → State → State → Prop := vx_X (fun _ : Unit => True) (fun E _ _ => P E) (fun _ => False)
/-- old cells but those of A as they were -/
def hX (A : Nat → Prop) (H H1 : Heap) : Prop := H.size ≤ H1.size ∧ ∀ q : Nat, q < H.size → ¬ A q → H1[q]? = H[q]?
theorem hX.rf {A : Nat → Prop} {H : Heap} : hX A H H := ⟨Nat.le_refl _, fun _ _ _ => rfl⟩
theorem hX.tr {A : Nat → Prop} {H H1 H2 : Heap} (h1 : hX A H H1) (h2 : hX A H1 H2) : hX A H H2 := ⟨Nat.le_trans h1.1 h2.1, fun q hq ha => (h2.2 q (Nat.lt_of_lt_of_le hq h1.1) ha).trans (h1.2 q hq ha)⟩
theorem hX.mono {A B : Nat → Prop} {H H1 : Heap} (h : hX A H H1) (hAB : ∀ q, q < H.size → A q → B q) : hX B H H1 := ⟨h.1, fun q hq hb => h.2 q hq (fun ha => hb (hAB q hq ha))⟩
theorem hX.at {A : Nat → Prop} {H H1 : Heap} {D : va_G} {q : Nat × va_E} (h : hX A H H1) (hq : va_at D gC q H) (ha : ¬ A q.1) : va_at D gC q H1 := hq.kept (h.2 q.1 hq.lt ha)
