/-! blocks are made -/
abbrev nA (s : State) : Nat → Prop := fun q => s.heap.size ≤ q
theorem p0 {D : va_G} {H : Heap} : va_P D gC [] H := fun k q h => by simp at h
theorem d0 {A : Nat → Prop} : va_D A [] := ⟨fun i j p q h => by simp at h, fun k q h => by simp at h⟩
theorem kJ_eq {Γ : gE} {s : State} {cA : ClassId} (h : va_K Γ.1 gC (gT Γ) s) (h2 : va_K Γ.1 gC (gT Γ ++ [(cA, .long)]) s) : cA = kJ Γ := by
  have h3 : s.vm.findClass ("[" ++ FieldType.long.toString) = some cA := (h2.2 4 _ rfl).2
  have h4 : s.vm.findClass ("[" ++ FieldType.long.toString) = some (kJ Γ) := (h.2 0 _ rfl).2
  exact Option.some.inj (h3.symm.trans h4)
theorem vS_g {Γ : gE} {s : State} {H : Heap} {locs : List Loc} (hW : PW Γ s) (hS : va_S (nA s) s.heap H locs) : va_S (gA Γ) s.heap H locs :=
  ⟨hS.1, fun q h1 h2 => hS.2.1 q h1 (fun h => h2 (Nat.le_trans hW.2.2.1 h)), fun q hq => Nat.le_trans hW.2.2.1 (hS.2.2 q hq)⟩
theorem vS_F {s t : State} {H : Heap} {locs : List Loc} (hS : va_S (nA s) s.heap H locs) (ht : t.heap = H) : va_F (fun _ => False) s t :=
  ⟨by rw [ht]; exact hS.1, fun q h1 _ => by rw [ht]; exact hS.2.1 q h1 (Nat.not_le.mpr h1)⟩
theorem vS_X {s : State} {H : Heap} {locs : List Loc} (hS : va_S (nA s) s.heap H locs) : hX (fun _ => False) s.heap H :=
  ⟨hS.1, fun q h1 _ => hS.2.1 q h1 (Nat.not_le.mpr h1)⟩
theorem fX {A : Nat → Prop} {s t : State} (h : va_F A s t) : hX A s.heap t.heap := h
theorem hX_hb {Γ : gE} {H H1 : Heap} (h : hX (fun _ => False) H H1) : hb Γ H H1 := h.mono (fun _ _ h => h.elim)
set_option maxHeartbeats 4000000 in
set_option maxRecDepth 100000 in
theorem c_B_init (l : Launch) (Γ : gE) (H : Heap) {h tk : Nat} {lo up : Option Nat} (hO : va_at Γ.1 gC (h, .inr (0, [.null, .null, .null])) H) : Met l yB_init wB_init ({ frames := 1, cells := 0, slots := 0, locals := 12 }) (gP Γ H [.ref h, va_rf lo, va_rf up, .ref tk]) (va_Qv (fun _ : Unit => True) (fun _ t => oB Γ t.heap h lo up tk) (fun q => q = h)) 0 0 (fun q => q = h) := by
  refine Met.ofW (cc := cB_init) (maxL := 4) (ret := none) (by decide) rfl ?_
  intro p e s m args below meth c s₁ B hml hv
  obtain ⟨rfl, rfl, hW⟩ := hv
  have hx := B.exec
  have hb := B.bytes
  have hr := B.returns
  have hg : ∀ w ∈ gW, w.before _ s = true := fun w h => atoms_spec (ws := wB_init) B.pre w (List.mem_cons_of_mem _ h)
  have hown : s.vm.findClass RB = some m.cls := findClass_of_methodNamed B.named
  have hlocks := B.notSynchronized
  have hS : va_S (gA Γ) s.heap s.heap [] := va_S.rf
  have hl := lv_entry ([.ref h, va_rf lo, va_rf up, .ref tk]) (n := 4) (by cases lo <;> cases up <;> exact Nat.le_of_ble_eq_true rfl)
  rw [lg_entry_eq]
  generalize (lg_sl ([.ref h, va_rf lo, va_rf up, .ref tk]) ++ List.replicate (4 - (lg_sl ([.ref h, va_rf lo, va_rf up, .ref tk])).length) Slot.unset).toArray = ls at hl ⊢
  have hl : lv_has ls 4 [(0, .ref h), (1, va_rf lo), (2, va_rf up), (3, .ref tk)] := by cases lo <;> cases up <;> exact hl
  have hin : meth.name = "<init>" := (name_of_methodNamed B.named B.method).1
  have hS : va_S (fun q => q = h) s.heap s.heap [] := va_S.rf
  have hP := p1 hO
  have hD : va_D (fun q => q = h) [(h, .inr (0, [.null, .null, .null]))] := d1 rfl
  refine lv_aload_n hx hb dB_init_0 rfl (lv_at hl 0 rfl) ?_
  refine W.objInit hx hb hown (hg _ kw156) (hg _ kw27) (hg _ kw28) rfl (by rw [hml]; exact hl.1) rfl dB_init_1 (Nat.le_of_ble_eq_true rfl) (Nat.le_of_ble_eq_true rfl) ?_
  refine W.eq (g2 := F0 m 4 ls []) rfl ?_
  refine lv_aload_n hx hb dB_init_4 rfl (lv_at hl 0 rfl) ?_
  refine q_aload_n hx hb dB_init_5 rfl (lv_at hl 1 rfl) ?_
  refine va_putF (D := Γ.1) (ci := 0) (v := va_rf lo) (ty := .object "StampTables$Block") (C := RB) (T := TB) (N := 3) hx hb hg inB tyB tyB_ok nmB hown hW.1 hP hD hS 0 rfl rfl 0 (by decide) (hg _ kw157) (fun _ h9 => h9) rfl hin rfl (by decide +kernel) (by cases lo <;> rfl) (by cases lo <;> rfl) (Nat.le_of_ble_eq_true rfl) dB_init_6 (fun H locs hP hD hS => ?_)
  have hP : va_P Γ.1 gC [(h, .inr (0, [va_rf lo, .null, .null]))] H := hP
  have hD : va_D (fun q => q = h) [(h, .inr (0, [va_rf lo, .null, .null]))] := hD
  refine lv_aload_n hx hb dB_init_9 rfl (lv_at hl 0 rfl) ?_
  refine q_aload_n hx hb dB_init_10 rfl (lv_at hl 2 rfl) ?_
  refine va_putF (D := Γ.1) (ci := 0) (v := va_rf up) (ty := .object "StampTables$Block") (C := RB) (T := TB) (N := 3) hx hb hg inB tyB tyB_ok nmB hown hW.1 hP hD hS 0 rfl rfl 1 (by decide) (hg _ kw159) (fun _ h9 => h9) rfl hin rfl (by decide +kernel) (by cases up <;> rfl) (by cases up <;> rfl) (Nat.le_of_ble_eq_true rfl) dB_init_11 (fun H locs hP hD hS => ?_)
  have hP : va_P Γ.1 gC [(h, .inr (0, [va_rf lo, va_rf up, .null]))] H := hP
  have hD : va_D (fun q => q = h) [(h, .inr (0, [va_rf lo, va_rf up, .null]))] := hD
  refine lv_aload_n hx hb dB_init_14 rfl (lv_at hl 0 rfl) ?_
  refine lv_aload_n hx hb dB_init_15 rfl (lv_at hl 3 rfl) ?_
  refine va_putF (D := Γ.1) (ci := 0) (v := .ref tk) (ty := .array .long) (C := RB) (T := TB) (N := 3) hx hb hg inB tyB tyB_ok nmB hown hW.1 hP hD hS 0 rfl rfl 2 (by decide) (hg _ kw161) (fun _ h9 => h9) rfl hin rfl (by decide +kernel) rfl rfl (Nat.le_of_ble_eq_true rfl) dB_init_16 (fun H locs hP hD hS => ?_)
  have hP : va_P Γ.1 gC [(h, .inr (0, [va_rf lo, va_rf up, .ref tk]))] H := hP
  have hD : va_D (fun q => q = h) [(h, .inr (0, [va_rf lo, va_rf up, .ref tk]))] := hD
  exact W.vret hx hb hr (fun t ht hW9 => ⟨⟨(), rfl, trivial, by subst ht; exact o1 hP⟩, hS.F ht⟩) (fun q hq => hS.2.2 q hq) dB_init_19
set_option maxHeartbeats 4000000 in
set_option maxRecDepth 100000 in
theorem c_S_leafWithNumber (l : Launch) (Γ : gE) (H : Heap) {k : Nat} {v : Int64} {st : Int32} (hz : gb0 Γ ≤ H.size) : Met l yS_leafWithNumber wS_leafWithNumber ({ frames := 3, cells := 2, slots := 8, locals := 300 }) (gP Γ H [.int (nI k), .long v, .int st]) (va_Qq (fun r y => r = some y) (fun (y : Nat) t => ∃ F, bT Γ t.heap (some y) F ∧ F 0 = 1 ∧ F 1 = v ∧ F 2 = (nI k).toInt64 ∧ F 3 = (nI k).toInt64 ∧ F 4 = st.toInt64) (fun _ => False)) 2 8 (fun q => H.size ≤ q) := by
  refine Met.ofW (cc := cS_leafWithNumber) (maxL := 5) (ret := (some (.object "StampTables$Block"))) (by decide) rfl ?_
  intro p e s m args below meth c s₁ B hml hv
  obtain ⟨rfl, rfl, hW⟩ := hv
  have hx := B.exec
  have hb := B.bytes
  have hr := B.returns
  have hg : ∀ w ∈ gW, w.before _ s = true := fun w h => atoms_spec (ws := wS_leafWithNumber) B.pre w (List.mem_cons_of_mem _ h)
  have hown : s.vm.findClass RS = some m.cls := findClass_of_methodNamed B.named
  have hlocks := B.notSynchronized
  have hS : va_S (gA Γ) s.heap s.heap [] := va_S.rf
  have hl := lv_entry ([.int (nI k), .long v, .int st]) (n := 5) (Nat.le_of_ble_eq_true rfl)
  rw [lg_entry_eq]
  generalize (lg_sl ([.int (nI k), .long v, .int st]) ++ List.replicate (5 - (lg_sl ([.int (nI k), .long v, .int st])).length) Slot.unset).toArray = ls at hl ⊢
  have hl : lv_has ls 5 [(0, .int (nI k)), (1, .long v), (3, .int st)] := hl
  have hS : va_S (nA s) s.heap s.heap [] := va_S.rf
  have hA : ∀ q, s.heap.size ≤ q → nA s q := fun _ h => h
  refine lv_iconst (v := 5) hx hb dS_leafWithNumber_0 (by decide) ?_
  refine va_newa (atype := .long) (D := Γ.1) (cl := gC) (tys := gT Γ) (ws := []) (ty := .long) (a0 := (5, .inr (.inl (fun _ => 0)))) (N' := 5) hx hb (hg _ kw170) rfl hW.1 p0 d0 hS hA (fun cA => rfl) (by decide) (by decide) (by decide) (Nat.le_of_ble_eq_true rfl) (Nat.le_of_ble_eq_true rfl) dS_leafWithNumber_1 (fun tk cA H hK hP hD hS => ?_)
  have eA := kJ_eq hW.1 hK
  subst eA
  have hP : va_P Γ.1 gC [(tk, .inl (kJ Γ, 5, .inr (.inl ((fun _ => 0)))))] H := hP
  have hD : va_D (nA s) [(tk, .inl (kJ Γ, 5, .inr (.inl ((fun _ => 0)))))] := hD
  refine lv_dup hx hb dS_leafWithNumber_3 rfl ?_
  refine lv_iconst (v := 0) hx hb dS_leafWithNumber_4 (by decide) ?_
  refine lv_lconst (v := 1) hx hb dS_leafWithNumber_5 (by decide) ?_
  refine va_last (D := Γ.1) (cl := gC) (tys := gT Γ) hx hb hW.1 hP hD hS 0 0 rfl rfl (by unfold vp_in; decide) dS_leafWithNumber_6 (fun H locs hP hD hS => ?_)
  have hP : va_P Γ.1 gC [(tk, .inl (kJ Γ, 5, .inr (.inl (vp_updL ((fun _ => 0)) (0 : Int32).toNatClampNeg (1)))))] H := hP
  have hD : va_D (nA s) [(tk, .inl (kJ Γ, 5, .inr (.inl (vp_updL ((fun _ => 0)) (0 : Int32).toNatClampNeg (1)))))] := hD
  refine lv_dup hx hb dS_leafWithNumber_7 rfl ?_
  refine lv_iconst (v := 1) hx hb dS_leafWithNumber_8 (by decide) ?_
  refine lv_lload_n hx hb dS_leafWithNumber_9 rfl (lv_at hl 1 rfl) ?_
  refine va_last (D := Γ.1) (cl := gC) (tys := gT Γ) hx hb hW.1 hP hD hS 0 0 rfl rfl (by unfold vp_in; decide) dS_leafWithNumber_10 (fun H locs hP hD hS => ?_)
  have hP : va_P Γ.1 gC [(tk, .inl (kJ Γ, 5, .inr (.inl (vp_updL (vp_updL ((fun _ => 0)) (0 : Int32).toNatClampNeg (1)) (1 : Int32).toNatClampNeg (v)))))] H := hP
  have hD : va_D (nA s) [(tk, .inl (kJ Γ, 5, .inr (.inl (vp_updL (vp_updL ((fun _ => 0)) (0 : Int32).toNatClampNeg (1)) (1 : Int32).toNatClampNeg (v)))))] := hD
  refine lv_dup hx hb dS_leafWithNumber_11 rfl ?_
  refine lv_iconst (v := 2) hx hb dS_leafWithNumber_12 (by decide) ?_
  refine lv_iload_n hx hb dS_leafWithNumber_13 rfl (lv_at hl 0 rfl) ?_
  refine lv_i2l (v := (nI k).toInt64) hx hb dS_leafWithNumber_14 rfl ?_
  refine va_last (D := Γ.1) (cl := gC) (tys := gT Γ) hx hb hW.1 hP hD hS 0 0 rfl rfl (by unfold vp_in; decide) dS_leafWithNumber_15 (fun H locs hP hD hS => ?_)
  have hP : va_P Γ.1 gC [(tk, .inl (kJ Γ, 5, .inr (.inl (vp_updL (vp_updL (vp_updL ((fun _ => 0)) (0 : Int32).toNatClampNeg (1)) (1 : Int32).toNatClampNeg (v)) (2 : Int32).toNatClampNeg ((nI k).toInt64)))))] H := hP
  have hD : va_D (nA s) [(tk, .inl (kJ Γ, 5, .inr (.inl (vp_updL (vp_updL (vp_updL ((fun _ => 0)) (0 : Int32).toNatClampNeg (1)) (1 : Int32).toNatClampNeg (v)) (2 : Int32).toNatClampNeg ((nI k).toInt64)))))] := hD
  refine lv_dup hx hb dS_leafWithNumber_16 rfl ?_
  refine lv_iconst (v := 3) hx hb dS_leafWithNumber_17 (by decide) ?_
  refine lv_iload_n hx hb dS_leafWithNumber_18 rfl (lv_at hl 0 rfl) ?_
  refine lv_i2l (v := (nI k).toInt64) hx hb dS_leafWithNumber_19 rfl ?_
  refine va_last (D := Γ.1) (cl := gC) (tys := gT Γ) hx hb hW.1 hP hD hS 0 0 rfl rfl (by unfold vp_in; decide) dS_leafWithNumber_20 (fun H locs hP hD hS => ?_)
  have hP : va_P Γ.1 gC [(tk, .inl (kJ Γ, 5, .inr (.inl (vp_updL (vp_updL (vp_updL (vp_updL ((fun _ => 0)) (0 : Int32).toNatClampNeg (1)) (1 : Int32).toNatClampNeg (v)) (2 : Int32).toNatClampNeg ((nI k).toInt64)) (3 : Int32).toNatClampNeg ((nI k).toInt64)))))] H := hP
  have hD : va_D (nA s) [(tk, .inl (kJ Γ, 5, .inr (.inl (vp_updL (vp_updL (vp_updL (vp_updL ((fun _ => 0)) (0 : Int32).toNatClampNeg (1)) (1 : Int32).toNatClampNeg (v)) (2 : Int32).toNatClampNeg ((nI k).toInt64)) (3 : Int32).toNatClampNeg ((nI k).toInt64)))))] := hD
  refine lv_dup hx hb dS_leafWithNumber_21 rfl ?_
  refine lv_iconst (v := 4) hx hb dS_leafWithNumber_22 (by decide) ?_
  refine lv_iload_n hx hb dS_leafWithNumber_23 rfl (lv_at hl 2 rfl) ?_
  refine lv_i2l (v := st.toInt64) hx hb dS_leafWithNumber_24 rfl ?_
  refine va_last (D := Γ.1) (cl := gC) (tys := gT Γ) hx hb hW.1 hP hD hS 0 0 rfl rfl (by unfold vp_in; decide) dS_leafWithNumber_25 (fun H locs hP hD hS => ?_)
  have hP : va_P Γ.1 gC [(tk, .inl (kJ Γ, 5, .inr (.inl (vp_updL (vp_updL (vp_updL (vp_updL (vp_updL ((fun _ => 0)) (0 : Int32).toNatClampNeg (1)) (1 : Int32).toNatClampNeg (v)) (2 : Int32).toNatClampNeg ((nI k).toInt64)) (3 : Int32).toNatClampNeg ((nI k).toInt64)) (4 : Int32).toNatClampNeg (st.toInt64)))))] H := hP
  have hD : va_D (nA s) [(tk, .inl (kJ Γ, 5, .inr (.inl (vp_updL (vp_updL (vp_updL (vp_updL (vp_updL ((fun _ => 0)) (0 : Int32).toNatClampNeg (1)) (1 : Int32).toNatClampNeg (v)) (2 : Int32).toNatClampNeg ((nI k).toInt64)) (3 : Int32).toNatClampNeg ((nI k).toInt64)) (4 : Int32).toNatClampNeg (st.toInt64)))))] := hD
  refine lv_astore (lv' := [(4, .ref tk), (0, .int (nI k)), (1, .long v), (3, .int st)]) hx hb dS_leafWithNumber_26 hl (by decide) rfl (fun ls hl => ?_)
  refine va_new (ci := 0) (fs := [.null, .null, .null]) (C := RB) (T := TB) (N := 3) hx hb hg inB tyB tyB_ok hown (hg _ kw29) (hg _ kw152) (hg _ kw18) hW.1 hP hD hS hA rfl (fun j hj => by rcases (show j = 0 ∨ j = 1 ∨ j = 2 by omega) with rfl | rfl | rfl <;> rfl) (Nat.le_of_ble_eq_true rfl) (Nat.le_of_ble_eq_true rfl) dS_leafWithNumber_28 (fun y H hP hD hS => ?_)
  have hP : va_P Γ.1 gC [(tk, .inl (kJ Γ, 5, .inr (.inl (vp_updL (vp_updL (vp_updL (vp_updL (vp_updL ((fun _ => 0)) (0 : Int32).toNatClampNeg (1)) (1 : Int32).toNatClampNeg (v)) (2 : Int32).toNatClampNeg ((nI k).toInt64)) (3 : Int32).toNatClampNeg ((nI k).toInt64)) (4 : Int32).toNatClampNeg (st.toInt64))))), (y, .inr (0, [.null, .null, .null]))] H := hP
  have hD : va_D (nA s) [(tk, .inl (kJ Γ, 5, .inr (.inl (vp_updL (vp_updL (vp_updL (vp_updL (vp_updL ((fun _ => 0)) (0 : Int32).toNatClampNeg (1)) (1 : Int32).toNatClampNeg (v)) (2 : Int32).toNatClampNeg ((nI k).toInt64)) (3 : Int32).toNatClampNeg ((nI k).toInt64)) (4 : Int32).toNatClampNeg (st.toInt64))))), (y, .inr (0, [.null, .null, .null]))] := hD
  refine lv_dup hx hb dS_leafWithNumber_31 rfl ?_
  refine lv_null hx hb dS_leafWithNumber_32 ?_
  refine lv_null hx hb dS_leafWithNumber_33 ?_
  refine lv_aload hx hb dS_leafWithNumber_34 (lv_at hl 0 rfl) ?_
  have hO : va_at Γ.1 gC (y, .inr (0, [.null, .null, .null])) H := hP 1 _ rfl
  have hJ : oJ Γ H tk 5 (vp_updL (vp_updL (vp_updL (vp_updL (vp_updL ((fun _ => 0)) (0 : Int32).toNatClampNeg (1)) (1 : Int32).toNatClampNeg (v)) (2 : Int32).toNatClampNeg ((nI k).toInt64)) (3 : Int32).toNatClampNeg ((nI k).toInt64)) (4 : Int32).toNatClampNeg (st.toInt64)) := hP 0 _ rfl
  have hy : nA s y := hD.2 1 _ rfl
  have ht : nA s tk := hD.2 0 _ rfl
  have hty : ¬ tk = y := fun h => absurd (hD.1 0 1 _ _ rfl rfl h) (by decide)
  refine va_callv (va_runIN (As := [.null, .null, .ref tk]) (rest := [.ref y]) ⟨hx, hb, hml, hown, hg⟩ (c_B_init l Γ H (lo := none) (up := none) hO) ⟨va_cnB 3 hg (gI kw155) rfl rfl rfl (hW.2.1.1 _ (List.mem_of_getElem? (i := 0) rfl)) (hg _ kw18) (by decide +kernel) ⟨Nat.le_of_ble_eq_true rfl, Nat.le_of_ble_eq_true rfl⟩, rfl, hg _ kw154⟩ (gP_S hW (vS_g hW hS)) rfl rfl hl.1 rfl (lv_room (Nat.le_of_ble_eq_true rfl)) dS_leafWithNumber_36 ⟨Nat.le_of_ble_eq_true rfl, Nat.le_of_ble_eq_true rfl⟩) hS (fun q _ h => by rw [show q = y from h]; exact hy) (fun q h => by rw [show q = y from h]; exact hy) (fun u t9 H1 locs1 ht9 hvm hu hB hz1 hk1 hS => ?_)
  rw [ht9] at hB
  have hJ : oJ Γ H1 tk 5 (vp_updL (vp_updL (vp_updL (vp_updL (vp_updL ((fun _ => 0)) (0 : Int32).toNatClampNeg (1)) (1 : Int32).toNatClampNeg (v)) (2 : Int32).toNatClampNeg ((nI k).toInt64)) (3 : Int32).toNatClampNeg ((nI k).toInt64)) (4 : Int32).toNatClampNeg (st.toInt64)) := hJ.kept (hk1 tk hJ.lt hty)
  exact W.aret (v := .ref y) hx hb hr (Or.inl ⟨_, rfl⟩) (Or.inr ⟨_, rfl⟩) (fun t ht8 hW9 => ⟨⟨some y, y, rfl, rfl, _, by subst ht8; exact ⟨Nat.le_trans hz hy, none, none, tk, hB, Nat.le_trans hz ht, hJ⟩, rfl, rfl, rfl, rfl, rfl⟩, vS_F hS ht8⟩) (fun q hq => hS.2.2 q hq) dS_leafWithNumber_39
set_option maxHeartbeats 4000000 in
set_option maxRecDepth 100000 in
theorem c_S_leafWithoutNumber (l : Launch) (Γ : gE) (H : Heap) {st : Int32} (hz : gb0 Γ ≤ H.size) : Met l yS_leafWithoutNumber wS_leafWithoutNumber ({ frames := 3, cells := 2, slots := 8, locals := 300 }) (gP Γ H [.int st]) (va_Qq (fun r y => r = some y) (fun (y : Nat) t => ∃ F, bT Γ t.heap (some y) F ∧ F 0 = 0 ∧ F 1 = 0 ∧ F 2 = -1 ∧ F 3 = -1 ∧ F 4 = st.toInt64) (fun _ => False)) 2 8 (fun q => H.size ≤ q) := by
  refine Met.ofW (cc := cS_leafWithoutNumber) (maxL := 2) (ret := (some (.object "StampTables$Block"))) (by decide) rfl ?_
  intro p e s m args below meth c s₁ B hml hv
  obtain ⟨rfl, rfl, hW⟩ := hv
  have hx := B.exec
  have hb := B.bytes
  have hr := B.returns
  have hg : ∀ w ∈ gW, w.before _ s = true := fun w h => atoms_spec (ws := wS_leafWithoutNumber) B.pre w (List.mem_cons_of_mem _ h)
  have hown : s.vm.findClass RS = some m.cls := findClass_of_methodNamed B.named
  have hlocks := B.notSynchronized
  have hS : va_S (gA Γ) s.heap s.heap [] := va_S.rf
  have hl := lv_entry ([.int st]) (n := 2) (Nat.le_of_ble_eq_true rfl)
  rw [lg_entry_eq]
  generalize (lg_sl ([.int st]) ++ List.replicate (2 - (lg_sl ([.int st])).length) Slot.unset).toArray = ls at hl ⊢
  have hl : lv_has ls 2 [(0, .int st)] := hl
  have hS : va_S (nA s) s.heap s.heap [] := va_S.rf
  have hA : ∀ q, s.heap.size ≤ q → nA s q := fun _ h => h
  refine lv_iconst (v := 5) hx hb dS_leafWithoutNumber_0 (by decide) ?_
  refine va_newa (atype := .long) (D := Γ.1) (cl := gC) (tys := gT Γ) (ws := []) (ty := .long) (a0 := (5, .inr (.inl (fun _ => 0)))) (N' := 5) hx hb (hg _ kw170) rfl hW.1 p0 d0 hS hA (fun cA => rfl) (by decide) (by decide) (by decide) (Nat.le_of_ble_eq_true rfl) (Nat.le_of_ble_eq_true rfl) dS_leafWithoutNumber_1 (fun tk cA H hK hP hD hS => ?_)
  have eA := kJ_eq hW.1 hK
  subst eA
  have hP : va_P Γ.1 gC [(tk, .inl (kJ Γ, 5, .inr (.inl ((fun _ => 0)))))] H := hP
  have hD : va_D (nA s) [(tk, .inl (kJ Γ, 5, .inr (.inl ((fun _ => 0)))))] := hD
  refine lv_dup hx hb dS_leafWithoutNumber_3 rfl ?_
  refine lv_iconst (v := 0) hx hb dS_leafWithoutNumber_4 (by decide) ?_
  refine lv_lconst (v := 0) hx hb dS_leafWithoutNumber_5 (by decide) ?_
  refine va_last (D := Γ.1) (cl := gC) (tys := gT Γ) hx hb hW.1 hP hD hS 0 0 rfl rfl (by unfold vp_in; decide) dS_leafWithoutNumber_6 (fun H locs hP hD hS => ?_)
  have hP : va_P Γ.1 gC [(tk, .inl (kJ Γ, 5, .inr (.inl (vp_updL ((fun _ => 0)) (0 : Int32).toNatClampNeg (0)))))] H := hP
  have hD : va_D (nA s) [(tk, .inl (kJ Γ, 5, .inr (.inl (vp_updL ((fun _ => 0)) (0 : Int32).toNatClampNeg (0)))))] := hD
  refine lv_dup hx hb dS_leafWithoutNumber_7 rfl ?_
  refine lv_iconst (v := 1) hx hb dS_leafWithoutNumber_8 (by decide) ?_
  refine lv_lconst (v := 0) hx hb dS_leafWithoutNumber_9 (by decide) ?_
  refine va_last (D := Γ.1) (cl := gC) (tys := gT Γ) hx hb hW.1 hP hD hS 0 0 rfl rfl (by unfold vp_in; decide) dS_leafWithoutNumber_10 (fun H locs hP hD hS => ?_)
  have hP : va_P Γ.1 gC [(tk, .inl (kJ Γ, 5, .inr (.inl (vp_updL (vp_updL ((fun _ => 0)) (0 : Int32).toNatClampNeg (0)) (1 : Int32).toNatClampNeg (0)))))] H := hP
  have hD : va_D (nA s) [(tk, .inl (kJ Γ, 5, .inr (.inl (vp_updL (vp_updL ((fun _ => 0)) (0 : Int32).toNatClampNeg (0)) (1 : Int32).toNatClampNeg (0)))))] := hD
  refine lv_dup hx hb dS_leafWithoutNumber_11 rfl ?_
  refine lv_iconst (v := 2) hx hb dS_leafWithoutNumber_12 (by decide) ?_
  refine lv_ldc2 (v := (-1)) hx hb hown (hg _ kw196) dS_leafWithoutNumber_13 ?_
  refine va_last (D := Γ.1) (cl := gC) (tys := gT Γ) hx hb hW.1 hP hD hS 0 0 rfl rfl (by unfold vp_in; decide) dS_leafWithoutNumber_16 (fun H locs hP hD hS => ?_)
  have hP : va_P Γ.1 gC [(tk, .inl (kJ Γ, 5, .inr (.inl (vp_updL (vp_updL (vp_updL ((fun _ => 0)) (0 : Int32).toNatClampNeg (0)) (1 : Int32).toNatClampNeg (0)) (2 : Int32).toNatClampNeg (-1)))))] H := hP
  have hD : va_D (nA s) [(tk, .inl (kJ Γ, 5, .inr (.inl (vp_updL (vp_updL (vp_updL ((fun _ => 0)) (0 : Int32).toNatClampNeg (0)) (1 : Int32).toNatClampNeg (0)) (2 : Int32).toNatClampNeg (-1)))))] := hD
  refine lv_dup hx hb dS_leafWithoutNumber_17 rfl ?_
  refine lv_iconst (v := 3) hx hb dS_leafWithoutNumber_18 (by decide) ?_
  refine lv_ldc2 (v := (-1)) hx hb hown (hg _ kw196) dS_leafWithoutNumber_19 ?_
  refine va_last (D := Γ.1) (cl := gC) (tys := gT Γ) hx hb hW.1 hP hD hS 0 0 rfl rfl (by unfold vp_in; decide) dS_leafWithoutNumber_22 (fun H locs hP hD hS => ?_)
  have hP : va_P Γ.1 gC [(tk, .inl (kJ Γ, 5, .inr (.inl (vp_updL (vp_updL (vp_updL (vp_updL ((fun _ => 0)) (0 : Int32).toNatClampNeg (0)) (1 : Int32).toNatClampNeg (0)) (2 : Int32).toNatClampNeg (-1)) (3 : Int32).toNatClampNeg (-1)))))] H := hP
  have hD : va_D (nA s) [(tk, .inl (kJ Γ, 5, .inr (.inl (vp_updL (vp_updL (vp_updL (vp_updL ((fun _ => 0)) (0 : Int32).toNatClampNeg (0)) (1 : Int32).toNatClampNeg (0)) (2 : Int32).toNatClampNeg (-1)) (3 : Int32).toNatClampNeg (-1)))))] := hD
  refine lv_dup hx hb dS_leafWithoutNumber_23 rfl ?_
  refine lv_iconst (v := 4) hx hb dS_leafWithoutNumber_24 (by decide) ?_
  refine lv_iload_n hx hb dS_leafWithoutNumber_25 rfl (lv_at hl 0 rfl) ?_
  refine lv_i2l (v := st.toInt64) hx hb dS_leafWithoutNumber_26 rfl ?_
  refine va_last (D := Γ.1) (cl := gC) (tys := gT Γ) hx hb hW.1 hP hD hS 0 0 rfl rfl (by unfold vp_in; decide) dS_leafWithoutNumber_27 (fun H locs hP hD hS => ?_)
  have hP : va_P Γ.1 gC [(tk, .inl (kJ Γ, 5, .inr (.inl (vp_updL (vp_updL (vp_updL (vp_updL (vp_updL ((fun _ => 0)) (0 : Int32).toNatClampNeg (0)) (1 : Int32).toNatClampNeg (0)) (2 : Int32).toNatClampNeg (-1)) (3 : Int32).toNatClampNeg (-1)) (4 : Int32).toNatClampNeg (st.toInt64)))))] H := hP
  have hD : va_D (nA s) [(tk, .inl (kJ Γ, 5, .inr (.inl (vp_updL (vp_updL (vp_updL (vp_updL (vp_updL ((fun _ => 0)) (0 : Int32).toNatClampNeg (0)) (1 : Int32).toNatClampNeg (0)) (2 : Int32).toNatClampNeg (-1)) (3 : Int32).toNatClampNeg (-1)) (4 : Int32).toNatClampNeg (st.toInt64)))))] := hD
  refine lv_astore_n (lv' := [(1, .ref tk), (0, .int st)]) hx hb dS_leafWithoutNumber_28 rfl hl (by decide) rfl (fun ls hl => ?_)
  refine va_new (ci := 0) (fs := [.null, .null, .null]) (C := RB) (T := TB) (N := 3) hx hb hg inB tyB tyB_ok hown (hg _ kw29) (hg _ kw152) (hg _ kw18) hW.1 hP hD hS hA rfl (fun j hj => by rcases (show j = 0 ∨ j = 1 ∨ j = 2 by omega) with rfl | rfl | rfl <;> rfl) (Nat.le_of_ble_eq_true rfl) (Nat.le_of_ble_eq_true rfl) dS_leafWithoutNumber_29 (fun y H hP hD hS => ?_)
  have hP : va_P Γ.1 gC [(tk, .inl (kJ Γ, 5, .inr (.inl (vp_updL (vp_updL (vp_updL (vp_updL (vp_updL ((fun _ => 0)) (0 : Int32).toNatClampNeg (0)) (1 : Int32).toNatClampNeg (0)) (2 : Int32).toNatClampNeg (-1)) (3 : Int32).toNatClampNeg (-1)) (4 : Int32).toNatClampNeg (st.toInt64))))), (y, .inr (0, [.null, .null, .null]))] H := hP
  have hD : va_D (nA s) [(tk, .inl (kJ Γ, 5, .inr (.inl (vp_updL (vp_updL (vp_updL (vp_updL (vp_updL ((fun _ => 0)) (0 : Int32).toNatClampNeg (0)) (1 : Int32).toNatClampNeg (0)) (2 : Int32).toNatClampNeg (-1)) (3 : Int32).toNatClampNeg (-1)) (4 : Int32).toNatClampNeg (st.toInt64))))), (y, .inr (0, [.null, .null, .null]))] := hD
  refine lv_dup hx hb dS_leafWithoutNumber_32 rfl ?_
  refine lv_null hx hb dS_leafWithoutNumber_33 ?_
  refine lv_null hx hb dS_leafWithoutNumber_34 ?_
  refine lv_aload_n hx hb dS_leafWithoutNumber_35 rfl (lv_at hl 0 rfl) ?_
  have hO : va_at Γ.1 gC (y, .inr (0, [.null, .null, .null])) H := hP 1 _ rfl
  have hJ : oJ Γ H tk 5 (vp_updL (vp_updL (vp_updL (vp_updL (vp_updL ((fun _ => 0)) (0 : Int32).toNatClampNeg (0)) (1 : Int32).toNatClampNeg (0)) (2 : Int32).toNatClampNeg (-1)) (3 : Int32).toNatClampNeg (-1)) (4 : Int32).toNatClampNeg (st.toInt64)) := hP 0 _ rfl
  have hy : nA s y := hD.2 1 _ rfl
  have ht : nA s tk := hD.2 0 _ rfl
  have hty : ¬ tk = y := fun h => absurd (hD.1 0 1 _ _ rfl rfl h) (by decide)
  refine va_callv (va_runIN (As := [.null, .null, .ref tk]) (rest := [.ref y]) ⟨hx, hb, hml, hown, hg⟩ (c_B_init l Γ H (lo := none) (up := none) hO) ⟨va_cnB 3 hg (gI kw155) rfl rfl rfl (hW.2.1.1 _ (List.mem_of_getElem? (i := 0) rfl)) (hg _ kw18) (by decide +kernel) ⟨Nat.le_of_ble_eq_true rfl, Nat.le_of_ble_eq_true rfl⟩, rfl, hg _ kw154⟩ (gP_S hW (vS_g hW hS)) rfl rfl hl.1 rfl (lv_room (Nat.le_of_ble_eq_true rfl)) dS_leafWithoutNumber_36 ⟨Nat.le_of_ble_eq_true rfl, Nat.le_of_ble_eq_true rfl⟩) hS (fun q _ h => by rw [show q = y from h]; exact hy) (fun q h => by rw [show q = y from h]; exact hy) (fun u t9 H1 locs1 ht9 hvm hu hB hz1 hk1 hS => ?_)
  rw [ht9] at hB
  have hJ : oJ Γ H1 tk 5 (vp_updL (vp_updL (vp_updL (vp_updL (vp_updL ((fun _ => 0)) (0 : Int32).toNatClampNeg (0)) (1 : Int32).toNatClampNeg (0)) (2 : Int32).toNatClampNeg (-1)) (3 : Int32).toNatClampNeg (-1)) (4 : Int32).toNatClampNeg (st.toInt64)) := hJ.kept (hk1 tk hJ.lt hty)
  exact W.aret (v := .ref y) hx hb hr (Or.inl ⟨_, rfl⟩) (Or.inr ⟨_, rfl⟩) (fun t ht8 hW9 => ⟨⟨some y, y, rfl, rfl, _, by subst ht8; exact ⟨Nat.le_trans hz hy, none, none, tk, hB, Nat.le_trans hz ht, hJ⟩, rfl, rfl, rfl, rfl, rfl⟩, vS_F hS ht8⟩) (fun q hq => hS.2.2 q hq) dS_leafWithoutNumber_39
set_option maxHeartbeats 4000000 in
set_option maxRecDepth 100000 in
theorem c_S_joined (l : Launch) (Γ : gE) (H : Heap) {lo up : Option Nat} {f1 f2 : Nat → Int64} (hz : gb0 Γ ≤ H.size) (hf1 : bT Γ H lo f1) (hf2 : bT Γ H up f2) : Met l yS_joined wS_joined ({ frames := 3, cells := 2, slots := 8, locals := 300 }) (gP Γ H [va_rf lo, va_rf up]) (va_Qq (fun r y => r = some y) (fun (y : Nat) t => ∃ F, bT Γ t.heap (some y) F ∧ bL Γ t.heap (some y) lo up ∧ ∀ w, w ≤ 4 → F w = cmb w (f1 w) (f2 w)) (fun _ => False)) 2 8 (fun q => H.size ≤ q) := by
  refine Met.ofW (cc := cS_joined) (maxL := 4) (ret := (some (.object "StampTables$Block"))) (by decide) rfl ?_
  intro p e s m args below meth c s₁ B hml hv
  obtain ⟨rfl, rfl, hW⟩ := hv
  have hx := B.exec
  have hb := B.bytes
  have hr := B.returns
  have hg : ∀ w ∈ gW, w.before _ s = true := fun w h => atoms_spec (ws := wS_joined) B.pre w (List.mem_cons_of_mem _ h)
  have hown : s.vm.findClass RS = some m.cls := findClass_of_methodNamed B.named
  have hlocks := B.notSynchronized
  have hS : va_S (gA Γ) s.heap s.heap [] := va_S.rf
  have hl := lv_entry ([va_rf lo, va_rf up]) (n := 4) (by cases lo <;> cases up <;> exact Nat.le_of_ble_eq_true rfl)
  rw [lg_entry_eq]
  generalize (lg_sl ([va_rf lo, va_rf up]) ++ List.replicate (4 - (lg_sl ([va_rf lo, va_rf up])).length) Slot.unset).toArray = ls at hl ⊢
  have hl : lv_has ls 4 [(0, va_rf lo), (1, va_rf up)] := by cases lo <;> cases up <;> exact hl
  have hS : va_S (nA s) s.heap s.heap [] := va_S.rf
  have hA : ∀ q, s.heap.size ≤ q → nA s q := fun _ h => h
  refine lv_iconst (v := 5) hx hb dS_joined_0 (by decide) ?_
  refine va_newa (atype := .long) (D := Γ.1) (cl := gC) (tys := gT Γ) (ws := []) (ty := .long) (a0 := (5, .inr (.inl (fun _ => 0)))) (N' := 5) hx hb (hg _ kw170) rfl hW.1 p0 d0 hS hA (fun cA => rfl) (by decide) (by decide) (by decide) (Nat.le_of_ble_eq_true rfl) (Nat.le_of_ble_eq_true rfl) dS_joined_1 (fun tk cA H hK hP hD hS => ?_)
  have eA := kJ_eq hW.1 hK
  subst eA
  have hP : va_P Γ.1 gC [(tk, .inl (kJ Γ, 5, .inr (.inl ((fun _ => 0)))))] H := hP
  have hD : va_D (nA s) [(tk, .inl (kJ Γ, 5, .inr (.inl ((fun _ => 0)))))] := hD
  refine lv_astore_n (lv' := [(2, .ref tk), (0, va_rf lo), (1, va_rf up)]) hx hb dS_joined_3 rfl hl (by decide) (by cases up <;> rfl) (fun ls hl => ?_)
  refine lv_iconst (v := 0) hx hb dS_joined_4 (by decide) ?_
  refine lv_istore_n (lv' := [(3, .int 0), (2, .ref tk), (0, va_rf lo), (1, va_rf up)]) hx hb dS_joined_5 rfl hl (by decide) rfl (fun ls hl => ?_)
  have key : ∀ (n i : Nat) (g : Nat → Int64) (H : Heap) (locs : List Loc) (ls : Array Slot), i + n = 5 → (∀ w, w < i → g w = cmb w (f1 w) (f2 w)) → va_P Γ.1 gC [(tk, .inl (kJ Γ, 5, .inr (.inl g)))] H → va_D (nA s) [(tk, .inl (kJ Γ, 5, .inr (.inl g)))] → va_S (nA s) s.heap H locs → lv_has ls 4 [(3, .int (nI i)), (2, .ref tk), (0, va_rf lo), (1, va_rf up)] → W p l e (headSpec wS_joined ({ frames := 3, cells := 2, slots := 8, locals := 300 })).room s m [va_rf lo, va_rf up].toArray below meth c H locs (0 + 1) (0 + 5) (MQ below (va_Qq (fun r y => r = some y) (fun (y : Nat) t => ∃ F, bT Γ t.heap (some y) F ∧ bL Γ t.heap (some y) lo up ∧ ∀ w, w ≤ 4 → F w = cmb w (f1 w) (f2 w)) (fun _ => False)) [va_rf lo, va_rf up].toArray s 2 8 (fun q => s.heap.size ≤ q)) (F0 m 6 ls []) := by
    intro n
    induction n with
    | zero =>
      intro i g H locs ls hi hg5 hP hD hS hl
      refine lv_iload_n hx hb dS_joined_6 rfl (lv_at hl 0 rfl) ?_
      refine lv_iconst (v := 4) hx hb dS_joined_7 (by decide) ?_
      refine lv_icmp_gt (tgt := 34) hx hb dS_joined_8 (by decide) (fun c1 => ?_) (fun c1 => ?_)
      · refine va_new (ci := 0) (fs := [.null, .null, .null]) (C := RB) (T := TB) (N := 3) hx hb hg inB tyB tyB_ok hown (hg _ kw29) (hg _ kw152) (hg _ kw18) hW.1 hP hD hS hA rfl (fun j hj => by rcases (show j = 0 ∨ j = 1 ∨ j = 2 by omega) with rfl | rfl | rfl <;> rfl) (Nat.le_of_ble_eq_true rfl) (Nat.le_of_ble_eq_true rfl) dS_joined_34 (fun y H hP hD hS => ?_)
        have hP : va_P Γ.1 gC [(tk, .inl (kJ Γ, 5, .inr (.inl (g)))), (y, .inr (0, [.null, .null, .null]))] H := hP
        have hD : va_D (nA s) [(tk, .inl (kJ Γ, 5, .inr (.inl (g)))), (y, .inr (0, [.null, .null, .null]))] := hD
        refine lv_dup hx hb dS_joined_37 rfl ?_
        refine q_aload_n hx hb dS_joined_38 rfl (lv_at hl 2 rfl) ?_
        refine q_aload_n hx hb dS_joined_39 rfl (lv_at hl 3 rfl) ?_
        refine lv_aload_n hx hb dS_joined_40 rfl (lv_at hl 1 rfl) ?_
        have hO : va_at Γ.1 gC (y, .inr (0, [.null, .null, .null])) H := hP 1 _ rfl
        have hJ : oJ Γ H tk 5 (g) := hP 0 _ rfl
        have hy : nA s y := hD.2 1 _ rfl
        have ht : nA s tk := hD.2 0 _ rfl
        have hty : ¬ tk = y := fun h => absurd (hD.1 0 1 _ _ rfl rfl h) (by decide)
        refine va_callv (va_runIN (As := [va_rf lo, va_rf up, .ref tk]) (rest := [.ref y]) ⟨hx, hb, hml, hown, hg⟩ (c_B_init l Γ H (lo := lo) (up := up) hO) ⟨va_cnB 3 hg (gI kw155) rfl rfl rfl (hW.2.1.1 _ (List.mem_of_getElem? (i := 0) rfl)) (hg _ kw18) (by decide +kernel) ⟨Nat.le_of_ble_eq_true rfl, Nat.le_of_ble_eq_true rfl⟩, rfl, hg _ kw154⟩ (gP_S hW (vS_g hW hS)) rfl rfl hl.1 rfl (lv_room (Nat.le_of_ble_eq_true rfl)) dS_joined_41 ⟨Nat.le_of_ble_eq_true rfl, Nat.le_of_ble_eq_true rfl⟩) hS (fun q _ h => by rw [show q = y from h]; exact hy) (fun q h => by rw [show q = y from h]; exact hy) (fun u t9 H1 locs1 ht9 hvm hu hB hz1 hk1 hS => ?_)
        rw [ht9] at hB
        have hJ : oJ Γ H1 tk 5 (g) := hJ.kept (hk1 tk hJ.lt hty)
        exact W.aret (v := .ref y) hx hb hr (Or.inl ⟨_, rfl⟩) (Or.inr ⟨_, rfl⟩) (fun t ht8 hW9 => ⟨⟨some y, y, rfl, rfl, g, by subst ht8; exact ⟨Nat.le_trans hz hy, lo, up, tk, hB, Nat.le_trans hz ht, hJ⟩, by subst ht8; exact ⟨Nat.le_trans hz hy, tk, hB⟩, fun w hw => hg5 w (by omega)⟩, vS_F hS ht8⟩) (fun q hq => hS.2.2 q hq) dS_joined_44
      · exact absurd (show (4 : Int32) < nI i from nI_lt (a := 4) (by omega) (by omega)) c1
    | succ n ih =>
      intro i g H locs ls hi hg5 hP hD hS hl
      refine lv_iload_n hx hb dS_joined_6 rfl (lv_at hl 0 rfl) ?_
      refine lv_iconst (v := 4) hx hb dS_joined_7 (by decide) ?_
      refine lv_icmp_gt (tgt := 34) hx hb dS_joined_8 (by decide) (fun c1 => ?_) (fun c1 => ?_)
      · exact absurd c1 (nI_nlt (b := i) (a := 4) (by omega) (by omega))
      · have h1 := hf1.kept (hX_hb (vS_X hS))
        have h2 := hf2.kept (hX_hb (vS_X hS))
        refine lv_aload_n hx hb dS_joined_11 rfl (lv_at hl 1 rfl) ?_
        refine lv_iload_n hx hb dS_joined_12 rfl (lv_at hl 0 rfl) ?_
        refine q_aload_n hx hb dS_joined_13 rfl (lv_at hl 2 rfl) ?_
        refine lv_iload_n hx hb dS_joined_14 rfl (lv_at hl 0 rfl) ?_
        refine vp_callSl (W.runS (As := [va_rf lo, .int (nI i)]) (rest := [.int (nI i), .ref tk]) ⟨hx, hb, hml, hown, hg⟩ (c_S_takenOf l Γ H (w := i) (by omega) h1) (va_cwS 2 hg gS_46 rfl rfl rfl (by decide +kernel) ⟨Nat.le_of_ble_eq_true rfl, Nat.le_of_ble_eq_true rfl⟩) (gP_S hW (vS_g hW hS)) rfl rfl hl.1 rfl (lv_room (Nat.le_of_ble_eq_true rfl)) dS_joined_15 ⟨Nat.le_of_ble_eq_true rfl, Nat.le_of_ble_eq_true rfl⟩) (fun a1 ha1 => ?_)
        refine q_aload_n hx hb dS_joined_18 rfl (lv_at hl 3 rfl) ?_
        refine lv_iload_n hx hb dS_joined_19 rfl (lv_at hl 0 rfl) ?_
        refine vp_callSl (W.runS (As := [va_rf up, .int (nI i)]) (rest := [.long a1, .int (nI i), .ref tk]) ⟨hx, hb, hml, hown, hg⟩ (c_S_takenOf l Γ H (w := i) (by omega) h2) (va_cwS 2 hg gS_46 rfl rfl rfl (by decide +kernel) ⟨Nat.le_of_ble_eq_true rfl, Nat.le_of_ble_eq_true rfl⟩) (gP_S hW (vS_g hW hS)) rfl rfl hl.1 rfl (lv_room (Nat.le_of_ble_eq_true rfl)) dS_joined_20 ⟨Nat.le_of_ble_eq_true rfl, Nat.le_of_ble_eq_true rfl⟩) (fun a2 ha2 => ?_)
        refine lv_iload_n hx hb dS_joined_23 rfl (lv_at hl 0 rfl) ?_
        refine vp_callSl (W.runS (As := [.long a1, .long a2, .int (nI i)]) (rest := [.int (nI i), .ref tk]) ⟨hx, hb, hml, hown, hg⟩ (c_S_takenTogether l Γ H (w := i) a1 a2 (by omega)) (va_cwS 3 hg gS_120 rfl rfl rfl (by decide +kernel) ⟨Nat.le_of_ble_eq_true rfl, Nat.le_of_ble_eq_true rfl⟩) (gP_S hW (vS_g hW hS)) rfl rfl hl.1 rfl (lv_room (Nat.le_of_ble_eq_true rfl)) dS_joined_24 ⟨Nat.le_of_ble_eq_true rfl, Nat.le_of_ble_eq_true rfl⟩) (fun a3 ha3 => ?_)
        refine va_last (D := Γ.1) (cl := gC) (tys := gT Γ) hx hb hW.1 hP hD hS 0 0 rfl rfl (vp_in_nI (by omega) (by omega)) dS_joined_27 (fun H locs hP hD hS => ?_)
        have hP : va_P Γ.1 gC [(tk, .inl (kJ Γ, 5, .inr (.inl (vp_updL (g) (nI i : Int32).toNatClampNeg (a3)))))] H := hP
        have hD : va_D (nA s) [(tk, .inl (kJ Γ, 5, .inr (.inl (vp_updL (g) (nI i : Int32).toNatClampNeg (a3)))))] := hD
        refine lv_iinc (v := nI (i + 1)) (lv' := [(3, .int (nI (i + 1))), (2, .ref tk), (0, va_rf lo), (1, va_rf up)]) hx hb dS_joined_28 hl (k := 0) rfl (nI_1 i) (by decide) rfl (fun ls hl => ?_)
        refine lv_goto (tgt := 6) hx hb dS_joined_31 (by decide) ?_
        refine ih (i + 1) _ H locs ls (by omega) ?_ hP hD hS (lv_sub hl [0, 1, 2, 3] rfl)
        intro w hw
        rw [nI_clamp (by omega)]
        by_cases hwi : w = i
        · rw [hwi, pk_uLs, ha3, ha1, ha2]
        · rw [pk_uLn hwi]; exact hg5 w (by omega)
  exact key 5 0 _ H [] ls rfl (fun w hw => absurd hw (by omega)) hP hD hS (lv_sub hl [0, 1, 2, 3] rfl)
