/-! the object: its constructor, a new table, the checks, put and delete -/
theorem d2 {A : Nat → Prop} {p q : Nat × va_E} (hp : A p.1) (hq : A q.1) (hne : p.1 ≠ q.1) : va_D A [p, q] := by
  refine ⟨fun i j x y hi hj hxy => ?_, fun k x hx => ?_⟩
  · have h1 : i < 2 := (List.getElem?_eq_some_iff.mp hi).1
    have h2 : j < 2 := (List.getElem?_eq_some_iff.mp hj).1
    rcases (show i = 0 ∨ i = 1 by omega) with rfl | rfl <;> rcases (show j = 0 ∨ j = 1 by omega) with rfl | rfl <;> cases hi <;> cases hj
    · rfl
    · exact absurd hxy hne
    · exact absurd hxy.symm hne
    · rfl
  · have hz : k < 2 := (List.getElem?_eq_some_iff.mp hx).1
    rcases (show k = 0 ∨ k = 1 by omega) with rfl | rfl <;> cases hx <;> assumption
theorem kO_eq {Γ : gE} {s : State} {cA : ClassId} (h : va_K Γ.1 gC (gT Γ) s) (h2 : va_K Γ.1 gC (gT Γ ++ [(cA, .object RB)]) s) : cA = kO Γ := by
  obtain ⟨k1, c1, -, -, -, h3⟩ := (h2.2 4 _ rfl).2
  obtain ⟨k2, c2, -, -, -, h4⟩ := (h.2 1 _ rfl).2
  exact Option.some.inj (h3.symm.trans h4)
theorem anyB {Γ : gE} {s : State} {H : Heap} {y tk : Nat} {lo up : Option Nat} (h : va_K Γ.1 gC (gT Γ) s) (hB : oB Γ H y lo up tk) : va_Any RB s H y := by
  refine va_rAny (q0 := 0) (ci := 0) h (p1 hB) rfl rfl (fun comp c0 h1 h2 => ?_)
  have hc := (h.1 0 _ rfl).2
  cases Option.some.inj (h1.symm.trans h2)
  cases Option.some.inj (h1.symm.trans hc.1)
  exact va_assign hc
set_option maxHeartbeats 4000000 in
set_option maxRecDepth 100000 in
theorem c_S_init (l : Launch) (Γ : gE) (H : Heap) {x : Nat} (hO : va_at Γ.1 gC (x, .inr (1, [.null, .int 0])) H) : Met l yS_init wS_init ({ frames := 1, cells := 1, slots := 400, locals := 12 }) (gP Γ H [.ref x]) (va_Qv (fun (ro : Nat) => H.size ≤ ro) (fun ro t => oS Γ t.heap x ro (nI 1) ∧ oO Γ t.heap ro 400 (fun _ => none)) (fun q => q = x)) 1 400 (fun q => q = x ∨ H.size ≤ q) := by
  refine Met.ofW (cc := cS_init) (maxL := 1) (ret := none) (by decide) rfl ?_
  intro p e s m args below meth c s₁ B hml hv
  obtain ⟨rfl, rfl, hW⟩ := hv
  have hx := B.exec
  have hb := B.bytes
  have hr := B.returns
  have hg : ∀ w ∈ gW, w.before _ s = true := fun w h => atoms_spec (ws := wS_init) B.pre w (List.mem_cons_of_mem _ h)
  have hown : s.vm.findClass RS = some m.cls := findClass_of_methodNamed B.named
  have hlocks := B.notSynchronized
  have hS : va_S (gA Γ) s.heap s.heap [] := va_S.rf
  have hl := lv_entry ([.ref x]) (n := 1) (Nat.le_of_ble_eq_true rfl)
  rw [lg_entry_eq]
  generalize (lg_sl ([.ref x]) ++ List.replicate (1 - (lg_sl ([.ref x])).length) Slot.unset).toArray = ls at hl ⊢
  have hl : lv_has ls 1 [(0, .ref x)] := hl
  have hin : meth.name = "<init>" := (name_of_methodNamed B.named B.method).1
  have hA : ∀ q, s.heap.size ≤ q → (fun q => q = x ∨ s.heap.size ≤ q) q := fun _ h => Or.inr h
  have hS : va_S (fun q => q = x ∨ s.heap.size ≤ q) s.heap s.heap [] := va_S.rf
  have hP := p1 hO
  have hD : va_D (fun q => q = x ∨ s.heap.size ≤ q) [(x, .inr (1, [.null, .int 0]))] := d1 (Or.inl rfl)
  refine lv_aload_n hx hb dS_init_0 rfl (lv_at hl 0 rfl) ?_
  refine W.objInit hx hb hown (hg _ kw26) (hg _ kw27) (hg _ kw28) rfl (by rw [hml]; exact hl.1) rfl dS_init_1 (Nat.le_of_ble_eq_true rfl) (Nat.le_of_ble_eq_true rfl) ?_
  refine W.eq (g2 := F0 m 4 ls []) rfl ?_
  refine lv_aload_n hx hb dS_init_4 rfl (lv_at hl 0 rfl) ?_
  refine lv_sipush (v := 400) hx hb dS_init_5 (by decide) ?_
  refine va_newq (own := RS) (C := RB) (D := Γ.1) (cl := gC) (tys := gT Γ) (N' := 400) hx hb hown (hg _ kw29) hW.2.1.2.2.2 hW.1 hP hD hS hA (by decide) (by decide) (by decide) (Nat.le_of_ble_eq_true rfl) (Nat.le_of_ble_eq_true rfl) dS_init_8 (fun ro cA H hK hP hD hS => ?_)
  have eA := kO_eq hW.1 hK
  subst eA
  have hP : va_P Γ.1 gC [(x, .inr (1, [.null, .int 0])), (ro, .inl (kO Γ, 400, .inr (.inr (.inr (.inr (fun _ => none))))))] H := hP
  have hD : va_D (fun q => q = x ∨ s.heap.size ≤ q) [(x, .inr (1, [.null, .int 0])), (ro, .inl (kO Γ, 400, .inr (.inr (.inr (.inr (fun _ => none))))))] := hD
  refine va_putF (D := Γ.1) (ci := 1) (v := .ref ro) (ty := .array (.object "StampTables$Block")) (C := RS) (T := TS) (N := 2) hx hb hg inS tyS tyS_ok nmS hown hW.1 hP hD hS 0 rfl rfl 0 (by decide) (hg _ kw31) (fun _ h9 => h9) rfl hin rfl (by decide +kernel) rfl rfl (Nat.le_of_ble_eq_true rfl) dS_init_11 (fun H locs hP hD hS => ?_)
  have hP : va_P Γ.1 gC [(x, .inr (1, [.ref ro, .int 0])), (ro, .inl (kO Γ, 400, .inr (.inr (.inr (.inr (fun _ => none))))))] H := hP
  have hD : va_D (fun q => q = x ∨ s.heap.size ≤ q) [(x, .inr (1, [.ref ro, .int 0])), (ro, .inl (kO Γ, 400, .inr (.inr (.inr (.inr (fun _ => none))))))] := hD
  refine lv_aload_n hx hb dS_init_14 rfl (lv_at hl 0 rfl) ?_
  refine lv_iconst (v := 1) hx hb dS_init_15 (by decide) ?_
  refine va_put (D := Γ.1) (ci := 1) (v := .int 1) (ty := .int) (C := RS) (T := TS) (N := 2) hx hb hg inS tyS tyS_ok nmS hown hW.1 hP hD hS 0 rfl rfl 1 (by decide) (hg _ kw32) (fun _ h9 => h9) rfl (by decide +kernel) rfl rfl (Nat.le_of_ble_eq_true rfl) dS_init_16 (fun H locs hP hD hS => ?_)
  have hP : va_P Γ.1 gC [(x, .inr (1, [.ref ro, .int 1])), (ro, .inl (kO Γ, 400, .inr (.inr (.inr (.inr (fun _ => none))))))] H := hP
  have hD : va_D (fun q => q = x ∨ s.heap.size ≤ q) [(x, .inr (1, [.ref ro, .int 1])), (ro, .inl (kO Γ, 400, .inr (.inr (.inr (.inr (fun _ => none))))))] := hD
  have hro : s.heap.size ≤ ro := (hD.2 1 _ rfl).elim (fun h => absurd (hD.1 0 1 _ _ rfl rfl h.symm) (by decide)) id
  exact W.vret hx hb hr (fun t ht hW9 => ⟨⟨ro, rfl, hro, by subst ht; exact ⟨hP 0 _ rfl, hP 1 _ rfl⟩⟩, ⟨by rw [ht]; exact hS.1, fun q h1 h2 => by rw [ht]; exact hS.2.1 q h1 (fun h => h.elim h2 (fun h => absurd h (Nat.not_le.mpr h1)))⟩⟩) (fun q hq => hS.2.2 q hq) dS_init_19
set_option maxHeartbeats 4000000 in
set_option maxRecDepth 100000 in
theorem c_S_addTable (l : Launch) (Γ : gE) (H : Heap) {x ro md t k lf : Nat} {rt : Nat → Option Nat} {V V' : Nat → Option Int64} {S S' : Nat → Int32} (hO : oS Γ H x ro (nI md)) (hR : oO Γ H ro 400 rt) (hxro : x ≠ ro) (hx0 : x < gb0 Γ) (hr0 : ro < gb0 Γ) (hz : gb0 Γ ≤ H.size) (hmd : md < 400) (ht : t < md) (hwf : wfS S') (hk : k < 1024) (hoff : ∀ j, j ≠ k → V j = V' j ∧ S j = S' j) (hT : TR Γ H V S 10 0 (rt t)) (hlf : TR Γ H V' S' 0 k (some lf)) : Met l yS_addTable wS_addTable ({ frames := 20, cells := 20, slots := 80, locals := 2000 }) (gP Γ H [.ref x, .int (nI t), .int (nI k), .ref lf]) (va_Qi (fun r (_ : Nat) => r = nI md) (fun y t' => oS Γ t'.heap x ro (nI (md + 1)) ∧ oO Γ t'.heap ro 400 (va_up rt md (some y)) ∧ TR Γ t'.heap V' S' 10 0 (some y)) (fun q => q = x ∨ q = ro)) 20 80 (fun q => q = x ∨ q = ro) := by
  refine Met.ofW (cc := cS_addTable) (maxL := 5) (ret := (some .int)) (by decide) rfl ?_
  intro p e s m args below meth c s₁ B hml hv
  obtain ⟨rfl, rfl, hW⟩ := hv
  have hx := B.exec
  have hb := B.bytes
  have hr := B.returns
  have hg : ∀ w ∈ gW, w.before _ s = true := fun w h => atoms_spec (ws := wS_addTable) B.pre w (List.mem_cons_of_mem _ h)
  have hown : s.vm.findClass RS = some m.cls := findClass_of_methodNamed B.named
  have hlocks := B.notSynchronized
  have hS : va_S (gA Γ) s.heap s.heap [] := va_S.rf
  have hl := lv_entry ([.ref x, .int (nI t), .int (nI k), .ref lf]) (n := 5) (Nat.le_of_ble_eq_true rfl)
  rw [lg_entry_eq]
  generalize (lg_sl ([.ref x, .int (nI t), .int (nI k), .ref lf]) ++ List.replicate (5 - (lg_sl ([.ref x, .int (nI t), .int (nI k), .ref lf])).length) Slot.unset).toArray = ls at hl ⊢
  have hl : lv_has ls 5 [(0, .ref x), (1, .int (nI t)), (2, .int (nI k)), (3, .ref lf)] := hl
  have hS : va_S (nA s) s.heap s.heap [] := va_S.rf
  have hA : ∀ q, s.heap.size ≤ q → nA s q := fun _ h => h
  refine lv_aload_n hx hb dS_addTable_0 rfl (lv_at hl 0 rfl) ?_
  refine va_get (D := Γ.1) (ci := 1) (v := .int (nI md)) (C := RS) (T := TS) (N := 2) hx hb hg inS hown hW.1 (p1 hO) 0 rfl rfl 1 (by decide) (hg _ kw32) (fun _ h9 => h9) rfl dS_addTable_1 ?_
  refine lv_istore (lv' := [(4, .int (nI md)), (0, .ref x), (1, .int (nI t)), (2, .int (nI k)), (3, .ref lf)]) hx hb dS_addTable_4 hl (by decide) rfl (fun ls hl => ?_)
  refine lv_aload_n hx hb dS_addTable_6 rfl (lv_at hl 1 rfl) ?_
  refine va_get (D := Γ.1) (ci := 1) (v := .ref ro) (C := RS) (T := TS) (N := 2) hx hb hg inS hown hW.1 (p1 hO) 0 rfl rfl 0 (by decide) (hg _ kw31) (fun _ h9 => h9) rfl dS_addTable_7 ?_
  refine lv_iload hx hb dS_addTable_10 (lv_at hl 0 rfl) ?_
  refine lv_aload_n hx hb dS_addTable_12 rfl (lv_at hl 1 rfl) ?_
  refine va_get (D := Γ.1) (ci := 1) (v := .ref ro) (C := RS) (T := TS) (N := 2) hx hb hg inS hown hW.1 (p1 hO) 0 rfl rfl 0 (by decide) (hg _ kw31) (fun _ h9 => h9) rfl dS_addTable_13 ?_
  refine lv_iload_n hx hb dS_addTable_16 rfl (lv_at hl 2 rfl) ?_
  refine va_aldq (D := Γ.1) (cl := gC) (tys := gT Γ) hx hb hW.1 (p1 hR) 0 1 rfl rfl (vp_in_nI (show t < 400 by omega) (by omega)) dS_addTable_17 ?_
  rw [nI_clamp (show t < 2 ^ 31 by omega)]
  refine lv_bipush (v := 10) hx hb dS_addTable_18 (by decide) ?_
  refine lv_iload_n hx hb dS_addTable_20 rfl (lv_at hl 3 rfl) ?_
  refine lv_aload_n hx hb dS_addTable_21 rfl (lv_at hl 4 rfl) ?_
  refine va_callq (va_runS (As := [va_rf (rt t), .int 10, .int (nI k), .ref lf]) (rest := [.int (nI md), .ref ro]) ⟨hx, hb, hml, hown, hg⟩ (c_S_rewritten l Γ hwf hk hoff 10 s.heap (rt t) lf (Nat.le_refl _) hz (by rw [show k / 2 ^ 10 * 2 ^ 10 = 0 by omega]; exact hT) hlf) (va_cwS 4 hg gS_90 rfl rfl rfl (by decide +kernel) ⟨Nat.le_of_ble_eq_true rfl, Nat.le_of_ble_eq_true rfl⟩) (gP_S hW (vS_g hW hS)) rfl rfl hl.1 rfl (lv_room (Nat.le_of_ble_eq_true rfl)) dS_addTable_22 ⟨Nat.le_of_ble_eq_true rfl, Nat.le_of_ble_eq_true rfl⟩) hS (fun q _ h => h.elim) (fun q h => Nat.le_trans hS.1 h) (fun r3 y3 t3 H1 locs1 ht3 hvm hp3 hB hz1 hk1 hS => ?_)
  subst hp3
  have hN : TR Γ H1 V' S' 10 0 (some y3) := by
    have h9 : TR Γ H1 V' S' 10 (k / 2 ^ 10 * 2 ^ 10) (some y3) := by subst ht3; exact hB
    rw [show k / 2 ^ 10 * 2 ^ 10 = 0 by omega] at h9
    exact h9
  have hXX : hX (fun _ => False) s.heap H1 := ⟨hz1, fun q h1 h2 => hk1 q h1 h2⟩
  refine va_forget (fun q hq => hS.2.2 q hq) ?_
  have hP := (p1 (hXX.at hO (fun h => h))).app (p1 (hXX.at hR (fun h => h)))
  have hD : va_D (fun q => q = x ∨ q = ro) [(x, .inr (1, [.ref ro, .int (nI md)])), (ro, .inl (kO Γ, 400, .inr (.inr (.inr (.inr rt)))))] := d2 (Or.inl rfl) (Or.inr rfl) hxro
  have hP : va_P Γ.1 gC [(x, .inr (1, [.ref ro, .int (nI md)])), (ro, .inl (kO Γ, 400, .inr (.inr (.inr (.inr (rt))))))] H1 := hP
  have hD : va_D (fun q => q = x ∨ q = ro) [(x, .inr (1, [.ref ro, .int (nI md)])), (ro, .inl (kO Γ, 400, .inr (.inr (.inr (.inr (rt))))))] := hD
  have hS : va_S (fun q => q = x ∨ q = ro) H1 H1 [] := va_S.rf
  obtain ⟨F3, ⟨hz3, lo3, up3, tk3, hB3, -, -⟩, -⟩ := hN.f
  refine va_astqM (E := RB) (D := Γ.1) (cl := gC) (tys := gT Γ) hx hb hW.1 hP hD hS 1 1 rfl rfl (anyB hW.1 hB3) (vp_in_nI (show md < 400 by omega) (by omega)) dS_addTable_25 (fun H locs hP hD hS => ?_)
  rw [nI_clamp (show md < 2 ^ 31 by omega)] at hP hD
  have hP : va_P Γ.1 gC [(x, .inr (1, [.ref ro, .int (nI md)])), (ro, .inl (kO Γ, 400, .inr (.inr (.inr (.inr (va_up rt md (some y3)))))))] H := hP
  have hD : va_D (fun q => q = x ∨ q = ro) [(x, .inr (1, [.ref ro, .int (nI md)])), (ro, .inl (kO Γ, 400, .inr (.inr (.inr (.inr (va_up rt md (some y3)))))))] := hD
  refine lv_aload_n hx hb dS_addTable_26 rfl (lv_at hl 1 rfl) ?_
  refine lv_dup hx hb dS_addTable_27 rfl ?_
  refine va_get (D := Γ.1) (ci := 1) (v := .int (nI md)) (C := RS) (T := TS) (N := 2) hx hb hg inS hown hW.1 (p1 (hP 0 _ rfl)) 0 rfl rfl 1 (by decide) (hg _ kw32) (fun _ h9 => h9) rfl dS_addTable_28 ?_
  refine lv_iconst (v := 1) hx hb dS_addTable_31 (by decide) ?_
  refine lv_iadd hx hb dS_addTable_32 ?_
  refine lv_topi (fun v ev => ?_)
  have ev : v = nI (md + 1) := ev.trans (nI_1 md)
  subst ev
  refine va_put (D := Γ.1) (ci := 1) (v := .int (nI (md + 1))) (ty := .int) (C := RS) (T := TS) (N := 2) hx hb hg inS tyS tyS_ok nmS hown hW.1 hP hD hS 0 rfl rfl 1 (by decide) (hg _ kw32) (fun _ h9 => h9) rfl (by decide +kernel) rfl rfl (Nat.le_of_ble_eq_true rfl) dS_addTable_33 (fun H locs hP hD hS => ?_)
  have hP : va_P Γ.1 gC [(x, .inr (1, [.ref ro, .int (nI (md + 1))])), (ro, .inl (kO Γ, 400, .inr (.inr (.inr (.inr (va_up rt md (some y3)))))))] H := hP
  have hD : va_D (fun q => q = x ∨ q = ro) [(x, .inr (1, [.ref ro, .int (nI (md + 1))])), (ro, .inl (kO Γ, 400, .inr (.inr (.inr (.inr (va_up rt md (some y3)))))))] := hD
  refine lv_iload hx hb dS_addTable_36 (lv_at hl 0 rfl) ?_
  have hbb : hX (fun q => q < gb0 Γ) H1 H := ⟨hS.1, fun q h1 h2 => hS.2.1 q h1 (fun h => h.elim (fun h => h2 (by rw [h]; exact hx0)) (fun h => h2 (by rw [h]; exact hr0)))⟩
  exact W.iret (v := nI md) hx hb hr (fun t9 ht9 hW9 => ⟨⟨nI md, y3, rfl, rfl, by subst ht9; exact ⟨hP 0 _ rfl, hP 1 _ rfl, hN.kept hbb⟩⟩, ⟨by rw [ht9]; exact Nat.le_trans hz1 hS.1, fun q h1 h2 => by rw [ht9, hS.2.1 q (Nat.lt_of_lt_of_le h1 hz1) h2]; exact hk1 q h1 id⟩⟩) (fun q hq => hS.2.2 q hq) dS_addTable_38
