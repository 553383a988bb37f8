/-! the reference: its constructor -/
theorem kI_eq {Γ : gE} {s : State} {cA : ClassId} (h : va_K Γ.1 gC (gT Γ) s) (h2 : va_K Γ.1 gC (gT Γ ++ [(cA, .int)]) s) : cA = kI Γ := by
  have h3 : s.vm.findClass ("[" ++ FieldType.int.toString) = some cA := (h2.2 4 _ rfl).2
  have h4 : s.vm.findClass ("[" ++ FieldType.int.toString) = some (kI Γ) := (h.2 2 _ rfl).2
  exact Option.some.inj (h3.symm.trans h4)
theorem kZ_eq {Γ : gE} {s : State} {cA : ClassId} (h : va_K Γ.1 gC (gT Γ) s) (h2 : va_K Γ.1 gC (gT Γ ++ [(cA, .boolean)]) s) : cA = kZ Γ := by
  have h3 : s.vm.findClass ("[" ++ FieldType.boolean.toString) = some cA := (h2.2 4 _ rfl).2
  have h4 : s.vm.findClass ("[" ++ FieldType.boolean.toString) = some (kZ Γ) := (h.2 3 _ rfl).2
  exact Option.some.inj (h3.symm.trans h4)
set_option maxHeartbeats 4000000 in
set_option maxRecDepth 100000 in
theorem c_M_init (l : Launch) (Γ : gE) (H : Heap) {x : Nat} (hO : va_at Γ.1 gC (x, .inr (2, [.int 0, .null, .null, .null, .null, .null, .null, .null, .int 0])) H) : Met l yM_init wM_init ({ frames := 1, cells := 7, slots := 4048, locals := 12 }) (gP Γ H [.ref x]) (va_Qv (fun (A : Nat → Nat) => A 0 = x ∧ va_D (fun q => q = x ∨ H.size ≤ q) (wM Γ A 0 (nI 1) (fun _ => 0) (fun _ => 0) (fun _ => 0) (fun _ => 0) (fun _ => 0) (fun _ => 0) (fun _ => 0))) (fun A t => va_P Γ.1 gC (wM Γ A 0 (nI 1) (fun _ => 0) (fun _ => 0) (fun _ => 0) (fun _ => 0) (fun _ => 0) (fun _ => 0) (fun _ => 0)) t.heap) (fun q => q = x)) 7 4048 (fun q => q = x ∨ H.size ≤ q) := by
  refine Met.ofW (cc := cM_init) (maxL := 1) (ret := none) (by decide) rfl ?_
  intro p e s m args below meth c s₁ B hml hv
  obtain ⟨rfl, rfl, hW⟩ := hv
  have hx := B.exec
  have hb := B.bytes
  have hr := B.returns
  have hg : ∀ w ∈ gW, w.before _ s = true := fun w h => atoms_spec (ws := wM_init) B.pre w (List.mem_cons_of_mem _ h)
  have hown : s.vm.findClass RM = some m.cls := findClass_of_methodNamed B.named
  have hlocks := B.notSynchronized
  have hS : va_S (gA Γ) s.heap s.heap [] := va_S.rf
  have hl := lv_entry ([.ref x]) (n := 1) (Nat.le_of_ble_eq_true rfl)
  rw [lg_entry_eq]
  generalize (lg_sl ([.ref x]) ++ List.replicate (1 - (lg_sl ([.ref x])).length) Slot.unset).toArray = ls at hl ⊢
  have hl : lv_has ls 1 [(0, .ref x)] := hl
  have hin : meth.name = "<init>" := (name_of_methodNamed B.named B.method).1
  have hA : ∀ q, s.heap.size ≤ q → (fun q => q = x ∨ s.heap.size ≤ q) q := fun _ h => Or.inr h
  have hS : va_S (fun q => q = x ∨ s.heap.size ≤ q) s.heap s.heap [] := va_S.rf
  have hP := p1 hO
  have hD : va_D (fun q => q = x ∨ s.heap.size ≤ q) [(x, .inr (2, [.int 0, .null, .null, .null, .null, .null, .null, .null, .int 0]))] := d1 (Or.inl rfl)
  refine lv_aload_n hx hb dM_init_0 rfl (lv_at hl 0 rfl) ?_
  refine W.objInit hx hb hown (hg _ kw288) (hg _ kw27) (hg _ kw28) rfl (by rw [hml]; exact hl.1) rfl dM_init_1 (Nat.le_of_ble_eq_true rfl) (Nat.le_of_ble_eq_true rfl) ?_
  refine W.eq (g2 := F0 m 4 ls []) rfl ?_
  refine lv_aload_n hx hb dM_init_4 rfl (lv_at hl 0 rfl) ?_
  refine lv_sipush (v := 400) hx hb dM_init_5 (by decide) ?_
  refine va_newa (atype := .int) (D := Γ.1) (cl := gC) (tys := gT Γ) (ty := .int) (a0 := (400, .inl (fun _ => 0))) (N' := 400) hx hb (hg _ kw317) rfl hW.1 hP hD hS hA (fun cA => rfl) (by decide) (by decide) (by decide) (Nat.le_of_ble_eq_true rfl) (Nat.le_of_ble_eq_true rfl) dM_init_8 (fun a1 cA H hK hP hD hS => ?_)
  have eA := kI_eq hW.1 hK
  subst eA
  clear hK
  have hP : va_P Γ.1 gC [(x, .inr (2, [.int 0, .null, .null, .null, .null, .null, .null, .null, .int 0])), (a1, .inl (kI Γ, 400, .inl (fun _ => 0)))] H := hP
  have hD : va_D (fun q => q = x ∨ s.heap.size ≤ q) [(x, .inr (2, [.int 0, .null, .null, .null, .null, .null, .null, .null, .int 0])), (a1, .inl (kI Γ, 400, .inl (fun _ => 0)))] := hD
  refine va_putF (D := Γ.1) (ci := 2) (v := .ref a1) (ty := .array .int) (C := RM) (T := TM) (N := 9) hx hb hg inM tyM tyM_ok nmM hown hW.1 hP hD hS 0 rfl rfl 1 (by decide) (hg _ kw290) (fun _ h9 => h9) rfl hin rfl (by decide +kernel) rfl rfl (Nat.le_of_ble_eq_true rfl) dM_init_10 (fun H locs hP hD hS => ?_)
  have hP : va_P Γ.1 gC [(x, .inr (2, [.int 0, .ref a1, .null, .null, .null, .null, .null, .null, .int 0])), (a1, .inl (kI Γ, 400, .inl (fun _ => 0)))] H := hP
  have hD : va_D (fun q => q = x ∨ s.heap.size ≤ q) [(x, .inr (2, [.int 0, .ref a1, .null, .null, .null, .null, .null, .null, .int 0])), (a1, .inl (kI Γ, 400, .inl (fun _ => 0)))] := hD
  refine lv_aload_n hx hb dM_init_13 rfl (lv_at hl 0 rfl) ?_
  refine lv_sipush (v := 400) hx hb dM_init_14 (by decide) ?_
  refine va_newa (atype := .int) (D := Γ.1) (cl := gC) (tys := gT Γ) (ty := .int) (a0 := (400, .inl (fun _ => 0))) (N' := 400) hx hb (hg _ kw317) rfl hW.1 hP hD hS hA (fun cA => rfl) (by decide) (by decide) (by decide) (Nat.le_of_ble_eq_true rfl) (Nat.le_of_ble_eq_true rfl) dM_init_17 (fun a2 cA H hK hP hD hS => ?_)
  have eA := kI_eq hW.1 hK
  subst eA
  clear hK
  have hP : va_P Γ.1 gC [(x, .inr (2, [.int 0, .ref a1, .null, .null, .null, .null, .null, .null, .int 0])), (a1, .inl (kI Γ, 400, .inl (fun _ => 0))), (a2, .inl (kI Γ, 400, .inl (fun _ => 0)))] H := hP
  have hD : va_D (fun q => q = x ∨ s.heap.size ≤ q) [(x, .inr (2, [.int 0, .ref a1, .null, .null, .null, .null, .null, .null, .int 0])), (a1, .inl (kI Γ, 400, .inl (fun _ => 0))), (a2, .inl (kI Γ, 400, .inl (fun _ => 0)))] := hD
  refine va_putF (D := Γ.1) (ci := 2) (v := .ref a2) (ty := .array .int) (C := RM) (T := TM) (N := 9) hx hb hg inM tyM tyM_ok nmM hown hW.1 hP hD hS 0 rfl rfl 2 (by decide) (hg _ kw291) (fun _ h9 => h9) rfl hin rfl (by decide +kernel) rfl rfl (Nat.le_of_ble_eq_true rfl) dM_init_19 (fun H locs hP hD hS => ?_)
  have hP : va_P Γ.1 gC [(x, .inr (2, [.int 0, .ref a1, .ref a2, .null, .null, .null, .null, .null, .int 0])), (a1, .inl (kI Γ, 400, .inl (fun _ => 0))), (a2, .inl (kI Γ, 400, .inl (fun _ => 0)))] H := hP
  have hD : va_D (fun q => q = x ∨ s.heap.size ≤ q) [(x, .inr (2, [.int 0, .ref a1, .ref a2, .null, .null, .null, .null, .null, .int 0])), (a1, .inl (kI Γ, 400, .inl (fun _ => 0))), (a2, .inl (kI Γ, 400, .inl (fun _ => 0)))] := hD
  refine lv_aload_n hx hb dM_init_22 rfl (lv_at hl 0 rfl) ?_
  refine lv_sipush (v := 400) hx hb dM_init_23 (by decide) ?_
  refine va_newa (atype := .int) (D := Γ.1) (cl := gC) (tys := gT Γ) (ty := .int) (a0 := (400, .inl (fun _ => 0))) (N' := 400) hx hb (hg _ kw317) rfl hW.1 hP hD hS hA (fun cA => rfl) (by decide) (by decide) (by decide) (Nat.le_of_ble_eq_true rfl) (Nat.le_of_ble_eq_true rfl) dM_init_26 (fun a3 cA H hK hP hD hS => ?_)
  have eA := kI_eq hW.1 hK
  subst eA
  clear hK
  have hP : va_P Γ.1 gC [(x, .inr (2, [.int 0, .ref a1, .ref a2, .null, .null, .null, .null, .null, .int 0])), (a1, .inl (kI Γ, 400, .inl (fun _ => 0))), (a2, .inl (kI Γ, 400, .inl (fun _ => 0))), (a3, .inl (kI Γ, 400, .inl (fun _ => 0)))] H := hP
  have hD : va_D (fun q => q = x ∨ s.heap.size ≤ q) [(x, .inr (2, [.int 0, .ref a1, .ref a2, .null, .null, .null, .null, .null, .int 0])), (a1, .inl (kI Γ, 400, .inl (fun _ => 0))), (a2, .inl (kI Γ, 400, .inl (fun _ => 0))), (a3, .inl (kI Γ, 400, .inl (fun _ => 0)))] := hD
  refine va_putF (D := Γ.1) (ci := 2) (v := .ref a3) (ty := .array .int) (C := RM) (T := TM) (N := 9) hx hb hg inM tyM tyM_ok nmM hown hW.1 hP hD hS 0 rfl rfl 3 (by decide) (hg _ kw292) (fun _ h9 => h9) rfl hin rfl (by decide +kernel) rfl rfl (Nat.le_of_ble_eq_true rfl) dM_init_28 (fun H locs hP hD hS => ?_)
  have hP : va_P Γ.1 gC [(x, .inr (2, [.int 0, .ref a1, .ref a2, .ref a3, .null, .null, .null, .null, .int 0])), (a1, .inl (kI Γ, 400, .inl (fun _ => 0))), (a2, .inl (kI Γ, 400, .inl (fun _ => 0))), (a3, .inl (kI Γ, 400, .inl (fun _ => 0)))] H := hP
  have hD : va_D (fun q => q = x ∨ s.heap.size ≤ q) [(x, .inr (2, [.int 0, .ref a1, .ref a2, .ref a3, .null, .null, .null, .null, .int 0])), (a1, .inl (kI Γ, 400, .inl (fun _ => 0))), (a2, .inl (kI Γ, 400, .inl (fun _ => 0))), (a3, .inl (kI Γ, 400, .inl (fun _ => 0)))] := hD
  refine lv_aload_n hx hb dM_init_31 rfl (lv_at hl 0 rfl) ?_
  refine lv_sipush (v := 400) hx hb dM_init_32 (by decide) ?_
  refine va_newa (atype := .long) (D := Γ.1) (cl := gC) (tys := gT Γ) (ty := .long) (a0 := (400, .inr (.inl (fun _ => 0)))) (N' := 400) hx hb (hg _ kw170) rfl hW.1 hP hD hS hA (fun cA => rfl) (by decide) (by decide) (by decide) (Nat.le_of_ble_eq_true rfl) (Nat.le_of_ble_eq_true rfl) dM_init_35 (fun a4 cA H hK hP hD hS => ?_)
  have eA := kJ_eq hW.1 hK
  subst eA
  clear hK
  have hP : va_P Γ.1 gC [(x, .inr (2, [.int 0, .ref a1, .ref a2, .ref a3, .null, .null, .null, .null, .int 0])), (a1, .inl (kI Γ, 400, .inl (fun _ => 0))), (a2, .inl (kI Γ, 400, .inl (fun _ => 0))), (a3, .inl (kI Γ, 400, .inl (fun _ => 0))), (a4, .inl (kJ Γ, 400, .inr (.inl (fun _ => 0))))] H := hP
  have hD : va_D (fun q => q = x ∨ s.heap.size ≤ q) [(x, .inr (2, [.int 0, .ref a1, .ref a2, .ref a3, .null, .null, .null, .null, .int 0])), (a1, .inl (kI Γ, 400, .inl (fun _ => 0))), (a2, .inl (kI Γ, 400, .inl (fun _ => 0))), (a3, .inl (kI Γ, 400, .inl (fun _ => 0))), (a4, .inl (kJ Γ, 400, .inr (.inl (fun _ => 0))))] := hD
  refine va_putF (D := Γ.1) (ci := 2) (v := .ref a4) (ty := .array .long) (C := RM) (T := TM) (N := 9) hx hb hg inM tyM tyM_ok nmM hown hW.1 hP hD hS 0 rfl rfl 4 (by decide) (hg _ kw293) (fun _ h9 => h9) rfl hin rfl (by decide +kernel) rfl rfl (Nat.le_of_ble_eq_true rfl) dM_init_37 (fun H locs hP hD hS => ?_)
  have hP : va_P Γ.1 gC [(x, .inr (2, [.int 0, .ref a1, .ref a2, .ref a3, .ref a4, .null, .null, .null, .int 0])), (a1, .inl (kI Γ, 400, .inl (fun _ => 0))), (a2, .inl (kI Γ, 400, .inl (fun _ => 0))), (a3, .inl (kI Γ, 400, .inl (fun _ => 0))), (a4, .inl (kJ Γ, 400, .inr (.inl (fun _ => 0))))] H := hP
  have hD : va_D (fun q => q = x ∨ s.heap.size ≤ q) [(x, .inr (2, [.int 0, .ref a1, .ref a2, .ref a3, .ref a4, .null, .null, .null, .int 0])), (a1, .inl (kI Γ, 400, .inl (fun _ => 0))), (a2, .inl (kI Γ, 400, .inl (fun _ => 0))), (a3, .inl (kI Γ, 400, .inl (fun _ => 0))), (a4, .inl (kJ Γ, 400, .inr (.inl (fun _ => 0))))] := hD
  refine lv_aload_n hx hb dM_init_40 rfl (lv_at hl 0 rfl) ?_
  refine lv_sipush (v := 400) hx hb dM_init_41 (by decide) ?_
  refine va_newa (atype := .boolean) (D := Γ.1) (cl := gC) (tys := gT Γ) (ty := .boolean) (a0 := (400, .inl (fun _ => 0))) (N' := 400) hx hb (hg _ kw318) rfl hW.1 hP hD hS hA (fun cA => rfl) (by decide) (by decide) (by decide) (Nat.le_of_ble_eq_true rfl) (Nat.le_of_ble_eq_true rfl) dM_init_44 (fun a5 cA H hK hP hD hS => ?_)
  have eA := kZ_eq hW.1 hK
  subst eA
  clear hK
  have hP : va_P Γ.1 gC [(x, .inr (2, [.int 0, .ref a1, .ref a2, .ref a3, .ref a4, .null, .null, .null, .int 0])), (a1, .inl (kI Γ, 400, .inl (fun _ => 0))), (a2, .inl (kI Γ, 400, .inl (fun _ => 0))), (a3, .inl (kI Γ, 400, .inl (fun _ => 0))), (a4, .inl (kJ Γ, 400, .inr (.inl (fun _ => 0)))), (a5, .inl (kZ Γ, 400, .inl (fun _ => 0)))] H := hP
  have hD : va_D (fun q => q = x ∨ s.heap.size ≤ q) [(x, .inr (2, [.int 0, .ref a1, .ref a2, .ref a3, .ref a4, .null, .null, .null, .int 0])), (a1, .inl (kI Γ, 400, .inl (fun _ => 0))), (a2, .inl (kI Γ, 400, .inl (fun _ => 0))), (a3, .inl (kI Γ, 400, .inl (fun _ => 0))), (a4, .inl (kJ Γ, 400, .inr (.inl (fun _ => 0)))), (a5, .inl (kZ Γ, 400, .inl (fun _ => 0)))] := hD
  refine va_putF (D := Γ.1) (ci := 2) (v := .ref a5) (ty := .array .boolean) (C := RM) (T := TM) (N := 9) hx hb hg inM tyM tyM_ok nmM hown hW.1 hP hD hS 0 rfl rfl 5 (by decide) (hg _ kw294) (fun _ h9 => h9) rfl hin rfl (by decide +kernel) rfl rfl (Nat.le_of_ble_eq_true rfl) dM_init_46 (fun H locs hP hD hS => ?_)
  have hP : va_P Γ.1 gC [(x, .inr (2, [.int 0, .ref a1, .ref a2, .ref a3, .ref a4, .ref a5, .null, .null, .int 0])), (a1, .inl (kI Γ, 400, .inl (fun _ => 0))), (a2, .inl (kI Γ, 400, .inl (fun _ => 0))), (a3, .inl (kI Γ, 400, .inl (fun _ => 0))), (a4, .inl (kJ Γ, 400, .inr (.inl (fun _ => 0)))), (a5, .inl (kZ Γ, 400, .inl (fun _ => 0)))] H := hP
  have hD : va_D (fun q => q = x ∨ s.heap.size ≤ q) [(x, .inr (2, [.int 0, .ref a1, .ref a2, .ref a3, .ref a4, .ref a5, .null, .null, .int 0])), (a1, .inl (kI Γ, 400, .inl (fun _ => 0))), (a2, .inl (kI Γ, 400, .inl (fun _ => 0))), (a3, .inl (kI Γ, 400, .inl (fun _ => 0))), (a4, .inl (kJ Γ, 400, .inr (.inl (fun _ => 0)))), (a5, .inl (kZ Γ, 400, .inl (fun _ => 0)))] := hD
  refine lv_aload_n hx hb dM_init_49 rfl (lv_at hl 0 rfl) ?_
  refine lv_sipush (v := 1024) hx hb dM_init_50 (by decide) ?_
  refine va_newa (atype := .int) (D := Γ.1) (cl := gC) (tys := gT Γ) (ty := .int) (a0 := (1024, .inl (fun _ => 0))) (N' := 1024) hx hb (hg _ kw317) rfl hW.1 hP hD hS hA (fun cA => rfl) (by decide) (by decide) (by decide) (Nat.le_of_ble_eq_true rfl) (Nat.le_of_ble_eq_true rfl) dM_init_53 (fun a6 cA H hK hP hD hS => ?_)
  have eA := kI_eq hW.1 hK
  subst eA
  clear hK
  have hP : va_P Γ.1 gC [(x, .inr (2, [.int 0, .ref a1, .ref a2, .ref a3, .ref a4, .ref a5, .null, .null, .int 0])), (a1, .inl (kI Γ, 400, .inl (fun _ => 0))), (a2, .inl (kI Γ, 400, .inl (fun _ => 0))), (a3, .inl (kI Γ, 400, .inl (fun _ => 0))), (a4, .inl (kJ Γ, 400, .inr (.inl (fun _ => 0)))), (a5, .inl (kZ Γ, 400, .inl (fun _ => 0))), (a6, .inl (kI Γ, 1024, .inl (fun _ => 0)))] H := hP
  have hD : va_D (fun q => q = x ∨ s.heap.size ≤ q) [(x, .inr (2, [.int 0, .ref a1, .ref a2, .ref a3, .ref a4, .ref a5, .null, .null, .int 0])), (a1, .inl (kI Γ, 400, .inl (fun _ => 0))), (a2, .inl (kI Γ, 400, .inl (fun _ => 0))), (a3, .inl (kI Γ, 400, .inl (fun _ => 0))), (a4, .inl (kJ Γ, 400, .inr (.inl (fun _ => 0)))), (a5, .inl (kZ Γ, 400, .inl (fun _ => 0))), (a6, .inl (kI Γ, 1024, .inl (fun _ => 0)))] := hD
  refine va_putF (D := Γ.1) (ci := 2) (v := .ref a6) (ty := .array .int) (C := RM) (T := TM) (N := 9) hx hb hg inM tyM tyM_ok nmM hown hW.1 hP hD hS 0 rfl rfl 6 (by decide) (hg _ kw295) (fun _ h9 => h9) rfl hin rfl (by decide +kernel) rfl rfl (Nat.le_of_ble_eq_true rfl) dM_init_55 (fun H locs hP hD hS => ?_)
  have hP : va_P Γ.1 gC [(x, .inr (2, [.int 0, .ref a1, .ref a2, .ref a3, .ref a4, .ref a5, .ref a6, .null, .int 0])), (a1, .inl (kI Γ, 400, .inl (fun _ => 0))), (a2, .inl (kI Γ, 400, .inl (fun _ => 0))), (a3, .inl (kI Γ, 400, .inl (fun _ => 0))), (a4, .inl (kJ Γ, 400, .inr (.inl (fun _ => 0)))), (a5, .inl (kZ Γ, 400, .inl (fun _ => 0))), (a6, .inl (kI Γ, 1024, .inl (fun _ => 0)))] H := hP
  have hD : va_D (fun q => q = x ∨ s.heap.size ≤ q) [(x, .inr (2, [.int 0, .ref a1, .ref a2, .ref a3, .ref a4, .ref a5, .ref a6, .null, .int 0])), (a1, .inl (kI Γ, 400, .inl (fun _ => 0))), (a2, .inl (kI Γ, 400, .inl (fun _ => 0))), (a3, .inl (kI Γ, 400, .inl (fun _ => 0))), (a4, .inl (kJ Γ, 400, .inr (.inl (fun _ => 0)))), (a5, .inl (kZ Γ, 400, .inl (fun _ => 0))), (a6, .inl (kI Γ, 1024, .inl (fun _ => 0)))] := hD
  refine lv_aload_n hx hb dM_init_58 rfl (lv_at hl 0 rfl) ?_
  refine lv_sipush (v := 1024) hx hb dM_init_59 (by decide) ?_
  refine va_newa (atype := .int) (D := Γ.1) (cl := gC) (tys := gT Γ) (ty := .int) (a0 := (1024, .inl (fun _ => 0))) (N' := 1024) hx hb (hg _ kw317) rfl hW.1 hP hD hS hA (fun cA => rfl) (by decide) (by decide) (by decide) (Nat.le_of_ble_eq_true rfl) (Nat.le_of_ble_eq_true rfl) dM_init_62 (fun a7 cA H hK hP hD hS => ?_)
  have eA := kI_eq hW.1 hK
  subst eA
  clear hK
  have hP : va_P Γ.1 gC [(x, .inr (2, [.int 0, .ref a1, .ref a2, .ref a3, .ref a4, .ref a5, .ref a6, .null, .int 0])), (a1, .inl (kI Γ, 400, .inl (fun _ => 0))), (a2, .inl (kI Γ, 400, .inl (fun _ => 0))), (a3, .inl (kI Γ, 400, .inl (fun _ => 0))), (a4, .inl (kJ Γ, 400, .inr (.inl (fun _ => 0)))), (a5, .inl (kZ Γ, 400, .inl (fun _ => 0))), (a6, .inl (kI Γ, 1024, .inl (fun _ => 0))), (a7, .inl (kI Γ, 1024, .inl (fun _ => 0)))] H := hP
  have hD : va_D (fun q => q = x ∨ s.heap.size ≤ q) [(x, .inr (2, [.int 0, .ref a1, .ref a2, .ref a3, .ref a4, .ref a5, .ref a6, .null, .int 0])), (a1, .inl (kI Γ, 400, .inl (fun _ => 0))), (a2, .inl (kI Γ, 400, .inl (fun _ => 0))), (a3, .inl (kI Γ, 400, .inl (fun _ => 0))), (a4, .inl (kJ Γ, 400, .inr (.inl (fun _ => 0)))), (a5, .inl (kZ Γ, 400, .inl (fun _ => 0))), (a6, .inl (kI Γ, 1024, .inl (fun _ => 0))), (a7, .inl (kI Γ, 1024, .inl (fun _ => 0)))] := hD
  refine va_putF (D := Γ.1) (ci := 2) (v := .ref a7) (ty := .array .int) (C := RM) (T := TM) (N := 9) hx hb hg inM tyM tyM_ok nmM hown hW.1 hP hD hS 0 rfl rfl 7 (by decide) (hg _ kw296) (fun _ h9 => h9) rfl hin rfl (by decide +kernel) rfl rfl (Nat.le_of_ble_eq_true rfl) dM_init_64 (fun H locs hP hD hS => ?_)
  have hP : va_P Γ.1 gC [(x, .inr (2, [.int 0, .ref a1, .ref a2, .ref a3, .ref a4, .ref a5, .ref a6, .ref a7, .int 0])), (a1, .inl (kI Γ, 400, .inl (fun _ => 0))), (a2, .inl (kI Γ, 400, .inl (fun _ => 0))), (a3, .inl (kI Γ, 400, .inl (fun _ => 0))), (a4, .inl (kJ Γ, 400, .inr (.inl (fun _ => 0)))), (a5, .inl (kZ Γ, 400, .inl (fun _ => 0))), (a6, .inl (kI Γ, 1024, .inl (fun _ => 0))), (a7, .inl (kI Γ, 1024, .inl (fun _ => 0)))] H := hP
  have hD : va_D (fun q => q = x ∨ s.heap.size ≤ q) [(x, .inr (2, [.int 0, .ref a1, .ref a2, .ref a3, .ref a4, .ref a5, .ref a6, .ref a7, .int 0])), (a1, .inl (kI Γ, 400, .inl (fun _ => 0))), (a2, .inl (kI Γ, 400, .inl (fun _ => 0))), (a3, .inl (kI Γ, 400, .inl (fun _ => 0))), (a4, .inl (kJ Γ, 400, .inr (.inl (fun _ => 0)))), (a5, .inl (kZ Γ, 400, .inl (fun _ => 0))), (a6, .inl (kI Γ, 1024, .inl (fun _ => 0))), (a7, .inl (kI Γ, 1024, .inl (fun _ => 0)))] := hD
  refine lv_aload_n hx hb dM_init_67 rfl (lv_at hl 0 rfl) ?_
  refine lv_iconst (v := 1) hx hb dM_init_68 (by decide) ?_
  refine va_put (D := Γ.1) (ci := 2) (v := .int 1) (ty := .int) (C := RM) (T := TM) (N := 9) hx hb hg inM tyM tyM_ok nmM hown hW.1 hP hD hS 0 rfl rfl 8 (by decide) (hg _ kw297) (fun _ h9 => h9) rfl (by decide +kernel) rfl rfl (Nat.le_of_ble_eq_true rfl) dM_init_69 (fun H locs hP hD hS => ?_)
  have hP : va_P Γ.1 gC [(x, .inr (2, [.int 0, .ref a1, .ref a2, .ref a3, .ref a4, .ref a5, .ref a6, .ref a7, .int 1])), (a1, .inl (kI Γ, 400, .inl (fun _ => 0))), (a2, .inl (kI Γ, 400, .inl (fun _ => 0))), (a3, .inl (kI Γ, 400, .inl (fun _ => 0))), (a4, .inl (kJ Γ, 400, .inr (.inl (fun _ => 0)))), (a5, .inl (kZ Γ, 400, .inl (fun _ => 0))), (a6, .inl (kI Γ, 1024, .inl (fun _ => 0))), (a7, .inl (kI Γ, 1024, .inl (fun _ => 0)))] H := hP
  have hD : va_D (fun q => q = x ∨ s.heap.size ≤ q) [(x, .inr (2, [.int 0, .ref a1, .ref a2, .ref a3, .ref a4, .ref a5, .ref a6, .ref a7, .int 1])), (a1, .inl (kI Γ, 400, .inl (fun _ => 0))), (a2, .inl (kI Γ, 400, .inl (fun _ => 0))), (a3, .inl (kI Γ, 400, .inl (fun _ => 0))), (a4, .inl (kJ Γ, 400, .inr (.inl (fun _ => 0)))), (a5, .inl (kZ Γ, 400, .inl (fun _ => 0))), (a6, .inl (kI Γ, 1024, .inl (fun _ => 0))), (a7, .inl (kI Γ, 1024, .inl (fun _ => 0)))] := hD
  exact W.vret hx hb hr (fun t ht hW9 => ⟨⟨fun i => (match i with | 0 => x | 1 => a1 | 2 => a2 | 3 => a3 | 4 => a4 | 5 => a5 | 6 => a6 | _ => a7), rfl, ⟨rfl, hD⟩, by subst ht; exact hP⟩, ⟨by rw [ht]; exact hS.1, fun q h1 h2 => by rw [ht]; exact hS.2.1 q h1 (fun h => h.elim h2 (fun h => absurd h (Nat.not_le.mpr h1)))⟩⟩) (fun q hq => hS.2.2 q hq) dM_init_72
