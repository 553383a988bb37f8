/-! leaves: nothing is written, no cell comes -/
set_option maxHeartbeats 4000000 in
set_option maxRecDepth 100000 in
theorem c_S_takenOfNothing (l : Launch) (Γ : gE) (H : Heap) {w : Nat} (hw : w ≤ 4) : Met l yS_takenOfNothing wS_takenOfNothing ({ frames := 0, cells := 0, slots := 0, locals := 0 }) (gP Γ H [.int (nI w)]) (vp_Sl (fun r => r = tkN w)) 0 0 (fun _ => False) := by
  refine Met.ofW (cc := cS_takenOfNothing) (maxL := 1) (ret := (some .long)) (by decide) rfl ?_
  intro p e s m args below meth c s₁ B hml hv
  obtain ⟨rfl, rfl, hW⟩ := hv
  have hx := B.exec
  have hb := B.bytes
  have hr := B.returns
  have hg : ∀ w ∈ gW, w.before _ s = true := fun w h => atoms_spec (ws := wS_takenOfNothing) B.pre w (List.mem_cons_of_mem _ h)
  have hown : s.vm.findClass RS = some m.cls := findClass_of_methodNamed B.named
  have hlocks := B.notSynchronized
  have hS : va_S (gA Γ) s.heap s.heap [] := va_S.rf
  have hl := lv_entry ([.int (nI w)]) (n := 1) (Nat.le_of_ble_eq_true rfl)
  rw [lg_entry_eq]
  generalize (lg_sl ([.int (nI w)]) ++ List.replicate (1 - (lg_sl ([.int (nI w)])).length) Slot.unset).toArray = ls at hl ⊢
  have hl : lv_has ls 1 [(0, .int (nI w))] := hl
  refine lv_iload_n hx hb dS_takenOfNothing_0 rfl (lv_at hl 0 rfl) ?_
  refine lv_if_eq (tgt := 9) hx hb dS_takenOfNothing_1 (by decide) (fun c1 => ?_) (fun c1 => ?_)
  · refine lv_lconst (v := 0) hx hb dS_takenOfNothing_9 (by decide) ?_
    refine lv_goto (tgt := 16) hx hb dS_takenOfNothing_10 (by decide) ?_
    have h0 : w = 0 := (nI_eq (by omega) (by omega)).mp (c1.trans nI_0.symm)
    exact W.lret (v := 0) hx hb hr (fun t ht hW9 => ⟨_, rfl, by rw [h0]; rfl, ht⟩) (fun _ h => nomatch h) dS_takenOfNothing_16
  · refine lv_iload_n hx hb dS_takenOfNothing_4 rfl (lv_at hl 0 rfl) ?_
    refine lv_iconst (v := 1) hx hb dS_takenOfNothing_5 (by decide) ?_
    refine lv_icmp_ne (tgt := 13) hx hb dS_takenOfNothing_6 (by decide) (fun c2 => ?_) (fun c2 => ?_)
    · refine lv_ldc2 (v := (-1)) hx hb hown (hg _ kw196) dS_takenOfNothing_13 ?_
      have h1 : ¬ w = 0 := fun h => c1 (by rw [h]; exact nI_0)
      have h2 : ¬ w = 1 := fun h => c2 (by rw [h]; rfl)
      exact W.lret (v := -1) hx hb hr (fun t ht hW9 => ⟨_, rfl, by simp [tkN, h1, h2], ht⟩) (fun _ h => nomatch h) dS_takenOfNothing_16
    · refine lv_lconst (v := 0) hx hb dS_takenOfNothing_9 (by decide) ?_
      refine lv_goto (tgt := 16) hx hb dS_takenOfNothing_10 (by decide) ?_
      have h1 : w = 1 := (nI_eq (by omega) (by omega)).mp c2
      exact W.lret (v := 0) hx hb hr (fun t ht hW9 => ⟨_, rfl, by rw [h1]; rfl, ht⟩) (fun _ h => nomatch h) dS_takenOfNothing_16
set_option maxHeartbeats 4000000 in
set_option maxRecDepth 100000 in
theorem c_S_takenOf (l : Launch) (Γ : gE) (H : Heap) {r : Option Nat} {w : Nat} {f : Nat → Int64} (hw : w ≤ 4) (hf : bT Γ H r f) : Met l yS_takenOf wS_takenOf ({ frames := 1, cells := 0, slots := 0, locals := 20 }) (gP Γ H [va_rf r, .int (nI w)]) (vp_Sl (fun x => x = f w)) 0 0 (fun _ => False) := by
  refine Met.ofW (cc := cS_takenOf) (maxL := 2) (ret := (some .long)) (by decide) rfl ?_
  intro p e s m args below meth c s₁ B hml hv
  obtain ⟨rfl, rfl, hW⟩ := hv
  have hx := B.exec
  have hb := B.bytes
  have hr := B.returns
  have hg : ∀ w ∈ gW, w.before _ s = true := fun w h => atoms_spec (ws := wS_takenOf) B.pre w (List.mem_cons_of_mem _ h)
  have hown : s.vm.findClass RS = some m.cls := findClass_of_methodNamed B.named
  have hlocks := B.notSynchronized
  have hS : va_S (gA Γ) s.heap s.heap [] := va_S.rf
  have hl := lv_entry ([va_rf r, .int (nI w)]) (n := 2) (by cases r <;> exact Nat.le_of_ble_eq_true rfl)
  rw [lg_entry_eq]
  generalize (lg_sl ([va_rf r, .int (nI w)]) ++ List.replicate (2 - (lg_sl ([va_rf r, .int (nI w)])).length) Slot.unset).toArray = ls at hl ⊢
  have hl : lv_has ls 2 [(0, va_rf r), (1, .int (nI w))] := by cases r <;> exact hl
  refine q_aload_n hx hb dS_takenOf_0 rfl (lv_at hl 0 rfl) ?_
  refine q_ifnonnull (tgt := 11) hx hb dS_takenOf_1 (by decide) (fun xc1 c1 => ?_) (fun c1 => ?_)
  · subst c1
    have hl : lv_has ls 2 [(0, .ref xc1), (1, .int (nI w))] := hl
    obtain ⟨hz, lo, up, tk, hB, hz2, hJ⟩ := hf
    refine lv_aload_n hx hb dS_takenOf_11 rfl (lv_at hl 0 rfl) ?_
    refine va_getN (D := Γ.1) (ci := 0) (v := .ref tk) (C := RB) (T := TB) (N := 3) (host := RS) hx hb hg inB hown hW.1 (p1 hB) 0 rfl rfl 2 (by decide) ((hW.2.1.1 _ (List.mem_of_getElem? (i := 3) rfl)).use rfl) (fun _ h9 => h9) rfl dS_takenOf_12 ?_
    refine lv_iload_n hx hb dS_takenOf_15 rfl (lv_at hl 1 rfl) ?_
    refine va_lald (D := Γ.1) (cl := gC) hx hb hW.1 (p1 hJ) 0 0 rfl rfl (vp_in_nI (by omega) (by omega)) dS_takenOf_16 ?_
    exact W.lret (v := f (nI w).toNatClampNeg) hx hb hr (fun t ht hW9 => ⟨_, rfl, by rw [nI_clamp (by omega)], ht⟩) (fun _ h => nomatch h) dS_takenOf_17
  · subst c1
    have hl : lv_has ls 2 [(0, .null), (1, .int (nI w))] := hl
    refine lv_iload_n hx hb dS_takenOf_4 rfl (lv_at hl 1 rfl) ?_
    refine vp_callSl (W.runS (As := [.int (nI w)]) (rest := []) ⟨hx, hb, hml, hown, hg⟩ (c_S_takenOfNothing l Γ s.heap hw) (va_cwS 1 hg gS_109 rfl rfl rfl (by decide +kernel) ⟨Nat.le_of_ble_eq_true rfl, Nat.le_of_ble_eq_true rfl⟩) (gP_S hW hS) rfl rfl hl.1 rfl (lv_room (Nat.le_of_ble_eq_true rfl)) dS_takenOf_5 ⟨Nat.le_of_ble_eq_true rfl, Nat.le_of_ble_eq_true rfl⟩) (fun r0 hr0 => ?_)
    refine lv_goto (tgt := 17) hx hb dS_takenOf_8 (by decide) ?_
    exact W.lret (v := r0) hx hb hr (fun t ht hW9 => ⟨_, rfl, hr0.trans (hf w hw).symm, ht⟩) (fun _ h => nomatch h) dS_takenOf_17
set_option maxHeartbeats 4000000 in
set_option maxRecDepth 100000 in
theorem c_S_lowerOf (l : Launch) (Γ : gE) (H : Heap) {r lo up : Option Nat} (hf : bL Γ H r lo up) : Met l yS_lowerOf wS_lowerOf ({ frames := 0, cells := 0, slots := 0, locals := 0 }) (gP Γ H [va_rf r]) (va_Sq (fun x => x = lo)) 0 0 (fun _ => False) := by
  refine Met.ofW (cc := cS_lowerOf) (maxL := 1) (ret := (some (.object "StampTables$Block"))) (by decide) rfl ?_
  intro p e s m args below meth c s₁ B hml hv
  obtain ⟨rfl, rfl, hW⟩ := hv
  have hx := B.exec
  have hb := B.bytes
  have hr := B.returns
  have hg : ∀ w ∈ gW, w.before _ s = true := fun w h => atoms_spec (ws := wS_lowerOf) B.pre w (List.mem_cons_of_mem _ h)
  have hown : s.vm.findClass RS = some m.cls := findClass_of_methodNamed B.named
  have hlocks := B.notSynchronized
  have hS : va_S (gA Γ) s.heap s.heap [] := va_S.rf
  have hl := lv_entry ([va_rf r]) (n := 1) (by cases r <;> exact Nat.le_of_ble_eq_true rfl)
  rw [lg_entry_eq]
  generalize (lg_sl ([va_rf r]) ++ List.replicate (1 - (lg_sl ([va_rf r])).length) Slot.unset).toArray = ls at hl ⊢
  have hl : lv_has ls 1 [(0, va_rf r)] := by cases r <;> exact hl
  refine q_aload_n hx hb dS_lowerOf_0 rfl (lv_at hl 0 rfl) ?_
  refine q_ifnonnull (tgt := 8) hx hb dS_lowerOf_1 (by decide) (fun xc1 c1 => ?_) (fun c1 => ?_)
  · subst c1
    have hl : lv_has ls 1 [(0, .ref xc1)] := hl
    obtain ⟨hz, tk, hB⟩ := hf
    refine lv_aload_n hx hb dS_lowerOf_8 rfl (lv_at hl 0 rfl) ?_
    refine va_getN (D := Γ.1) (ci := 0) (v := va_rf lo) (C := RB) (T := TB) (N := 3) (host := RS) hx hb hg inB hown hW.1 (p1 hB) 0 rfl rfl 0 (by decide) ((hW.2.1.1 _ (List.mem_of_getElem? (i := 1) rfl)).use rfl) (fun _ h9 => h9) rfl dS_lowerOf_9 ?_
    exact W.aret (v := va_rf lo) hx hb hr (Or.inl ⟨_, rfl⟩) (va_rf_or _) (fun t ht hW9 => ⟨lo, rfl, rfl, ht⟩) (fun _ h => nomatch h) dS_lowerOf_12
  · subst c1
    have hl : lv_has ls 1 [(0, .null)] := hl
    refine lv_null hx hb dS_lowerOf_4 ?_
    refine lv_goto (tgt := 12) hx hb dS_lowerOf_5 (by decide) ?_
    exact W.aret (v := va_rf none) hx hb hr (Or.inl ⟨_, rfl⟩) (va_rf_or _) (fun t ht hW9 => ⟨none, rfl, hf.1.symm, ht⟩) (fun _ h => nomatch h) dS_lowerOf_12
set_option maxHeartbeats 4000000 in
set_option maxRecDepth 100000 in
theorem c_S_upperOf (l : Launch) (Γ : gE) (H : Heap) {r lo up : Option Nat} (hf : bL Γ H r lo up) : Met l yS_upperOf wS_upperOf ({ frames := 0, cells := 0, slots := 0, locals := 0 }) (gP Γ H [va_rf r]) (va_Sq (fun x => x = up)) 0 0 (fun _ => False) := by
  refine Met.ofW (cc := cS_upperOf) (maxL := 1) (ret := (some (.object "StampTables$Block"))) (by decide) rfl ?_
  intro p e s m args below meth c s₁ B hml hv
  obtain ⟨rfl, rfl, hW⟩ := hv
  have hx := B.exec
  have hb := B.bytes
  have hr := B.returns
  have hg : ∀ w ∈ gW, w.before _ s = true := fun w h => atoms_spec (ws := wS_upperOf) B.pre w (List.mem_cons_of_mem _ h)
  have hown : s.vm.findClass RS = some m.cls := findClass_of_methodNamed B.named
  have hlocks := B.notSynchronized
  have hS : va_S (gA Γ) s.heap s.heap [] := va_S.rf
  have hl := lv_entry ([va_rf r]) (n := 1) (by cases r <;> exact Nat.le_of_ble_eq_true rfl)
  rw [lg_entry_eq]
  generalize (lg_sl ([va_rf r]) ++ List.replicate (1 - (lg_sl ([va_rf r])).length) Slot.unset).toArray = ls at hl ⊢
  have hl : lv_has ls 1 [(0, va_rf r)] := by cases r <;> exact hl
  refine q_aload_n hx hb dS_upperOf_0 rfl (lv_at hl 0 rfl) ?_
  refine q_ifnonnull (tgt := 8) hx hb dS_upperOf_1 (by decide) (fun xc1 c1 => ?_) (fun c1 => ?_)
  · subst c1
    have hl : lv_has ls 1 [(0, .ref xc1)] := hl
    obtain ⟨hz, tk, hB⟩ := hf
    refine lv_aload_n hx hb dS_upperOf_8 rfl (lv_at hl 0 rfl) ?_
    refine va_getN (D := Γ.1) (ci := 0) (v := va_rf up) (C := RB) (T := TB) (N := 3) (host := RS) hx hb hg inB hown hW.1 (p1 hB) 0 rfl rfl 1 (by decide) ((hW.2.1.1 _ (List.mem_of_getElem? (i := 2) rfl)).use rfl) (fun _ h9 => h9) rfl dS_upperOf_9 ?_
    exact W.aret (v := va_rf up) hx hb hr (Or.inl ⟨_, rfl⟩) (va_rf_or _) (fun t ht hW9 => ⟨up, rfl, rfl, ht⟩) (fun _ h => nomatch h) dS_upperOf_12
  · subst c1
    have hl : lv_has ls 1 [(0, .null)] := hl
    refine lv_null hx hb dS_upperOf_4 ?_
    refine lv_goto (tgt := 12) hx hb dS_upperOf_5 (by decide) ?_
    exact W.aret (v := va_rf none) hx hb hr (Or.inl ⟨_, rfl⟩) (va_rf_or _) (fun t ht hW9 => ⟨none, rfl, hf.2.symm, ht⟩) (fun _ h => nomatch h) dS_upperOf_12
theorem smod_nI : ∀ L, L < 10 → (((nI L) &&& 31).toBitVec.smod 32).toNat = L := by decide +kernel
theorem up_half {k L : Nat} (hk : k < 1024) (hL : L < 10) : (nI k >>> ((nI (L + 1) - 1) &&& 31)) &&& 1 = nI (k / 2 ^ L % 2) := by
  rw [nI_pred, pk_shrN (by omega) _ L (smod_nI L hL), pk_andN (by have := Nat.div_le_self k (2 ^ L); omega) 1 (by decide)]
set_option maxHeartbeats 4000000 in
set_option maxRecDepth 100000 in
theorem c_S_isInUpperHalf (l : Launch) (Γ : gE) (H : Heap) {k L : Nat} (hk : k < 1024) (hL : L < 10) : Met l yS_isInUpperHalf wS_isInUpperHalf ({ frames := 0, cells := 0, slots := 0, locals := 0 }) (gP Γ H [.int (nI k), .int (nI (L + 1))]) (vp_Si (fun x => x = if k / 2 ^ L % 2 = 1 then 1 else 0)) 0 0 (fun _ => False) := by
  refine Met.ofW (cc := cS_isInUpperHalf) (maxL := 2) (ret := (some .boolean)) (by decide) rfl ?_
  intro p e s m args below meth c s₁ B hml hv
  obtain ⟨rfl, rfl, hW⟩ := hv
  have hx := B.exec
  have hb := B.bytes
  have hr := B.returns
  have hg : ∀ w ∈ gW, w.before _ s = true := fun w h => atoms_spec (ws := wS_isInUpperHalf) B.pre w (List.mem_cons_of_mem _ h)
  have hown : s.vm.findClass RS = some m.cls := findClass_of_methodNamed B.named
  have hlocks := B.notSynchronized
  have hS : va_S (gA Γ) s.heap s.heap [] := va_S.rf
  have hl := lv_entry ([.int (nI k), .int (nI (L + 1))]) (n := 2) (Nat.le_of_ble_eq_true rfl)
  rw [lg_entry_eq]
  generalize (lg_sl ([.int (nI k), .int (nI (L + 1))]) ++ List.replicate (2 - (lg_sl ([.int (nI k), .int (nI (L + 1))])).length) Slot.unset).toArray = ls at hl ⊢
  have hl : lv_has ls 2 [(0, .int (nI k)), (1, .int (nI (L + 1)))] := hl
  refine lv_iload_n hx hb dS_isInUpperHalf_0 rfl (lv_at hl 0 rfl) ?_
  refine lv_iload_n hx hb dS_isInUpperHalf_1 rfl (lv_at hl 1 rfl) ?_
  refine lv_iconst (v := 1) hx hb dS_isInUpperHalf_2 (by decide) ?_
  refine lv_isub hx hb dS_isInUpperHalf_3 ?_
  refine lv_ishr hx hb dS_isInUpperHalf_4 ?_
  refine lv_iconst (v := 1) hx hb dS_isInUpperHalf_5 (by decide) ?_
  refine lv_iand hx hb dS_isInUpperHalf_6 ?_
  refine lv_iconst (v := 1) hx hb dS_isInUpperHalf_7 (by decide) ?_
  refine lv_icmp_ne (tgt := 15) hx hb dS_isInUpperHalf_8 (by decide) (fun c1 => ?_) (fun c1 => ?_)
  · refine lv_iconst (v := 0) hx hb dS_isInUpperHalf_15 (by decide) ?_
    have h1 : ¬ k / 2 ^ L % 2 = 1 := fun h => c1 (by rw [up_half hk hL, h]; rfl)
    exact W.zret (v := 0) hx hb hr (by decide) (fun t ht hW9 => ⟨_, rfl, by simp [h1], ht⟩) (fun _ h => nomatch h) dS_isInUpperHalf_16
  · refine lv_iconst (v := 1) hx hb dS_isInUpperHalf_11 (by decide) ?_
    refine lv_goto (tgt := 16) hx hb dS_isInUpperHalf_12 (by decide) ?_
    have h1 : k / 2 ^ L % 2 = 1 := by
      rw [up_half hk hL] at c1
      exact (nI_eq (by omega) (by omega)).mp c1
    exact W.zret (v := 1) hx hb hr (by decide) (fun t ht hW9 => ⟨_, rfl, by simp [h1], ht⟩) (fun _ h => nomatch h) dS_isInUpperHalf_16
set_option maxHeartbeats 4000000 in
set_option maxRecDepth 100000 in
theorem c_S_takenTogether (l : Launch) (Γ : gE) (H : Heap) {w : Nat} (a b : Int64) (hw : w ≤ 4) : Met l yS_takenTogether wS_takenTogether ({ frames := 1, cells := 0, slots := 0, locals := 20 }) (gP Γ H [.long a, .long b, .int (nI w)]) (vp_Sl (fun r => r = cmb w a b)) 0 0 (fun _ => False) := by
  refine Met.ofW (cc := cS_takenTogether) (maxL := 5) (ret := (some .long)) (by decide) rfl ?_
  intro p e s m args below meth c s₁ B hml hv
  obtain ⟨rfl, rfl, hW⟩ := hv
  have hx := B.exec
  have hb := B.bytes
  have hr := B.returns
  have hg : ∀ w ∈ gW, w.before _ s = true := fun w h => atoms_spec (ws := wS_takenTogether) B.pre w (List.mem_cons_of_mem _ h)
  have hown : s.vm.findClass RS = some m.cls := findClass_of_methodNamed B.named
  have hlocks := B.notSynchronized
  have hS : va_S (gA Γ) s.heap s.heap [] := va_S.rf
  have hl := lv_entry ([.long a, .long b, .int (nI w)]) (n := 5) (Nat.le_of_ble_eq_true rfl)
  rw [lg_entry_eq]
  generalize (lg_sl ([.long a, .long b, .int (nI w)]) ++ List.replicate (5 - (lg_sl ([.long a, .long b, .int (nI w)])).length) Slot.unset).toArray = ls at hl ⊢
  have hl : lv_has ls 5 [(0, .long a), (2, .long b), (4, .int (nI w))] := hl
  refine lv_iload hx hb dS_takenTogether_0 (lv_at hl 2 rfl) ?_
  rcases (show w = 2 ∨ w = 3 ∨ w = 4 ∨ (w = 0 ∨ w = 1) by omega) with rfl | rfl | rfl | h01
  · refine lv_tableIn (off := 26) (tgt := 28) hx hb dS_takenTogether_2 (by decide) (by decide) (by decide) (by decide) ?_
    refine lv_lload_n hx hb dS_takenTogether_28 rfl (lv_at hl 0 rfl) ?_
    refine lv_ldc2 (v := (-1)) hx hb hown (hg _ kw196) dS_takenTogether_29 ?_
    refine W.lcmp hx hb dS_takenTogether_32 ?_
    refine lv_if_ne (tgt := 40) hx hb dS_takenTogether_33 (by decide) (fun c1 => ?_) (fun c1 => ?_)
    · refine lv_lload_n hx hb dS_takenTogether_40 rfl (lv_at hl 0 rfl) ?_
      have h1 : ¬ a = -1 := fun h => c1 ((lg_cmp_eq _ _).mpr h)
      exact W.lret (v := a) hx hb hr (fun t ht hW9 => ⟨_, rfl, by simp [cmb, h1], ht⟩) (fun _ h => nomatch h) dS_takenTogether_41
    · refine lv_lload_n hx hb dS_takenTogether_36 rfl (lv_at hl 1 rfl) ?_
      refine lv_goto (tgt := 41) hx hb dS_takenTogether_37 (by decide) ?_
      have h1 : a = -1 := (lg_cmp_eq _ _).mp c1
      exact W.lret (v := b) hx hb hr (fun t ht hW9 => ⟨_, rfl, by simp [cmb, h1], ht⟩) (fun _ h => nomatch h) dS_takenTogether_41
  · refine lv_tableIn (off := 40) (tgt := 42) hx hb dS_takenTogether_2 (by decide) (by decide) (by decide) (by decide) ?_
    refine lv_lload_n hx hb dS_takenTogether_42 rfl (lv_at hl 1 rfl) ?_
    refine lv_ldc2 (v := (-1)) hx hb hown (hg _ kw196) dS_takenTogether_43 ?_
    refine W.lcmp hx hb dS_takenTogether_46 ?_
    refine lv_if_ne (tgt := 54) hx hb dS_takenTogether_47 (by decide) (fun c1 => ?_) (fun c1 => ?_)
    · refine lv_lload_n hx hb dS_takenTogether_54 rfl (lv_at hl 1 rfl) ?_
      have h1 : ¬ b = -1 := fun h => c1 ((lg_cmp_eq _ _).mpr h)
      exact W.lret (v := b) hx hb hr (fun t ht hW9 => ⟨_, rfl, by simp [cmb, h1], ht⟩) (fun _ h => nomatch h) dS_takenTogether_55
    · refine lv_lload_n hx hb dS_takenTogether_50 rfl (lv_at hl 0 rfl) ?_
      refine lv_goto (tgt := 55) hx hb dS_takenTogether_51 (by decide) ?_
      have h1 : b = -1 := (lg_cmp_eq _ _).mp c1
      exact W.lret (v := a) hx hb hr (fun t ht hW9 => ⟨_, rfl, by simp [cmb, h1], ht⟩) (fun _ h => nomatch h) dS_takenTogether_55
  · refine lv_tableIn (off := 54) (tgt := 56) hx hb dS_takenTogether_2 (by decide) (by decide) (by decide) (by decide) ?_
    refine lv_lload_n hx hb dS_takenTogether_56 rfl (lv_at hl 0 rfl) ?_
    refine lv_lload_n hx hb dS_takenTogether_57 rfl (lv_at hl 1 rfl) ?_
    refine va_mmax_long (x := a) (y := b) hx hb (by rw [hml]; exact hl.1.symm) hown (hg _ kw200) (hg _ kw201) (hg _ kw19) (hg _ kwMax) (Nat.le_of_ble_eq_true rfl) (Nat.le_of_ble_eq_true rfl) (Nat.zero_le _) (Nat.zero_le _) dS_takenTogether_58 ?_
    exact W.lret (v := (if b < a then a else b)) hx hb hr (fun t ht hW9 => ⟨_, rfl, by simp [cmb], ht⟩) (fun _ h => nomatch h) dS_takenTogether_61
  · have h2 : (nI w).toInt < 2 ∨ (4 : Int) < (nI w).toInt := by rw [nI_toInt (by omega)]; omega
    refine lv_tableOut (tgt := 62) hx hb dS_takenTogether_2 h2 (by decide) ?_
    refine lv_lload_n hx hb dS_takenTogether_62 rfl (lv_at hl 0 rfl) ?_
    refine lv_lload_n hx hb dS_takenTogether_63 rfl (lv_at hl 1 rfl) ?_
    refine lv_ladd hx hb dS_takenTogether_64 ?_
    exact W.lret (v := a + b) hx hb hr (fun t ht hW9 => ⟨_, rfl, by unfold cmb; rw [if_neg (by omega), if_neg (by omega), if_neg (by omega)], ht⟩) (fun _ h => nomatch h) dS_takenTogether_65
