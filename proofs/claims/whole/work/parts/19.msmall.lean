/-! the reference: small methods -/
set_option maxHeartbeats 4000000 in
set_option maxRecDepth 100000 in
theorem c_M_thrown (l : Launch) (Γ : gE) (H : Heap) {A : Nat → Nat} {er : Int32} {mn : Nat} {fof fke fst fno fla fot : Nat → Int32} {fnu : Nat → Int64} (hP : va_P Γ.1 gC (wM Γ A (er) (nI mn) (fof) (fke) (fst) (fnu) (fno) (fla) (fot)) H) : Met l yM_thrown wM_thrown ({ frames := 0, cells := 0, slots := 0, locals := 0 }) (gP Γ H [.ref (A 0)]) (vp_Si (fun r => r = er)) 0 0 (fun _ => False) := by
  refine Met.ofW (cc := cM_thrown) (maxL := 1) (ret := (some .int)) (by decide) rfl ?_
  intro p e s m args below meth c s₁ B hml hv
  obtain ⟨rfl, rfl, hW⟩ := hv
  have hx := B.exec
  have hb := B.bytes
  have hr := B.returns
  have hg : ∀ w ∈ gW, w.before _ s = true := fun w h => atoms_spec (ws := wM_thrown) B.pre w (List.mem_cons_of_mem _ h)
  have hown : s.vm.findClass RM = some m.cls := findClass_of_methodNamed B.named
  have hlocks := B.notSynchronized
  have hS : va_S (gA Γ) s.heap s.heap [] := va_S.rf
  have hl := lv_entry ([.ref (A 0)]) (n := 1) (Nat.le_of_ble_eq_true rfl)
  rw [lg_entry_eq]
  generalize (lg_sl ([.ref (A 0)]) ++ List.replicate (1 - (lg_sl ([.ref (A 0)])).length) Slot.unset).toArray = ls at hl ⊢
  have hl : lv_has ls 1 [(0, .ref (A 0))] := hl
  refine lv_aload_n hx hb dM_thrown_0 rfl (lv_at hl 0 rfl) ?_
  refine va_get (D := Γ.1) (ci := 2) (v := .int (er)) (C := RM) (T := TM) (N := 9) hx hb hg inM hown hW.1 hP 0 rfl rfl 0 (by decide) (hg _ kw289) (fun _ h9 => h9) rfl dM_thrown_1 ?_
  exact W.iret (v := er) hx hb hr (fun t ht hW9 => ⟨_, rfl, rfl, ht⟩) (fun _ h => nomatch h) dM_thrown_4
set_option maxHeartbeats 4000000 in
set_option maxRecDepth 100000 in
theorem c_M_noTable (l : Launch) (Γ : gE) (H : Heap) {A : Nat → Nat} {er : Int32} {mn : Nat} {fof fke fst fno fla fot : Nat → Int32} {fnu : Nat → Int64} {t : Int32} (hP : va_P Γ.1 gC (wM Γ A (er) (nI mn) (fof) (fke) (fst) (fnu) (fno) (fla) (fot)) H) (hmn : mn ≤ 400) : Met l yM_noTable wM_noTable ({ frames := 0, cells := 0, slots := 0, locals := 0 }) (gP Γ H [.ref (A 0), .int t]) (vp_Si (fun r => (r = 0 ∧ inT t mn) ∨ (r = 1 ∧ ¬ inT t mn))) 0 0 (fun _ => False) := by
  refine Met.ofW (cc := cM_noTable) (maxL := 2) (ret := (some .boolean)) (by decide) rfl ?_
  intro p e s m args below meth c s₁ B hml hv
  obtain ⟨rfl, rfl, hW⟩ := hv
  have hx := B.exec
  have hb := B.bytes
  have hr := B.returns
  have hg : ∀ w ∈ gW, w.before _ s = true := fun w h => atoms_spec (ws := wM_noTable) B.pre w (List.mem_cons_of_mem _ h)
  have hown : s.vm.findClass RM = some m.cls := findClass_of_methodNamed B.named
  have hlocks := B.notSynchronized
  have hS : va_S (gA Γ) s.heap s.heap [] := va_S.rf
  have hl := lv_entry ([.ref (A 0), .int t]) (n := 2) (Nat.le_of_ble_eq_true rfl)
  rw [lg_entry_eq]
  generalize (lg_sl ([.ref (A 0), .int t]) ++ List.replicate (2 - (lg_sl ([.ref (A 0), .int t])).length) Slot.unset).toArray = ls at hl ⊢
  have hl : lv_has ls 2 [(0, .ref (A 0)), (1, .int t)] := hl
  refine lv_iload_n hx hb dM_noTable_0 rfl (lv_at hl 1 rfl) ?_
  refine lv_if_lt (tgt := 12) hx hb dM_noTable_1 (by decide) (fun c1 => ?_) (fun c1 => ?_)
  · refine lv_iconst (v := 1) hx hb dM_noTable_12 (by decide) ?_
    refine lv_goto (tgt := 17) hx hb dM_noTable_13 (by decide) ?_
    exact W.zret (v := 1) hx hb hr (by decide) (fun t ht hW9 => ⟨_, rfl, Or.inr ⟨rfl, (inT_no (by omega)).mpr (Or.inl c1)⟩, ht⟩) (fun _ h => nomatch h) dM_noTable_17
  · refine lv_iload_n hx hb dM_noTable_4 rfl (lv_at hl 1 rfl) ?_
    refine lv_aload_n hx hb dM_noTable_5 rfl (lv_at hl 0 rfl) ?_
    refine va_get (D := Γ.1) (ci := 2) (v := .int (nI mn)) (C := RM) (T := TM) (N := 9) hx hb hg inM hown hW.1 hP 0 rfl rfl 8 (by decide) (hg _ kw297) (fun _ h9 => h9) rfl dM_noTable_6 ?_
    refine lv_icmp_lt (tgt := 16) hx hb dM_noTable_9 (by decide) (fun c2 => ?_) (fun c2 => ?_)
    · refine lv_iconst (v := 0) hx hb dM_noTable_16 (by decide) ?_
      exact W.zret (v := 0) hx hb hr (by decide) (fun t ht hW9 => ⟨_, rfl, Or.inl ⟨rfl, inT_of (by omega) c1 c2⟩, ht⟩) (fun _ h => nomatch h) dM_noTable_17
    · refine lv_iconst (v := 1) hx hb dM_noTable_12 (by decide) ?_
      refine lv_goto (tgt := 17) hx hb dM_noTable_13 (by decide) ?_
      exact W.zret (v := 1) hx hb hr (by decide) (fun t ht hW9 => ⟨_, rfl, Or.inr ⟨rfl, (inT_no (by omega)).mpr (Or.inr (Int32.not_lt.mp c2))⟩, ht⟩) (fun _ h => nomatch h) dM_noTable_17
set_option maxHeartbeats 4000000 in
set_option maxRecDepth 100000 in
theorem c_M_noKey (l : Launch) (Γ : gE) (H : Heap) {k : Int32} : Met l yM_noKey wM_noKey ({ frames := 0, cells := 0, slots := 0, locals := 0 }) (gP Γ H [.int k]) (vp_Si (fun r => (r = 0 ∧ inT k 1024) ∨ (r = 1 ∧ ¬ inT k 1024))) 0 0 (fun _ => False) := by
  refine Met.ofW (cc := cM_noKey) (maxL := 1) (ret := (some .boolean)) (by decide) rfl ?_
  intro p e s m args below meth c s₁ B hml hv
  obtain ⟨rfl, rfl, hW⟩ := hv
  have hx := B.exec
  have hb := B.bytes
  have hr := B.returns
  have hg : ∀ w ∈ gW, w.before _ s = true := fun w h => atoms_spec (ws := wM_noKey) B.pre w (List.mem_cons_of_mem _ h)
  have hown : s.vm.findClass RM = some m.cls := findClass_of_methodNamed B.named
  have hlocks := B.notSynchronized
  have hS : va_S (gA Γ) s.heap s.heap [] := va_S.rf
  have hl := lv_entry ([.int k]) (n := 1) (Nat.le_of_ble_eq_true rfl)
  rw [lg_entry_eq]
  generalize (lg_sl ([.int k]) ++ List.replicate (1 - (lg_sl ([.int k])).length) Slot.unset).toArray = ls at hl ⊢
  have hl : lv_has ls 1 [(0, .int k)] := hl
  refine lv_iload_n hx hb dM_noKey_0 rfl (lv_at hl 0 rfl) ?_
  refine lv_if_lt (tgt := 11) hx hb dM_noKey_1 (by decide) (fun c1 => ?_) (fun c1 => ?_)
  · refine lv_iconst (v := 1) hx hb dM_noKey_11 (by decide) ?_
    refine lv_goto (tgt := 16) hx hb dM_noKey_12 (by decide) ?_
    exact W.zret (v := 1) hx hb hr (by decide) (fun t ht hW9 => ⟨_, rfl, Or.inr ⟨rfl, (inT_no (by omega)).mpr (Or.inl c1)⟩, ht⟩) (fun _ h => nomatch h) dM_noKey_16
  · refine lv_iload_n hx hb dM_noKey_4 rfl (lv_at hl 0 rfl) ?_
    refine lv_sipush (v := 1024) hx hb dM_noKey_5 (by decide) ?_
    refine lv_icmp_lt (tgt := 15) hx hb dM_noKey_8 (by decide) (fun c2 => ?_) (fun c2 => ?_)
    · refine lv_iconst (v := 0) hx hb dM_noKey_15 (by decide) ?_
      exact W.zret (v := 0) hx hb hr (by decide) (fun t ht hW9 => ⟨_, rfl, Or.inl ⟨rfl, inT_of (n := 1024) (by omega) c1 c2⟩, ht⟩) (fun _ h => nomatch h) dM_noKey_16
    · refine lv_iconst (v := 1) hx hb dM_noKey_11 (by decide) ?_
      refine lv_goto (tgt := 16) hx hb dM_noKey_12 (by decide) ?_
      exact W.zret (v := 1) hx hb hr (by decide) (fun t ht hW9 => ⟨_, rfl, Or.inr ⟨rfl, (inT_no (n := 1024) (by omega)).mpr (Or.inr (Int32.not_lt.mp c2))⟩, ht⟩) (fun _ h => nomatch h) dM_noKey_16
set_option maxHeartbeats 4000000 in
set_option maxRecDepth 100000 in
theorem c_M_has (l : Launch) (Γ : gE) (H : Heap) {A : Nat → Nat} {er : Int32} {mn : Nat} {fof fke fst fno fla fot : Nat → Int32} {fnu : Nat → Int64} {ci : Nat} (hP : va_P Γ.1 gC (wM Γ A (er) (nI mn) (fof) (fke) (fst) (fnu) (fno) (fla) (fot)) H) (hci : ci < 400) : Met l yM_has wM_has ({ frames := 0, cells := 0, slots := 0, locals := 0 }) (gP Γ H [.ref (A 0), .int (nI ci)]) (vp_Si (fun r => r = if ci ≠ 0 ∧ fno ci = 0 then 1 else 0)) 0 0 (fun _ => False) := by
  refine Met.ofW (cc := cM_has) (maxL := 2) (ret := (some .boolean)) (by decide) rfl ?_
  intro p e s m args below meth c s₁ B hml hv
  obtain ⟨rfl, rfl, hW⟩ := hv
  have hx := B.exec
  have hb := B.bytes
  have hr := B.returns
  have hg : ∀ w ∈ gW, w.before _ s = true := fun w h => atoms_spec (ws := wM_has) B.pre w (List.mem_cons_of_mem _ h)
  have hown : s.vm.findClass RM = some m.cls := findClass_of_methodNamed B.named
  have hlocks := B.notSynchronized
  have hS : va_S (gA Γ) s.heap s.heap [] := va_S.rf
  have hl := lv_entry ([.ref (A 0), .int (nI ci)]) (n := 2) (Nat.le_of_ble_eq_true rfl)
  rw [lg_entry_eq]
  generalize (lg_sl ([.ref (A 0), .int (nI ci)]) ++ List.replicate (2 - (lg_sl ([.ref (A 0), .int (nI ci)])).length) Slot.unset).toArray = ls at hl ⊢
  have hl : lv_has ls 2 [(0, .ref (A 0)), (1, .int (nI ci))] := hl
  refine lv_iload_n hx hb dM_has_0 rfl (lv_at hl 1 rfl) ?_
  refine lv_if_eq (tgt := 17) hx hb dM_has_1 (by decide) (fun c1 => ?_) (fun c1 => ?_)
  · have h0 : ci = 0 := (nI_eq (by omega) (by omega)).mp (c1.trans nI_0.symm)
    refine lv_iconst (v := 0) hx hb dM_has_17 (by decide) ?_
    exact W.zret (v := 0) hx hb hr (by decide) (fun t ht hW9 => ⟨_, rfl, by simp [h0], ht⟩) (fun _ h => nomatch h) dM_has_18
  · have h0 : ¬ ci = 0 := fun h => c1 (by rw [h]; exact nI_0)
    refine lv_aload_n hx hb dM_has_4 rfl (lv_at hl 0 rfl) ?_
    refine va_get (D := Γ.1) (ci := 2) (v := .ref (A 5)) (C := RM) (T := TM) (N := 9) hx hb hg inM hown hW.1 hP 0 rfl rfl 5 (by decide) (hg _ kw294) (fun _ h9 => h9) rfl dM_has_5 ?_
    refine lv_iload_n hx hb dM_has_8 rfl (lv_at hl 1 rfl) ?_
    refine va_zald (D := Γ.1) (cl := gC) (tys := gT Γ) hx hb hW.1 hP 5 3 rfl rfl (vp_in_nI (show ci < 400 by omega) (by omega)) dM_has_9 ?_
    rw [nI_clamp (show ci < 2 ^ 31 by omega)]
    refine lv_if_ne (tgt := 17) hx hb dM_has_10 (by decide) (fun c2 => ?_) (fun c2 => ?_)
    · refine lv_iconst (v := 0) hx hb dM_has_17 (by decide) ?_
      exact W.zret (v := 0) hx hb hr (by decide) (fun t ht hW9 => ⟨_, rfl, by simp [c2], ht⟩) (fun _ h => nomatch h) dM_has_18
    · refine lv_iconst (v := 1) hx hb dM_has_13 (by decide) ?_
      refine lv_goto (tgt := 18) hx hb dM_has_14 (by decide) ?_
      exact W.zret (v := 1) hx hb hr (by decide) (fun t ht hW9 => ⟨_, rfl, by simp [h0, c2], ht⟩) (fun _ h => nomatch h) dM_has_18
set_option maxHeartbeats 4000000 in
set_option maxRecDepth 100000 in
theorem c_M_fails0 (l : Launch) (Γ : gE) (H : Heap) {A : Nat → Nat} {er : Int32} {mn : Nat} {fof fke fst fno fla fot : Nat → Int32} {fnu : Nat → Int64} {why : Int32} (hP : va_P Γ.1 gC (wM Γ A (er) (nI mn) (fof) (fke) (fst) (fnu) (fno) (fla) (fot)) H) (hD : va_D (mA Γ) (wM Γ A (er) (nI mn) (fof) (fke) (fst) (fnu) (fno) (fla) (fot))) (hm : gz Γ ≤ gm0 Γ) : Met l yM_fails wM_fails ({ frames := 0, cells := 0, slots := 0, locals := 0 }) (gP Γ H [.ref (A 0), .int 0, .int why]) (va_Qi (fun r (_ : Unit) => r = 0) (fun _ t => va_P Γ.1 gC (wM Γ A (0) (nI mn) (fof) (fke) (fst) (fnu) (fno) (fla) (fot)) t.heap) (mA Γ)) 0 0 (mA Γ) := by
  refine Met.ofW (cc := cM_fails) (maxL := 3) (ret := (some .boolean)) (by decide) rfl ?_
  intro p e s m args below meth c s₁ B hml hv
  obtain ⟨rfl, rfl, hW⟩ := hv
  have hx := B.exec
  have hb := B.bytes
  have hr := B.returns
  have hg : ∀ w ∈ gW, w.before _ s = true := fun w h => atoms_spec (ws := wM_fails) B.pre w (List.mem_cons_of_mem _ h)
  have hown : s.vm.findClass RM = some m.cls := findClass_of_methodNamed B.named
  have hlocks := B.notSynchronized
  have hS : va_S (gA Γ) s.heap s.heap [] := va_S.rf
  have hl := lv_entry ([.ref (A 0), .int 0, .int why]) (n := 3) (Nat.le_of_ble_eq_true rfl)
  rw [lg_entry_eq]
  generalize (lg_sl ([.ref (A 0), .int 0, .int why]) ++ List.replicate (3 - (lg_sl ([.ref (A 0), .int 0, .int why])).length) Slot.unset).toArray = ls at hl ⊢
  have hl : lv_has ls 3 [(0, .ref (A 0)), (1, .int 0), (2, .int why)] := hl
  have hS : va_S (mA Γ) s.heap s.heap [] := va_S.rf
  refine lv_aload_n hx hb dM_fails_0 rfl (lv_at hl 0 rfl) ?_
  refine lv_iload_n hx hb dM_fails_1 rfl (lv_at hl 1 rfl) ?_
  refine lv_if_eq (tgt := 9) hx hb dM_fails_2 (by decide) (fun c1 => ?_) (fun c1 => ?_)
  · refine lv_iconst (v := 0) hx hb dM_fails_9 (by decide) ?_
    refine va_put (D := Γ.1) (ci := 2) (v := .int (0)) (ty := .int) (C := RM) (T := TM) (N := 9) hx hb hg inM tyM tyM_ok nmM hown hW.1 hP hD hS 0 rfl rfl 0 (by decide) (hg _ kw289) (fun _ h9 => h9) rfl (by decide +kernel) rfl rfl (Nat.le_of_ble_eq_true rfl) dM_fails_10 (fun H locs hP hD hS => ?_)
    have hP : va_P Γ.1 gC (wM Γ A (0) (nI mn) (fof) (fke) (fst) (fnu) (fno) (fla) (fot)) H := hP
    have hD : va_D (mA Γ) (wM Γ A (0) (nI mn) (fof) (fke) (fst) (fnu) (fno) (fla) (fot)) := hD
    refine lv_iload_n hx hb dM_fails_13 rfl (lv_at hl 1 rfl) ?_
    exact W.zret (v := 0) hx hb hr (by decide) (fun t8 ht8 hW9 => ⟨⟨0, (), rfl, rfl, by subst ht8; exact hP⟩, hS.F ht8⟩) (fun q hq => hS.2.2 q hq) dM_fails_14
  · exact absurd rfl c1
set_option maxHeartbeats 4000000 in
set_option maxRecDepth 100000 in
theorem c_M_fails1 (l : Launch) (Γ : gE) (H : Heap) {A : Nat → Nat} {er : Int32} {mn : Nat} {fof fke fst fno fla fot : Nat → Int32} {fnu : Nat → Int64} {why : Int32} (hP : va_P Γ.1 gC (wM Γ A (er) (nI mn) (fof) (fke) (fst) (fnu) (fno) (fla) (fot)) H) (hD : va_D (mA Γ) (wM Γ A (er) (nI mn) (fof) (fke) (fst) (fnu) (fno) (fla) (fot))) (hm : gz Γ ≤ gm0 Γ) : Met l yM_fails wM_fails ({ frames := 0, cells := 0, slots := 0, locals := 0 }) (gP Γ H [.ref (A 0), .int 1, .int why]) (va_Qi (fun r (_ : Unit) => r = 1) (fun _ t => va_P Γ.1 gC (wM Γ A (why) (nI mn) (fof) (fke) (fst) (fnu) (fno) (fla) (fot)) t.heap) (mA Γ)) 0 0 (mA Γ) := by
  refine Met.ofW (cc := cM_fails) (maxL := 3) (ret := (some .boolean)) (by decide) rfl ?_
  intro p e s m args below meth c s₁ B hml hv
  obtain ⟨rfl, rfl, hW⟩ := hv
  have hx := B.exec
  have hb := B.bytes
  have hr := B.returns
  have hg : ∀ w ∈ gW, w.before _ s = true := fun w h => atoms_spec (ws := wM_fails) B.pre w (List.mem_cons_of_mem _ h)
  have hown : s.vm.findClass RM = some m.cls := findClass_of_methodNamed B.named
  have hlocks := B.notSynchronized
  have hS : va_S (gA Γ) s.heap s.heap [] := va_S.rf
  have hl := lv_entry ([.ref (A 0), .int 1, .int why]) (n := 3) (Nat.le_of_ble_eq_true rfl)
  rw [lg_entry_eq]
  generalize (lg_sl ([.ref (A 0), .int 1, .int why]) ++ List.replicate (3 - (lg_sl ([.ref (A 0), .int 1, .int why])).length) Slot.unset).toArray = ls at hl ⊢
  have hl : lv_has ls 3 [(0, .ref (A 0)), (1, .int 1), (2, .int why)] := hl
  have hS : va_S (mA Γ) s.heap s.heap [] := va_S.rf
  refine lv_aload_n hx hb dM_fails_0 rfl (lv_at hl 0 rfl) ?_
  refine lv_iload_n hx hb dM_fails_1 rfl (lv_at hl 1 rfl) ?_
  refine lv_if_eq (tgt := 9) hx hb dM_fails_2 (by decide) (fun c1 => ?_) (fun c1 => ?_)
  · exact absurd c1 (by decide)
  · refine lv_iload_n hx hb dM_fails_5 rfl (lv_at hl 2 rfl) ?_
    refine lv_goto (tgt := 10) hx hb dM_fails_6 (by decide) ?_
    refine va_put (D := Γ.1) (ci := 2) (v := .int (why)) (ty := .int) (C := RM) (T := TM) (N := 9) hx hb hg inM tyM tyM_ok nmM hown hW.1 hP hD hS 0 rfl rfl 0 (by decide) (hg _ kw289) (fun _ h9 => h9) rfl (by decide +kernel) rfl rfl (Nat.le_of_ble_eq_true rfl) dM_fails_10 (fun H locs hP hD hS => ?_)
    have hP : va_P Γ.1 gC (wM Γ A (why) (nI mn) (fof) (fke) (fst) (fnu) (fno) (fla) (fot)) H := hP
    have hD : va_D (mA Γ) (wM Γ A (why) (nI mn) (fof) (fke) (fst) (fnu) (fno) (fla) (fot)) := hD
    refine lv_iload_n hx hb dM_fails_13 rfl (lv_at hl 1 rfl) ?_
    exact W.zret (v := 1) hx hb hr (by decide) (fun t8 ht8 hW9 => ⟨⟨1, (), rfl, rfl, by subst ht8; exact hP⟩, hS.F ht8⟩) (fun q hq => hS.2.2 q hq) dM_fails_14
set_option maxHeartbeats 4000000 in
set_option maxRecDepth 100000 in
theorem c_M_tables (l : Launch) (Γ : gE) (H : Heap) {A : Nat → Nat} {er : Int32} {mn : Nat} {fof fke fst fno fla fot : Nat → Int32} {fnu : Nat → Int64} (hP : va_P Γ.1 gC (wM Γ A (er) (nI mn) (fof) (fke) (fst) (fnu) (fno) (fla) (fot)) H) (hD : va_D (mA Γ) (wM Γ A (er) (nI mn) (fof) (fke) (fst) (fnu) (fno) (fla) (fot))) (hm : gz Γ ≤ gm0 Γ) : Met l yM_tables wM_tables ({ frames := 0, cells := 0, slots := 0, locals := 0 }) (gP Γ H [.ref (A 0)]) (va_Qi (fun r (_ : Unit) => r = nI mn) (fun _ t => va_P Γ.1 gC (wM Γ A (0) (nI mn) (fof) (fke) (fst) (fnu) (fno) (fla) (fot)) t.heap) (mA Γ)) 0 0 (mA Γ) := by
  refine Met.ofW (cc := cM_tables) (maxL := 1) (ret := (some .int)) (by decide) rfl ?_
  intro p e s m args below meth c s₁ B hml hv
  obtain ⟨rfl, rfl, hW⟩ := hv
  have hx := B.exec
  have hb := B.bytes
  have hr := B.returns
  have hg : ∀ w ∈ gW, w.before _ s = true := fun w h => atoms_spec (ws := wM_tables) B.pre w (List.mem_cons_of_mem _ h)
  have hown : s.vm.findClass RM = some m.cls := findClass_of_methodNamed B.named
  have hlocks := B.notSynchronized
  have hS : va_S (gA Γ) s.heap s.heap [] := va_S.rf
  have hl := lv_entry ([.ref (A 0)]) (n := 1) (Nat.le_of_ble_eq_true rfl)
  rw [lg_entry_eq]
  generalize (lg_sl ([.ref (A 0)]) ++ List.replicate (1 - (lg_sl ([.ref (A 0)])).length) Slot.unset).toArray = ls at hl ⊢
  have hl : lv_has ls 1 [(0, .ref (A 0))] := hl
  have hS : va_S (mA Γ) s.heap s.heap [] := va_S.rf
  refine lv_aload_n hx hb dM_tables_0 rfl (lv_at hl 0 rfl) ?_
  refine lv_iconst (v := 0) hx hb dM_tables_1 (by decide) ?_
  refine va_put (D := Γ.1) (ci := 2) (v := .int (0)) (ty := .int) (C := RM) (T := TM) (N := 9) hx hb hg inM tyM tyM_ok nmM hown hW.1 hP hD hS 0 rfl rfl 0 (by decide) (hg _ kw289) (fun _ h9 => h9) rfl (by decide +kernel) rfl rfl (Nat.le_of_ble_eq_true rfl) dM_tables_2 (fun H locs hP hD hS => ?_)
  have hP : va_P Γ.1 gC (wM Γ A (0) (nI mn) (fof) (fke) (fst) (fnu) (fno) (fla) (fot)) H := hP
  have hD : va_D (mA Γ) (wM Γ A (0) (nI mn) (fof) (fke) (fst) (fnu) (fno) (fla) (fot)) := hD
  refine lv_aload_n hx hb dM_tables_5 rfl (lv_at hl 0 rfl) ?_
  refine va_get (D := Γ.1) (ci := 2) (v := .int (nI mn)) (C := RM) (T := TM) (N := 9) hx hb hg inM hown hW.1 hP 0 rfl rfl 8 (by decide) (hg _ kw297) (fun _ h9 => h9) rfl dM_tables_6 ?_
  exact W.iret (v := nI mn) hx hb hr (fun t8 ht8 hW9 => ⟨⟨nI mn, (), rfl, rfl, by subst ht8; exact hP⟩, hS.F ht8⟩) (fun q hq => hS.2.2 q hq) dM_tables_9
set_option maxHeartbeats 4000000 in
set_option maxRecDepth 100000 in
theorem c_M_wrote (l : Launch) (Γ : gE) (H : Heap) {A : Nat → Nat} {er : Int32} {mn : Nat} {fof fke fst fno fla fot : Nat → Int32} {fnu : Nat → Int64} {t k : Nat} (hP : va_P Γ.1 gC (wM Γ A (er) (nI mn) (fof) (fke) (fst) (fnu) (fno) (fla) (fot)) H) (hmn : mn ≤ 400) (hMI : MI mn fof fke fst fno) (ht : t < mn) : Met l yM_wrote wM_wrote ({ frames := 0, cells := 0, slots := 0, locals := 0 }) (gP Γ H [.ref (A 0), .int (nI t), .int (nI k)]) (vp_Si (fun r => r = nI (wq fof fke t k))) 0 0 (fun _ => False) := by
  refine Met.ofW (cc := cM_wrote) (maxL := 4) (ret := (some .int)) (by decide) rfl ?_
  intro p e s m args below meth c s₁ B hml hv
  obtain ⟨rfl, rfl, hW⟩ := hv
  have hx := B.exec
  have hb := B.bytes
  have hr := B.returns
  have hg : ∀ w ∈ gW, w.before _ s = true := fun w h => atoms_spec (ws := wM_wrote) B.pre w (List.mem_cons_of_mem _ h)
  have hown : s.vm.findClass RM = some m.cls := findClass_of_methodNamed B.named
  have hlocks := B.notSynchronized
  have hS : va_S (gA Γ) s.heap s.heap [] := va_S.rf
  have hl := lv_entry ([.ref (A 0), .int (nI t), .int (nI k)]) (n := 4) (Nat.le_of_ble_eq_true rfl)
  rw [lg_entry_eq]
  generalize (lg_sl ([.ref (A 0), .int (nI t), .int (nI k)]) ++ List.replicate (4 - (lg_sl ([.ref (A 0), .int (nI t), .int (nI k)])).length) Slot.unset).toArray = ls at hl ⊢
  have hl : lv_has ls 4 [(0, .ref (A 0)), (1, .int (nI t)), (2, .int (nI k))] := hl
  have key : ∀ (n ci : Nat) (ls : Array Slot), ci < n → ci < mn → wq fof fke ci k = wq fof fke t k → lv_has ls 4 [(3, .int (nI ci)), (0, .ref (A 0)), (1, .int (nI t)), (2, .int (nI k))] → W p l e (headSpec wM_wrote ({ frames := 0, cells := 0, slots := 0, locals := 0 })).room s m [.ref (A 0), .int (nI t), .int (nI k)].toArray below meth c s.heap [] 0 0 (MQ below (vp_Si (fun r => r = nI (wq fof fke t k))) [.ref (A 0), .int (nI t), .int (nI k)].toArray s 0 0 (fun _ => False)) (F0 m 2 ls []) := by
    intro n
    induction n with
    | zero =>
      intro ci ls h
      omega
    | succ n ih =>
      intro ci ls hcn hcm heq hl
      refine lv_iload_n hx hb dM_wrote_2 rfl (lv_at hl 0 rfl) ?_
      refine lv_if_eq (tgt := 26) hx hb dM_wrote_3 (by decide) (fun c1 => ?_) (fun c1 => ?_)
      · have h0 : ci = 0 := (nI_eq (by omega) (by omega)).mp (c1.trans nI_0.symm)
        refine lv_iload_n hx hb dM_wrote_26 rfl (lv_at hl 0 rfl) ?_
        exact W.iret (v := nI ci) hx hb hr (fun t ht hW9 => ⟨_, rfl, by rw [← heq, h0, wq_0], ht⟩) (fun _ h => nomatch h) dM_wrote_27
      · have h0 : 0 < ci := Nat.pos_of_ne_zero (fun h => c1 (by rw [h]; exact nI_0))
        obtain ⟨⟨pp, hpp, epp⟩, -⟩ := hMI ci h0 hcm
        refine lv_aload_n hx hb dM_wrote_6 rfl (lv_at hl 1 rfl) ?_
        refine va_get (D := Γ.1) (ci := 2) (v := .ref (A 2)) (C := RM) (T := TM) (N := 9) hx hb hg inM hown hW.1 hP 0 rfl rfl 2 (by decide) (hg _ kw291) (fun _ h9 => h9) rfl dM_wrote_7 ?_
        refine lv_iload_n hx hb dM_wrote_10 rfl (lv_at hl 0 rfl) ?_
        refine va_iald (D := Γ.1) (cl := gC) (tys := gT Γ) hx hb hW.1 hP 2 2 rfl rfl (vp_in_nI (show ci < 400 by omega) (by omega)) dM_wrote_11 ?_
        rw [nI_clamp (show ci < 2 ^ 31 by omega)]
        refine lv_iload_n hx hb dM_wrote_12 rfl (lv_at hl 3 rfl) ?_
        refine lv_icmp_eq (tgt := 26) hx hb dM_wrote_13 (by decide) (fun c2 => ?_) (fun c2 => ?_)
        · refine lv_iload_n hx hb dM_wrote_26 rfl (lv_at hl 0 rfl) ?_
          exact W.iret (v := nI ci) hx hb hr (fun t ht hW9 => ⟨_, rfl, by rw [← heq, wq_hit h0 c2], ht⟩) (fun _ h => nomatch h) dM_wrote_27
        · refine lv_aload_n hx hb dM_wrote_16 rfl (lv_at hl 1 rfl) ?_
          refine va_get (D := Γ.1) (ci := 2) (v := .ref (A 1)) (C := RM) (T := TM) (N := 9) hx hb hg inM hown hW.1 hP 0 rfl rfl 1 (by decide) (hg _ kw290) (fun _ h9 => h9) rfl dM_wrote_17 ?_
          refine lv_iload_n hx hb dM_wrote_20 rfl (lv_at hl 0 rfl) ?_
          refine va_iald (D := Γ.1) (cl := gC) (tys := gT Γ) hx hb hW.1 hP 1 2 rfl rfl (vp_in_nI (show ci < 400 by omega) (by omega)) dM_wrote_21 ?_
          rw [nI_clamp (show ci < 2 ^ 31 by omega)]
          rw [epp]
          refine lv_istore_n (lv' := [(3, .int (nI pp)), (0, .ref (A 0)), (1, .int (nI t)), (2, .int (nI k))]) hx hb dM_wrote_22 rfl hl (by decide) rfl (fun ls hl => ?_)
          refine lv_goto (tgt := 2) hx hb dM_wrote_23 (by decide) ?_
          exact ih pp ls (by omega) (by omega) ((wq_miss hmn hMI h0 hcm hpp epp c2).symm.trans heq) (lv_sub hl [0, 1, 2, 3] rfl)
  refine lv_iload_n hx hb dM_wrote_0 rfl (lv_at hl 1 rfl) ?_
  refine lv_istore_n (lv' := [(3, .int (nI t)), (0, .ref (A 0)), (1, .int (nI t)), (2, .int (nI k))]) hx hb dM_wrote_1 rfl hl (by decide) rfl (fun ls hl => ?_)
  exact key (t + 1) t ls (by omega) ht rfl (lv_sub hl [0, 1, 2, 3] rfl)
