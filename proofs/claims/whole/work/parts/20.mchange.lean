/-! the reference: constructor, whole, change, get, stamp -/
set_option maxHeartbeats 4000000 in
set_option maxRecDepth 100000 in
theorem c_M_whole6 (l : Launch) (Γ : gE) (H : Heap) {A : Nat → Nat} {er : Int32} {mn : Nat} {fof fke fst fno fla fot : Nat → Int32} {fnu : Nat → Int64} {t : Nat} (hP : va_P Γ.1 gC (wM Γ A (er) (nI mn) (fof) (fke) (fst) (fnu) (fno) (fla) (fot)) H) (hD : va_D (mA Γ) (wM Γ A (er) (nI mn) (fof) (fke) (fst) (fnu) (fno) (fla) (fot))) (hm : gz Γ ≤ gm0 Γ) (hmn : mn ≤ 400) (hMI : MI mn fof fke fst fno) (ht : t < mn) : Met l yM_whole wM_whole ({ frames := 0, cells := 0, slots := 0, locals := 0 }) (gP Γ H [.ref (A 0), .int (nI t), .ref (A 6)]) (va_Qv (fun (g : Nat → Int32) => ∀ k, k < 1024 → g k = nI (wq fof fke t k)) (fun g t => va_P Γ.1 gC (wM Γ A (er) (nI mn) (fof) (fke) (fst) (fnu) (fno) (g) (fot)) t.heap) (mA Γ)) 0 0 (mA Γ) := by
  refine Met.ofW (cc := cM_whole) (maxL := 4) (ret := none) (by decide) rfl ?_
  intro p e s m args below meth c s₁ B hml hv
  obtain ⟨rfl, rfl, hW⟩ := hv
  have hx := B.exec
  have hb := B.bytes
  have hr := B.returns
  have hg : ∀ w ∈ gW, w.before _ s = true := fun w h => atoms_spec (ws := wM_whole) B.pre w (List.mem_cons_of_mem _ h)
  have hown : s.vm.findClass RM = some m.cls := findClass_of_methodNamed B.named
  have hlocks := B.notSynchronized
  have hS : va_S (gA Γ) s.heap s.heap [] := va_S.rf
  have hl := lv_entry ([.ref (A 0), .int (nI t), .ref (A 6)]) (n := 4) (Nat.le_of_ble_eq_true rfl)
  rw [lg_entry_eq]
  generalize (lg_sl ([.ref (A 0), .int (nI t), .ref (A 6)]) ++ List.replicate (4 - (lg_sl ([.ref (A 0), .int (nI t), .ref (A 6)])).length) Slot.unset).toArray = ls at hl ⊢
  have hl : lv_has ls 4 [(0, .ref (A 0)), (1, .int (nI t)), (2, .ref (A 6))] := hl
  have hS : va_S (mA Γ) s.heap s.heap [] := va_S.rf
  have key2 : ∀ (n ci : Nat) (g : Nat → Int32) (H : Heap) (locs : List Loc) (ls : Array Slot), ci < n → ci < mn → (∀ k, k < 1024 → (g k = 0 ∧ wq fof fke t k = wq fof fke ci k) ∨ (wq fof fke t k ≠ 0 ∧ g k = nI (wq fof fke t k))) → va_P Γ.1 gC (wM Γ A (er) (nI mn) (fof) (fke) (fst) (fnu) (fno) (g) (fot)) H → va_D (mA Γ) (wM Γ A (er) (nI mn) (fof) (fke) (fst) (fnu) (fno) (g) (fot)) → va_S (mA Γ) s.heap H locs → lv_has ls 4 [(3, .int (nI ci)), (0, .ref (A 0)), (1, .int (nI t)), (2, .ref (A 6))] → W p l e (headSpec wM_whole ({ frames := 0, cells := 0, slots := 0, locals := 0 })).room s m [.ref (A 0), .int (nI t), .ref (A 6)].toArray below meth c H locs 0 0 (MQ below (va_Qv (fun (g : Nat → Int32) => ∀ k, k < 1024 → g k = nI (wq fof fke t k)) (fun g t => va_P Γ.1 gC (wM Γ A (er) (nI mn) (fof) (fke) (fst) (fnu) (fno) (g) (fot)) t.heap) (mA Γ)) [.ref (A 0), .int (nI t), .ref (A 6)].toArray s 0 0 (mA Γ)) (F0 m 21 ls []) := by
    intro n
    induction n with
    | zero =>
      intro ci g H locs ls h
      omega
    | succ n ih =>
      intro ci g H locs ls hcn hcm hinv hP hD hS hl
      refine lv_iload_n hx hb dM_whole_21 rfl (lv_at hl 0 rfl) ?_
      refine lv_if_eq (tgt := 55) hx hb dM_whole_22 (by decide) (fun c1 => ?_) (fun c1 => ?_)
      · have h0 : ci = 0 := (nI_eq (by omega) (by omega)).mp (c1.trans nI_0.symm)
        exact W.vret hx hb hr (fun t8 ht8 hW9 => ⟨⟨g, rfl, fun k hk => (hinv k hk).elim (fun e => by rw [e.1, e.2, h0, wq_0]; rfl) (fun e => e.2), by subst ht8; exact hP⟩, hS.F ht8⟩) (fun q hq => hS.2.2 q hq) dM_whole_55
      · have h0 : 0 < ci := Nat.pos_of_ne_zero (fun h => c1 (by rw [h]; exact nI_0))
        obtain ⟨⟨pp, hpp, epp⟩, ⟨kc, hkc, ekc⟩, -⟩ := hMI ci h0 hcm
        have hmiss : ∀ k, k < 1024 → k ≠ kc → wq fof fke ci k = wq fof fke pp k := fun k hk hne => wq_miss hmn hMI h0 hcm hpp epp (by rw [ekc]; exact fun q => hne ((nI_eq (by omega) (by omega)).mp q).symm)
        refine lv_aload_n hx hb dM_whole_25 rfl (lv_at hl 3 rfl) ?_
        refine lv_aload_n hx hb dM_whole_26 rfl (lv_at hl 1 rfl) ?_
        refine va_get (D := Γ.1) (ci := 2) (v := .ref (A 2)) (C := RM) (T := TM) (N := 9) hx hb hg inM hown hW.1 hP 0 rfl rfl 2 (by decide) (hg _ kw291) (fun _ h9 => h9) rfl dM_whole_27 ?_
        refine lv_iload_n hx hb dM_whole_30 rfl (lv_at hl 0 rfl) ?_
        refine va_iald (D := Γ.1) (cl := gC) (tys := gT Γ) hx hb hW.1 hP 2 2 rfl rfl (vp_in_nI (show ci < 400 by omega) (by omega)) dM_whole_31 ?_
        rw [nI_clamp (show ci < 2 ^ 31 by omega)]
        rw [ekc]
        refine va_iald (D := Γ.1) (cl := gC) (tys := gT Γ) hx hb hW.1 hP 6 2 rfl rfl (vp_in_nI (show kc < 1024 by omega) (by omega)) dM_whole_32 ?_
        rw [nI_clamp (show kc < 2 ^ 31 by omega)]
        refine lv_if_ne (tgt := 45) hx hb dM_whole_33 (by decide) (fun c2 => ?_) (fun c2 => ?_)
        · refine lv_aload_n hx hb dM_whole_45 rfl (lv_at hl 1 rfl) ?_
          refine va_get (D := Γ.1) (ci := 2) (v := .ref (A 1)) (C := RM) (T := TM) (N := 9) hx hb hg inM hown hW.1 hP 0 rfl rfl 1 (by decide) (hg _ kw290) (fun _ h9 => h9) rfl dM_whole_46 ?_
          refine lv_iload_n hx hb dM_whole_49 rfl (lv_at hl 0 rfl) ?_
          refine va_iald (D := Γ.1) (cl := gC) (tys := gT Γ) hx hb hW.1 hP 1 2 rfl rfl (vp_in_nI (show ci < 400 by omega) (by omega)) dM_whole_50 ?_
          rw [nI_clamp (show ci < 2 ^ 31 by omega)]
          rw [epp]
          refine lv_istore_n (lv' := [(3, .int (nI pp)), (0, .ref (A 0)), (1, .int (nI t)), (2, .ref (A 6))]) hx hb dM_whole_51 rfl hl (by decide) rfl (fun ls hl => ?_)
          refine lv_goto (tgt := 21) hx hb dM_whole_52 (by decide) ?_
          refine ih pp g H locs ls (by omega) (by omega) (fun k hk => ?_) hP hD hS (lv_sub hl [0, 1, 2, 3] rfl)
          rcases hinv k hk with ⟨e1, e2⟩ | e1
          · have hne : k ≠ kc := fun q => c2 (by rw [← q]; exact e1)
            exact Or.inl ⟨e1, e2.trans (hmiss k hk hne)⟩
          · exact Or.inr e1
        · have hd : wq fof fke t kc = ci := by
            rcases hinv kc hkc with ⟨e1, e2⟩ | ⟨e1, e2⟩
            · rw [e2, wq_hit h0 ekc]
            · have h9 := wq_ok hmn hMI kc t ht
              rw [c2] at e2
              exact absurd ((nI_eq (by omega) (by omega)).mp (nI_0.trans e2)).symm e1
          refine lv_aload_n hx hb dM_whole_36 rfl (lv_at hl 3 rfl) ?_
          refine lv_aload_n hx hb dM_whole_37 rfl (lv_at hl 1 rfl) ?_
          refine va_get (D := Γ.1) (ci := 2) (v := .ref (A 2)) (C := RM) (T := TM) (N := 9) hx hb hg inM hown hW.1 hP 0 rfl rfl 2 (by decide) (hg _ kw291) (fun _ h9 => h9) rfl dM_whole_38 ?_
          refine lv_iload_n hx hb dM_whole_41 rfl (lv_at hl 0 rfl) ?_
          refine va_iald (D := Γ.1) (cl := gC) (tys := gT Γ) hx hb hW.1 hP 2 2 rfl rfl (vp_in_nI (show ci < 400 by omega) (by omega)) dM_whole_42 ?_
          rw [nI_clamp (show ci < 2 ^ 31 by omega)]
          rw [ekc]
          refine lv_iload_n hx hb dM_whole_43 rfl (lv_at hl 0 rfl) ?_
          refine va_iast (D := Γ.1) (cl := gC) (tys := gT Γ) hx hb hW.1 hP hD hS 6 2 rfl rfl (vp_in_nI (show kc < 1024 by omega) (by omega)) dM_whole_44 (fun H locs hP hD hS => ?_)
          rw [nI_clamp (show kc < 2 ^ 31 by omega)] at hP hD
          have hP : va_P Γ.1 gC (wM Γ A (er) (nI mn) (fof) (fke) (fst) (fnu) (fno) (upd g kc (nI ci)) (fot)) H := hP
          have hD : va_D (mA Γ) (wM Γ A (er) (nI mn) (fof) (fke) (fst) (fnu) (fno) (upd g kc (nI ci)) (fot)) := hD
          refine lv_aload_n hx hb dM_whole_45 rfl (lv_at hl 1 rfl) ?_
          refine va_get (D := Γ.1) (ci := 2) (v := .ref (A 1)) (C := RM) (T := TM) (N := 9) hx hb hg inM hown hW.1 hP 0 rfl rfl 1 (by decide) (hg _ kw290) (fun _ h9 => h9) rfl dM_whole_46 ?_
          refine lv_iload_n hx hb dM_whole_49 rfl (lv_at hl 0 rfl) ?_
          refine va_iald (D := Γ.1) (cl := gC) (tys := gT Γ) hx hb hW.1 hP 1 2 rfl rfl (vp_in_nI (show ci < 400 by omega) (by omega)) dM_whole_50 ?_
          rw [nI_clamp (show ci < 2 ^ 31 by omega)]
          rw [epp]
          refine lv_istore_n (lv' := [(3, .int (nI pp)), (0, .ref (A 0)), (1, .int (nI t)), (2, .ref (A 6))]) hx hb dM_whole_51 rfl hl (by decide) rfl (fun ls hl => ?_)
          refine lv_goto (tgt := 21) hx hb dM_whole_52 (by decide) ?_
          refine ih pp _ H locs ls (by omega) (by omega) (fun k hk => ?_) hP hD hS (lv_sub hl [0, 1, 2, 3] rfl)
          by_cases hne : k = kc
          · subst hne
            exact Or.inr ⟨by omega, by rw [pk_us, hd]⟩
          · rw [pk_un hne]
            rcases hinv k hk with ⟨e1, e2⟩ | e1
            · exact Or.inl ⟨e1, e2.trans (hmiss k hk hne)⟩
            · exact Or.inr e1
  have key1 : ∀ (n i : Nat) (g : Nat → Int32) (H : Heap) (locs : List Loc) (ls : Array Slot), i + n = 1024 → (∀ k, k < i → g k = 0) → va_P Γ.1 gC (wM Γ A (er) (nI mn) (fof) (fke) (fst) (fnu) (fno) (g) (fot)) H → va_D (mA Γ) (wM Γ A (er) (nI mn) (fof) (fke) (fst) (fnu) (fno) (g) (fot)) → va_S (mA Γ) s.heap H locs → lv_has ls 4 [(3, .int (nI i)), (0, .ref (A 0)), (1, .int (nI t)), (2, .ref (A 6))] → W p l e (headSpec wM_whole ({ frames := 0, cells := 0, slots := 0, locals := 0 })).room s m [.ref (A 0), .int (nI t), .ref (A 6)].toArray below meth c H locs 0 0 (MQ below (va_Qv (fun (g : Nat → Int32) => ∀ k, k < 1024 → g k = nI (wq fof fke t k)) (fun g t => va_P Γ.1 gC (wM Γ A (er) (nI mn) (fof) (fke) (fst) (fnu) (fno) (g) (fot)) t.heap) (mA Γ)) [.ref (A 0), .int (nI t), .ref (A 6)].toArray s 0 0 (mA Γ)) (F0 m 2 ls []) := by
    intro n
    induction n with
    | zero =>
      intro i g H locs ls hi hg0 hP hD hS hl
      refine lv_iload_n hx hb dM_whole_2 rfl (lv_at hl 0 rfl) ?_
      refine lv_sipush (v := 1024) hx hb dM_whole_3 (by decide) ?_
      refine lv_icmp_ge (tgt := 19) hx hb dM_whole_6 (by decide) (fun c1 => ?_) (fun c1 => ?_)
      · refine lv_iload_n hx hb dM_whole_19 rfl (lv_at hl 2 rfl) ?_
        refine lv_istore_n (lv' := [(3, .int (nI t)), (0, .ref (A 0)), (1, .int (nI t)), (2, .ref (A 6))]) hx hb dM_whole_20 rfl hl (by decide) rfl (fun ls hl => ?_)
        exact key2 (t + 1) t g H locs ls (by omega) ht (fun k hk => Or.inl ⟨hg0 k (by omega), rfl⟩) hP hD hS (lv_sub hl [0, 1, 2, 3] rfl)
      · exact absurd (show (1024 : Int32) ≤ nI i from nI_le (a := 1024) (by omega) (by omega)) c1
    | succ n ih =>
      intro i g H locs ls hi hg0 hP hD hS hl
      refine lv_iload_n hx hb dM_whole_2 rfl (lv_at hl 0 rfl) ?_
      refine lv_sipush (v := 1024) hx hb dM_whole_3 (by decide) ?_
      refine lv_icmp_ge (tgt := 19) hx hb dM_whole_6 (by decide) (fun c1 => ?_) (fun c1 => ?_)
      · exact absurd c1 (nI_ge (a := i) (b := 1024) (by omega) (by omega))
      · refine lv_aload_n hx hb dM_whole_9 rfl (lv_at hl 3 rfl) ?_
        refine lv_iload_n hx hb dM_whole_10 rfl (lv_at hl 0 rfl) ?_
        refine lv_iconst (v := 0) hx hb dM_whole_11 (by decide) ?_
        refine va_iast (D := Γ.1) (cl := gC) (tys := gT Γ) hx hb hW.1 hP hD hS 6 2 rfl rfl (vp_in_nI (show i < 1024 by omega) (by omega)) dM_whole_12 (fun H locs hP hD hS => ?_)
        rw [nI_clamp (show i < 2 ^ 31 by omega)] at hP hD
        have hP : va_P Γ.1 gC (wM Γ A (er) (nI mn) (fof) (fke) (fst) (fnu) (fno) (upd g i 0) (fot)) H := hP
        have hD : va_D (mA Γ) (wM Γ A (er) (nI mn) (fof) (fke) (fst) (fnu) (fno) (upd g i 0) (fot)) := hD
        refine lv_iinc (v := nI (i + 1)) (lv' := [(3, .int (nI (i + 1))), (0, .ref (A 0)), (1, .int (nI t)), (2, .ref (A 6))]) hx hb dM_whole_13 hl (k := 0) rfl (nI_1 i) (by decide) rfl (fun ls hl => ?_)
        refine lv_goto (tgt := 2) hx hb dM_whole_16 (by decide) ?_
        refine ih (i + 1) _ H locs ls (by omega) (fun k hk => ?_) hP hD hS (lv_sub hl [0, 1, 2, 3] rfl)
        by_cases e1 : k = i
        · rw [e1, pk_us]
        · rw [pk_un e1]; exact hg0 k (by omega)
  refine lv_iconst (v := 0) hx hb dM_whole_0 (by decide) ?_
  refine lv_istore_n (lv' := [(3, .int 0), (0, .ref (A 0)), (1, .int (nI t)), (2, .ref (A 6))]) hx hb dM_whole_1 rfl hl (by decide) rfl (fun ls hl => ?_)
  exact key1 1024 0 _ s.heap [] ls rfl (fun k hk => absurd hk (by omega)) hP hD hS (lv_sub hl [0, 1, 2, 3] rfl)
set_option maxHeartbeats 4000000 in
set_option maxRecDepth 100000 in
theorem c_M_whole7 (l : Launch) (Γ : gE) (H : Heap) {A : Nat → Nat} {er : Int32} {mn : Nat} {fof fke fst fno fla fot : Nat → Int32} {fnu : Nat → Int64} {t : Nat} (hP : va_P Γ.1 gC (wM Γ A (er) (nI mn) (fof) (fke) (fst) (fnu) (fno) (fla) (fot)) H) (hD : va_D (mA Γ) (wM Γ A (er) (nI mn) (fof) (fke) (fst) (fnu) (fno) (fla) (fot))) (hm : gz Γ ≤ gm0 Γ) (hmn : mn ≤ 400) (hMI : MI mn fof fke fst fno) (ht : t < mn) : Met l yM_whole wM_whole ({ frames := 0, cells := 0, slots := 0, locals := 0 }) (gP Γ H [.ref (A 0), .int (nI t), .ref (A 7)]) (va_Qv (fun (g : Nat → Int32) => ∀ k, k < 1024 → g k = nI (wq fof fke t k)) (fun g t => va_P Γ.1 gC (wM Γ A (er) (nI mn) (fof) (fke) (fst) (fnu) (fno) (fla) (g)) t.heap) (mA Γ)) 0 0 (mA Γ) := by
  refine Met.ofW (cc := cM_whole) (maxL := 4) (ret := none) (by decide) rfl ?_
  intro p e s m args below meth c s₁ B hml hv
  obtain ⟨rfl, rfl, hW⟩ := hv
  have hx := B.exec
  have hb := B.bytes
  have hr := B.returns
  have hg : ∀ w ∈ gW, w.before _ s = true := fun w h => atoms_spec (ws := wM_whole) B.pre w (List.mem_cons_of_mem _ h)
  have hown : s.vm.findClass RM = some m.cls := findClass_of_methodNamed B.named
  have hlocks := B.notSynchronized
  have hS : va_S (gA Γ) s.heap s.heap [] := va_S.rf
  have hl := lv_entry ([.ref (A 0), .int (nI t), .ref (A 7)]) (n := 4) (Nat.le_of_ble_eq_true rfl)
  rw [lg_entry_eq]
  generalize (lg_sl ([.ref (A 0), .int (nI t), .ref (A 7)]) ++ List.replicate (4 - (lg_sl ([.ref (A 0), .int (nI t), .ref (A 7)])).length) Slot.unset).toArray = ls at hl ⊢
  have hl : lv_has ls 4 [(0, .ref (A 0)), (1, .int (nI t)), (2, .ref (A 7))] := hl
  have hS : va_S (mA Γ) s.heap s.heap [] := va_S.rf
  have key2 : ∀ (n ci : Nat) (g : Nat → Int32) (H : Heap) (locs : List Loc) (ls : Array Slot), ci < n → ci < mn → (∀ k, k < 1024 → (g k = 0 ∧ wq fof fke t k = wq fof fke ci k) ∨ (wq fof fke t k ≠ 0 ∧ g k = nI (wq fof fke t k))) → va_P Γ.1 gC (wM Γ A (er) (nI mn) (fof) (fke) (fst) (fnu) (fno) (fla) (g)) H → va_D (mA Γ) (wM Γ A (er) (nI mn) (fof) (fke) (fst) (fnu) (fno) (fla) (g)) → va_S (mA Γ) s.heap H locs → lv_has ls 4 [(3, .int (nI ci)), (0, .ref (A 0)), (1, .int (nI t)), (2, .ref (A 7))] → W p l e (headSpec wM_whole ({ frames := 0, cells := 0, slots := 0, locals := 0 })).room s m [.ref (A 0), .int (nI t), .ref (A 7)].toArray below meth c H locs 0 0 (MQ below (va_Qv (fun (g : Nat → Int32) => ∀ k, k < 1024 → g k = nI (wq fof fke t k)) (fun g t => va_P Γ.1 gC (wM Γ A (er) (nI mn) (fof) (fke) (fst) (fnu) (fno) (fla) (g)) t.heap) (mA Γ)) [.ref (A 0), .int (nI t), .ref (A 7)].toArray s 0 0 (mA Γ)) (F0 m 21 ls []) := by
    intro n
    induction n with
    | zero =>
      intro ci g H locs ls h
      omega
    | succ n ih =>
      intro ci g H locs ls hcn hcm hinv hP hD hS hl
      refine lv_iload_n hx hb dM_whole_21 rfl (lv_at hl 0 rfl) ?_
      refine lv_if_eq (tgt := 55) hx hb dM_whole_22 (by decide) (fun c1 => ?_) (fun c1 => ?_)
      · have h0 : ci = 0 := (nI_eq (by omega) (by omega)).mp (c1.trans nI_0.symm)
        exact W.vret hx hb hr (fun t8 ht8 hW9 => ⟨⟨g, rfl, fun k hk => (hinv k hk).elim (fun e => by rw [e.1, e.2, h0, wq_0]; rfl) (fun e => e.2), by subst ht8; exact hP⟩, hS.F ht8⟩) (fun q hq => hS.2.2 q hq) dM_whole_55
      · have h0 : 0 < ci := Nat.pos_of_ne_zero (fun h => c1 (by rw [h]; exact nI_0))
        obtain ⟨⟨pp, hpp, epp⟩, ⟨kc, hkc, ekc⟩, -⟩ := hMI ci h0 hcm
        have hmiss : ∀ k, k < 1024 → k ≠ kc → wq fof fke ci k = wq fof fke pp k := fun k hk hne => wq_miss hmn hMI h0 hcm hpp epp (by rw [ekc]; exact fun q => hne ((nI_eq (by omega) (by omega)).mp q).symm)
        refine lv_aload_n hx hb dM_whole_25 rfl (lv_at hl 3 rfl) ?_
        refine lv_aload_n hx hb dM_whole_26 rfl (lv_at hl 1 rfl) ?_
        refine va_get (D := Γ.1) (ci := 2) (v := .ref (A 2)) (C := RM) (T := TM) (N := 9) hx hb hg inM hown hW.1 hP 0 rfl rfl 2 (by decide) (hg _ kw291) (fun _ h9 => h9) rfl dM_whole_27 ?_
        refine lv_iload_n hx hb dM_whole_30 rfl (lv_at hl 0 rfl) ?_
        refine va_iald (D := Γ.1) (cl := gC) (tys := gT Γ) hx hb hW.1 hP 2 2 rfl rfl (vp_in_nI (show ci < 400 by omega) (by omega)) dM_whole_31 ?_
        rw [nI_clamp (show ci < 2 ^ 31 by omega)]
        rw [ekc]
        refine va_iald (D := Γ.1) (cl := gC) (tys := gT Γ) hx hb hW.1 hP 7 2 rfl rfl (vp_in_nI (show kc < 1024 by omega) (by omega)) dM_whole_32 ?_
        rw [nI_clamp (show kc < 2 ^ 31 by omega)]
        refine lv_if_ne (tgt := 45) hx hb dM_whole_33 (by decide) (fun c2 => ?_) (fun c2 => ?_)
        · refine lv_aload_n hx hb dM_whole_45 rfl (lv_at hl 1 rfl) ?_
          refine va_get (D := Γ.1) (ci := 2) (v := .ref (A 1)) (C := RM) (T := TM) (N := 9) hx hb hg inM hown hW.1 hP 0 rfl rfl 1 (by decide) (hg _ kw290) (fun _ h9 => h9) rfl dM_whole_46 ?_
          refine lv_iload_n hx hb dM_whole_49 rfl (lv_at hl 0 rfl) ?_
          refine va_iald (D := Γ.1) (cl := gC) (tys := gT Γ) hx hb hW.1 hP 1 2 rfl rfl (vp_in_nI (show ci < 400 by omega) (by omega)) dM_whole_50 ?_
          rw [nI_clamp (show ci < 2 ^ 31 by omega)]
          rw [epp]
          refine lv_istore_n (lv' := [(3, .int (nI pp)), (0, .ref (A 0)), (1, .int (nI t)), (2, .ref (A 7))]) hx hb dM_whole_51 rfl hl (by decide) rfl (fun ls hl => ?_)
          refine lv_goto (tgt := 21) hx hb dM_whole_52 (by decide) ?_
          refine ih pp g H locs ls (by omega) (by omega) (fun k hk => ?_) hP hD hS (lv_sub hl [0, 1, 2, 3] rfl)
          rcases hinv k hk with ⟨e1, e2⟩ | e1
          · have hne : k ≠ kc := fun q => c2 (by rw [← q]; exact e1)
            exact Or.inl ⟨e1, e2.trans (hmiss k hk hne)⟩
          · exact Or.inr e1
        · have hd : wq fof fke t kc = ci := by
            rcases hinv kc hkc with ⟨e1, e2⟩ | ⟨e1, e2⟩
            · rw [e2, wq_hit h0 ekc]
            · have h9 := wq_ok hmn hMI kc t ht
              rw [c2] at e2
              exact absurd ((nI_eq (by omega) (by omega)).mp (nI_0.trans e2)).symm e1
          refine lv_aload_n hx hb dM_whole_36 rfl (lv_at hl 3 rfl) ?_
          refine lv_aload_n hx hb dM_whole_37 rfl (lv_at hl 1 rfl) ?_
          refine va_get (D := Γ.1) (ci := 2) (v := .ref (A 2)) (C := RM) (T := TM) (N := 9) hx hb hg inM hown hW.1 hP 0 rfl rfl 2 (by decide) (hg _ kw291) (fun _ h9 => h9) rfl dM_whole_38 ?_
          refine lv_iload_n hx hb dM_whole_41 rfl (lv_at hl 0 rfl) ?_
          refine va_iald (D := Γ.1) (cl := gC) (tys := gT Γ) hx hb hW.1 hP 2 2 rfl rfl (vp_in_nI (show ci < 400 by omega) (by omega)) dM_whole_42 ?_
          rw [nI_clamp (show ci < 2 ^ 31 by omega)]
          rw [ekc]
          refine lv_iload_n hx hb dM_whole_43 rfl (lv_at hl 0 rfl) ?_
          refine va_iast (D := Γ.1) (cl := gC) (tys := gT Γ) hx hb hW.1 hP hD hS 7 2 rfl rfl (vp_in_nI (show kc < 1024 by omega) (by omega)) dM_whole_44 (fun H locs hP hD hS => ?_)
          rw [nI_clamp (show kc < 2 ^ 31 by omega)] at hP hD
          have hP : va_P Γ.1 gC (wM Γ A (er) (nI mn) (fof) (fke) (fst) (fnu) (fno) (fla) (upd g kc (nI ci))) H := hP
          have hD : va_D (mA Γ) (wM Γ A (er) (nI mn) (fof) (fke) (fst) (fnu) (fno) (fla) (upd g kc (nI ci))) := hD
          refine lv_aload_n hx hb dM_whole_45 rfl (lv_at hl 1 rfl) ?_
          refine va_get (D := Γ.1) (ci := 2) (v := .ref (A 1)) (C := RM) (T := TM) (N := 9) hx hb hg inM hown hW.1 hP 0 rfl rfl 1 (by decide) (hg _ kw290) (fun _ h9 => h9) rfl dM_whole_46 ?_
          refine lv_iload_n hx hb dM_whole_49 rfl (lv_at hl 0 rfl) ?_
          refine va_iald (D := Γ.1) (cl := gC) (tys := gT Γ) hx hb hW.1 hP 1 2 rfl rfl (vp_in_nI (show ci < 400 by omega) (by omega)) dM_whole_50 ?_
          rw [nI_clamp (show ci < 2 ^ 31 by omega)]
          rw [epp]
          refine lv_istore_n (lv' := [(3, .int (nI pp)), (0, .ref (A 0)), (1, .int (nI t)), (2, .ref (A 7))]) hx hb dM_whole_51 rfl hl (by decide) rfl (fun ls hl => ?_)
          refine lv_goto (tgt := 21) hx hb dM_whole_52 (by decide) ?_
          refine ih pp _ H locs ls (by omega) (by omega) (fun k hk => ?_) hP hD hS (lv_sub hl [0, 1, 2, 3] rfl)
          by_cases hne : k = kc
          · subst hne
            exact Or.inr ⟨by omega, by rw [pk_us, hd]⟩
          · rw [pk_un hne]
            rcases hinv k hk with ⟨e1, e2⟩ | e1
            · exact Or.inl ⟨e1, e2.trans (hmiss k hk hne)⟩
            · exact Or.inr e1
  have key1 : ∀ (n i : Nat) (g : Nat → Int32) (H : Heap) (locs : List Loc) (ls : Array Slot), i + n = 1024 → (∀ k, k < i → g k = 0) → va_P Γ.1 gC (wM Γ A (er) (nI mn) (fof) (fke) (fst) (fnu) (fno) (fla) (g)) H → va_D (mA Γ) (wM Γ A (er) (nI mn) (fof) (fke) (fst) (fnu) (fno) (fla) (g)) → va_S (mA Γ) s.heap H locs → lv_has ls 4 [(3, .int (nI i)), (0, .ref (A 0)), (1, .int (nI t)), (2, .ref (A 7))] → W p l e (headSpec wM_whole ({ frames := 0, cells := 0, slots := 0, locals := 0 })).room s m [.ref (A 0), .int (nI t), .ref (A 7)].toArray below meth c H locs 0 0 (MQ below (va_Qv (fun (g : Nat → Int32) => ∀ k, k < 1024 → g k = nI (wq fof fke t k)) (fun g t => va_P Γ.1 gC (wM Γ A (er) (nI mn) (fof) (fke) (fst) (fnu) (fno) (fla) (g)) t.heap) (mA Γ)) [.ref (A 0), .int (nI t), .ref (A 7)].toArray s 0 0 (mA Γ)) (F0 m 2 ls []) := by
    intro n
    induction n with
    | zero =>
      intro i g H locs ls hi hg0 hP hD hS hl
      refine lv_iload_n hx hb dM_whole_2 rfl (lv_at hl 0 rfl) ?_
      refine lv_sipush (v := 1024) hx hb dM_whole_3 (by decide) ?_
      refine lv_icmp_ge (tgt := 19) hx hb dM_whole_6 (by decide) (fun c1 => ?_) (fun c1 => ?_)
      · refine lv_iload_n hx hb dM_whole_19 rfl (lv_at hl 2 rfl) ?_
        refine lv_istore_n (lv' := [(3, .int (nI t)), (0, .ref (A 0)), (1, .int (nI t)), (2, .ref (A 7))]) hx hb dM_whole_20 rfl hl (by decide) rfl (fun ls hl => ?_)
        exact key2 (t + 1) t g H locs ls (by omega) ht (fun k hk => Or.inl ⟨hg0 k (by omega), rfl⟩) hP hD hS (lv_sub hl [0, 1, 2, 3] rfl)
      · exact absurd (show (1024 : Int32) ≤ nI i from nI_le (a := 1024) (by omega) (by omega)) c1
    | succ n ih =>
      intro i g H locs ls hi hg0 hP hD hS hl
      refine lv_iload_n hx hb dM_whole_2 rfl (lv_at hl 0 rfl) ?_
      refine lv_sipush (v := 1024) hx hb dM_whole_3 (by decide) ?_
      refine lv_icmp_ge (tgt := 19) hx hb dM_whole_6 (by decide) (fun c1 => ?_) (fun c1 => ?_)
      · exact absurd c1 (nI_ge (a := i) (b := 1024) (by omega) (by omega))
      · refine lv_aload_n hx hb dM_whole_9 rfl (lv_at hl 3 rfl) ?_
        refine lv_iload_n hx hb dM_whole_10 rfl (lv_at hl 0 rfl) ?_
        refine lv_iconst (v := 0) hx hb dM_whole_11 (by decide) ?_
        refine va_iast (D := Γ.1) (cl := gC) (tys := gT Γ) hx hb hW.1 hP hD hS 7 2 rfl rfl (vp_in_nI (show i < 1024 by omega) (by omega)) dM_whole_12 (fun H locs hP hD hS => ?_)
        rw [nI_clamp (show i < 2 ^ 31 by omega)] at hP hD
        have hP : va_P Γ.1 gC (wM Γ A (er) (nI mn) (fof) (fke) (fst) (fnu) (fno) (fla) (upd g i 0)) H := hP
        have hD : va_D (mA Γ) (wM Γ A (er) (nI mn) (fof) (fke) (fst) (fnu) (fno) (fla) (upd g i 0)) := hD
        refine lv_iinc (v := nI (i + 1)) (lv' := [(3, .int (nI (i + 1))), (0, .ref (A 0)), (1, .int (nI t)), (2, .ref (A 7))]) hx hb dM_whole_13 hl (k := 0) rfl (nI_1 i) (by decide) rfl (fun ls hl => ?_)
        refine lv_goto (tgt := 2) hx hb dM_whole_16 (by decide) ?_
        refine ih (i + 1) _ H locs ls (by omega) (fun k hk => ?_) hP hD hS (lv_sub hl [0, 1, 2, 3] rfl)
        by_cases e1 : k = i
        · rw [e1, pk_us]
        · rw [pk_un e1]; exact hg0 k (by omega)
  refine lv_iconst (v := 0) hx hb dM_whole_0 (by decide) ?_
  refine lv_istore_n (lv' := [(3, .int 0), (0, .ref (A 0)), (1, .int (nI t)), (2, .ref (A 7))]) hx hb dM_whole_1 rfl hl (by decide) rfl (fun ls hl => ?_)
  exact key1 1024 0 _ s.heap [] ls rfl (fun k hk => absurd hk (by omega)) hP hD hS (lv_sub hl [0, 1, 2, 3] rfl)
set_option maxHeartbeats 4000000 in
set_option maxRecDepth 100000 in
theorem c_M_change (l : Launch) (Γ : gE) (H : Heap) {A : Nat → Nat} {er : Int32} {mn : Nat} {fof fke fst fno fla fot : Nat → Int32} {fnu : Nat → Int64} {t k st gone : Int32} {v : Int64} (hP : va_P Γ.1 gC (wM Γ A (er) (nI mn) (fof) (fke) (fst) (fnu) (fno) (fla) (fot)) H) (hD : va_D (mA Γ) (wM Γ A (er) (nI mn) (fof) (fke) (fst) (fnu) (fno) (fla) (fot))) (hm : gz Γ ≤ gm0 Γ) (hmn : mn ≤ 400) (hgo : vp_nar .boolean gone = gone) : Met l yM_change wM_change ({ frames := 2, cells := 0, slots := 0, locals := 200 }) (gP Γ H [.ref (A 0), .int t, .int k, .long v, .int st, .int gone]) (va_Qi (fun r (u : Nat) => (u = 0 ∧ ¬ (inT t mn ∧ inT k 1024 ∧ okS st) ∧ r = 0) ∨ (u = 1 ∧ (inT t mn ∧ inT k 1024 ∧ okS st) ∧ mn = 400 ∧ r = 0) ∨ (u = 2 ∧ (inT t mn ∧ inT k 1024 ∧ okS st) ∧ mn < 400 ∧ r = nI mn)) (fun u t' => va_P Γ.1 gC (match u with | 0 => wM Γ A (1) (nI mn) (fof) (fke) (fst) (fnu) (fno) (fla) (fot) | 1 => wM Γ A (2) (nI mn) (fof) (fke) (fst) (fnu) (fno) (fla) (fot) | _ => wM Γ A (0) (nI (mn + 1)) (upd fof mn t) (upd fke mn k) (upd fst mn st) (vp_updL fnu mn v) (upd fno mn gone) (fla) (fot)) t'.heap) (mA Γ)) 0 0 (mA Γ) := by
  refine Met.ofW (cc := cM_change) (maxL := 7) (ret := (some .int)) (by decide) rfl ?_
  intro p e s m args below meth c s₁ B hml hv
  obtain ⟨rfl, rfl, hW⟩ := hv
  have hx := B.exec
  have hb := B.bytes
  have hr := B.returns
  have hg : ∀ w ∈ gW, w.before _ s = true := fun w h => atoms_spec (ws := wM_change) B.pre w (List.mem_cons_of_mem _ h)
  have hown : s.vm.findClass RM = some m.cls := findClass_of_methodNamed B.named
  have hlocks := B.notSynchronized
  have hS : va_S (gA Γ) s.heap s.heap [] := va_S.rf
  have hl := lv_entry ([.ref (A 0), .int t, .int k, .long v, .int st, .int gone]) (n := 7) (Nat.le_of_ble_eq_true rfl)
  rw [lg_entry_eq]
  generalize (lg_sl ([.ref (A 0), .int t, .int k, .long v, .int st, .int gone]) ++ List.replicate (7 - (lg_sl ([.ref (A 0), .int t, .int k, .long v, .int st, .int gone])).length) Slot.unset).toArray = ls at hl ⊢
  have hl : lv_has ls 7 [(0, .ref (A 0)), (1, .int t), (2, .int k), (3, .long v), (5, .int st), (6, .int gone)] := hl
  have hS : va_S (mA Γ) s.heap s.heap [] := va_S.rf
  refine lv_aload_n hx hb dM_change_0 rfl (lv_at hl 0 rfl) ?_
  refine lv_aload_n hx hb dM_change_1 rfl (lv_at hl 0 rfl) ?_
  refine lv_iload_n hx hb dM_change_2 rfl (lv_at hl 1 rfl) ?_
  refine vp_callSi (W.runV (As := [.int t]) (rest := [.ref (A 0)]) ⟨hx, hb, hml, hown, hg⟩ (c_M_noTable l Γ s.heap (t := t) hP (by omega)) (cwV 1 hg gM_40 rfl rfl rfl (by decide +kernel) ⟨Nat.le_of_ble_eq_true rfl, Nat.le_of_ble_eq_true rfl⟩) (gP_V hW (vS_m hm hS) (ci := 2) rfl (hP 0 _ rfl)) rfl rfl hl.1 rfl (lv_room (Nat.le_of_ble_eq_true rfl)) dM_change_3 ⟨Nat.le_of_ble_eq_true rfl, Nat.le_of_ble_eq_true rfl⟩) (fun r1 hr1 => ?_)
  rcases hr1 with ⟨rfl, h1⟩ | ⟨rfl, h1⟩
  · refine lv_if_ne (tgt := 28) hx hb dM_change_6 (by decide) (fun c1 => ?_) (fun c1 => ?_)
    · exact absurd rfl c1
    · refine lv_iload_n hx hb dM_change_9 rfl (lv_at hl 2 rfl) ?_
      refine vp_callSi (W.runS (As := [.int k]) (rest := [.ref (A 0)]) ⟨hx, hb, hml, hown, hg⟩ (c_M_noKey l Γ s.heap (k := k)) (va_cwS 1 hg gM_44 rfl rfl rfl (by decide +kernel) ⟨Nat.le_of_ble_eq_true rfl, Nat.le_of_ble_eq_true rfl⟩) (gP_S hW (vS_m hm hS)) rfl rfl hl.1 rfl (lv_room (Nat.le_of_ble_eq_true rfl)) dM_change_10 ⟨Nat.le_of_ble_eq_true rfl, Nat.le_of_ble_eq_true rfl⟩) (fun r1 hr1 => ?_)
      rcases hr1 with ⟨rfl, h2⟩ | ⟨rfl, h2⟩
      · refine lv_if_ne (tgt := 28) hx hb dM_change_13 (by decide) (fun c2 => ?_) (fun c2 => ?_)
        · exact absurd rfl c2
        · refine lv_iload hx hb dM_change_16 (lv_at hl 4 rfl) ?_
          refine lv_if_lt (tgt := 28) hx hb dM_change_18 (by decide) (fun c3 => ?_) (fun c3 => ?_)
          · refine lv_iconst (v := 1) hx hb dM_change_28 (by decide) ?_
            refine lv_goto (tgt := 33) hx hb dM_change_29 (by decide) ?_
            refine lv_iconst (v := 1) hx hb dM_change_33 (by decide) ?_
            refine va_calli (va_runV (As := [.int 1, .int 1]) (rest := []) ⟨hx, hb, hml, hown, hg⟩ (c_M_fails1 l Γ s.heap hP hD hm) (cwV 2 hg gM_48 rfl rfl rfl (by decide +kernel) ⟨Nat.le_of_ble_eq_true rfl, Nat.le_of_ble_eq_true rfl⟩) (gP_V hW (vS_m hm hS) (ci := 2) rfl (hP 0 _ rfl)) rfl rfl hl.1 rfl (lv_room (Nat.le_of_ble_eq_true rfl)) dM_change_34 ⟨Nat.le_of_ble_eq_true rfl, Nat.le_of_ble_eq_true rfl⟩) hS (fun q _ h => h) (fun q h => h) (fun r u t9 H1 locs1 ht hvm hp hB hz1 hk1 hS => ?_)
            subst hp
            rw [ht] at hB
            have hP : va_P Γ.1 gC (wM Γ A (1) (nI mn) (fof) (fke) (fst) (fnu) (fno) (fla) (fot)) H1 := hB
            have hD : va_D (mA Γ) (wM Γ A (1) (nI mn) (fof) (fke) (fst) (fnu) (fno) (fla) (fot)) := vD_map (by rfl) hD
            generalize H1 = H at hP hS ⊢
            clear hk1 hz1 ht hB
            refine lv_if_eq (tgt := 42) hx hb dM_change_37 (by decide) (fun c9 => ?_) (fun c9 => ?_)
            · exact absurd c9 (by decide)
            · refine lv_iconst (v := 0) hx hb dM_change_40 (by decide) ?_
              exact W.iret (v := 0) hx hb hr (fun t8 ht8 hW9 => ⟨⟨0, 0, rfl, Or.inl ⟨rfl, fun h => absurd c3 (Int32.not_lt.mpr h.2.2.1), rfl⟩, by subst ht8; exact hP⟩, hS.F ht8⟩) (fun q hq => hS.2.2 q hq) dM_change_41
          · refine lv_iload hx hb dM_change_21 (lv_at hl 4 rfl) ?_
            refine lv_ldc (v := 1000000000) hx hb hown (hg _ kw338) dM_change_23 ?_
            refine lv_icmp_le (tgt := 32) hx hb dM_change_25 (by decide) (fun c4 => ?_) (fun c4 => ?_)
            · have hok : inT t mn ∧ inT k 1024 ∧ okS st := ⟨h1, h2, Int32.not_lt.mp c3, c4⟩
              refine lv_iconst (v := 0) hx hb dM_change_32 (by decide) ?_
              refine lv_iconst (v := 1) hx hb dM_change_33 (by decide) ?_
              refine va_calli (va_runV (As := [.int 0, .int 1]) (rest := []) ⟨hx, hb, hml, hown, hg⟩ (c_M_fails0 l Γ s.heap hP hD hm) (cwV 2 hg gM_48 rfl rfl rfl (by decide +kernel) ⟨Nat.le_of_ble_eq_true rfl, Nat.le_of_ble_eq_true rfl⟩) (gP_V hW (vS_m hm hS) (ci := 2) rfl (hP 0 _ rfl)) rfl rfl hl.1 rfl (lv_room (Nat.le_of_ble_eq_true rfl)) dM_change_34 ⟨Nat.le_of_ble_eq_true rfl, Nat.le_of_ble_eq_true rfl⟩) hS (fun q _ h => h) (fun q h => h) (fun r u t9 H1 locs1 ht hvm hp hB hz1 hk1 hS => ?_)
              subst hp
              rw [ht] at hB
              have hP : va_P Γ.1 gC (wM Γ A (0) (nI mn) (fof) (fke) (fst) (fnu) (fno) (fla) (fot)) H1 := hB
              have hD : va_D (mA Γ) (wM Γ A (0) (nI mn) (fof) (fke) (fst) (fnu) (fno) (fla) (fot)) := vD_map (by rfl) hD
              generalize H1 = H at hP hS ⊢
              clear hk1 hz1 ht hB
              refine lv_if_eq (tgt := 42) hx hb dM_change_37 (by decide) (fun c5 => ?_) (fun c5 => ?_)
              · refine lv_aload_n hx hb dM_change_42 rfl (lv_at hl 0 rfl) ?_
                refine lv_aload_n hx hb dM_change_43 rfl (lv_at hl 0 rfl) ?_
                refine va_get (D := Γ.1) (ci := 2) (v := .int (nI mn)) (C := RM) (T := TM) (N := 9) hx hb hg inM hown hW.1 hP 0 rfl rfl 8 (by decide) (hg _ kw297) (fun _ h9 => h9) rfl dM_change_44 ?_
                refine lv_sipush (v := 400) hx hb dM_change_47 (by decide) ?_
                refine lv_icmp_ne (tgt := 57) hx hb dM_change_50 (by decide) (fun c6 => ?_) (fun c6 => ?_)
                · have hlt : mn < 400 := by
                    rcases Nat.lt_or_ge mn 400 with h | h
                    · exact h
                    · exact absurd (by rw [show mn = 400 by omega]; rfl) c6
                  refine lv_iconst (v := 0) hx hb dM_change_57 (by decide) ?_
                  refine lv_iconst (v := 2) hx hb dM_change_58 (by decide) ?_
                  refine va_calli (va_runV (As := [.int 0, .int 2]) (rest := []) ⟨hx, hb, hml, hown, hg⟩ (c_M_fails0 l Γ H hP hD hm) (cwV 2 hg gM_48 rfl rfl rfl (by decide +kernel) ⟨Nat.le_of_ble_eq_true rfl, Nat.le_of_ble_eq_true rfl⟩) (gP_V hW (vS_m hm hS) (ci := 2) rfl (hP 0 _ rfl)) rfl rfl hl.1 rfl (lv_room (Nat.le_of_ble_eq_true rfl)) dM_change_59 ⟨Nat.le_of_ble_eq_true rfl, Nat.le_of_ble_eq_true rfl⟩) hS (fun q _ h => h) (fun q h => h) (fun r u t9 H1 locs1 ht hvm hp hB hz1 hk1 hS => ?_)
                  subst hp
                  rw [ht] at hB
                  have hP : va_P Γ.1 gC (wM Γ A (0) (nI mn) (fof) (fke) (fst) (fnu) (fno) (fla) (fot)) H1 := hB
                  have hD : va_D (mA Γ) (wM Γ A (0) (nI mn) (fof) (fke) (fst) (fnu) (fno) (fla) (fot)) := vD_map (by rfl) hD
                  generalize H1 = H at hP hS ⊢
                  clear hk1 hz1 ht hB
                  refine lv_if_eq (tgt := 67) hx hb dM_change_62 (by decide) (fun c7 => ?_) (fun c7 => ?_)
                  · refine lv_aload_n hx hb dM_change_67 rfl (lv_at hl 0 rfl) ?_
                    refine va_get (D := Γ.1) (ci := 2) (v := .ref (A 1)) (C := RM) (T := TM) (N := 9) hx hb hg inM hown hW.1 hP 0 rfl rfl 1 (by decide) (hg _ kw290) (fun _ h9 => h9) rfl dM_change_68 ?_
                    refine lv_aload_n hx hb dM_change_71 rfl (lv_at hl 0 rfl) ?_
                    refine va_get (D := Γ.1) (ci := 2) (v := .int (nI mn)) (C := RM) (T := TM) (N := 9) hx hb hg inM hown hW.1 hP 0 rfl rfl 8 (by decide) (hg _ kw297) (fun _ h9 => h9) rfl dM_change_72 ?_
                    refine lv_iload_n hx hb dM_change_75 rfl (lv_at hl 1 rfl) ?_
                    refine va_iast (D := Γ.1) (cl := gC) (tys := gT Γ) hx hb hW.1 hP hD hS 1 2 rfl rfl (vp_in_nI (show mn < 400 by omega) (by omega)) dM_change_76 (fun H locs hP hD hS => ?_)
                    rw [nI_clamp (show mn < 2 ^ 31 by omega)] at hP hD
                    have hP : va_P Γ.1 gC (wM Γ A (0) (nI mn) (upd fof mn t) (fke) (fst) (fnu) (fno) (fla) (fot)) H := hP
                    have hD : va_D (mA Γ) (wM Γ A (0) (nI mn) (upd fof mn t) (fke) (fst) (fnu) (fno) (fla) (fot)) := hD
                    refine lv_aload_n hx hb dM_change_77 rfl (lv_at hl 0 rfl) ?_
                    refine va_get (D := Γ.1) (ci := 2) (v := .ref (A 2)) (C := RM) (T := TM) (N := 9) hx hb hg inM hown hW.1 hP 0 rfl rfl 2 (by decide) (hg _ kw291) (fun _ h9 => h9) rfl dM_change_78 ?_
                    refine lv_aload_n hx hb dM_change_81 rfl (lv_at hl 0 rfl) ?_
                    refine va_get (D := Γ.1) (ci := 2) (v := .int (nI mn)) (C := RM) (T := TM) (N := 9) hx hb hg inM hown hW.1 hP 0 rfl rfl 8 (by decide) (hg _ kw297) (fun _ h9 => h9) rfl dM_change_82 ?_
                    refine lv_iload_n hx hb dM_change_85 rfl (lv_at hl 2 rfl) ?_
                    refine va_iast (D := Γ.1) (cl := gC) (tys := gT Γ) hx hb hW.1 hP hD hS 2 2 rfl rfl (vp_in_nI (show mn < 400 by omega) (by omega)) dM_change_86 (fun H locs hP hD hS => ?_)
                    rw [nI_clamp (show mn < 2 ^ 31 by omega)] at hP hD
                    have hP : va_P Γ.1 gC (wM Γ A (0) (nI mn) (upd fof mn t) (upd fke mn k) (fst) (fnu) (fno) (fla) (fot)) H := hP
                    have hD : va_D (mA Γ) (wM Γ A (0) (nI mn) (upd fof mn t) (upd fke mn k) (fst) (fnu) (fno) (fla) (fot)) := hD
                    refine lv_aload_n hx hb dM_change_87 rfl (lv_at hl 0 rfl) ?_
                    refine va_get (D := Γ.1) (ci := 2) (v := .ref (A 4)) (C := RM) (T := TM) (N := 9) hx hb hg inM hown hW.1 hP 0 rfl rfl 4 (by decide) (hg _ kw293) (fun _ h9 => h9) rfl dM_change_88 ?_
                    refine lv_aload_n hx hb dM_change_91 rfl (lv_at hl 0 rfl) ?_
                    refine va_get (D := Γ.1) (ci := 2) (v := .int (nI mn)) (C := RM) (T := TM) (N := 9) hx hb hg inM hown hW.1 hP 0 rfl rfl 8 (by decide) (hg _ kw297) (fun _ h9 => h9) rfl dM_change_92 ?_
                    refine lv_lload_n hx hb dM_change_95 rfl (lv_at hl 3 rfl) ?_
                    refine va_last (D := Γ.1) (cl := gC) (tys := gT Γ) hx hb hW.1 hP hD hS 4 0 rfl rfl (vp_in_nI (show mn < 400 by omega) (by omega)) dM_change_96 (fun H locs hP hD hS => ?_)
                    rw [nI_clamp (show mn < 2 ^ 31 by omega)] at hP hD
                    have hP : va_P Γ.1 gC (wM Γ A (0) (nI mn) (upd fof mn t) (upd fke mn k) (fst) (vp_updL fnu mn v) (fno) (fla) (fot)) H := hP
                    have hD : va_D (mA Γ) (wM Γ A (0) (nI mn) (upd fof mn t) (upd fke mn k) (fst) (vp_updL fnu mn v) (fno) (fla) (fot)) := hD
                    refine lv_aload_n hx hb dM_change_97 rfl (lv_at hl 0 rfl) ?_
                    refine va_get (D := Γ.1) (ci := 2) (v := .ref (A 5)) (C := RM) (T := TM) (N := 9) hx hb hg inM hown hW.1 hP 0 rfl rfl 5 (by decide) (hg _ kw294) (fun _ h9 => h9) rfl dM_change_98 ?_
                    refine lv_aload_n hx hb dM_change_101 rfl (lv_at hl 0 rfl) ?_
                    refine va_get (D := Γ.1) (ci := 2) (v := .int (nI mn)) (C := RM) (T := TM) (N := 9) hx hb hg inM hown hW.1 hP 0 rfl rfl 8 (by decide) (hg _ kw297) (fun _ h9 => h9) rfl dM_change_102 ?_
                    refine lv_iload hx hb dM_change_105 (lv_at hl 5 rfl) ?_
                    refine va_zast (D := Γ.1) (cl := gC) (tys := gT Γ) hx hb hW.1 hP hD hS 5 3 rfl rfl (vp_in_nI (show mn < 400 by omega) (by omega)) dM_change_107 (fun H locs hP hD hS => ?_)
                    rw [nI_clamp (show mn < 2 ^ 31 by omega)] at hP hD
                    rw [hgo] at hP hD
                    have hP : va_P Γ.1 gC (wM Γ A (0) (nI mn) (upd fof mn t) (upd fke mn k) (fst) (vp_updL fnu mn v) (upd fno mn gone) (fla) (fot)) H := hP
                    have hD : va_D (mA Γ) (wM Γ A (0) (nI mn) (upd fof mn t) (upd fke mn k) (fst) (vp_updL fnu mn v) (upd fno mn gone) (fla) (fot)) := hD
                    refine lv_aload_n hx hb dM_change_108 rfl (lv_at hl 0 rfl) ?_
                    refine va_get (D := Γ.1) (ci := 2) (v := .ref (A 3)) (C := RM) (T := TM) (N := 9) hx hb hg inM hown hW.1 hP 0 rfl rfl 3 (by decide) (hg _ kw292) (fun _ h9 => h9) rfl dM_change_109 ?_
                    refine lv_aload_n hx hb dM_change_112 rfl (lv_at hl 0 rfl) ?_
                    refine va_get (D := Γ.1) (ci := 2) (v := .int (nI mn)) (C := RM) (T := TM) (N := 9) hx hb hg inM hown hW.1 hP 0 rfl rfl 8 (by decide) (hg _ kw297) (fun _ h9 => h9) rfl dM_change_113 ?_
                    refine lv_iload hx hb dM_change_116 (lv_at hl 4 rfl) ?_
                    refine va_iast (D := Γ.1) (cl := gC) (tys := gT Γ) hx hb hW.1 hP hD hS 3 2 rfl rfl (vp_in_nI (show mn < 400 by omega) (by omega)) dM_change_118 (fun H locs hP hD hS => ?_)
                    rw [nI_clamp (show mn < 2 ^ 31 by omega)] at hP hD
                    have hP : va_P Γ.1 gC (wM Γ A (0) (nI mn) (upd fof mn t) (upd fke mn k) (upd fst mn st) (vp_updL fnu mn v) (upd fno mn gone) (fla) (fot)) H := hP
                    have hD : va_D (mA Γ) (wM Γ A (0) (nI mn) (upd fof mn t) (upd fke mn k) (upd fst mn st) (vp_updL fnu mn v) (upd fno mn gone) (fla) (fot)) := hD
                    refine lv_aload_n hx hb dM_change_119 rfl (lv_at hl 0 rfl) ?_
                    refine lv_dup hx hb dM_change_120 rfl ?_
                    refine va_get (D := Γ.1) (ci := 2) (v := .int (nI mn)) (C := RM) (T := TM) (N := 9) hx hb hg inM hown hW.1 hP 0 rfl rfl 8 (by decide) (hg _ kw297) (fun _ h9 => h9) rfl dM_change_121 ?_
                    refine lv_dup_x1 hx hb dM_change_124 rfl rfl ?_
                    refine lv_iconst (v := 1) hx hb dM_change_125 (by decide) ?_
                    refine lv_iadd hx hb dM_change_126 ?_
                    refine lv_topi (fun vv evv => ?_)
                    have evv : vv = nI (mn + 1) := evv.trans (nI_1 mn)
                    subst evv
                    refine va_put (D := Γ.1) (ci := 2) (v := .int (nI (mn + 1))) (ty := .int) (C := RM) (T := TM) (N := 9) hx hb hg inM tyM tyM_ok nmM hown hW.1 hP hD hS 0 rfl rfl 8 (by decide) (hg _ kw297) (fun _ h9 => h9) rfl (by decide +kernel) rfl rfl (Nat.le_of_ble_eq_true rfl) dM_change_127 (fun H locs hP hD hS => ?_)
                    have hP : va_P Γ.1 gC (wM Γ A (0) (nI (mn + 1)) (upd fof mn t) (upd fke mn k) (upd fst mn st) (vp_updL fnu mn v) (upd fno mn gone) (fla) (fot)) H := hP
                    have hD : va_D (mA Γ) (wM Γ A (0) (nI (mn + 1)) (upd fof mn t) (upd fke mn k) (upd fst mn st) (vp_updL fnu mn v) (upd fno mn gone) (fla) (fot)) := hD
                    exact W.iret (v := nI mn) hx hb hr (fun t8 ht8 hW9 => ⟨⟨nI mn, 2, rfl, Or.inr (Or.inr ⟨rfl, hok, hlt, rfl⟩), by subst ht8; exact hP⟩, hS.F ht8⟩) (fun q hq => hS.2.2 q hq) dM_change_130
                  · exact absurd rfl c7
                · have heq : mn = 400 := (nI_eq (b := 400) (by omega) (by omega)).mp c6
                  refine lv_iconst (v := 1) hx hb dM_change_53 (by decide) ?_
                  refine lv_goto (tgt := 58) hx hb dM_change_54 (by decide) ?_
                  refine lv_iconst (v := 2) hx hb dM_change_58 (by decide) ?_
                  refine va_calli (va_runV (As := [.int 1, .int 2]) (rest := []) ⟨hx, hb, hml, hown, hg⟩ (c_M_fails1 l Γ H hP hD hm) (cwV 2 hg gM_48 rfl rfl rfl (by decide +kernel) ⟨Nat.le_of_ble_eq_true rfl, Nat.le_of_ble_eq_true rfl⟩) (gP_V hW (vS_m hm hS) (ci := 2) rfl (hP 0 _ rfl)) rfl rfl hl.1 rfl (lv_room (Nat.le_of_ble_eq_true rfl)) dM_change_59 ⟨Nat.le_of_ble_eq_true rfl, Nat.le_of_ble_eq_true rfl⟩) hS (fun q _ h => h) (fun q h => h) (fun r u t9 H1 locs1 ht hvm hp hB hz1 hk1 hS => ?_)
                  subst hp
                  rw [ht] at hB
                  have hP : va_P Γ.1 gC (wM Γ A (2) (nI mn) (fof) (fke) (fst) (fnu) (fno) (fla) (fot)) H1 := hB
                  have hD : va_D (mA Γ) (wM Γ A (2) (nI mn) (fof) (fke) (fst) (fnu) (fno) (fla) (fot)) := vD_map (by rfl) hD
                  generalize H1 = H at hP hS ⊢
                  clear hk1 hz1 ht hB
                  refine lv_if_eq (tgt := 67) hx hb dM_change_62 (by decide) (fun c7 => ?_) (fun c7 => ?_)
                  · exact absurd c7 (by decide)
                  · refine lv_iconst (v := 0) hx hb dM_change_65 (by decide) ?_
                    exact W.iret (v := 0) hx hb hr (fun t8 ht8 hW9 => ⟨⟨0, 1, rfl, Or.inr (Or.inl ⟨rfl, hok, heq, rfl⟩), by subst ht8; exact hP⟩, hS.F ht8⟩) (fun q hq => hS.2.2 q hq) dM_change_66
              · exact absurd rfl c5
            · refine lv_iconst (v := 1) hx hb dM_change_28 (by decide) ?_
              refine lv_goto (tgt := 33) hx hb dM_change_29 (by decide) ?_
              refine lv_iconst (v := 1) hx hb dM_change_33 (by decide) ?_
              refine va_calli (va_runV (As := [.int 1, .int 1]) (rest := []) ⟨hx, hb, hml, hown, hg⟩ (c_M_fails1 l Γ s.heap hP hD hm) (cwV 2 hg gM_48 rfl rfl rfl (by decide +kernel) ⟨Nat.le_of_ble_eq_true rfl, Nat.le_of_ble_eq_true rfl⟩) (gP_V hW (vS_m hm hS) (ci := 2) rfl (hP 0 _ rfl)) rfl rfl hl.1 rfl (lv_room (Nat.le_of_ble_eq_true rfl)) dM_change_34 ⟨Nat.le_of_ble_eq_true rfl, Nat.le_of_ble_eq_true rfl⟩) hS (fun q _ h => h) (fun q h => h) (fun r u t9 H1 locs1 ht hvm hp hB hz1 hk1 hS => ?_)
              subst hp
              rw [ht] at hB
              have hP : va_P Γ.1 gC (wM Γ A (1) (nI mn) (fof) (fke) (fst) (fnu) (fno) (fla) (fot)) H1 := hB
              have hD : va_D (mA Γ) (wM Γ A (1) (nI mn) (fof) (fke) (fst) (fnu) (fno) (fla) (fot)) := vD_map (by rfl) hD
              generalize H1 = H at hP hS ⊢
              clear hk1 hz1 ht hB
              refine lv_if_eq (tgt := 42) hx hb dM_change_37 (by decide) (fun c9 => ?_) (fun c9 => ?_)
              · exact absurd c9 (by decide)
              · refine lv_iconst (v := 0) hx hb dM_change_40 (by decide) ?_
                exact W.iret (v := 0) hx hb hr (fun t8 ht8 hW9 => ⟨⟨0, 0, rfl, Or.inl ⟨rfl, fun h => c4 h.2.2.2, rfl⟩, by subst ht8; exact hP⟩, hS.F ht8⟩) (fun q hq => hS.2.2 q hq) dM_change_41
      · refine lv_if_ne (tgt := 28) hx hb dM_change_13 (by decide) (fun c8 => ?_) (fun c8 => ?_)
        · refine lv_iconst (v := 1) hx hb dM_change_28 (by decide) ?_
          refine lv_goto (tgt := 33) hx hb dM_change_29 (by decide) ?_
          refine lv_iconst (v := 1) hx hb dM_change_33 (by decide) ?_
          refine va_calli (va_runV (As := [.int 1, .int 1]) (rest := []) ⟨hx, hb, hml, hown, hg⟩ (c_M_fails1 l Γ s.heap hP hD hm) (cwV 2 hg gM_48 rfl rfl rfl (by decide +kernel) ⟨Nat.le_of_ble_eq_true rfl, Nat.le_of_ble_eq_true rfl⟩) (gP_V hW (vS_m hm hS) (ci := 2) rfl (hP 0 _ rfl)) rfl rfl hl.1 rfl (lv_room (Nat.le_of_ble_eq_true rfl)) dM_change_34 ⟨Nat.le_of_ble_eq_true rfl, Nat.le_of_ble_eq_true rfl⟩) hS (fun q _ h => h) (fun q h => h) (fun r u t9 H1 locs1 ht hvm hp hB hz1 hk1 hS => ?_)
          subst hp
          rw [ht] at hB
          have hP : va_P Γ.1 gC (wM Γ A (1) (nI mn) (fof) (fke) (fst) (fnu) (fno) (fla) (fot)) H1 := hB
          have hD : va_D (mA Γ) (wM Γ A (1) (nI mn) (fof) (fke) (fst) (fnu) (fno) (fla) (fot)) := vD_map (by rfl) hD
          generalize H1 = H at hP hS ⊢
          clear hk1 hz1 ht hB
          refine lv_if_eq (tgt := 42) hx hb dM_change_37 (by decide) (fun c9 => ?_) (fun c9 => ?_)
          · exact absurd c9 (by decide)
          · refine lv_iconst (v := 0) hx hb dM_change_40 (by decide) ?_
            exact W.iret (v := 0) hx hb hr (fun t8 ht8 hW9 => ⟨⟨0, 0, rfl, Or.inl ⟨rfl, fun h => h2 h.2.1, rfl⟩, by subst ht8; exact hP⟩, hS.F ht8⟩) (fun q hq => hS.2.2 q hq) dM_change_41
        · exact absurd c8 (by decide)
  · refine lv_if_ne (tgt := 28) hx hb dM_change_6 (by decide) (fun c8 => ?_) (fun c8 => ?_)
    · refine lv_iconst (v := 1) hx hb dM_change_28 (by decide) ?_
      refine lv_goto (tgt := 33) hx hb dM_change_29 (by decide) ?_
      refine lv_iconst (v := 1) hx hb dM_change_33 (by decide) ?_
      refine va_calli (va_runV (As := [.int 1, .int 1]) (rest := []) ⟨hx, hb, hml, hown, hg⟩ (c_M_fails1 l Γ s.heap hP hD hm) (cwV 2 hg gM_48 rfl rfl rfl (by decide +kernel) ⟨Nat.le_of_ble_eq_true rfl, Nat.le_of_ble_eq_true rfl⟩) (gP_V hW (vS_m hm hS) (ci := 2) rfl (hP 0 _ rfl)) rfl rfl hl.1 rfl (lv_room (Nat.le_of_ble_eq_true rfl)) dM_change_34 ⟨Nat.le_of_ble_eq_true rfl, Nat.le_of_ble_eq_true rfl⟩) hS (fun q _ h => h) (fun q h => h) (fun r u t9 H1 locs1 ht hvm hp hB hz1 hk1 hS => ?_)
      subst hp
      rw [ht] at hB
      have hP : va_P Γ.1 gC (wM Γ A (1) (nI mn) (fof) (fke) (fst) (fnu) (fno) (fla) (fot)) H1 := hB
      have hD : va_D (mA Γ) (wM Γ A (1) (nI mn) (fof) (fke) (fst) (fnu) (fno) (fla) (fot)) := vD_map (by rfl) hD
      generalize H1 = H at hP hS ⊢
      clear hk1 hz1 ht hB
      refine lv_if_eq (tgt := 42) hx hb dM_change_37 (by decide) (fun c9 => ?_) (fun c9 => ?_)
      · exact absurd c9 (by decide)
      · refine lv_iconst (v := 0) hx hb dM_change_40 (by decide) ?_
        exact W.iret (v := 0) hx hb hr (fun t8 ht8 hW9 => ⟨⟨0, 0, rfl, Or.inl ⟨rfl, fun h => h1 h.1, rfl⟩, by subst ht8; exact hP⟩, hS.F ht8⟩) (fun q hq => hS.2.2 q hq) dM_change_41
    · exact absurd c8 (by decide)
set_option maxHeartbeats 4000000 in
set_option maxRecDepth 100000 in
theorem c_M_put (l : Launch) (Γ : gE) (H : Heap) {A : Nat → Nat} {er : Int32} {mn : Nat} {fof fke fst fno fla fot : Nat → Int32} {fnu : Nat → Int64} {t k st : Int32} {v : Int64} (hP : va_P Γ.1 gC (wM Γ A (er) (nI mn) (fof) (fke) (fst) (fnu) (fno) (fla) (fot)) H) (hD : va_D (mA Γ) (wM Γ A (er) (nI mn) (fof) (fke) (fst) (fnu) (fno) (fla) (fot))) (hm : gz Γ ≤ gm0 Γ) (hmn : mn ≤ 400) : Met l yM_put wM_put ({ frames := 4, cells := 0, slots := 0, locals := 400 }) (gP Γ H [.ref (A 0), .int t, .int k, .long v, .int st]) (va_Qi (fun r (u : Nat) => (u = 0 ∧ ¬ (inT t mn ∧ inT k 1024 ∧ okS st) ∧ r = 0) ∨ (u = 1 ∧ (inT t mn ∧ inT k 1024 ∧ okS st) ∧ mn = 400 ∧ r = 0) ∨ (u = 2 ∧ (inT t mn ∧ inT k 1024 ∧ okS st) ∧ mn < 400 ∧ r = nI mn)) (fun u t' => va_P Γ.1 gC (match u with | 0 => wM Γ A (1) (nI mn) (fof) (fke) (fst) (fnu) (fno) (fla) (fot) | 1 => wM Γ A (2) (nI mn) (fof) (fke) (fst) (fnu) (fno) (fla) (fot) | _ => wM Γ A (0) (nI (mn + 1)) (upd fof mn t) (upd fke mn k) (upd fst mn st) (vp_updL fnu mn v) (upd fno mn 0) (fla) (fot)) t'.heap) (mA Γ)) 0 0 (mA Γ) := by
  refine Met.ofW (cc := cM_put) (maxL := 6) (ret := (some .int)) (by decide) rfl ?_
  intro p e s m args below meth c s₁ B hml hv
  obtain ⟨rfl, rfl, hW⟩ := hv
  have hx := B.exec
  have hb := B.bytes
  have hr := B.returns
  have hg : ∀ w ∈ gW, w.before _ s = true := fun w h => atoms_spec (ws := wM_put) B.pre w (List.mem_cons_of_mem _ h)
  have hown : s.vm.findClass RM = some m.cls := findClass_of_methodNamed B.named
  have hlocks := B.notSynchronized
  have hS : va_S (gA Γ) s.heap s.heap [] := va_S.rf
  have hl := lv_entry ([.ref (A 0), .int t, .int k, .long v, .int st]) (n := 6) (Nat.le_of_ble_eq_true rfl)
  rw [lg_entry_eq]
  generalize (lg_sl ([.ref (A 0), .int t, .int k, .long v, .int st]) ++ List.replicate (6 - (lg_sl ([.ref (A 0), .int t, .int k, .long v, .int st])).length) Slot.unset).toArray = ls at hl ⊢
  have hl : lv_has ls 6 [(0, .ref (A 0)), (1, .int t), (2, .int k), (3, .long v), (5, .int st)] := hl
  have hS : va_S (mA Γ) s.heap s.heap [] := va_S.rf
  refine lv_aload_n hx hb dM_put_0 rfl (lv_at hl 0 rfl) ?_
  refine lv_iload_n hx hb dM_put_1 rfl (lv_at hl 1 rfl) ?_
  refine lv_iload_n hx hb dM_put_2 rfl (lv_at hl 2 rfl) ?_
  refine lv_lload_n hx hb dM_put_3 rfl (lv_at hl 3 rfl) ?_
  refine lv_iload hx hb dM_put_4 (lv_at hl 4 rfl) ?_
  refine lv_iconst (v := 0) hx hb dM_put_6 (by decide) ?_
  refine va_calli (va_runV (As := [.int t, .int k, .long v, .int st, .int 0]) (rest := []) ⟨hx, hb, hml, hown, hg⟩ (c_M_change l Γ s.heap (t := t) (k := k) (v := v) (st := st) (gone := 0) hP hD hm hmn (by decide)) (cwV 5 hg gM_52 rfl rfl rfl (by decide +kernel) ⟨Nat.le_of_ble_eq_true rfl, Nat.le_of_ble_eq_true rfl⟩) (gP_V hW (vS_m hm hS) (ci := 2) rfl (hP 0 _ rfl)) rfl rfl hl.1 rfl (lv_room (Nat.le_of_ble_eq_true rfl)) dM_put_7 ⟨Nat.le_of_ble_eq_true rfl, Nat.le_of_ble_eq_true rfl⟩) hS (fun q _ h => h) (fun q h => h) (fun r u t9 H1 locs1 ht hvm hp hB hz1 hk1 hS => ?_)
  exact W.iret (v := r) hx hb hr (fun t8 ht8 hW9 => ⟨⟨r, u, rfl, hp, by rw [ht] at hB; rw [← ht8] at hB; exact hB⟩, hS.F ht8⟩) (fun q hq => hS.2.2 q hq) dM_put_10
set_option maxHeartbeats 4000000 in
set_option maxRecDepth 100000 in
theorem c_M_delete (l : Launch) (Γ : gE) (H : Heap) {A : Nat → Nat} {er : Int32} {mn : Nat} {fof fke fst fno fla fot : Nat → Int32} {fnu : Nat → Int64} {t k st : Int32} (hP : va_P Γ.1 gC (wM Γ A (er) (nI mn) (fof) (fke) (fst) (fnu) (fno) (fla) (fot)) H) (hD : va_D (mA Γ) (wM Γ A (er) (nI mn) (fof) (fke) (fst) (fnu) (fno) (fla) (fot))) (hm : gz Γ ≤ gm0 Γ) (hmn : mn ≤ 400) : Met l yM_delete wM_delete ({ frames := 4, cells := 0, slots := 0, locals := 400 }) (gP Γ H [.ref (A 0), .int t, .int k, .int st]) (va_Qi (fun r (u : Nat) => (u = 0 ∧ ¬ (inT t mn ∧ inT k 1024 ∧ okS st) ∧ r = 0) ∨ (u = 1 ∧ (inT t mn ∧ inT k 1024 ∧ okS st) ∧ mn = 400 ∧ r = 0) ∨ (u = 2 ∧ (inT t mn ∧ inT k 1024 ∧ okS st) ∧ mn < 400 ∧ r = nI mn)) (fun u t' => va_P Γ.1 gC (match u with | 0 => wM Γ A (1) (nI mn) (fof) (fke) (fst) (fnu) (fno) (fla) (fot) | 1 => wM Γ A (2) (nI mn) (fof) (fke) (fst) (fnu) (fno) (fla) (fot) | _ => wM Γ A (0) (nI (mn + 1)) (upd fof mn t) (upd fke mn k) (upd fst mn st) (vp_updL fnu mn 0) (upd fno mn 1) (fla) (fot)) t'.heap) (mA Γ)) 0 0 (mA Γ) := by
  refine Met.ofW (cc := cM_delete) (maxL := 4) (ret := (some .int)) (by decide) rfl ?_
  intro p e s m args below meth c s₁ B hml hv
  obtain ⟨rfl, rfl, hW⟩ := hv
  have hx := B.exec
  have hb := B.bytes
  have hr := B.returns
  have hg : ∀ w ∈ gW, w.before _ s = true := fun w h => atoms_spec (ws := wM_delete) B.pre w (List.mem_cons_of_mem _ h)
  have hown : s.vm.findClass RM = some m.cls := findClass_of_methodNamed B.named
  have hlocks := B.notSynchronized
  have hS : va_S (gA Γ) s.heap s.heap [] := va_S.rf
  have hl := lv_entry ([.ref (A 0), .int t, .int k, .int st]) (n := 4) (Nat.le_of_ble_eq_true rfl)
  rw [lg_entry_eq]
  generalize (lg_sl ([.ref (A 0), .int t, .int k, .int st]) ++ List.replicate (4 - (lg_sl ([.ref (A 0), .int t, .int k, .int st])).length) Slot.unset).toArray = ls at hl ⊢
  have hl : lv_has ls 4 [(0, .ref (A 0)), (1, .int t), (2, .int k), (3, .int st)] := hl
  have hS : va_S (mA Γ) s.heap s.heap [] := va_S.rf
  refine lv_aload_n hx hb dM_delete_0 rfl (lv_at hl 0 rfl) ?_
  refine lv_iload_n hx hb dM_delete_1 rfl (lv_at hl 1 rfl) ?_
  refine lv_iload_n hx hb dM_delete_2 rfl (lv_at hl 2 rfl) ?_
  refine lv_lconst (v := 0) hx hb dM_delete_3 (by decide) ?_
  refine lv_iload_n hx hb dM_delete_4 rfl (lv_at hl 3 rfl) ?_
  refine lv_iconst (v := 1) hx hb dM_delete_5 (by decide) ?_
  refine va_calli (va_runV (As := [.int t, .int k, .long 0, .int st, .int 1]) (rest := []) ⟨hx, hb, hml, hown, hg⟩ (c_M_change l Γ s.heap (t := t) (k := k) (v := 0) (st := st) (gone := 1) hP hD hm hmn (by decide)) (cwV 5 hg gM_52 rfl rfl rfl (by decide +kernel) ⟨Nat.le_of_ble_eq_true rfl, Nat.le_of_ble_eq_true rfl⟩) (gP_V hW (vS_m hm hS) (ci := 2) rfl (hP 0 _ rfl)) rfl rfl hl.1 rfl (lv_room (Nat.le_of_ble_eq_true rfl)) dM_delete_6 ⟨Nat.le_of_ble_eq_true rfl, Nat.le_of_ble_eq_true rfl⟩) hS (fun q _ h => h) (fun q h => h) (fun r u t9 H1 locs1 ht hvm hp hB hz1 hk1 hS => ?_)
  exact W.iret (v := r) hx hb hr (fun t8 ht8 hW9 => ⟨⟨r, u, rfl, hp, by rw [ht] at hB; rw [← ht8] at hB; exact hB⟩, hS.F ht8⟩) (fun q hq => hS.2.2 q hq) dM_delete_9
set_option maxHeartbeats 4000000 in
set_option maxRecDepth 100000 in
theorem c_M_get (l : Launch) (Γ : gE) (H : Heap) {A : Nat → Nat} {er : Int32} {mn : Nat} {fof fke fst fno fla fot : Nat → Int32} {fnu : Nat → Int64} {t k : Int32} (hP : va_P Γ.1 gC (wM Γ A (er) (nI mn) (fof) (fke) (fst) (fnu) (fno) (fla) (fot)) H) (hD : va_D (mA Γ) (wM Γ A (er) (nI mn) (fof) (fke) (fst) (fnu) (fno) (fla) (fot))) (hm : gz Γ ≤ gm0 Γ) (hmn : mn ≤ 400) (hMI : MI mn fof fke fst fno) : Met l yM_get wM_get ({ frames := 2, cells := 0, slots := 0, locals := 200 }) (gP Γ H [.ref (A 0), .int t, .int k]) (va_Ql (fun r (u : Nat) => (u = 0 ∧ ¬ (inT t mn ∧ inT k 1024) ∧ r = 0) ∨ (u = 1 ∧ (∃ tj kj, tj < mn ∧ t = nI tj ∧ kj < 1024 ∧ k = nI kj ∧ mV fof fke fnu fno tj kj = none) ∧ r = 0) ∨ (u = 2 ∧ ∃ tj kj, tj < mn ∧ t = nI tj ∧ kj < 1024 ∧ k = nI kj ∧ mV fof fke fnu fno tj kj = some r)) (fun u t' => va_P Γ.1 gC (match u with | 0 => wM Γ A (1) (nI mn) (fof) (fke) (fst) (fnu) (fno) (fla) (fot) | 1 => wM Γ A (2) (nI mn) (fof) (fke) (fst) (fnu) (fno) (fla) (fot) | _ => wM Γ A (0) (nI mn) (fof) (fke) (fst) (fnu) (fno) (fla) (fot)) t'.heap) (mA Γ)) 0 0 (mA Γ) := by
  refine Met.ofW (cc := cM_get) (maxL := 4) (ret := (some .long)) (by decide) rfl ?_
  intro p e s m args below meth c s₁ B hml hv
  obtain ⟨rfl, rfl, hW⟩ := hv
  have hx := B.exec
  have hb := B.bytes
  have hr := B.returns
  have hg : ∀ w ∈ gW, w.before _ s = true := fun w h => atoms_spec (ws := wM_get) B.pre w (List.mem_cons_of_mem _ h)
  have hown : s.vm.findClass RM = some m.cls := findClass_of_methodNamed B.named
  have hlocks := B.notSynchronized
  have hS : va_S (gA Γ) s.heap s.heap [] := va_S.rf
  have hl := lv_entry ([.ref (A 0), .int t, .int k]) (n := 4) (Nat.le_of_ble_eq_true rfl)
  rw [lg_entry_eq]
  generalize (lg_sl ([.ref (A 0), .int t, .int k]) ++ List.replicate (4 - (lg_sl ([.ref (A 0), .int t, .int k])).length) Slot.unset).toArray = ls at hl ⊢
  have hl : lv_has ls 4 [(0, .ref (A 0)), (1, .int t), (2, .int k)] := hl
  have hS : va_S (mA Γ) s.heap s.heap [] := va_S.rf
  refine lv_aload_n hx hb dM_get_0 rfl (lv_at hl 0 rfl) ?_
  refine lv_aload_n hx hb dM_get_1 rfl (lv_at hl 0 rfl) ?_
  refine lv_iload_n hx hb dM_get_2 rfl (lv_at hl 1 rfl) ?_
  refine vp_callSi (W.runV (As := [.int t]) (rest := [.ref (A 0)]) ⟨hx, hb, hml, hown, hg⟩ (c_M_noTable l Γ s.heap (t := t) hP (by omega)) (cwV 1 hg gM_40 rfl rfl rfl (by decide +kernel) ⟨Nat.le_of_ble_eq_true rfl, Nat.le_of_ble_eq_true rfl⟩) (gP_V hW (vS_m hm hS) (ci := 2) rfl (hP 0 _ rfl)) rfl rfl hl.1 rfl (lv_room (Nat.le_of_ble_eq_true rfl)) dM_get_3 ⟨Nat.le_of_ble_eq_true rfl, Nat.le_of_ble_eq_true rfl⟩) (fun r1 hr1 => ?_)
  rcases hr1 with ⟨rfl, h1⟩ | ⟨rfl, h1⟩
  · refine lv_if_ne (tgt := 16) hx hb dM_get_6 (by decide) (fun c1 => ?_) (fun c1 => ?_)
    · exact absurd rfl c1
    · refine lv_iload_n hx hb dM_get_9 rfl (lv_at hl 2 rfl) ?_
      refine vp_callSi (W.runS (As := [.int k]) (rest := [.ref (A 0)]) ⟨hx, hb, hml, hown, hg⟩ (c_M_noKey l Γ s.heap (k := k)) (va_cwS 1 hg gM_44 rfl rfl rfl (by decide +kernel) ⟨Nat.le_of_ble_eq_true rfl, Nat.le_of_ble_eq_true rfl⟩) (gP_S hW (vS_m hm hS)) rfl rfl hl.1 rfl (lv_room (Nat.le_of_ble_eq_true rfl)) dM_get_10 ⟨Nat.le_of_ble_eq_true rfl, Nat.le_of_ble_eq_true rfl⟩) (fun r1 hr1 => ?_)
      rcases hr1 with ⟨rfl, h2⟩ | ⟨rfl, h2⟩
      · refine lv_if_eq (tgt := 20) hx hb dM_get_13 (by decide) (fun c2 => ?_) (fun c2 => ?_)
        · obtain ⟨tj, htj, rfl⟩ := h1
          obtain ⟨kj, hkj, rfl⟩ := h2
          refine lv_iconst (v := 0) hx hb dM_get_20 (by decide) ?_
          refine lv_iconst (v := 1) hx hb dM_get_21 (by decide) ?_
          refine va_calli (va_runV (As := [.int 0, .int 1]) (rest := []) ⟨hx, hb, hml, hown, hg⟩ (c_M_fails0 l Γ s.heap hP hD hm) (cwV 2 hg gM_48 rfl rfl rfl (by decide +kernel) ⟨Nat.le_of_ble_eq_true rfl, Nat.le_of_ble_eq_true rfl⟩) (gP_V hW (vS_m hm hS) (ci := 2) rfl (hP 0 _ rfl)) rfl rfl hl.1 rfl (lv_room (Nat.le_of_ble_eq_true rfl)) dM_get_22 ⟨Nat.le_of_ble_eq_true rfl, Nat.le_of_ble_eq_true rfl⟩) hS (fun q _ h => h) (fun q h => h) (fun r u t9 H1 locs1 ht hvm hp hB hz1 hk1 hS => ?_)
          subst hp
          rw [ht] at hB
          have hP : va_P Γ.1 gC (wM Γ A (0) (nI mn) (fof) (fke) (fst) (fnu) (fno) (fla) (fot)) H1 := hB
          have hD : va_D (mA Γ) (wM Γ A (0) (nI mn) (fof) (fke) (fst) (fnu) (fno) (fla) (fot)) := vD_map (by rfl) hD
          generalize H1 = H at hP hS ⊢
          clear hk1 hz1 ht hB
          refine lv_if_eq (tgt := 30) hx hb dM_get_25 (by decide) (fun c5 => ?_) (fun c5 => ?_)
          · refine lv_aload_n hx hb dM_get_30 rfl (lv_at hl 0 rfl) ?_
            refine lv_iload_n hx hb dM_get_31 rfl (lv_at hl 1 rfl) ?_
            refine lv_iload_n hx hb dM_get_32 rfl (lv_at hl 2 rfl) ?_
            refine vp_callSi (W.runV (As := [.int (nI tj), .int (nI kj)]) (rest := []) ⟨hx, hb, hml, hown, hg⟩ (c_M_wrote l Γ H (t := tj) (k := kj) hP hmn hMI htj) (cwV 2 hg gM_56 rfl rfl rfl (by decide +kernel) ⟨Nat.le_of_ble_eq_true rfl, Nat.le_of_ble_eq_true rfl⟩) (gP_V hW (vS_m hm hS) (ci := 2) rfl (hP 0 _ rfl)) rfl rfl hl.1 rfl (lv_room (Nat.le_of_ble_eq_true rfl)) dM_get_33 ⟨Nat.le_of_ble_eq_true rfl, Nat.le_of_ble_eq_true rfl⟩) (fun r2 hr2 => ?_)
            subst hr2
            have hwl := (wq_ok hmn hMI kj tj htj).1
            generalize hwq : wq fof fke tj kj = cc at hwl ⊢
            refine lv_istore_n (lv' := [(3, .int (nI cc)), (0, .ref (A 0)), (1, .int (nI tj)), (2, .int (nI kj))]) hx hb dM_get_36 rfl hl (by decide) rfl (fun ls hl => ?_)
            refine lv_aload_n hx hb dM_get_37 rfl (lv_at hl 1 rfl) ?_
            refine lv_iload_n hx hb dM_get_38 rfl (lv_at hl 0 rfl) ?_
            refine lv_if_eq (tgt := 51) hx hb dM_get_39 (by decide) (fun c6 => ?_) (fun c6 => ?_)
            · have h0 : cc = 0 := (nI_eq (by omega) (by omega)).mp (c6.trans nI_0.symm)
              refine lv_iconst (v := 1) hx hb dM_get_51 (by decide) ?_
              refine lv_goto (tgt := 56) hx hb dM_get_52 (by decide) ?_
              refine lv_iconst (v := 2) hx hb dM_get_56 (by decide) ?_
              refine va_calli (va_runV (As := [.int 1, .int 2]) (rest := []) ⟨hx, hb, hml, hown, hg⟩ (c_M_fails1 l Γ H hP hD hm) (cwV 2 hg gM_48 rfl rfl rfl (by decide +kernel) ⟨Nat.le_of_ble_eq_true rfl, Nat.le_of_ble_eq_true rfl⟩) (gP_V hW (vS_m hm hS) (ci := 2) rfl (hP 0 _ rfl)) rfl rfl hl.1 rfl (lv_room (Nat.le_of_ble_eq_true rfl)) dM_get_57 ⟨Nat.le_of_ble_eq_true rfl, Nat.le_of_ble_eq_true rfl⟩) hS (fun q _ h => h) (fun q h => h) (fun r u t9 H1 locs1 ht hvm hp hB hz1 hk1 hS => ?_)
              subst hp
              rw [ht] at hB
              have hP : va_P Γ.1 gC (wM Γ A (2) (nI mn) (fof) (fke) (fst) (fnu) (fno) (fla) (fot)) H1 := hB
              have hD : va_D (mA Γ) (wM Γ A (2) (nI mn) (fof) (fke) (fst) (fnu) (fno) (fla) (fot)) := vD_map (by rfl) hD
              generalize H1 = H at hP hS ⊢
              clear hk1 hz1 ht hB
              refine lv_if_eq (tgt := 67) hx hb dM_get_60 (by decide) (fun c7 => ?_) (fun c7 => ?_)
              · exact absurd c7 (by decide)
              · refine lv_lconst (v := 0) hx hb dM_get_63 (by decide) ?_
                refine lv_goto (tgt := 73) hx hb dM_get_64 (by decide) ?_
                exact W.lret (v := 0) hx hb hr (fun t8 ht8 hW9 => ⟨⟨0, 1, rfl, Or.inr (Or.inl ⟨rfl, ⟨tj, kj, htj, rfl, hkj, rfl, by simp [mV, hwq, h0]⟩, rfl⟩), by subst ht8; exact hP⟩, hS.F ht8⟩) (fun q hq => hS.2.2 q hq) dM_get_73
            · have h0 : ¬ cc = 0 := fun h => c6 (by rw [h]; exact nI_0)
              refine lv_aload_n hx hb dM_get_42 rfl (lv_at hl 1 rfl) ?_
              refine va_get (D := Γ.1) (ci := 2) (v := .ref (A 5)) (C := RM) (T := TM) (N := 9) hx hb hg inM hown hW.1 hP 0 rfl rfl 5 (by decide) (hg _ kw294) (fun _ h9 => h9) rfl dM_get_43 ?_
              refine lv_iload_n hx hb dM_get_46 rfl (lv_at hl 0 rfl) ?_
              refine va_zald (D := Γ.1) (cl := gC) (tys := gT Γ) hx hb hW.1 hP 5 3 rfl rfl (vp_in_nI (show cc < 400 by omega) (by omega)) dM_get_47 ?_
              rw [nI_clamp (show cc < 2 ^ 31 by omega)]
              refine lv_if_eq (tgt := 55) hx hb dM_get_48 (by decide) (fun c10 => ?_) (fun c10 => ?_)
              · refine lv_iconst (v := 0) hx hb dM_get_55 (by decide) ?_
                refine lv_iconst (v := 2) hx hb dM_get_56 (by decide) ?_
                refine va_calli (va_runV (As := [.int 0, .int 2]) (rest := []) ⟨hx, hb, hml, hown, hg⟩ (c_M_fails0 l Γ H hP hD hm) (cwV 2 hg gM_48 rfl rfl rfl (by decide +kernel) ⟨Nat.le_of_ble_eq_true rfl, Nat.le_of_ble_eq_true rfl⟩) (gP_V hW (vS_m hm hS) (ci := 2) rfl (hP 0 _ rfl)) rfl rfl hl.1 rfl (lv_room (Nat.le_of_ble_eq_true rfl)) dM_get_57 ⟨Nat.le_of_ble_eq_true rfl, Nat.le_of_ble_eq_true rfl⟩) hS (fun q _ h => h) (fun q h => h) (fun r u t9 H1 locs1 ht hvm hp hB hz1 hk1 hS => ?_)
                subst hp
                rw [ht] at hB
                have hP : va_P Γ.1 gC (wM Γ A (0) (nI mn) (fof) (fke) (fst) (fnu) (fno) (fla) (fot)) H1 := hB
                have hD : va_D (mA Γ) (wM Γ A (0) (nI mn) (fof) (fke) (fst) (fnu) (fno) (fla) (fot)) := vD_map (by rfl) hD
                generalize H1 = H at hP hS ⊢
                clear hk1 hz1 ht hB
                refine lv_if_eq (tgt := 67) hx hb dM_get_60 (by decide) (fun c7 => ?_) (fun c7 => ?_)
                · refine lv_aload_n hx hb dM_get_67 rfl (lv_at hl 1 rfl) ?_
                  refine va_get (D := Γ.1) (ci := 2) (v := .ref (A 4)) (C := RM) (T := TM) (N := 9) hx hb hg inM hown hW.1 hP 0 rfl rfl 4 (by decide) (hg _ kw293) (fun _ h9 => h9) rfl dM_get_68 ?_
                  refine lv_iload_n hx hb dM_get_71 rfl (lv_at hl 0 rfl) ?_
                  refine va_lald (D := Γ.1) (cl := gC) (tys := gT Γ) hx hb hW.1 hP 4 0 rfl rfl (vp_in_nI (show cc < 400 by omega) (by omega)) dM_get_72 ?_
                  rw [nI_clamp (show cc < 2 ^ 31 by omega)]
                  exact W.lret (v := fnu cc) hx hb hr (fun t8 ht8 hW9 => ⟨⟨fnu cc, 2, rfl, Or.inr (Or.inr ⟨rfl, tj, kj, htj, rfl, hkj, rfl, by simp [mV, hwq, h0, c10]⟩), by subst ht8; exact hP⟩, hS.F ht8⟩) (fun q hq => hS.2.2 q hq) dM_get_73
                · exact absurd rfl c7
              · refine lv_iconst (v := 1) hx hb dM_get_51 (by decide) ?_
                refine lv_goto (tgt := 56) hx hb dM_get_52 (by decide) ?_
                refine lv_iconst (v := 2) hx hb dM_get_56 (by decide) ?_
                refine va_calli (va_runV (As := [.int 1, .int 2]) (rest := []) ⟨hx, hb, hml, hown, hg⟩ (c_M_fails1 l Γ H hP hD hm) (cwV 2 hg gM_48 rfl rfl rfl (by decide +kernel) ⟨Nat.le_of_ble_eq_true rfl, Nat.le_of_ble_eq_true rfl⟩) (gP_V hW (vS_m hm hS) (ci := 2) rfl (hP 0 _ rfl)) rfl rfl hl.1 rfl (lv_room (Nat.le_of_ble_eq_true rfl)) dM_get_57 ⟨Nat.le_of_ble_eq_true rfl, Nat.le_of_ble_eq_true rfl⟩) hS (fun q _ h => h) (fun q h => h) (fun r u t9 H1 locs1 ht hvm hp hB hz1 hk1 hS => ?_)
                subst hp
                rw [ht] at hB
                have hP : va_P Γ.1 gC (wM Γ A (2) (nI mn) (fof) (fke) (fst) (fnu) (fno) (fla) (fot)) H1 := hB
                have hD : va_D (mA Γ) (wM Γ A (2) (nI mn) (fof) (fke) (fst) (fnu) (fno) (fla) (fot)) := vD_map (by rfl) hD
                generalize H1 = H at hP hS ⊢
                clear hk1 hz1 ht hB
                refine lv_if_eq (tgt := 67) hx hb dM_get_60 (by decide) (fun c7 => ?_) (fun c7 => ?_)
                · exact absurd c7 (by decide)
                · refine lv_lconst (v := 0) hx hb dM_get_63 (by decide) ?_
                  refine lv_goto (tgt := 73) hx hb dM_get_64 (by decide) ?_
                  exact W.lret (v := 0) hx hb hr (fun t8 ht8 hW9 => ⟨⟨0, 1, rfl, Or.inr (Or.inl ⟨rfl, ⟨tj, kj, htj, rfl, hkj, rfl, by simp [mV, hwq, c10]⟩, rfl⟩), by subst ht8; exact hP⟩, hS.F ht8⟩) (fun q hq => hS.2.2 q hq) dM_get_73
          · exact absurd rfl c5
        · exact absurd rfl c2
      · refine lv_if_eq (tgt := 20) hx hb dM_get_13 (by decide) (fun c8 => ?_) (fun c8 => ?_)
        · exact absurd c8 (by decide)
        · refine lv_iconst (v := 1) hx hb dM_get_16 (by decide) ?_
          refine lv_goto (tgt := 21) hx hb dM_get_17 (by decide) ?_
          refine lv_iconst (v := 1) hx hb dM_get_21 (by decide) ?_
          refine va_calli (va_runV (As := [.int 1, .int 1]) (rest := []) ⟨hx, hb, hml, hown, hg⟩ (c_M_fails1 l Γ s.heap hP hD hm) (cwV 2 hg gM_48 rfl rfl rfl (by decide +kernel) ⟨Nat.le_of_ble_eq_true rfl, Nat.le_of_ble_eq_true rfl⟩) (gP_V hW (vS_m hm hS) (ci := 2) rfl (hP 0 _ rfl)) rfl rfl hl.1 rfl (lv_room (Nat.le_of_ble_eq_true rfl)) dM_get_22 ⟨Nat.le_of_ble_eq_true rfl, Nat.le_of_ble_eq_true rfl⟩) hS (fun q _ h => h) (fun q h => h) (fun r u t9 H1 locs1 ht hvm hp hB hz1 hk1 hS => ?_)
          subst hp
          rw [ht] at hB
          have hP : va_P Γ.1 gC (wM Γ A (1) (nI mn) (fof) (fke) (fst) (fnu) (fno) (fla) (fot)) H1 := hB
          have hD : va_D (mA Γ) (wM Γ A (1) (nI mn) (fof) (fke) (fst) (fnu) (fno) (fla) (fot)) := vD_map (by rfl) hD
          generalize H1 = H at hP hS ⊢
          clear hk1 hz1 ht hB
          refine lv_if_eq (tgt := 30) hx hb dM_get_25 (by decide) (fun c9 => ?_) (fun c9 => ?_)
          · exact absurd c9 (by decide)
          · refine lv_lconst (v := 0) hx hb dM_get_28 (by decide) ?_
            exact W.lret (v := 0) hx hb hr (fun t8 ht8 hW9 => ⟨⟨0, 0, rfl, Or.inl ⟨rfl, fun h => h2 h.2, rfl⟩, by subst ht8; exact hP⟩, hS.F ht8⟩) (fun q hq => hS.2.2 q hq) dM_get_29
  · refine lv_if_ne (tgt := 16) hx hb dM_get_6 (by decide) (fun c8 => ?_) (fun c8 => ?_)
    · refine lv_iconst (v := 1) hx hb dM_get_16 (by decide) ?_
      refine lv_goto (tgt := 21) hx hb dM_get_17 (by decide) ?_
      refine lv_iconst (v := 1) hx hb dM_get_21 (by decide) ?_
      refine va_calli (va_runV (As := [.int 1, .int 1]) (rest := []) ⟨hx, hb, hml, hown, hg⟩ (c_M_fails1 l Γ s.heap hP hD hm) (cwV 2 hg gM_48 rfl rfl rfl (by decide +kernel) ⟨Nat.le_of_ble_eq_true rfl, Nat.le_of_ble_eq_true rfl⟩) (gP_V hW (vS_m hm hS) (ci := 2) rfl (hP 0 _ rfl)) rfl rfl hl.1 rfl (lv_room (Nat.le_of_ble_eq_true rfl)) dM_get_22 ⟨Nat.le_of_ble_eq_true rfl, Nat.le_of_ble_eq_true rfl⟩) hS (fun q _ h => h) (fun q h => h) (fun r u t9 H1 locs1 ht hvm hp hB hz1 hk1 hS => ?_)
      subst hp
      rw [ht] at hB
      have hP : va_P Γ.1 gC (wM Γ A (1) (nI mn) (fof) (fke) (fst) (fnu) (fno) (fla) (fot)) H1 := hB
      have hD : va_D (mA Γ) (wM Γ A (1) (nI mn) (fof) (fke) (fst) (fnu) (fno) (fla) (fot)) := vD_map (by rfl) hD
      generalize H1 = H at hP hS ⊢
      clear hk1 hz1 ht hB
      refine lv_if_eq (tgt := 30) hx hb dM_get_25 (by decide) (fun c9 => ?_) (fun c9 => ?_)
      · exact absurd c9 (by decide)
      · refine lv_lconst (v := 0) hx hb dM_get_28 (by decide) ?_
        exact W.lret (v := 0) hx hb hr (fun t8 ht8 hW9 => ⟨⟨0, 0, rfl, Or.inl ⟨rfl, fun h => h1 h.1, rfl⟩, by subst ht8; exact hP⟩, hS.F ht8⟩) (fun q hq => hS.2.2 q hq) dM_get_29
    · exact absurd c8 (by decide)
set_option maxHeartbeats 4000000 in
set_option maxRecDepth 100000 in
theorem c_M_stamp (l : Launch) (Γ : gE) (H : Heap) {A : Nat → Nat} {er : Int32} {mn : Nat} {fof fke fst fno fla fot : Nat → Int32} {fnu : Nat → Int64} {t k : Int32} (hP : va_P Γ.1 gC (wM Γ A (er) (nI mn) (fof) (fke) (fst) (fnu) (fno) (fla) (fot)) H) (hD : va_D (mA Γ) (wM Γ A (er) (nI mn) (fof) (fke) (fst) (fnu) (fno) (fla) (fot))) (hm : gz Γ ≤ gm0 Γ) (hmn : mn ≤ 400) (hMI : MI mn fof fke fst fno) : Met l yM_stamp wM_stamp ({ frames := 2, cells := 0, slots := 0, locals := 200 }) (gP Γ H [.ref (A 0), .int t, .int k]) (va_Qi (fun r (u : Nat) => (u = 0 ∧ ¬ (inT t mn ∧ inT k 1024) ∧ r = 0) ∨ (u = 2 ∧ ∃ tj kj, tj < mn ∧ t = nI tj ∧ kj < 1024 ∧ k = nI kj ∧ r = mSt fof fke fst tj kj)) (fun u t' => va_P Γ.1 gC (match u with | 0 => wM Γ A (1) (nI mn) (fof) (fke) (fst) (fnu) (fno) (fla) (fot) | 1 => wM Γ A (2) (nI mn) (fof) (fke) (fst) (fnu) (fno) (fla) (fot) | _ => wM Γ A (0) (nI mn) (fof) (fke) (fst) (fnu) (fno) (fla) (fot)) t'.heap) (mA Γ)) 0 0 (mA Γ) := by
  refine Met.ofW (cc := cM_stamp) (maxL := 4) (ret := (some .int)) (by decide) rfl ?_
  intro p e s m args below meth c s₁ B hml hv
  obtain ⟨rfl, rfl, hW⟩ := hv
  have hx := B.exec
  have hb := B.bytes
  have hr := B.returns
  have hg : ∀ w ∈ gW, w.before _ s = true := fun w h => atoms_spec (ws := wM_stamp) B.pre w (List.mem_cons_of_mem _ h)
  have hown : s.vm.findClass RM = some m.cls := findClass_of_methodNamed B.named
  have hlocks := B.notSynchronized
  have hS : va_S (gA Γ) s.heap s.heap [] := va_S.rf
  have hl := lv_entry ([.ref (A 0), .int t, .int k]) (n := 4) (Nat.le_of_ble_eq_true rfl)
  rw [lg_entry_eq]
  generalize (lg_sl ([.ref (A 0), .int t, .int k]) ++ List.replicate (4 - (lg_sl ([.ref (A 0), .int t, .int k])).length) Slot.unset).toArray = ls at hl ⊢
  have hl : lv_has ls 4 [(0, .ref (A 0)), (1, .int t), (2, .int k)] := hl
  have hS : va_S (mA Γ) s.heap s.heap [] := va_S.rf
  refine lv_aload_n hx hb dM_stamp_0 rfl (lv_at hl 0 rfl) ?_
  refine lv_aload_n hx hb dM_stamp_1 rfl (lv_at hl 0 rfl) ?_
  refine lv_iload_n hx hb dM_stamp_2 rfl (lv_at hl 1 rfl) ?_
  refine vp_callSi (W.runV (As := [.int t]) (rest := [.ref (A 0)]) ⟨hx, hb, hml, hown, hg⟩ (c_M_noTable l Γ s.heap (t := t) hP (by omega)) (cwV 1 hg gM_40 rfl rfl rfl (by decide +kernel) ⟨Nat.le_of_ble_eq_true rfl, Nat.le_of_ble_eq_true rfl⟩) (gP_V hW (vS_m hm hS) (ci := 2) rfl (hP 0 _ rfl)) rfl rfl hl.1 rfl (lv_room (Nat.le_of_ble_eq_true rfl)) dM_stamp_3 ⟨Nat.le_of_ble_eq_true rfl, Nat.le_of_ble_eq_true rfl⟩) (fun r1 hr1 => ?_)
  rcases hr1 with ⟨rfl, h1⟩ | ⟨rfl, h1⟩
  · refine lv_if_ne (tgt := 16) hx hb dM_stamp_6 (by decide) (fun c1 => ?_) (fun c1 => ?_)
    · exact absurd rfl c1
    · refine lv_iload_n hx hb dM_stamp_9 rfl (lv_at hl 2 rfl) ?_
      refine vp_callSi (W.runS (As := [.int k]) (rest := [.ref (A 0)]) ⟨hx, hb, hml, hown, hg⟩ (c_M_noKey l Γ s.heap (k := k)) (va_cwS 1 hg gM_44 rfl rfl rfl (by decide +kernel) ⟨Nat.le_of_ble_eq_true rfl, Nat.le_of_ble_eq_true rfl⟩) (gP_S hW (vS_m hm hS)) rfl rfl hl.1 rfl (lv_room (Nat.le_of_ble_eq_true rfl)) dM_stamp_10 ⟨Nat.le_of_ble_eq_true rfl, Nat.le_of_ble_eq_true rfl⟩) (fun r1 hr1 => ?_)
      rcases hr1 with ⟨rfl, h2⟩ | ⟨rfl, h2⟩
      · refine lv_if_eq (tgt := 20) hx hb dM_stamp_13 (by decide) (fun c2 => ?_) (fun c2 => ?_)
        · obtain ⟨tj, htj, rfl⟩ := h1
          obtain ⟨kj, hkj, rfl⟩ := h2
          refine lv_iconst (v := 0) hx hb dM_stamp_20 (by decide) ?_
          refine lv_iconst (v := 1) hx hb dM_stamp_21 (by decide) ?_
          refine va_calli (va_runV (As := [.int 0, .int 1]) (rest := []) ⟨hx, hb, hml, hown, hg⟩ (c_M_fails0 l Γ s.heap hP hD hm) (cwV 2 hg gM_48 rfl rfl rfl (by decide +kernel) ⟨Nat.le_of_ble_eq_true rfl, Nat.le_of_ble_eq_true rfl⟩) (gP_V hW (vS_m hm hS) (ci := 2) rfl (hP 0 _ rfl)) rfl rfl hl.1 rfl (lv_room (Nat.le_of_ble_eq_true rfl)) dM_stamp_22 ⟨Nat.le_of_ble_eq_true rfl, Nat.le_of_ble_eq_true rfl⟩) hS (fun q _ h => h) (fun q h => h) (fun r u t9 H1 locs1 ht hvm hp hB hz1 hk1 hS => ?_)
          subst hp
          rw [ht] at hB
          have hP : va_P Γ.1 gC (wM Γ A (0) (nI mn) (fof) (fke) (fst) (fnu) (fno) (fla) (fot)) H1 := hB
          have hD : va_D (mA Γ) (wM Γ A (0) (nI mn) (fof) (fke) (fst) (fnu) (fno) (fla) (fot)) := vD_map (by rfl) hD
          generalize H1 = H at hP hS ⊢
          clear hk1 hz1 ht hB
          refine lv_if_eq (tgt := 30) hx hb dM_stamp_25 (by decide) (fun c5 => ?_) (fun c5 => ?_)
          · refine lv_aload_n hx hb dM_stamp_30 rfl (lv_at hl 0 rfl) ?_
            refine lv_iload_n hx hb dM_stamp_31 rfl (lv_at hl 1 rfl) ?_
            refine lv_iload_n hx hb dM_stamp_32 rfl (lv_at hl 2 rfl) ?_
            refine vp_callSi (W.runV (As := [.int (nI tj), .int (nI kj)]) (rest := []) ⟨hx, hb, hml, hown, hg⟩ (c_M_wrote l Γ H (t := tj) (k := kj) hP hmn hMI htj) (cwV 2 hg gM_56 rfl rfl rfl (by decide +kernel) ⟨Nat.le_of_ble_eq_true rfl, Nat.le_of_ble_eq_true rfl⟩) (gP_V hW (vS_m hm hS) (ci := 2) rfl (hP 0 _ rfl)) rfl rfl hl.1 rfl (lv_room (Nat.le_of_ble_eq_true rfl)) dM_stamp_33 ⟨Nat.le_of_ble_eq_true rfl, Nat.le_of_ble_eq_true rfl⟩) (fun r2 hr2 => ?_)
            subst hr2
            have hwl := (wq_ok hmn hMI kj tj htj).1
            generalize hwq : wq fof fke tj kj = cc at hwl ⊢
            refine lv_istore_n (lv' := [(3, .int (nI cc)), (0, .ref (A 0)), (1, .int (nI tj)), (2, .int (nI kj))]) hx hb dM_stamp_36 rfl hl (by decide) rfl (fun ls hl => ?_)
            refine lv_iload_n hx hb dM_stamp_37 rfl (lv_at hl 0 rfl) ?_
            refine lv_if_ne (tgt := 45) hx hb dM_stamp_38 (by decide) (fun c6 => ?_) (fun c6 => ?_)
            · have h0 : ¬ cc = 0 := fun h => c6 (by rw [h]; exact nI_0)
              refine lv_aload_n hx hb dM_stamp_45 rfl (lv_at hl 1 rfl) ?_
              refine va_get (D := Γ.1) (ci := 2) (v := .ref (A 3)) (C := RM) (T := TM) (N := 9) hx hb hg inM hown hW.1 hP 0 rfl rfl 3 (by decide) (hg _ kw292) (fun _ h9 => h9) rfl dM_stamp_46 ?_
              refine lv_iload_n hx hb dM_stamp_49 rfl (lv_at hl 0 rfl) ?_
              refine va_iald (D := Γ.1) (cl := gC) (tys := gT Γ) hx hb hW.1 hP 3 2 rfl rfl (vp_in_nI (show cc < 400 by omega) (by omega)) dM_stamp_50 ?_
              rw [nI_clamp (show cc < 2 ^ 31 by omega)]
              exact W.iret (v := fst cc) hx hb hr (fun t8 ht8 hW9 => ⟨⟨fst cc, 2, rfl, Or.inr ⟨rfl, tj, kj, htj, rfl, hkj, rfl, by simp [mSt, hwq, h0]⟩, by subst ht8; exact hP⟩, hS.F ht8⟩) (fun q hq => hS.2.2 q hq) dM_stamp_51
            · have h0 : cc = 0 := (nI_eq (by omega) (by omega)).mp (c6.trans nI_0.symm)
              refine lv_iconst (v := (-1)) hx hb dM_stamp_41 (by decide) ?_
              refine lv_goto (tgt := 51) hx hb dM_stamp_42 (by decide) ?_
              exact W.iret (v := (-1)) hx hb hr (fun t8 ht8 hW9 => ⟨⟨(-1), 2, rfl, Or.inr ⟨rfl, tj, kj, htj, rfl, hkj, rfl, by simp [mSt, hwq, h0]⟩, by subst ht8; exact hP⟩, hS.F ht8⟩) (fun q hq => hS.2.2 q hq) dM_stamp_51
          · exact absurd rfl c5
        · exact absurd rfl c2
      · refine lv_if_eq (tgt := 20) hx hb dM_stamp_13 (by decide) (fun c8 => ?_) (fun c8 => ?_)
        · exact absurd c8 (by decide)
        · refine lv_iconst (v := 1) hx hb dM_stamp_16 (by decide) ?_
          refine lv_goto (tgt := 21) hx hb dM_stamp_17 (by decide) ?_
          refine lv_iconst (v := 1) hx hb dM_stamp_21 (by decide) ?_
          refine va_calli (va_runV (As := [.int 1, .int 1]) (rest := []) ⟨hx, hb, hml, hown, hg⟩ (c_M_fails1 l Γ s.heap hP hD hm) (cwV 2 hg gM_48 rfl rfl rfl (by decide +kernel) ⟨Nat.le_of_ble_eq_true rfl, Nat.le_of_ble_eq_true rfl⟩) (gP_V hW (vS_m hm hS) (ci := 2) rfl (hP 0 _ rfl)) rfl rfl hl.1 rfl (lv_room (Nat.le_of_ble_eq_true rfl)) dM_stamp_22 ⟨Nat.le_of_ble_eq_true rfl, Nat.le_of_ble_eq_true rfl⟩) hS (fun q _ h => h) (fun q h => h) (fun r u t9 H1 locs1 ht hvm hp hB hz1 hk1 hS => ?_)
          subst hp
          rw [ht] at hB
          have hP : va_P Γ.1 gC (wM Γ A (1) (nI mn) (fof) (fke) (fst) (fnu) (fno) (fla) (fot)) H1 := hB
          have hD : va_D (mA Γ) (wM Γ A (1) (nI mn) (fof) (fke) (fst) (fnu) (fno) (fla) (fot)) := vD_map (by rfl) hD
          generalize H1 = H at hP hS ⊢
          clear hk1 hz1 ht hB
          refine lv_if_eq (tgt := 30) hx hb dM_stamp_25 (by decide) (fun c9 => ?_) (fun c9 => ?_)
          · exact absurd c9 (by decide)
          · refine lv_iconst (v := 0) hx hb dM_stamp_28 (by decide) ?_
            exact W.iret (v := 0) hx hb hr (fun t8 ht8 hW9 => ⟨⟨0, 0, rfl, Or.inl ⟨rfl, fun h => h2 h.2, rfl⟩, by subst ht8; exact hP⟩, hS.F ht8⟩) (fun q hq => hS.2.2 q hq) dM_stamp_29
  · refine lv_if_ne (tgt := 16) hx hb dM_stamp_6 (by decide) (fun c8 => ?_) (fun c8 => ?_)
    · refine lv_iconst (v := 1) hx hb dM_stamp_16 (by decide) ?_
      refine lv_goto (tgt := 21) hx hb dM_stamp_17 (by decide) ?_
      refine lv_iconst (v := 1) hx hb dM_stamp_21 (by decide) ?_
      refine va_calli (va_runV (As := [.int 1, .int 1]) (rest := []) ⟨hx, hb, hml, hown, hg⟩ (c_M_fails1 l Γ s.heap hP hD hm) (cwV 2 hg gM_48 rfl rfl rfl (by decide +kernel) ⟨Nat.le_of_ble_eq_true rfl, Nat.le_of_ble_eq_true rfl⟩) (gP_V hW (vS_m hm hS) (ci := 2) rfl (hP 0 _ rfl)) rfl rfl hl.1 rfl (lv_room (Nat.le_of_ble_eq_true rfl)) dM_stamp_22 ⟨Nat.le_of_ble_eq_true rfl, Nat.le_of_ble_eq_true rfl⟩) hS (fun q _ h => h) (fun q h => h) (fun r u t9 H1 locs1 ht hvm hp hB hz1 hk1 hS => ?_)
      subst hp
      rw [ht] at hB
      have hP : va_P Γ.1 gC (wM Γ A (1) (nI mn) (fof) (fke) (fst) (fnu) (fno) (fla) (fot)) H1 := hB
      have hD : va_D (mA Γ) (wM Γ A (1) (nI mn) (fof) (fke) (fst) (fnu) (fno) (fla) (fot)) := vD_map (by rfl) hD
      generalize H1 = H at hP hS ⊢
      clear hk1 hz1 ht hB
      refine lv_if_eq (tgt := 30) hx hb dM_stamp_25 (by decide) (fun c9 => ?_) (fun c9 => ?_)
      · exact absurd c9 (by decide)
      · refine lv_iconst (v := 0) hx hb dM_stamp_28 (by decide) ?_
        exact W.iret (v := 0) hx hb hr (fun t8 ht8 hW9 => ⟨⟨0, 0, rfl, Or.inl ⟨rfl, fun h => h1 h.1, rfl⟩, by subst ht8; exact hP⟩, hS.F ht8⟩) (fun q hq => hS.2.2 q hq) dM_stamp_29
    · exact absurd c8 (by decide)
