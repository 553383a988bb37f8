/-! the reference: at, differ, its constructor -/
set_option maxHeartbeats 4000000 in
set_option maxRecDepth 100000 in
theorem c_M_at (l : Launch) (Γ : gE) (H : Heap) {A : Nat → Nat} {er : Int32} {mn : Nat} {fof fke fst fno fla fot : Nat → Int32} {fnu : Nat → Int64} {t n : Int32} (hP : va_P Γ.1 gC (wM Γ A (er) (nI mn) (fof) (fke) (fst) (fnu) (fno) (fla) (fot)) H) (hD : va_D (mA Γ) (wM Γ A (er) (nI mn) (fof) (fke) (fst) (fnu) (fno) (fla) (fot))) (hm : gz Γ ≤ gm0 Γ) (hmn : mn ≤ 400) (hMI : MI mn fof fke fst fno) : Met l yM_at wM_at ({ frames := 2, cells := 0, slots := 0, locals := 200 }) (gP Γ H [.ref (A 0), .int t, .int n]) (va_Qi (fun r (u : Nat) => (u = 0 ∧ ¬ inT t mn ∧ r = 0) ∨ (u = 1 ∧ (∃ tj, tj < mn ∧ t = nI tj ∧ ¬ inT n (cnt (mV fof fke fnu fno tj) 0 1024)) ∧ r = 0) ∨ (u = 2 ∧ ∃ tj K, tj < mn ∧ t = nI tj ∧ K < 1024 ∧ r = nI K ∧ ((mV fof fke fnu fno tj) K).isSome = true ∧ n = nI (cnt (mV fof fke fnu fno tj) 0 K))) (fun u t' => ∃ fla' fot', va_P Γ.1 gC (wM Γ A (match u with | 0 => 1 | 1 => 2 | _ => 0) (nI mn) fof fke fst fnu fno fla' fot') t'.heap) (mA Γ)) 0 0 (mA Γ) := by
  refine Met.ofW (cc := cM_at) (maxL := 5) (ret := (some .int)) (by decide) rfl ?_
  intro p e s m args below meth c s₁ B hml hv
  obtain ⟨rfl, rfl, hW⟩ := hv
  have hx := B.exec
  have hb := B.bytes
  have hr := B.returns
  have hg : ∀ w ∈ gW, w.before _ s = true := fun w h => atoms_spec (ws := wM_at) B.pre w (List.mem_cons_of_mem _ h)
  have hown : s.vm.findClass RM = some m.cls := findClass_of_methodNamed B.named
  have hlocks := B.notSynchronized
  have hS : va_S (gA Γ) s.heap s.heap [] := va_S.rf
  have hl := lv_entry ([.ref (A 0), .int t, .int n]) (n := 5) (Nat.le_of_ble_eq_true rfl)
  rw [lg_entry_eq]
  generalize (lg_sl ([.ref (A 0), .int t, .int n]) ++ List.replicate (5 - (lg_sl ([.ref (A 0), .int t, .int n])).length) Slot.unset).toArray = ls at hl ⊢
  have hl : lv_has ls 5 [(0, .ref (A 0)), (1, .int t), (2, .int n)] := hl
  have hS : va_S (mA Γ) s.heap s.heap [] := va_S.rf
  refine lv_aload_n hx hb dM_at_0 rfl (lv_at hl 0 rfl) ?_
  refine lv_aload_n hx hb dM_at_1 rfl (lv_at hl 0 rfl) ?_
  refine lv_iload_n hx hb dM_at_2 rfl (lv_at hl 1 rfl) ?_
  refine vp_callSi (W.runV (As := [.int t]) (rest := [.ref (A 0)]) ⟨hx, hb, hml, hown, hg⟩ (c_M_noTable l Γ s.heap (t := t) hP (by omega)) (cwV 1 hg gM_40 rfl rfl rfl (by decide +kernel) ⟨Nat.le_of_ble_eq_true rfl, Nat.le_of_ble_eq_true rfl⟩) (gP_V hW (vS_m hm hS) (ci := 2) rfl (hP 0 _ rfl)) rfl rfl hl.1 rfl (lv_room (Nat.le_of_ble_eq_true rfl)) dM_at_3 ⟨Nat.le_of_ble_eq_true rfl, Nat.le_of_ble_eq_true rfl⟩) (fun r1 hr1 => ?_)
  rcases hr1 with ⟨rfl, h1⟩ | ⟨rfl, h1⟩
  · refine lv_iconst (v := 1) hx hb dM_at_6 (by decide) ?_
    refine va_calli (va_runV (As := [.int 0, .int 1]) (rest := []) ⟨hx, hb, hml, hown, hg⟩ (c_M_fails0 l Γ s.heap hP hD hm) (cwV 2 hg gM_48 rfl rfl rfl (by decide +kernel) ⟨Nat.le_of_ble_eq_true rfl, Nat.le_of_ble_eq_true rfl⟩) (gP_V hW (vS_m hm hS) (ci := 2) rfl (hP 0 _ rfl)) rfl rfl hl.1 rfl (lv_room (Nat.le_of_ble_eq_true rfl)) dM_at_7 ⟨Nat.le_of_ble_eq_true rfl, Nat.le_of_ble_eq_true rfl⟩) hS (fun q _ h => h) (fun q h => h) (fun r u t9 H1 locs1 ht hvm hp hB hz1 hk1 hS => ?_)
    subst hp
    rw [ht] at hB
    have hP : va_P Γ.1 gC (wM Γ A (0) (nI mn) (fof) (fke) (fst) (fnu) (fno) (fla) (fot)) H1 := hB
    have hD : va_D (mA Γ) (wM Γ A (0) (nI mn) (fof) (fke) (fst) (fnu) (fno) (fla) (fot)) := vD_map (by rfl) hD
    generalize H1 = H at hP hS ⊢
    clear hk1 hz1 ht hB
    refine lv_if_eq (tgt := 15) hx hb dM_at_10 (by decide) (fun c1 => ?_) (fun c1 => ?_)
    · obtain ⟨tj, htj, rfl⟩ := h1
      refine lv_aload_n hx hb dM_at_15 rfl (lv_at hl 0 rfl) ?_
      refine lv_iload_n hx hb dM_at_16 rfl (lv_at hl 1 rfl) ?_
      refine lv_aload_n hx hb dM_at_17 rfl (lv_at hl 0 rfl) ?_
      refine va_get (D := Γ.1) (ci := 2) (v := .ref (A 6)) (C := RM) (T := TM) (N := 9) hx hb hg inM hown hW.1 hP 0 rfl rfl 6 (by decide) (hg _ kw295) (fun _ h9 => h9) rfl dM_at_18 ?_
      refine va_callv (va_runV (As := [.int (nI tj), .ref (A 6)]) (rest := []) ⟨hx, hb, hml, hown, hg⟩ (c_M_whole6 l Γ H (t := tj) hP hD hm hmn hMI htj) (cwV 2 hg gM_60 rfl rfl rfl (by decide +kernel) ⟨Nat.le_of_ble_eq_true rfl, Nat.le_of_ble_eq_true rfl⟩) (gP_V hW (vS_m hm hS) (ci := 2) rfl (hP 0 _ rfl)) rfl rfl hl.1 rfl (lv_room (Nat.le_of_ble_eq_true rfl)) dM_at_21 ⟨Nat.le_of_ble_eq_true rfl, Nat.le_of_ble_eq_true rfl⟩) hS (fun q _ h => h) (fun q h => h) (fun u t9 H1 locs1 ht hvm hp hB hz1 hk1 hS => ?_)
      rw [ht] at hB
      have hP : va_P Γ.1 gC (wM Γ A (0) (nI mn) (fof) (fke) (fst) (fnu) (fno) (u) (fot)) H1 := hB
      have hD : va_D (mA Γ) (wM Γ A (0) (nI mn) (fof) (fke) (fst) (fnu) (fno) (u) (fot)) := vD_map (by rfl) hD
      generalize H1 = H at hP hS ⊢
      clear hk1 hz1 ht hB
      have hg6 : ∀ k, k < 1024 → u k = nI (wq fof fke tj k) := hp
      generalize u = g6 at hg6 hP hD
      refine lv_iload_n hx hb dM_at_24 rfl (lv_at hl 2 rfl) ?_
      refine lv_istore_n (lv' := [(3, .int n), (0, .ref (A 0)), (1, .int (nI tj)), (2, .int n)]) hx hb dM_at_25 rfl hl (by decide) rfl (fun ls hl => ?_)
      refine lv_iconst (v := 0) hx hb dM_at_26 (by decide) ?_
      refine lv_istore (lv' := [(4, .int 0), (3, .int n), (0, .ref (A 0)), (1, .int (nI tj)), (2, .int n)]) hx hb dM_at_27 hl (by decide) rfl (fun ls hl => ?_)
      by_cases hn0 : n < 0
      · refine lv_iload hx hb dM_at_29 (lv_at hl 0 rfl) ?_
        refine lv_sipush (v := 1024) hx hb dM_at_31 (by decide) ?_
        refine lv_icmp_ge (tgt := 76) hx hb dM_at_34 (by decide) (fun d1 => ?_) (fun d1 => ?_)
        · exact absurd d1 (by decide)
        · refine lv_iload_n hx hb dM_at_37 rfl (lv_at hl 4 rfl) ?_
          refine lv_if_lt (tgt := 76) hx hb dM_at_38 (by decide) (fun d2 => ?_) (fun d2 => ?_)
          · refine lv_aload_n hx hb dM_at_76 rfl (lv_at hl 2 rfl) ?_
            refine lv_iconst (v := 1) hx hb dM_at_77 (by decide) ?_
            refine lv_iconst (v := 2) hx hb dM_at_78 (by decide) ?_
            refine va_calli (va_runV (As := [.int 1, .int 2]) (rest := []) ⟨hx, hb, hml, hown, hg⟩ (c_M_fails1 l Γ H hP hD hm) (cwV 2 hg gM_48 rfl rfl rfl (by decide +kernel) ⟨Nat.le_of_ble_eq_true rfl, Nat.le_of_ble_eq_true rfl⟩) (gP_V hW (vS_m hm hS) (ci := 2) rfl (hP 0 _ rfl)) rfl rfl hl.1 rfl (lv_room (Nat.le_of_ble_eq_true rfl)) dM_at_79 ⟨Nat.le_of_ble_eq_true rfl, Nat.le_of_ble_eq_true rfl⟩) hS (fun q _ h => h) (fun q h => h) (fun r u t9 H1 locs1 ht hvm hp hB hz1 hk1 hS => ?_)
            subst hp
            rw [ht] at hB
            have hP : va_P Γ.1 gC (wM Γ A (2) (nI mn) (fof) (fke) (fst) (fnu) (fno) (g6) (fot)) H1 := hB
            have hD : va_D (mA Γ) (wM Γ A (2) (nI mn) (fof) (fke) (fst) (fnu) (fno) (g6) (fot)) := vD_map (by rfl) hD
            generalize H1 = H at hP hS ⊢
            clear hk1 hz1 ht hB
            refine lv_pop hx hb dM_at_82 rfl ?_
            refine lv_iconst (v := 0) hx hb dM_at_83 (by decide) ?_
            exact W.iret (v := 0) hx hb hr (fun t8 ht8 hW9 => ⟨⟨0, 1, rfl, Or.inr (Or.inl ⟨rfl, ⟨tj, htj, rfl, (inT_no (by have := cnt_le (mV fof fke fnu fno tj) 0 1024; omega)).mpr (Or.inl hn0)⟩, rfl⟩), ⟨_, _, by subst ht8; exact hP⟩⟩, hS.F ht8⟩) (fun q hq => hS.2.2 q hq) dM_at_84
          · exact absurd hn0 d2
      · obtain ⟨n0, hn9, rfl⟩ := nI_of hn0
        have key : ∀ (q i : Nat) (ls : Array Slot), i + q = 1024 → cnt (mV fof fke fnu fno tj) 0 i ≤ n0 → lv_has ls 5 [(4, .int (nI i)), (3, .int (nI (n0 - cnt (mV fof fke fnu fno tj) 0 i))), (0, .ref (A 0)), (1, .int (nI tj)), (2, .int (nI n0))] → W p l e (headSpec wM_at ({ frames := 2, cells := 0, slots := 0, locals := 200 })).room s m [.ref (A 0), .int (nI tj), .int (nI n0)].toArray below meth c H locs1 0 0 (MQ below (va_Qi (fun r (u : Nat) => (u = 0 ∧ ¬ inT (nI tj) mn ∧ r = 0) ∨ (u = 1 ∧ (∃ tj_1, tj_1 < mn ∧ nI tj = nI tj_1 ∧ ¬ inT (nI n0) (cnt (mV fof fke fnu fno tj_1) 0 1024)) ∧ r = 0) ∨ (u = 2 ∧ ∃ tj_1 K, tj_1 < mn ∧ nI tj = nI tj_1 ∧ K < 1024 ∧ r = nI K ∧ ((mV fof fke fnu fno tj_1) K).isSome = true ∧ nI n0 = nI (cnt (mV fof fke fnu fno tj_1) 0 K))) (fun u t' => ∃ fla' fot', va_P Γ.1 gC (wM Γ A (match u with | 0 => 1 | 1 => 2 | _ => 0) (nI mn) fof fke fst fnu fno fla' fot') t'.heap) (mA Γ)) [.ref (A 0), .int (nI tj), .int (nI n0)].toArray s 0 0 (mA Γ)) (F0 m 29 ls []) := by
          intro q
          induction q with
          | zero =>
            intro i ls hi hc hl
            refine lv_iload hx hb dM_at_29 (lv_at hl 0 rfl) ?_
            refine lv_sipush (v := 1024) hx hb dM_at_31 (by decide) ?_
            refine lv_icmp_ge (tgt := 76) hx hb dM_at_34 (by decide) (fun d1 => ?_) (fun d1 => ?_)
            · have e9 : i = 1024 := by omega
              refine lv_aload_n hx hb dM_at_76 rfl (lv_at hl 2 rfl) ?_
              refine lv_iconst (v := 1) hx hb dM_at_77 (by decide) ?_
              refine lv_iconst (v := 2) hx hb dM_at_78 (by decide) ?_
              refine va_calli (va_runV (As := [.int 1, .int 2]) (rest := []) ⟨hx, hb, hml, hown, hg⟩ (c_M_fails1 l Γ H hP hD hm) (cwV 2 hg gM_48 rfl rfl rfl (by decide +kernel) ⟨Nat.le_of_ble_eq_true rfl, Nat.le_of_ble_eq_true rfl⟩) (gP_V hW (vS_m hm hS) (ci := 2) rfl (hP 0 _ rfl)) rfl rfl hl.1 rfl (lv_room (Nat.le_of_ble_eq_true rfl)) dM_at_79 ⟨Nat.le_of_ble_eq_true rfl, Nat.le_of_ble_eq_true rfl⟩) hS (fun q _ h => h) (fun q h => h) (fun r u t9 H1 locs1 ht hvm hp hB hz1 hk1 hS => ?_)
              subst hp
              rw [ht] at hB
              have hP : va_P Γ.1 gC (wM Γ A (2) (nI mn) (fof) (fke) (fst) (fnu) (fno) (g6) (fot)) H1 := hB
              have hD : va_D (mA Γ) (wM Γ A (2) (nI mn) (fof) (fke) (fst) (fnu) (fno) (g6) (fot)) := vD_map (by rfl) hD
              generalize H1 = H at hP hS ⊢
              clear hk1 hz1 ht hB
              refine lv_pop hx hb dM_at_82 rfl ?_
              refine lv_iconst (v := 0) hx hb dM_at_83 (by decide) ?_
              exact W.iret (v := 0) hx hb hr (fun t8 ht8 hW9 => ⟨⟨0, 1, rfl, Or.inr (Or.inl ⟨rfl, ⟨tj, htj, rfl, fun h => by obtain ⟨j, hj, ej⟩ := h; have h8 := (nI_eq (by omega) (by have := cnt_le (mV fof fke fnu fno tj) 0 1024; omega)).mp ej; rw [e9] at hc; omega⟩, rfl⟩), ⟨_, _, by subst ht8; exact hP⟩⟩, hS.F ht8⟩) (fun q hq => hS.2.2 q hq) dM_at_84
            · exact absurd (show (1024 : Int32) ≤ nI i from nI_le (a := 1024) (by omega) (by omega)) d1
          | succ q ih =>
            intro i ls hi hc hl
            have hwl := (wq_ok hmn hMI i tj htj).1
            obtain ⟨cc, hcc⟩ : ∃ cc, wq fof fke tj i = cc := ⟨_, rfl⟩
            rw [hcc] at hwl
            refine lv_iload hx hb dM_at_29 (lv_at hl 0 rfl) ?_
            refine lv_sipush (v := 1024) hx hb dM_at_31 (by decide) ?_
            refine lv_icmp_ge (tgt := 76) hx hb dM_at_34 (by decide) (fun d1 => ?_) (fun d1 => ?_)
            · exact absurd d1 (nI_ge (a := i) (b := 1024) (by omega) (by omega))
            · refine lv_iload_n hx hb dM_at_37 rfl (lv_at hl 4 rfl) ?_
              refine lv_if_lt (tgt := 76) hx hb dM_at_38 (by decide) (fun d2 => ?_) (fun d2 => ?_)
              · exact absurd d2 hn0
              · refine lv_aload_n hx hb dM_at_41 rfl (lv_at hl 2 rfl) ?_
                refine lv_aload_n hx hb dM_at_42 rfl (lv_at hl 2 rfl) ?_
                refine va_get (D := Γ.1) (ci := 2) (v := .ref (A 6)) (C := RM) (T := TM) (N := 9) hx hb hg inM hown hW.1 hP 0 rfl rfl 6 (by decide) (hg _ kw295) (fun _ h9 => h9) rfl dM_at_43 ?_
                refine lv_iload hx hb dM_at_46 (lv_at hl 0 rfl) ?_
                refine va_iald (D := Γ.1) (cl := gC) (tys := gT Γ) hx hb hW.1 hP 6 2 rfl rfl (vp_in_nI (show i < 1024 by omega) (by omega)) dM_at_48 ?_
                rw [nI_clamp (show i < 2 ^ 31 by omega)]
                rw [hg6 _ (by omega), hcc]
                refine vp_callSi (W.runV (As := [.int (nI cc)]) (rest := []) ⟨hx, hb, hml, hown, hg⟩ (c_M_has l Γ H (ci := cc) hP (by omega)) (cwV 1 hg gM_64 rfl rfl rfl (by decide +kernel) ⟨Nat.le_of_ble_eq_true rfl, Nat.le_of_ble_eq_true rfl⟩) (gP_V hW (vS_m hm hS) (ci := 2) rfl (hP 0 _ rfl)) rfl rfl hl.1 rfl (lv_room (Nat.le_of_ble_eq_true rfl)) dM_at_49 ⟨Nat.le_of_ble_eq_true rfl, Nat.le_of_ble_eq_true rfl⟩) (fun x1 hx1 => ?_)
                by_cases hb9 : cc ≠ 0 ∧ fno cc = 0
                · rw [if_pos hb9] at hx1
                  subst hx1
                  have hVk := mV_val (fnu := fnu) hcc hb9.1 hb9.2
                  have ec : cnt (mV fof fke fnu fno tj) 0 (i + 1) = cnt (mV fof fke fnu fno tj) 0 i + 1 := by simp [cnt, hVk]
                  refine lv_if_eq (tgt := 70) hx hb dM_at_52 (by decide) (fun c10 => ?_) (fun c10 => ?_)
                  · exact absurd c10 (by decide)
                  · refine lv_iload_n hx hb dM_at_55 rfl (lv_at hl 1 rfl) ?_
                    obtain ⟨lf, elf⟩ : ∃ y : Int32, y = (nI (n0 - cnt (mV fof fke fnu fno tj) 0 i)) + Int32.ofInt (-1) := ⟨_, rfl⟩
                    refine lv_iinc (v := lf) (lv' := [(3, .int lf), (4, .int (nI i)), (0, .ref (A 0)), (1, .int (nI tj)), (2, .int (nI n0))]) hx hb dM_at_56 hl (k := 1) rfl elf.symm (by decide) rfl (fun ls hl => ?_)
                    refine lv_if_ne (tgt := 70) hx hb dM_at_59 (by decide) (fun d3 => ?_) (fun d3 => ?_)
                    · have hlt : cnt (mV fof fke fnu fno tj) 0 i < n0 := by
                        rcases Nat.lt_or_ge (cnt (mV fof fke fnu fno tj) 0 i) n0 with h | h
                        · exact h
                        · exact absurd (by rw [show n0 - cnt (mV fof fke fnu fno tj) 0 i = 0 by omega]; rfl) d3
                      have elf9 : lf = nI (n0 - cnt (mV fof fke fnu fno tj) 0 (i + 1)) := by rw [elf, ec, show n0 - cnt (mV fof fke fnu fno tj) 0 i = (n0 - (cnt (mV fof fke fnu fno tj) 0 i + 1)) + 1 by omega]; exact pk_m1 _
                      rw [elf9] at hl
                      refine lv_iinc (v := nI (i + 1)) (lv' := [(4, .int (nI (i + 1))), (3, .int (nI (n0 - cnt (mV fof fke fnu fno tj) 0 (i + 1)))), (0, .ref (A 0)), (1, .int (nI tj)), (2, .int (nI n0))]) hx hb dM_at_70 hl (k := 1) rfl (nI_1 i) (by decide) rfl (fun ls hl => ?_)
                      refine lv_goto (tgt := 29) hx hb dM_at_73 (by decide) ?_
                      exact ih (i + 1) ls (by omega) (by omega) (lv_sub hl [0, 1, 2, 3, 4] rfl)
                    · have e9 : n0 = cnt (mV fof fke fnu fno tj) 0 i := by have h8 := (nI_eq (a := n0 - cnt (mV fof fke fnu fno tj) 0 i) (b := 0) (by omega) (by omega)).mp (d3.trans nI_0.symm); omega
                      refine lv_aload_n hx hb dM_at_62 rfl (lv_at hl 2 rfl) ?_
                      refine lv_iconst (v := 0) hx hb dM_at_63 (by decide) ?_
                      refine va_put (D := Γ.1) (ci := 2) (v := .int (0)) (ty := .int) (C := RM) (T := TM) (N := 9) hx hb hg inM tyM tyM_ok nmM hown hW.1 hP hD hS 0 rfl rfl 0 (by decide) (hg _ kw289) (fun _ h9 => h9) rfl (by decide +kernel) rfl rfl (Nat.le_of_ble_eq_true rfl) dM_at_64 (fun H locs hP hD hS => ?_)
                      have hP : va_P Γ.1 gC (wM Γ A (0) (nI mn) (fof) (fke) (fst) (fnu) (fno) (g6) (fot)) H := hP
                      have hD : va_D (mA Γ) (wM Γ A (0) (nI mn) (fof) (fke) (fst) (fnu) (fno) (g6) (fot)) := hD
                      refine lv_iload hx hb dM_at_67 (lv_at hl 1 rfl) ?_
                      exact W.iret (v := nI i) hx hb hr (fun t8 ht8 hW9 => ⟨⟨nI i, 2, rfl, Or.inr (Or.inr ⟨rfl, tj, i, htj, rfl, by omega, rfl, by rw [hVk]; rfl, by rw [← e9]⟩), ⟨_, _, by subst ht8; exact hP⟩⟩, hS.F ht8⟩) (fun q hq => hS.2.2 q hq) dM_at_69
                · rw [if_neg hb9] at hx1
                  subst hx1
                  have hVk := mV_no (fnu := fnu) hcc hb9
                  have ec : cnt (mV fof fke fnu fno tj) 0 (i + 1) = cnt (mV fof fke fnu fno tj) 0 i := by simp [cnt, hVk]
                  refine lv_if_eq (tgt := 70) hx hb dM_at_52 (by decide) (fun c10 => ?_) (fun c10 => ?_)
                  · refine lv_iinc (v := nI (i + 1)) (lv' := [(4, .int (nI (i + 1))), (3, .int (nI (n0 - cnt (mV fof fke fnu fno tj) 0 i))), (0, .ref (A 0)), (1, .int (nI tj)), (2, .int (nI n0))]) hx hb dM_at_70 hl (k := 0) rfl (nI_1 i) (by decide) rfl (fun ls hl => ?_)
                    refine lv_goto (tgt := 29) hx hb dM_at_73 (by decide) ?_
                    exact ih (i + 1) ls (by omega) (by omega) (by rw [ec]; exact lv_sub hl [0, 1, 2, 3, 4] rfl)
                  · exact absurd rfl c10
        exact key 1024 0 ls rfl (Nat.zero_le _) (lv_sub hl [0, 1, 2, 3, 4] rfl)
    · exact absurd rfl c1
  · refine lv_iconst (v := 1) hx hb dM_at_6 (by decide) ?_
    refine va_calli (va_runV (As := [.int 1, .int 1]) (rest := []) ⟨hx, hb, hml, hown, hg⟩ (c_M_fails1 l Γ s.heap hP hD hm) (cwV 2 hg gM_48 rfl rfl rfl (by decide +kernel) ⟨Nat.le_of_ble_eq_true rfl, Nat.le_of_ble_eq_true rfl⟩) (gP_V hW (vS_m hm hS) (ci := 2) rfl (hP 0 _ rfl)) rfl rfl hl.1 rfl (lv_room (Nat.le_of_ble_eq_true rfl)) dM_at_7 ⟨Nat.le_of_ble_eq_true rfl, Nat.le_of_ble_eq_true rfl⟩) hS (fun q _ h => h) (fun q h => h) (fun r u t9 H1 locs1 ht hvm hp hB hz1 hk1 hS => ?_)
    subst hp
    rw [ht] at hB
    have hP : va_P Γ.1 gC (wM Γ A (1) (nI mn) (fof) (fke) (fst) (fnu) (fno) (fla) (fot)) H1 := hB
    have hD : va_D (mA Γ) (wM Γ A (1) (nI mn) (fof) (fke) (fst) (fnu) (fno) (fla) (fot)) := vD_map (by rfl) hD
    generalize H1 = H at hP hS ⊢
    clear hk1 hz1 ht hB
    refine lv_if_eq (tgt := 15) hx hb dM_at_10 (by decide) (fun c9 => ?_) (fun c9 => ?_)
    · exact absurd c9 (by decide)
    · refine lv_iconst (v := 0) hx hb dM_at_13 (by decide) ?_
      exact W.iret (v := 0) hx hb hr (fun t8 ht8 hW9 => ⟨⟨0, 0, rfl, Or.inl ⟨rfl, h1, rfl⟩, ⟨_, _, by subst ht8; exact hP⟩⟩, hS.F ht8⟩) (fun q hq => hS.2.2 q hq) dM_at_14
set_option maxHeartbeats 4000000 in
set_option maxRecDepth 100000 in
theorem c_M_differ (l : Launch) (Γ : gE) (H : Heap) {A : Nat → Nat} {er : Int32} {mn : Nat} {fof fke fst fno fla fot : Nat → Int32} {fnu : Nat → Int64} {a b : Int32} (hP : va_P Γ.1 gC (wM Γ A (er) (nI mn) (fof) (fke) (fst) (fnu) (fno) (fla) (fot)) H) (hD : va_D (mA Γ) (wM Γ A (er) (nI mn) (fof) (fke) (fst) (fnu) (fno) (fla) (fot))) (hm : gz Γ ≤ gm0 Γ) (hmn : mn ≤ 400) (hMI : MI mn fof fke fst fno) : Met l yM_differ wM_differ ({ frames := 2, cells := 0, slots := 0, locals := 200 }) (gP Γ H [.ref (A 0), .int a, .int b]) (va_Qi (fun r (u : Nat) => (u = 0 ∧ ¬ (inT a mn ∧ inT b mn) ∧ r = 0) ∨ (u = 2 ∧ ∃ aj bj, aj < mn ∧ a = nI aj ∧ bj < mn ∧ b = nI bj ∧ r = nI (dcn (mV fof fke fnu fno aj) (mV fof fke fnu fno bj) 0 1024))) (fun u t' => ∃ fla' fot', va_P Γ.1 gC (wM Γ A (match u with | 0 => 1 | 1 => 2 | _ => 0) (nI mn) fof fke fst fnu fno fla' fot') t'.heap) (mA Γ)) 0 0 (mA Γ) := by
  refine Met.ofW (cc := cM_differ) (maxL := 7) (ret := (some .int)) (by decide) rfl ?_
  intro p e s m args below meth c s₁ B hml hv
  obtain ⟨rfl, rfl, hW⟩ := hv
  have hx := B.exec
  have hb := B.bytes
  have hr := B.returns
  have hg : ∀ w ∈ gW, w.before _ s = true := fun w h => atoms_spec (ws := wM_differ) B.pre w (List.mem_cons_of_mem _ h)
  have hown : s.vm.findClass RM = some m.cls := findClass_of_methodNamed B.named
  have hlocks := B.notSynchronized
  have hS : va_S (gA Γ) s.heap s.heap [] := va_S.rf
  have hl := lv_entry ([.ref (A 0), .int a, .int b]) (n := 7) (Nat.le_of_ble_eq_true rfl)
  rw [lg_entry_eq]
  generalize (lg_sl ([.ref (A 0), .int a, .int b]) ++ List.replicate (7 - (lg_sl ([.ref (A 0), .int a, .int b])).length) Slot.unset).toArray = ls at hl ⊢
  have hl : lv_has ls 7 [(0, .ref (A 0)), (1, .int a), (2, .int b)] := hl
  have hS : va_S (mA Γ) s.heap s.heap [] := va_S.rf
  refine lv_aload_n hx hb dM_differ_0 rfl (lv_at hl 0 rfl) ?_
  refine lv_aload_n hx hb dM_differ_1 rfl (lv_at hl 0 rfl) ?_
  refine lv_iload_n hx hb dM_differ_2 rfl (lv_at hl 1 rfl) ?_
  refine vp_callSi (W.runV (As := [.int a]) (rest := [.ref (A 0)]) ⟨hx, hb, hml, hown, hg⟩ (c_M_noTable l Γ s.heap (t := a) hP (by omega)) (cwV 1 hg gM_40 rfl rfl rfl (by decide +kernel) ⟨Nat.le_of_ble_eq_true rfl, Nat.le_of_ble_eq_true rfl⟩) (gP_V hW (vS_m hm hS) (ci := 2) rfl (hP 0 _ rfl)) rfl rfl hl.1 rfl (lv_room (Nat.le_of_ble_eq_true rfl)) dM_differ_3 ⟨Nat.le_of_ble_eq_true rfl, Nat.le_of_ble_eq_true rfl⟩) (fun r1 hr1 => ?_)
  rcases hr1 with ⟨rfl, h1⟩ | ⟨rfl, h1⟩
  · refine lv_if_ne (tgt := 17) hx hb dM_differ_6 (by decide) (fun c1 => ?_) (fun c1 => ?_)
    · exact absurd rfl c1
    · refine lv_aload_n hx hb dM_differ_9 rfl (lv_at hl 0 rfl) ?_
      refine lv_iload_n hx hb dM_differ_10 rfl (lv_at hl 2 rfl) ?_
      refine vp_callSi (W.runV (As := [.int b]) (rest := [.ref (A 0)]) ⟨hx, hb, hml, hown, hg⟩ (c_M_noTable l Γ s.heap (t := b) hP (by omega)) (cwV 1 hg gM_40 rfl rfl rfl (by decide +kernel) ⟨Nat.le_of_ble_eq_true rfl, Nat.le_of_ble_eq_true rfl⟩) (gP_V hW (vS_m hm hS) (ci := 2) rfl (hP 0 _ rfl)) rfl rfl hl.1 rfl (lv_room (Nat.le_of_ble_eq_true rfl)) dM_differ_11 ⟨Nat.le_of_ble_eq_true rfl, Nat.le_of_ble_eq_true rfl⟩) (fun r1 hr1 => ?_)
      rcases hr1 with ⟨rfl, h2⟩ | ⟨rfl, h2⟩
      · refine lv_if_eq (tgt := 21) hx hb dM_differ_14 (by decide) (fun c2 => ?_) (fun c2 => ?_)
        · obtain ⟨aj, haj, rfl⟩ := h1
          obtain ⟨bj, hbj, rfl⟩ := h2
          refine lv_iconst (v := 0) hx hb dM_differ_21 (by decide) ?_
          refine lv_iconst (v := 1) hx hb dM_differ_22 (by decide) ?_
          refine va_calli (va_runV (As := [.int 0, .int 1]) (rest := []) ⟨hx, hb, hml, hown, hg⟩ (c_M_fails0 l Γ s.heap hP hD hm) (cwV 2 hg gM_48 rfl rfl rfl (by decide +kernel) ⟨Nat.le_of_ble_eq_true rfl, Nat.le_of_ble_eq_true rfl⟩) (gP_V hW (vS_m hm hS) (ci := 2) rfl (hP 0 _ rfl)) rfl rfl hl.1 rfl (lv_room (Nat.le_of_ble_eq_true rfl)) dM_differ_23 ⟨Nat.le_of_ble_eq_true rfl, Nat.le_of_ble_eq_true rfl⟩) hS (fun q _ h => h) (fun q h => h) (fun r u t9 H1 locs1 ht hvm hp hB hz1 hk1 hS => ?_)
          subst hp
          rw [ht] at hB
          have hP : va_P Γ.1 gC (wM Γ A (0) (nI mn) (fof) (fke) (fst) (fnu) (fno) (fla) (fot)) H1 := hB
          have hD : va_D (mA Γ) (wM Γ A (0) (nI mn) (fof) (fke) (fst) (fnu) (fno) (fla) (fot)) := vD_map (by rfl) hD
          generalize H1 = H at hP hS ⊢
          clear hk1 hz1 ht hB
          refine lv_if_eq (tgt := 31) hx hb dM_differ_26 (by decide) (fun c7 => ?_) (fun c7 => ?_)
          · refine lv_aload_n hx hb dM_differ_31 rfl (lv_at hl 0 rfl) ?_
            refine lv_iload_n hx hb dM_differ_32 rfl (lv_at hl 1 rfl) ?_
            refine lv_aload_n hx hb dM_differ_33 rfl (lv_at hl 0 rfl) ?_
            refine va_get (D := Γ.1) (ci := 2) (v := .ref (A 6)) (C := RM) (T := TM) (N := 9) hx hb hg inM hown hW.1 hP 0 rfl rfl 6 (by decide) (hg _ kw295) (fun _ h9 => h9) rfl dM_differ_34 ?_
            refine va_callv (va_runV (As := [.int (nI aj), .ref (A 6)]) (rest := []) ⟨hx, hb, hml, hown, hg⟩ (c_M_whole6 l Γ H (t := aj) hP hD hm hmn hMI haj) (cwV 2 hg gM_60 rfl rfl rfl (by decide +kernel) ⟨Nat.le_of_ble_eq_true rfl, Nat.le_of_ble_eq_true rfl⟩) (gP_V hW (vS_m hm hS) (ci := 2) rfl (hP 0 _ rfl)) rfl rfl hl.1 rfl (lv_room (Nat.le_of_ble_eq_true rfl)) dM_differ_37 ⟨Nat.le_of_ble_eq_true rfl, Nat.le_of_ble_eq_true rfl⟩) hS (fun q _ h => h) (fun q h => h) (fun u t9 H1 locs1 ht hvm hp hB hz1 hk1 hS => ?_)
            rw [ht] at hB
            have hP : va_P Γ.1 gC (wM Γ A (0) (nI mn) (fof) (fke) (fst) (fnu) (fno) (u) (fot)) H1 := hB
            have hD : va_D (mA Γ) (wM Γ A (0) (nI mn) (fof) (fke) (fst) (fnu) (fno) (u) (fot)) := vD_map (by rfl) hD
            generalize H1 = H at hP hS ⊢
            clear hk1 hz1 ht hB
            have hg6 : ∀ k, k < 1024 → u k = nI (wq fof fke aj k) := hp
            generalize u = g6 at hg6 hP hD
            refine lv_aload_n hx hb dM_differ_40 rfl (lv_at hl 0 rfl) ?_
            refine lv_iload_n hx hb dM_differ_41 rfl (lv_at hl 2 rfl) ?_
            refine lv_aload_n hx hb dM_differ_42 rfl (lv_at hl 0 rfl) ?_
            refine va_get (D := Γ.1) (ci := 2) (v := .ref (A 7)) (C := RM) (T := TM) (N := 9) hx hb hg inM hown hW.1 hP 0 rfl rfl 7 (by decide) (hg _ kw296) (fun _ h9 => h9) rfl dM_differ_43 ?_
            refine va_callv (va_runV (As := [.int (nI bj), .ref (A 7)]) (rest := []) ⟨hx, hb, hml, hown, hg⟩ (c_M_whole7 l Γ H (t := bj) hP hD hm hmn hMI hbj) (cwV 2 hg gM_60 rfl rfl rfl (by decide +kernel) ⟨Nat.le_of_ble_eq_true rfl, Nat.le_of_ble_eq_true rfl⟩) (gP_V hW (vS_m hm hS) (ci := 2) rfl (hP 0 _ rfl)) rfl rfl hl.1 rfl (lv_room (Nat.le_of_ble_eq_true rfl)) dM_differ_46 ⟨Nat.le_of_ble_eq_true rfl, Nat.le_of_ble_eq_true rfl⟩) hS (fun q _ h => h) (fun q h => h) (fun u t9 H1 locs1 ht hvm hp hB hz1 hk1 hS => ?_)
            rw [ht] at hB
            have hP : va_P Γ.1 gC (wM Γ A (0) (nI mn) (fof) (fke) (fst) (fnu) (fno) (g6) (u)) H1 := hB
            have hD : va_D (mA Γ) (wM Γ A (0) (nI mn) (fof) (fke) (fst) (fnu) (fno) (g6) (u)) := vD_map (by rfl) hD
            generalize H1 = H at hP hS ⊢
            clear hk1 hz1 ht hB
            have hg7 : ∀ k, k < 1024 → u k = nI (wq fof fke bj k) := hp
            generalize u = g7 at hg7 hP hD
            refine lv_iconst (v := 0) hx hb dM_differ_49 (by decide) ?_
            refine lv_istore_n (lv' := [(3, .int 0), (0, .ref (A 0)), (1, .int (nI aj)), (2, .int (nI bj))]) hx hb dM_differ_50 rfl hl (by decide) rfl (fun ls hl => ?_)
            refine lv_iconst (v := 0) hx hb dM_differ_51 (by decide) ?_
            refine lv_istore (lv' := [(4, .int 0), (3, .int 0), (0, .ref (A 0)), (1, .int (nI aj)), (2, .int (nI bj))]) hx hb dM_differ_52 hl (by decide) rfl (fun ls hl => ?_)
            have key : ∀ (n i : Nat) (ls : Array Slot), i + n = 1024 → lv_has ls 7 [(4, .int (nI i)), (3, .int (nI (dcn (mV fof fke fnu fno aj) (mV fof fke fnu fno bj) 0 i))), (0, .ref (A 0)), (1, .int (nI aj)), (2, .int (nI bj))] → W p l e (headSpec wM_differ ({ frames := 2, cells := 0, slots := 0, locals := 200 })).room s m [.ref (A 0), .int (nI aj), .int (nI bj)].toArray below meth c H locs1 0 0 (MQ below (va_Qi (fun r (u : Nat) => (u = 0 ∧ ¬ (inT (nI aj) mn ∧ inT (nI bj) mn) ∧ r = 0) ∨ (u = 2 ∧ ∃ aj_1 bj_1, aj_1 < mn ∧ nI aj = nI aj_1 ∧ bj_1 < mn ∧ nI bj = nI bj_1 ∧ r = nI (dcn (mV fof fke fnu fno aj_1) (mV fof fke fnu fno bj_1) 0 1024))) (fun u t' => ∃ fla' fot', va_P Γ.1 gC (wM Γ A (match u with | 0 => 1 | 1 => 2 | _ => 0) (nI mn) fof fke fst fnu fno fla' fot') t'.heap) (mA Γ)) [.ref (A 0), .int (nI aj), .int (nI bj)].toArray s 0 0 (mA Γ)) (F0 m 54 ls []) := by
              intro n
              induction n with
              | zero =>
                intro i ls hi hl
                refine lv_iload hx hb dM_differ_54 (lv_at hl 0 rfl) ?_
                refine lv_sipush (v := 1024) hx hb dM_differ_56 (by decide) ?_
                refine lv_icmp_ge (tgt := 137) hx hb dM_differ_59 (by decide) (fun d1 => ?_) (fun d1 => ?_)
                · have e9 : i = 1024 := by omega
                  refine lv_iload_n hx hb dM_differ_137 rfl (lv_at hl 1 rfl) ?_
                  exact W.iret (v := (nI (dcn (mV fof fke fnu fno aj) (mV fof fke fnu fno bj) 0 i))) hx hb hr (fun t8 ht8 hW9 => ⟨⟨(nI (dcn (mV fof fke fnu fno aj) (mV fof fke fnu fno bj) 0 i)), 2, rfl, Or.inr ⟨rfl, aj, bj, haj, rfl, hbj, rfl, by rw [e9]⟩, ⟨_, _, by subst ht8; exact hP⟩⟩, hS.F ht8⟩) (fun q hq => hS.2.2 q hq) dM_differ_138
                · exact absurd (show (1024 : Int32) ≤ nI i from nI_le (a := 1024) (by omega) (by omega)) d1
              | succ n ih =>
                intro i ls hi hl
                have hwca := (wq_ok hmn hMI i aj haj).1
                obtain ⟨ca, hca⟩ : ∃ cc, wq fof fke aj i = cc := ⟨_, rfl⟩
                rw [hca] at hwca
                have hwcb := (wq_ok hmn hMI i bj hbj).1
                obtain ⟨cb, hcb⟩ : ∃ cc, wq fof fke bj i = cc := ⟨_, rfl⟩
                rw [hcb] at hwcb
                have t131 : ∀ (x5 x6 : Int32) (ls : Array Slot), lv_has ls 7 [(6, .int x6), (5, .int x5), (4, .int (nI i)), (3, .int (nI (dcn (mV fof fke fnu fno aj) (mV fof fke fnu fno bj) 0 (i + 1)))), (0, .ref (A 0)), (1, .int (nI aj)), (2, .int (nI bj))] → W p l e (headSpec wM_differ ({ frames := 2, cells := 0, slots := 0, locals := 200 })).room s m [.ref (A 0), .int (nI aj), .int (nI bj)].toArray below meth c H locs1 0 0 (MQ below (va_Qi (fun r (u : Nat) => (u = 0 ∧ ¬ (inT (nI aj) mn ∧ inT (nI bj) mn) ∧ r = 0) ∨ (u = 2 ∧ ∃ aj_1 bj_1, aj_1 < mn ∧ nI aj = nI aj_1 ∧ bj_1 < mn ∧ nI bj = nI bj_1 ∧ r = nI (dcn (mV fof fke fnu fno aj_1) (mV fof fke fnu fno bj_1) 0 1024))) (fun u t' => ∃ fla' fot', va_P Γ.1 gC (wM Γ A (match u with | 0 => 1 | 1 => 2 | _ => 0) (nI mn) fof fke fst fnu fno fla' fot') t'.heap) (mA Γ)) [.ref (A 0), .int (nI aj), .int (nI bj)].toArray s 0 0 (mA Γ)) (F0 m 131 ls []) := by
                  intro x5 x6 ls hl
                  refine lv_iinc (v := nI (i + 1)) (lv' := [(4, .int (nI (i + 1))), (6, .int x6), (5, .int x5), (3, .int (nI (dcn (mV fof fke fnu fno aj) (mV fof fke fnu fno bj) 0 (i + 1)))), (0, .ref (A 0)), (1, .int (nI aj)), (2, .int (nI bj))]) hx hb dM_differ_131 hl (k := 2) rfl (nI_1 i) (by decide) rfl (fun ls hl => ?_)
                  refine lv_goto (tgt := 54) hx hb dM_differ_134 (by decide) ?_
                  exact ih (i + 1) ls (by omega) (lv_sub hl [0, 3, 4, 5, 6] rfl)
                refine lv_iload hx hb dM_differ_54 (lv_at hl 0 rfl) ?_
                refine lv_sipush (v := 1024) hx hb dM_differ_56 (by decide) ?_
                refine lv_icmp_ge (tgt := 137) hx hb dM_differ_59 (by decide) (fun d1 => ?_) (fun d1 => ?_)
                · exact absurd d1 (nI_ge (a := i) (b := 1024) (by omega) (by omega))
                · refine lv_aload_n hx hb dM_differ_62 rfl (lv_at hl 2 rfl) ?_
                  refine lv_aload_n hx hb dM_differ_63 rfl (lv_at hl 2 rfl) ?_
                  refine va_get (D := Γ.1) (ci := 2) (v := .ref (A 6)) (C := RM) (T := TM) (N := 9) hx hb hg inM hown hW.1 hP 0 rfl rfl 6 (by decide) (hg _ kw295) (fun _ h9 => h9) rfl dM_differ_64 ?_
                  refine lv_iload hx hb dM_differ_67 (lv_at hl 0 rfl) ?_
                  refine va_iald (D := Γ.1) (cl := gC) (tys := gT Γ) hx hb hW.1 hP 6 2 rfl rfl (vp_in_nI (show i < 1024 by omega) (by omega)) dM_differ_69 ?_
                  rw [nI_clamp (show i < 2 ^ 31 by omega)]
                  rw [hg6 _ (by omega), hca]
                  refine vp_callSi (W.runV (As := [.int (nI ca)]) (rest := []) ⟨hx, hb, hml, hown, hg⟩ (c_M_has l Γ H (ci := ca) hP (by omega)) (cwV 1 hg gM_64 rfl rfl rfl (by decide +kernel) ⟨Nat.le_of_ble_eq_true rfl, Nat.le_of_ble_eq_true rfl⟩) (gP_V hW (vS_m hm hS) (ci := 2) rfl (hP 0 _ rfl)) rfl rfl hl.1 rfl (lv_room (Nat.le_of_ble_eq_true rfl)) dM_differ_70 ⟨Nat.le_of_ble_eq_true rfl, Nat.le_of_ble_eq_true rfl⟩) (fun x1 hx1 => ?_)
                  refine lv_istore (lv' := [(5, .int x1), (4, .int (nI i)), (3, .int (nI (dcn (mV fof fke fnu fno aj) (mV fof fke fnu fno bj) 0 i))), (0, .ref (A 0)), (1, .int (nI aj)), (2, .int (nI bj))]) hx hb dM_differ_73 hl (by decide) rfl (fun ls hl => ?_)
                  refine lv_aload_n hx hb dM_differ_75 rfl (lv_at hl 3 rfl) ?_
                  refine lv_aload_n hx hb dM_differ_76 rfl (lv_at hl 3 rfl) ?_
                  refine va_get (D := Γ.1) (ci := 2) (v := .ref (A 7)) (C := RM) (T := TM) (N := 9) hx hb hg inM hown hW.1 hP 0 rfl rfl 7 (by decide) (hg _ kw296) (fun _ h9 => h9) rfl dM_differ_77 ?_
                  refine lv_iload hx hb dM_differ_80 (lv_at hl 1 rfl) ?_
                  refine va_iald (D := Γ.1) (cl := gC) (tys := gT Γ) hx hb hW.1 hP 7 2 rfl rfl (vp_in_nI (show i < 1024 by omega) (by omega)) dM_differ_82 ?_
                  rw [nI_clamp (show i < 2 ^ 31 by omega)]
                  rw [hg7 _ (by omega), hcb]
                  refine vp_callSi (W.runV (As := [.int (nI cb)]) (rest := []) ⟨hx, hb, hml, hown, hg⟩ (c_M_has l Γ H (ci := cb) hP (by omega)) (cwV 1 hg gM_64 rfl rfl rfl (by decide +kernel) ⟨Nat.le_of_ble_eq_true rfl, Nat.le_of_ble_eq_true rfl⟩) (gP_V hW (vS_m hm hS) (ci := 2) rfl (hP 0 _ rfl)) rfl rfl hl.1 rfl (lv_room (Nat.le_of_ble_eq_true rfl)) dM_differ_83 ⟨Nat.le_of_ble_eq_true rfl, Nat.le_of_ble_eq_true rfl⟩) (fun x2 hx2 => ?_)
                  refine lv_istore (lv' := [(6, .int x2), (5, .int x1), (4, .int (nI i)), (3, .int (nI (dcn (mV fof fke fnu fno aj) (mV fof fke fnu fno bj) 0 i))), (0, .ref (A 0)), (1, .int (nI aj)), (2, .int (nI bj))]) hx hb dM_differ_86 hl (by decide) rfl (fun ls hl => ?_)
                  refine lv_iload hx hb dM_differ_88 (lv_at hl 1 rfl) ?_
                  refine lv_iload hx hb dM_differ_90 (lv_at hl 0 rfl) ?_
                  by_cases ha9 : ca ≠ 0 ∧ fno ca = 0
                  · rw [if_pos ha9] at hx1
                    subst hx1
                    have hVa := mV_val (fnu := fnu) hca ha9.1 ha9.2
                    by_cases hb9 : cb ≠ 0 ∧ fno cb = 0
                    · rw [if_pos hb9] at hx2
                      subst hx2
                      have hVb := mV_val (fnu := fnu) hcb hb9.1 hb9.2
                      refine lv_icmp_ne (tgt := 128) hx hb dM_differ_92 (by decide) (fun d2 => ?_) (fun d2 => ?_)
                      · exact absurd rfl d2
                      · refine lv_iload hx hb dM_differ_95 (lv_at hl 1 rfl) ?_
                        refine lv_if_eq (tgt := 131) hx hb dM_differ_97 (by decide) (fun d3 => ?_) (fun d3 => ?_)
                        · exact absurd d3 (by decide)
                        · refine lv_aload_n hx hb dM_differ_100 rfl (lv_at hl 4 rfl) ?_
                          refine va_get (D := Γ.1) (ci := 2) (v := .ref (A 4)) (C := RM) (T := TM) (N := 9) hx hb hg inM hown hW.1 hP 0 rfl rfl 4 (by decide) (hg _ kw293) (fun _ h9 => h9) rfl dM_differ_101 ?_
                          refine lv_aload_n hx hb dM_differ_104 rfl (lv_at hl 4 rfl) ?_
                          refine va_get (D := Γ.1) (ci := 2) (v := .ref (A 6)) (C := RM) (T := TM) (N := 9) hx hb hg inM hown hW.1 hP 0 rfl rfl 6 (by decide) (hg _ kw295) (fun _ h9 => h9) rfl dM_differ_105 ?_
                          refine lv_iload hx hb dM_differ_108 (lv_at hl 2 rfl) ?_
                          refine va_iald (D := Γ.1) (cl := gC) (tys := gT Γ) hx hb hW.1 hP 6 2 rfl rfl (vp_in_nI (show i < 1024 by omega) (by omega)) dM_differ_110 ?_
                          rw [nI_clamp (show i < 2 ^ 31 by omega)]
                          rw [hg6 _ (by omega), hca]
                          refine va_lald (D := Γ.1) (cl := gC) (tys := gT Γ) hx hb hW.1 hP 4 0 rfl rfl (vp_in_nI (show ca < 400 by omega) (by omega)) dM_differ_111 ?_
                          rw [nI_clamp (show ca < 2 ^ 31 by omega)]
                          refine lv_aload_n hx hb dM_differ_112 rfl (lv_at hl 4 rfl) ?_
                          refine va_get (D := Γ.1) (ci := 2) (v := .ref (A 4)) (C := RM) (T := TM) (N := 9) hx hb hg inM hown hW.1 hP 0 rfl rfl 4 (by decide) (hg _ kw293) (fun _ h9 => h9) rfl dM_differ_113 ?_
                          refine lv_aload_n hx hb dM_differ_116 rfl (lv_at hl 4 rfl) ?_
                          refine va_get (D := Γ.1) (ci := 2) (v := .ref (A 7)) (C := RM) (T := TM) (N := 9) hx hb hg inM hown hW.1 hP 0 rfl rfl 7 (by decide) (hg _ kw296) (fun _ h9 => h9) rfl dM_differ_117 ?_
                          refine lv_iload hx hb dM_differ_120 (lv_at hl 2 rfl) ?_
                          refine va_iald (D := Γ.1) (cl := gC) (tys := gT Γ) hx hb hW.1 hP 7 2 rfl rfl (vp_in_nI (show i < 1024 by omega) (by omega)) dM_differ_122 ?_
                          rw [nI_clamp (show i < 2 ^ 31 by omega)]
                          rw [hg7 _ (by omega), hcb]
                          refine va_lald (D := Γ.1) (cl := gC) (tys := gT Γ) hx hb hW.1 hP 4 0 rfl rfl (vp_in_nI (show cb < 400 by omega) (by omega)) dM_differ_123 ?_
                          rw [nI_clamp (show cb < 2 ^ 31 by omega)]
                          refine W.lcmp hx hb dM_differ_124 ?_
                          refine lv_if_eq (tgt := 131) hx hb dM_differ_125 (by decide) (fun d4 => ?_) (fun d4 => ?_)
                          · have heq : (mV fof fke fnu fno aj) i = (mV fof fke fnu fno bj) i := by rw [hVa, hVb, (lg_cmp_eq _ _).mp d4]
                            have ed : dcn (mV fof fke fnu fno aj) (mV fof fke fnu fno bj) 0 (i + 1) = dcn (mV fof fke fnu fno aj) (mV fof fke fnu fno bj) 0 i := by simp [dcn, heq]
                            exact t131 _ _ ls (by rw [ed]; exact lv_sub hl [0, 1, 2, 3, 4, 5, 6] rfl)
                          · have hne : ¬ (mV fof fke fnu fno aj) i = (mV fof fke fnu fno bj) i := by rw [hVa, hVb]; exact fun h => d4 ((lg_cmp_eq _ _).mpr (Option.some.inj h))
                            have ed : dcn (mV fof fke fnu fno aj) (mV fof fke fnu fno bj) 0 (i + 1) = dcn (mV fof fke fnu fno aj) (mV fof fke fnu fno bj) 0 i + 1 := by simp [dcn, hne]
                            refine lv_iinc (v := nI (dcn (mV fof fke fnu fno aj) (mV fof fke fnu fno bj) 0 (i + 1))) (lv' := [(3, .int (nI (dcn (mV fof fke fnu fno aj) (mV fof fke fnu fno bj) 0 (i + 1)))), (6, .int 1), (5, .int 1), (4, .int (nI i)), (0, .ref (A 0)), (1, .int (nI aj)), (2, .int (nI bj))]) hx hb dM_differ_128 hl (k := 3) rfl (by rw [ed]; exact nI_1 _) (by decide) rfl (fun ls hl => ?_)
                            exact t131 _ _ ls (lv_sub hl [1, 2, 3, 0, 4, 5, 6] rfl)
                    · rw [if_neg hb9] at hx2
                      subst hx2
                      have hVb := mV_no (fnu := fnu) hcb hb9
                      refine lv_icmp_ne (tgt := 128) hx hb dM_differ_92 (by decide) (fun d2 => ?_) (fun d2 => ?_)
                      · have hne : ¬ (mV fof fke fnu fno aj) i = (mV fof fke fnu fno bj) i := by rw [hVa, hVb]; exact fun h => nomatch h
                        have ed : dcn (mV fof fke fnu fno aj) (mV fof fke fnu fno bj) 0 (i + 1) = dcn (mV fof fke fnu fno aj) (mV fof fke fnu fno bj) 0 i + 1 := by simp [dcn, hne]
                        refine lv_iinc (v := nI (dcn (mV fof fke fnu fno aj) (mV fof fke fnu fno bj) 0 (i + 1))) (lv' := [(3, .int (nI (dcn (mV fof fke fnu fno aj) (mV fof fke fnu fno bj) 0 (i + 1)))), (6, .int 0), (5, .int 1), (4, .int (nI i)), (0, .ref (A 0)), (1, .int (nI aj)), (2, .int (nI bj))]) hx hb dM_differ_128 hl (k := 3) rfl (by rw [ed]; exact nI_1 _) (by decide) rfl (fun ls hl => ?_)
                        exact t131 _ _ ls (lv_sub hl [1, 2, 3, 0, 4, 5, 6] rfl)
                      · exact absurd d2 (by decide)
                  · rw [if_neg ha9] at hx1
                    subst hx1
                    have hVa := mV_no (fnu := fnu) hca ha9
                    by_cases hb9 : cb ≠ 0 ∧ fno cb = 0
                    · rw [if_pos hb9] at hx2
                      subst hx2
                      have hVb := mV_val (fnu := fnu) hcb hb9.1 hb9.2
                      refine lv_icmp_ne (tgt := 128) hx hb dM_differ_92 (by decide) (fun d2 => ?_) (fun d2 => ?_)
                      · have hne : ¬ (mV fof fke fnu fno aj) i = (mV fof fke fnu fno bj) i := by rw [hVa, hVb]; exact fun h => nomatch h
                        have ed : dcn (mV fof fke fnu fno aj) (mV fof fke fnu fno bj) 0 (i + 1) = dcn (mV fof fke fnu fno aj) (mV fof fke fnu fno bj) 0 i + 1 := by simp [dcn, hne]
                        refine lv_iinc (v := nI (dcn (mV fof fke fnu fno aj) (mV fof fke fnu fno bj) 0 (i + 1))) (lv' := [(3, .int (nI (dcn (mV fof fke fnu fno aj) (mV fof fke fnu fno bj) 0 (i + 1)))), (6, .int 1), (5, .int 0), (4, .int (nI i)), (0, .ref (A 0)), (1, .int (nI aj)), (2, .int (nI bj))]) hx hb dM_differ_128 hl (k := 3) rfl (by rw [ed]; exact nI_1 _) (by decide) rfl (fun ls hl => ?_)
                        exact t131 _ _ ls (lv_sub hl [1, 2, 3, 0, 4, 5, 6] rfl)
                      · exact absurd d2 (by decide)
                    · rw [if_neg hb9] at hx2
                      subst hx2
                      have hVb := mV_no (fnu := fnu) hcb hb9
                      refine lv_icmp_ne (tgt := 128) hx hb dM_differ_92 (by decide) (fun d2 => ?_) (fun d2 => ?_)
                      · exact absurd rfl d2
                      · refine lv_iload hx hb dM_differ_95 (lv_at hl 1 rfl) ?_
                        refine lv_if_eq (tgt := 131) hx hb dM_differ_97 (by decide) (fun d3 => ?_) (fun d3 => ?_)
                        · have heq : (mV fof fke fnu fno aj) i = (mV fof fke fnu fno bj) i := by rw [hVa, hVb]
                          have ed : dcn (mV fof fke fnu fno aj) (mV fof fke fnu fno bj) 0 (i + 1) = dcn (mV fof fke fnu fno aj) (mV fof fke fnu fno bj) 0 i := by simp [dcn, heq]
                          exact t131 _ _ ls (by rw [ed]; exact lv_sub hl [0, 1, 2, 3, 4, 5, 6] rfl)
                        · exact absurd rfl d3
            exact key 1024 0 ls rfl (lv_sub hl [0, 1, 2, 3, 4] rfl)
          · exact absurd rfl c7
        · exact absurd rfl c2
      · refine lv_if_eq (tgt := 21) hx hb dM_differ_14 (by decide) (fun c8 => ?_) (fun c8 => ?_)
        · exact absurd c8 (by decide)
        · refine lv_iconst (v := 1) hx hb dM_differ_17 (by decide) ?_
          refine lv_goto (tgt := 22) hx hb dM_differ_18 (by decide) ?_
          refine lv_iconst (v := 1) hx hb dM_differ_22 (by decide) ?_
          refine va_calli (va_runV (As := [.int 1, .int 1]) (rest := []) ⟨hx, hb, hml, hown, hg⟩ (c_M_fails1 l Γ s.heap hP hD hm) (cwV 2 hg gM_48 rfl rfl rfl (by decide +kernel) ⟨Nat.le_of_ble_eq_true rfl, Nat.le_of_ble_eq_true rfl⟩) (gP_V hW (vS_m hm hS) (ci := 2) rfl (hP 0 _ rfl)) rfl rfl hl.1 rfl (lv_room (Nat.le_of_ble_eq_true rfl)) dM_differ_23 ⟨Nat.le_of_ble_eq_true rfl, Nat.le_of_ble_eq_true rfl⟩) hS (fun q _ h => h) (fun q h => h) (fun r u t9 H1 locs1 ht hvm hp hB hz1 hk1 hS => ?_)
          subst hp
          rw [ht] at hB
          have hP : va_P Γ.1 gC (wM Γ A (1) (nI mn) (fof) (fke) (fst) (fnu) (fno) (fla) (fot)) H1 := hB
          have hD : va_D (mA Γ) (wM Γ A (1) (nI mn) (fof) (fke) (fst) (fnu) (fno) (fla) (fot)) := vD_map (by rfl) hD
          generalize H1 = H at hP hS ⊢
          clear hk1 hz1 ht hB
          refine lv_if_eq (tgt := 31) hx hb dM_differ_26 (by decide) (fun c9 => ?_) (fun c9 => ?_)
          · exact absurd c9 (by decide)
          · refine lv_iconst (v := 0) hx hb dM_differ_29 (by decide) ?_
            exact W.iret (v := 0) hx hb hr (fun t8 ht8 hW9 => ⟨⟨0, 0, rfl, Or.inl ⟨rfl, fun h => h2 h.2, rfl⟩, ⟨_, _, by subst ht8; exact hP⟩⟩, hS.F ht8⟩) (fun q hq => hS.2.2 q hq) dM_differ_30
  · refine lv_if_ne (tgt := 17) hx hb dM_differ_6 (by decide) (fun c8 => ?_) (fun c8 => ?_)
    · refine lv_iconst (v := 1) hx hb dM_differ_17 (by decide) ?_
      refine lv_goto (tgt := 22) hx hb dM_differ_18 (by decide) ?_
      refine lv_iconst (v := 1) hx hb dM_differ_22 (by decide) ?_
      refine va_calli (va_runV (As := [.int 1, .int 1]) (rest := []) ⟨hx, hb, hml, hown, hg⟩ (c_M_fails1 l Γ s.heap hP hD hm) (cwV 2 hg gM_48 rfl rfl rfl (by decide +kernel) ⟨Nat.le_of_ble_eq_true rfl, Nat.le_of_ble_eq_true rfl⟩) (gP_V hW (vS_m hm hS) (ci := 2) rfl (hP 0 _ rfl)) rfl rfl hl.1 rfl (lv_room (Nat.le_of_ble_eq_true rfl)) dM_differ_23 ⟨Nat.le_of_ble_eq_true rfl, Nat.le_of_ble_eq_true rfl⟩) hS (fun q _ h => h) (fun q h => h) (fun r u t9 H1 locs1 ht hvm hp hB hz1 hk1 hS => ?_)
      subst hp
      rw [ht] at hB
      have hP : va_P Γ.1 gC (wM Γ A (1) (nI mn) (fof) (fke) (fst) (fnu) (fno) (fla) (fot)) H1 := hB
      have hD : va_D (mA Γ) (wM Γ A (1) (nI mn) (fof) (fke) (fst) (fnu) (fno) (fla) (fot)) := vD_map (by rfl) hD
      generalize H1 = H at hP hS ⊢
      clear hk1 hz1 ht hB
      refine lv_if_eq (tgt := 31) hx hb dM_differ_26 (by decide) (fun c9 => ?_) (fun c9 => ?_)
      · exact absurd c9 (by decide)
      · refine lv_iconst (v := 0) hx hb dM_differ_29 (by decide) ?_
        exact W.iret (v := 0) hx hb hr (fun t8 ht8 hW9 => ⟨⟨0, 0, rfl, Or.inl ⟨rfl, fun h => h1 h.1, rfl⟩, ⟨_, _, by subst ht8; exact hP⟩⟩, hS.F ht8⟩) (fun q hq => hS.2.2 q hq) dM_differ_30
    · exact absurd c8 (by decide)
