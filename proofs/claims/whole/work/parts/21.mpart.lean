/-! the reference: part, at, differ -/
theorem cmb4_32 (x y : Int32) : cmb 4 x.toInt64 y.toInt64 = (if y ≤ x then x else y).toInt64 := by
  unfold cmb
  rw [if_neg (by decide), if_neg (by decide), if_pos rfl]
  by_cases h1 : y ≤ x
  · rw [if_pos h1]
    by_cases h2 : y.toInt64 < x.toInt64
    · rw [if_pos h2]
    · rw [if_neg h2]
      rw [Int32.le_iff_toInt_le] at h1
      rw [Int64.lt_iff_toInt_lt, Int32.toInt_toInt64, Int32.toInt_toInt64] at h2
      rw [Int32.toInt_inj.mp (show y.toInt = x.toInt by omega)]
  · rw [if_neg h1, if_neg]
    rw [Int32.le_iff_toInt_le] at h1
    rw [Int64.lt_iff_toInt_lt, Int32.toInt_toInt64, Int32.toInt_toInt64]
    omega
theorem mV_some {fof fke fno : Nat → Int32} {fnu : Nat → Int64} {t k c : Nat} (h : wq fof fke t k = c) : (mV fof fke fnu fno t k).isSome = true ↔ (c ≠ 0 ∧ fno c = 0) := by
  unfold mV
  rw [h]
  by_cases h0 : c = 0 <;> by_cases h1 : fno c = 0 <;> simp [h0, h1]
theorem mV_val {fof fke fno : Nat → Int32} {fnu : Nat → Int64} {t k c : Nat} (h : wq fof fke t k = c) (h0 : c ≠ 0) (h1 : fno c = 0) : mV fof fke fnu fno t k = some (fnu c) := by simp [mV, h, h0, h1]
theorem mV_no {fof fke fno : Nat → Int32} {fnu : Nat → Int64} {t k c : Nat} (h : wq fof fke t k = c) (h0 : ¬ (c ≠ 0 ∧ fno c = 0)) : mV fof fke fnu fno t k = none := by
  cases hv : mV fof fke fnu fno t k with
  | none => rfl
  | some v => exact absurd ((mV_some (fnu := fnu) h).mp (by rw [hv]; rfl)) h0
theorem neg1_64 : (-1 : Int32).toInt64 = -1 := by decide
theorem lN_ne {k : Nat} (hk : k < 1024) : ¬ lN k = -1 := by
  intro h
  have h1 := congrArg Int64.toInt h
  rw [lN_toInt (by omega)] at h1
  have h2 : (-1 : Int64).toInt = -1 := by decide
  omega
set_option maxHeartbeats 4000000 in
set_option maxRecDepth 100000 in
theorem c_M_part (l : Launch) (Γ : gE) (H : Heap) {A : Nat → Nat} {er : Int32} {mn : Nat} {fof fke fst fno fla fot : Nat → Int32} {fnu : Nat → Int64} {t lo hi wh : Int32} (hP : va_P Γ.1 gC (wM Γ A (er) (nI mn) (fof) (fke) (fst) (fnu) (fno) (fla) (fot)) H) (hD : va_D (mA Γ) (wM Γ A (er) (nI mn) (fof) (fke) (fst) (fnu) (fno) (fla) (fot))) (hm : gz Γ ≤ gm0 Γ) (hmn : mn ≤ 400) (hMI : MI mn fof fke fst fno) : Met l yM_part wM_part ({ frames := 2, cells := 0, slots := 0, locals := 200 }) (gP Γ H [.ref (A 0), .int t, .int lo, .int hi, .int wh]) (va_Ql (fun r (u : Nat) => (u = 0 ∧ ¬ (inT t mn ∧ inT lo 1024 ∧ inT hi 1024 ∧ lo ≤ hi ∧ inT wh 5) ∧ r = 0) ∨ (u = 2 ∧ ∃ tj lj hj wj, tj < mn ∧ t = nI tj ∧ lj < 1024 ∧ lo = nI lj ∧ hj < 1024 ∧ hi = nI hj ∧ wj < 5 ∧ wh = nI wj ∧ lj ≤ hj ∧ r = ag (mV fof fke fnu fno tj) (mSt fof fke fst tj) wj lj (hj + 1 - lj))) (fun u t' => ∃ fla' fot', va_P Γ.1 gC (wM Γ A (match u with | 0 => 1 | 1 => 2 | _ => 0) (nI mn) fof fke fst fnu fno fla' fot') t'.heap) (mA Γ)) 0 0 (mA Γ) := by
  refine Met.ofW (cc := cM_part) (maxL := 13) (ret := (some .long)) (by decide) rfl ?_
  intro p e s m args below meth c s₁ B hml hv
  obtain ⟨rfl, rfl, hW⟩ := hv
  have hx := B.exec
  have hb := B.bytes
  have hr := B.returns
  have hg : ∀ w ∈ gW, w.before _ s = true := fun w h => atoms_spec (ws := wM_part) B.pre w (List.mem_cons_of_mem _ h)
  have hown : s.vm.findClass RM = some m.cls := findClass_of_methodNamed B.named
  have hlocks := B.notSynchronized
  have hS : va_S (gA Γ) s.heap s.heap [] := va_S.rf
  have hl := lv_entry ([.ref (A 0), .int t, .int lo, .int hi, .int wh]) (n := 13) (Nat.le_of_ble_eq_true rfl)
  rw [lg_entry_eq]
  generalize (lg_sl ([.ref (A 0), .int t, .int lo, .int hi, .int wh]) ++ List.replicate (13 - (lg_sl ([.ref (A 0), .int t, .int lo, .int hi, .int wh])).length) Slot.unset).toArray = ls at hl ⊢
  have hl : lv_has ls 13 [(0, .ref (A 0)), (1, .int t), (2, .int lo), (3, .int hi), (4, .int wh)] := hl
  have hS : va_S (mA Γ) s.heap s.heap [] := va_S.rf
  refine lv_aload_n hx hb dM_part_0 rfl (lv_at hl 0 rfl) ?_
  refine lv_aload_n hx hb dM_part_1 rfl (lv_at hl 0 rfl) ?_
  refine lv_iload_n hx hb dM_part_2 rfl (lv_at hl 1 rfl) ?_
  refine vp_callSi (W.runV (As := [.int t]) (rest := [.ref (A 0)]) ⟨hx, hb, hml, hown, hg⟩ (c_M_noTable l Γ s.heap (t := t) hP (by omega)) (cwV 1 hg gM_40 rfl rfl rfl (by decide +kernel) ⟨Nat.le_of_ble_eq_true rfl, Nat.le_of_ble_eq_true rfl⟩) (gP_V hW (vS_m hm hS) (ci := 2) rfl (hP 0 _ rfl)) rfl rfl hl.1 rfl (lv_room (Nat.le_of_ble_eq_true rfl)) dM_part_3 ⟨Nat.le_of_ble_eq_true rfl, Nat.le_of_ble_eq_true rfl⟩) (fun r1 hr1 => ?_)
  rcases hr1 with ⟨rfl, h1⟩ | ⟨rfl, h1⟩
  · refine lv_if_ne (tgt := 39) hx hb dM_part_6 (by decide) (fun c1 => ?_) (fun c1 => ?_)
    · exact absurd rfl c1
    · refine lv_iload_n hx hb dM_part_9 rfl (lv_at hl 2 rfl) ?_
      refine vp_callSi (W.runS (As := [.int lo]) (rest := [.ref (A 0)]) ⟨hx, hb, hml, hown, hg⟩ (c_M_noKey l Γ s.heap (k := lo)) (va_cwS 1 hg gM_44 rfl rfl rfl (by decide +kernel) ⟨Nat.le_of_ble_eq_true rfl, Nat.le_of_ble_eq_true rfl⟩) (gP_S hW (vS_m hm hS)) rfl rfl hl.1 rfl (lv_room (Nat.le_of_ble_eq_true rfl)) dM_part_10 ⟨Nat.le_of_ble_eq_true rfl, Nat.le_of_ble_eq_true rfl⟩) (fun r1 hr1 => ?_)
      rcases hr1 with ⟨rfl, h2⟩ | ⟨rfl, h2⟩
      · refine lv_if_ne (tgt := 39) hx hb dM_part_13 (by decide) (fun c2 => ?_) (fun c2 => ?_)
        · exact absurd rfl c2
        · refine lv_iload_n hx hb dM_part_16 rfl (lv_at hl 3 rfl) ?_
          refine vp_callSi (W.runS (As := [.int hi]) (rest := [.ref (A 0)]) ⟨hx, hb, hml, hown, hg⟩ (c_M_noKey l Γ s.heap (k := hi)) (va_cwS 1 hg gM_44 rfl rfl rfl (by decide +kernel) ⟨Nat.le_of_ble_eq_true rfl, Nat.le_of_ble_eq_true rfl⟩) (gP_S hW (vS_m hm hS)) rfl rfl hl.1 rfl (lv_room (Nat.le_of_ble_eq_true rfl)) dM_part_17 ⟨Nat.le_of_ble_eq_true rfl, Nat.le_of_ble_eq_true rfl⟩) (fun r1 hr1 => ?_)
          rcases hr1 with ⟨rfl, h3⟩ | ⟨rfl, h3⟩
          · refine lv_if_ne (tgt := 39) hx hb dM_part_20 (by decide) (fun c3 => ?_) (fun c3 => ?_)
            · exact absurd rfl c3
            · refine lv_iload_n hx hb dM_part_23 rfl (lv_at hl 2 rfl) ?_
              refine lv_iload_n hx hb dM_part_24 rfl (lv_at hl 3 rfl) ?_
              refine lv_icmp_gt (tgt := 39) hx hb dM_part_25 (by decide) (fun c4 => ?_) (fun c4 => ?_)
              · refine lv_iconst (v := 1) hx hb dM_part_39 (by decide) ?_
                refine lv_goto (tgt := 44) hx hb dM_part_40 (by decide) ?_
                refine lv_iconst (v := 1) hx hb dM_part_44 (by decide) ?_
                refine va_calli (va_runV (As := [.int 1, .int 1]) (rest := []) ⟨hx, hb, hml, hown, hg⟩ (c_M_fails1 l Γ s.heap hP hD hm) (cwV 2 hg gM_48 rfl rfl rfl (by decide +kernel) ⟨Nat.le_of_ble_eq_true rfl, Nat.le_of_ble_eq_true rfl⟩) (gP_V hW (vS_m hm hS) (ci := 2) rfl (hP 0 _ rfl)) rfl rfl hl.1 rfl (lv_room (Nat.le_of_ble_eq_true rfl)) dM_part_45 ⟨Nat.le_of_ble_eq_true rfl, Nat.le_of_ble_eq_true rfl⟩) hS (fun q _ h => h) (fun q h => h) (fun r u t9 H1 locs1 ht hvm hp hB hz1 hk1 hS => ?_)
                subst hp
                rw [ht] at hB
                have hP : va_P Γ.1 gC (wM Γ A (1) (nI mn) (fof) (fke) (fst) (fnu) (fno) (fla) (fot)) H1 := hB
                have hD : va_D (mA Γ) (wM Γ A (1) (nI mn) (fof) (fke) (fst) (fnu) (fno) (fla) (fot)) := vD_map (by rfl) hD
                generalize H1 = H at hP hS ⊢
                clear hk1 hz1 ht hB
                refine lv_if_eq (tgt := 53) hx hb dM_part_48 (by decide) (fun c9 => ?_) (fun c9 => ?_)
                · exact absurd c9 (by decide)
                · refine lv_lconst (v := 0) hx hb dM_part_51 (by decide) ?_
                  exact W.lret (v := 0) hx hb hr (fun t8 ht8 hW9 => ⟨⟨0, 0, rfl, Or.inl ⟨rfl, fun h => absurd c4 (Int32.not_lt.mpr h.2.2.2.1), rfl⟩, ⟨_, _, by subst ht8; exact hP⟩⟩, hS.F ht8⟩) (fun q hq => hS.2.2 q hq) dM_part_52
              · refine lv_iload hx hb dM_part_28 (lv_at hl 4 rfl) ?_
                refine lv_if_lt (tgt := 39) hx hb dM_part_30 (by decide) (fun c5 => ?_) (fun c5 => ?_)
                · refine lv_iconst (v := 1) hx hb dM_part_39 (by decide) ?_
                  refine lv_goto (tgt := 44) hx hb dM_part_40 (by decide) ?_
                  refine lv_iconst (v := 1) hx hb dM_part_44 (by decide) ?_
                  refine va_calli (va_runV (As := [.int 1, .int 1]) (rest := []) ⟨hx, hb, hml, hown, hg⟩ (c_M_fails1 l Γ s.heap hP hD hm) (cwV 2 hg gM_48 rfl rfl rfl (by decide +kernel) ⟨Nat.le_of_ble_eq_true rfl, Nat.le_of_ble_eq_true rfl⟩) (gP_V hW (vS_m hm hS) (ci := 2) rfl (hP 0 _ rfl)) rfl rfl hl.1 rfl (lv_room (Nat.le_of_ble_eq_true rfl)) dM_part_45 ⟨Nat.le_of_ble_eq_true rfl, Nat.le_of_ble_eq_true rfl⟩) hS (fun q _ h => h) (fun q h => h) (fun r u t9 H1 locs1 ht hvm hp hB hz1 hk1 hS => ?_)
                  subst hp
                  rw [ht] at hB
                  have hP : va_P Γ.1 gC (wM Γ A (1) (nI mn) (fof) (fke) (fst) (fnu) (fno) (fla) (fot)) H1 := hB
                  have hD : va_D (mA Γ) (wM Γ A (1) (nI mn) (fof) (fke) (fst) (fnu) (fno) (fla) (fot)) := vD_map (by rfl) hD
                  generalize H1 = H at hP hS ⊢
                  clear hk1 hz1 ht hB
                  refine lv_if_eq (tgt := 53) hx hb dM_part_48 (by decide) (fun c9 => ?_) (fun c9 => ?_)
                  · exact absurd c9 (by decide)
                  · refine lv_lconst (v := 0) hx hb dM_part_51 (by decide) ?_
                    exact W.lret (v := 0) hx hb hr (fun t8 ht8 hW9 => ⟨⟨0, 0, rfl, Or.inl ⟨rfl, fun h => (inT_no (by omega)).mpr (Or.inl c5) h.2.2.2.2, rfl⟩, ⟨_, _, by subst ht8; exact hP⟩⟩, hS.F ht8⟩) (fun q hq => hS.2.2 q hq) dM_part_52
                · refine lv_iload hx hb dM_part_33 (lv_at hl 4 rfl) ?_
                  refine lv_iconst (v := 4) hx hb dM_part_35 (by decide) ?_
                  refine lv_icmp_le (tgt := 43) hx hb dM_part_36 (by decide) (fun c6 => ?_) (fun c6 => ?_)
                  · have h5 : inT wh 5 := by
                      rcases pk_ix wh (show 5 < 2 ^ 31 by omega) with h | h | h
                      · exact absurd h c5
                      · exact absurd (Int32.le_trans h c6) (by decide)
                      · exact h
                    have c4 := Int32.not_lt.mp c4
                    obtain ⟨tj, htj, rfl⟩ := h1
                    obtain ⟨lj, hlj, rfl⟩ := h2
                    obtain ⟨hj, hhj, rfl⟩ := h3
                    obtain ⟨wj, hwj, rfl⟩ := h5
                    have hle : lj ≤ hj := (nI_leI (by omega) (by omega)).mp c4
                    have hwf := mSt_wf hmn hMI htj
                    refine lv_iconst (v := 0) hx hb dM_part_43 (by decide) ?_
                    refine lv_iconst (v := 1) hx hb dM_part_44 (by decide) ?_
                    refine va_calli (va_runV (As := [.int 0, .int 1]) (rest := []) ⟨hx, hb, hml, hown, hg⟩ (c_M_fails0 l Γ s.heap hP hD hm) (cwV 2 hg gM_48 rfl rfl rfl (by decide +kernel) ⟨Nat.le_of_ble_eq_true rfl, Nat.le_of_ble_eq_true rfl⟩) (gP_V hW (vS_m hm hS) (ci := 2) rfl (hP 0 _ rfl)) rfl rfl hl.1 rfl (lv_room (Nat.le_of_ble_eq_true rfl)) dM_part_45 ⟨Nat.le_of_ble_eq_true rfl, Nat.le_of_ble_eq_true rfl⟩) hS (fun q _ h => h) (fun q h => h) (fun r u t9 H1 locs1 ht hvm hp hB hz1 hk1 hS => ?_)
                    subst hp
                    rw [ht] at hB
                    have hP : va_P Γ.1 gC (wM Γ A (0) (nI mn) (fof) (fke) (fst) (fnu) (fno) (fla) (fot)) H1 := hB
                    have hD : va_D (mA Γ) (wM Γ A (0) (nI mn) (fof) (fke) (fst) (fnu) (fno) (fla) (fot)) := vD_map (by rfl) hD
                    generalize H1 = H at hP hS ⊢
                    clear hk1 hz1 ht hB
                    refine lv_if_eq (tgt := 53) hx hb dM_part_48 (by decide) (fun c7 => ?_) (fun c7 => ?_)
                    · refine lv_aload_n hx hb dM_part_53 rfl (lv_at hl 0 rfl) ?_
                      refine lv_iload_n hx hb dM_part_54 rfl (lv_at hl 1 rfl) ?_
                      refine lv_aload_n hx hb dM_part_55 rfl (lv_at hl 0 rfl) ?_
                      refine va_get (D := Γ.1) (ci := 2) (v := .ref (A 6)) (C := RM) (T := TM) (N := 9) hx hb hg inM hown hW.1 hP 0 rfl rfl 6 (by decide) (hg _ kw295) (fun _ h9 => h9) rfl dM_part_56 ?_
                      refine va_callv (va_runV (As := [.int (nI tj), .ref (A 6)]) (rest := []) ⟨hx, hb, hml, hown, hg⟩ (c_M_whole6 l Γ H (t := tj) hP hD hm hmn hMI htj) (cwV 2 hg gM_60 rfl rfl rfl (by decide +kernel) ⟨Nat.le_of_ble_eq_true rfl, Nat.le_of_ble_eq_true rfl⟩) (gP_V hW (vS_m hm hS) (ci := 2) rfl (hP 0 _ rfl)) rfl rfl hl.1 rfl (lv_room (Nat.le_of_ble_eq_true rfl)) dM_part_59 ⟨Nat.le_of_ble_eq_true rfl, Nat.le_of_ble_eq_true rfl⟩) hS (fun q _ h => h) (fun q h => h) (fun u t9 H1 locs1 ht hvm hp hB hz1 hk1 hS => ?_)
                      rw [ht] at hB
                      have hP : va_P Γ.1 gC (wM Γ A (0) (nI mn) (fof) (fke) (fst) (fnu) (fno) (u) (fot)) H1 := hB
                      have hD : va_D (mA Γ) (wM Γ A (0) (nI mn) (fof) (fke) (fst) (fnu) (fno) (u) (fot)) := vD_map (by rfl) hD
                      generalize H1 = H at hP hS ⊢
                      clear hk1 hz1 ht hB
                      have hg6 : ∀ k, k < 1024 → u k = nI (wq fof fke tj k) := hp
                      generalize u = g6 at hg6 hP hD
                      refine lv_lconst (v := 0) hx hb dM_part_62 (by decide) ?_
                      refine lv_lstore (lv' := [(5, .long 0), (0, .ref (A 0)), (1, .int (nI tj)), (2, .int (nI lj)), (3, .int (nI hj)), (4, .int (nI wj))]) hx hb dM_part_63 hl (by decide) rfl (fun ls hl => ?_)
                      refine lv_iconst (v := 0) hx hb dM_part_65 (by decide) ?_
                      refine lv_istore (lv' := [(7, .int 0), (5, .long 0), (0, .ref (A 0)), (1, .int (nI tj)), (2, .int (nI lj)), (3, .int (nI hj)), (4, .int (nI wj))]) hx hb dM_part_66 hl (by decide) rfl (fun ls hl => ?_)
                      refine lv_iconst (v := (-1)) hx hb dM_part_68 (by decide) ?_
                      refine lv_istore (lv' := [(8, .int (-1)), (7, .int 0), (5, .long 0), (0, .ref (A 0)), (1, .int (nI tj)), (2, .int (nI lj)), (3, .int (nI hj)), (4, .int (nI wj))]) hx hb dM_part_69 hl (by decide) rfl (fun ls hl => ?_)
                      refine lv_iconst (v := (-1)) hx hb dM_part_71 (by decide) ?_
                      refine lv_istore (lv' := [(9, .int (-1)), (8, .int (-1)), (7, .int 0), (5, .long 0), (0, .ref (A 0)), (1, .int (nI tj)), (2, .int (nI lj)), (3, .int (nI hj)), (4, .int (nI wj))]) hx hb dM_part_72 hl (by decide) rfl (fun ls hl => ?_)
                      refine lv_iconst (v := (-1)) hx hb dM_part_74 (by decide) ?_
                      refine lv_istore (lv' := [(10, .int (-1)), (9, .int (-1)), (8, .int (-1)), (7, .int 0), (5, .long 0), (0, .ref (A 0)), (1, .int (nI tj)), (2, .int (nI lj)), (3, .int (nI hj)), (4, .int (nI wj))]) hx hb dM_part_75 hl (by decide) rfl (fun ls hl => ?_)
                      refine lv_iload_n hx hb dM_part_77 rfl (lv_at hl 7 rfl) ?_
                      refine lv_istore (lv' := [(11, .int (nI lj)), (10, .int (-1)), (9, .int (-1)), (8, .int (-1)), (7, .int 0), (5, .long 0), (0, .ref (A 0)), (1, .int (nI tj)), (2, .int (nI lj)), (3, .int (nI hj)), (4, .int (nI wj))]) hx hb dM_part_78 hl (by decide) rfl (fun ls hl => ?_)
                      have key : ∀ (n i : Nat) (sm : Int64) (le gr la : Int32) (ls : Array Slot), i + n = hj + 1 - lj → sm = ag (mV fof fke fnu fno tj) (mSt fof fke fst tj) 1 lj (i) → (le = -1 ∨ ∃ j, j < 1024 ∧ le = nI j) → le.toInt64 = ag (mV fof fke fnu fno tj) (mSt fof fke fst tj) 2 lj (i) → gr.toInt64 = ag (mV fof fke fnu fno tj) (mSt fof fke fst tj) 3 lj (i) → la.toInt64 = ag (mV fof fke fnu fno tj) (mSt fof fke fst tj) 4 lj (i) → lv_has ls 13 [(11, .int (nI (lj + i))), (10, .int la), (9, .int gr), (8, .int le), (7, .int (nI (cnt (mV fof fke fnu fno tj) lj i))), (5, .long sm), (0, .ref (A 0)), (1, .int (nI tj)), (2, .int (nI lj)), (3, .int (nI hj)), (4, .int (nI wj))] → W p l e (headSpec wM_part ({ frames := 2, cells := 0, slots := 0, locals := 200 })).room s m [.ref (A 0), .int (nI tj), .int (nI lj), .int (nI hj), .int (nI wj)].toArray below meth c H locs1 0 0 (MQ below (va_Ql (fun r (u : Nat) => (u = 0 ∧ ¬ (inT (nI tj) mn ∧ inT (nI lj) 1024 ∧ inT (nI hj) 1024 ∧ nI lj ≤ nI hj ∧ inT (nI wj) 5) ∧ r = 0) ∨ (u = 2 ∧ ∃ tj_1 lj_1 hj_1 wj_1, tj_1 < mn ∧ nI tj = nI tj_1 ∧ lj_1 < 1024 ∧ nI lj = nI lj_1 ∧ hj_1 < 1024 ∧ nI hj = nI hj_1 ∧ wj_1 < 5 ∧ nI wj = nI wj_1 ∧ lj_1 ≤ hj_1 ∧ r = ag (mV fof fke fnu fno tj_1) (mSt fof fke fst tj_1) wj_1 lj_1 (hj_1 + 1 - lj_1))) (fun u t' => ∃ fla' fot', va_P Γ.1 gC (wM Γ A (match u with | 0 => 1 | 1 => 2 | _ => 0) (nI mn) fof fke fst fnu fno fla' fot') t'.heap) (mA Γ)) [.ref (A 0), .int (nI tj), .int (nI lj), .int (nI hj), .int (nI wj)].toArray s 0 0 (mA Γ)) (F0 m 80 ls []) := by
                        intro n
                        induction n with
                        | zero =>
                          intro i sm le gr la ls hi r1 r2 r3 r4 r5 hl
                          refine lv_iload hx hb dM_part_80 (lv_at hl 0 rfl) ?_
                          refine lv_iload_n hx hb dM_part_82 rfl (lv_at hl 9 rfl) ?_
                          refine lv_icmp_gt (tgt := 167) hx hb dM_part_83 (by decide) (fun d1 => ?_) (fun d1 => ?_)
                          · have ei : i = hj + 1 - lj := by omega
                            refine lv_iload hx hb dM_part_167 (lv_at hl 10 rfl) ?_
                            refine lv_if_ne (tgt := 178) hx hb dM_part_169 (by decide) (fun e0 => ?_) (fun e0 => ?_)
                            · refine lv_iload hx hb dM_part_178 (lv_at hl 10 rfl) ?_
                              refine lv_iconst (v := 1) hx hb dM_part_180 (by decide) ?_
                              refine lv_icmp_ne (tgt := 189) hx hb dM_part_181 (by decide) (fun e1 => ?_) (fun e1 => ?_)
                              · refine lv_iload hx hb dM_part_189 (lv_at hl 10 rfl) ?_
                                refine lv_iconst (v := 2) hx hb dM_part_191 (by decide) ?_
                                refine lv_icmp_ne (tgt := 201) hx hb dM_part_192 (by decide) (fun e2 => ?_) (fun e2 => ?_)
                                · refine lv_iload hx hb dM_part_201 (lv_at hl 10 rfl) ?_
                                  refine lv_iconst (v := 3) hx hb dM_part_203 (by decide) ?_
                                  refine lv_icmp_ne (tgt := 213) hx hb dM_part_204 (by decide) (fun e3 => ?_) (fun e3 => ?_)
                                  · have hw9 : wj = 4 := by
                                      have n0 : wj ≠ 0 := fun h => e0 (by rw [h]; rfl)
                                      have n1 : wj ≠ 1 := fun h => e1 (by rw [h]; rfl)
                                      have n2 : wj ≠ 2 := fun h => e2 (by rw [h]; rfl)
                                      have n3 : wj ≠ 3 := fun h => e3 (by rw [h]; rfl)
                                      omega
                                    refine lv_iload hx hb dM_part_213 (lv_at hl 1 rfl) ?_
                                    refine lv_i2l (v := la.toInt64) hx hb dM_part_215 rfl ?_
                                    exact W.lret (v := la.toInt64) hx hb hr (fun t8 ht8 hW9 => ⟨⟨_, 2, rfl, Or.inr ⟨rfl, tj, lj, hj, wj, htj, rfl, hlj, rfl, hhj, rfl, hwj, rfl, hle, by rw [hw9, ← ei]; exact r5⟩, ⟨_, _, by subst ht8; exact hP⟩⟩, hS.F ht8⟩) (fun q hq => hS.2.2 q hq) dM_part_216
                                  · have hw9 : wj = 3 := (nI_eq (b := 3) (by omega) (by omega)).mp e3
                                    refine lv_iload hx hb dM_part_207 (lv_at hl 2 rfl) ?_
                                    refine lv_i2l (v := gr.toInt64) hx hb dM_part_209 rfl ?_
                                    refine lv_goto (tgt := 216) hx hb dM_part_210 (by decide) ?_
                                    exact W.lret (v := gr.toInt64) hx hb hr (fun t8 ht8 hW9 => ⟨⟨_, 2, rfl, Or.inr ⟨rfl, tj, lj, hj, wj, htj, rfl, hlj, rfl, hhj, rfl, hwj, rfl, hle, by rw [hw9, ← ei]; exact r4⟩, ⟨_, _, by subst ht8; exact hP⟩⟩, hS.F ht8⟩) (fun q hq => hS.2.2 q hq) dM_part_216
                                · have hw9 : wj = 2 := (nI_eq (b := 2) (by omega) (by omega)).mp e2
                                  refine lv_iload hx hb dM_part_195 (lv_at hl 3 rfl) ?_
                                  refine lv_i2l (v := le.toInt64) hx hb dM_part_197 rfl ?_
                                  refine lv_goto (tgt := 216) hx hb dM_part_198 (by decide) ?_
                                  exact W.lret (v := le.toInt64) hx hb hr (fun t8 ht8 hW9 => ⟨⟨_, 2, rfl, Or.inr ⟨rfl, tj, lj, hj, wj, htj, rfl, hlj, rfl, hhj, rfl, hwj, rfl, hle, by rw [hw9, ← ei]; exact r3⟩, ⟨_, _, by subst ht8; exact hP⟩⟩, hS.F ht8⟩) (fun q hq => hS.2.2 q hq) dM_part_216
                              · have hw9 : wj = 1 := (nI_eq (b := 1) (by omega) (by omega)).mp e1
                                refine lv_lload hx hb dM_part_184 (lv_at hl 5 rfl) ?_
                                refine lv_goto (tgt := 216) hx hb dM_part_186 (by decide) ?_
                                exact W.lret (v := sm) hx hb hr (fun t8 ht8 hW9 => ⟨⟨_, 2, rfl, Or.inr ⟨rfl, tj, lj, hj, wj, htj, rfl, hlj, rfl, hhj, rfl, hwj, rfl, hle, by rw [hw9, ← ei]; exact r1⟩, ⟨_, _, by subst ht8; exact hP⟩⟩, hS.F ht8⟩) (fun q hq => hS.2.2 q hq) dM_part_216
                            · have hw9 : wj = 0 := (nI_eq (b := 0) (by omega) (by omega)).mp (e0.trans nI_0.symm)
                              refine lv_iload hx hb dM_part_172 (lv_at hl 4 rfl) ?_
                              refine lv_i2l (v := (nI (cnt (mV fof fke fnu fno tj) lj i)).toInt64) hx hb dM_part_174 rfl ?_
                              refine lv_goto (tgt := 216) hx hb dM_part_175 (by decide) ?_
                              exact W.lret (v := (nI (cnt (mV fof fke fnu fno tj) lj i)).toInt64) hx hb hr (fun t8 ht8 hW9 => ⟨⟨_, 2, rfl, Or.inr ⟨rfl, tj, lj, hj, wj, htj, rfl, hlj, rfl, hhj, rfl, hwj, rfl, hle, by rw [hw9, ← ei]; rw [nI_l (by have := cnt_le (mV fof fke fnu fno tj) lj i; omega), ag_cnt]⟩, ⟨_, _, by subst ht8; exact hP⟩⟩, hS.F ht8⟩) (fun q hq => hS.2.2 q hq) dM_part_216
                          · exact absurd (show nI hj < nI (lj + i) from nI_lt (by omega) (by omega)) d1
                        | succ n ih =>
                          intro i sm le gr la ls hi r1 r2 r3 r4 r5 hl
                          have hki : lj + i < 1024 := by omega
                          have hcl := cnt_le (mV fof fke fnu fno tj) lj i
                          have hwl := (wq_ok hmn hMI (lj + i) tj htj).1
                          obtain ⟨cc, hcc⟩ : ∃ cc, wq fof fke tj (lj + i) = cc := ⟨_, rfl⟩
                          rw [hcc] at hwl
                          have t161 : ∀ (sm2 : Int64) (le2 gr2 la2 : Int32) (ls : Array Slot), sm2 = ag (mV fof fke fnu fno tj) (mSt fof fke fst tj) 1 lj (i + 1) → (le2 = -1 ∨ ∃ j, j < 1024 ∧ le2 = nI j) → le2.toInt64 = ag (mV fof fke fnu fno tj) (mSt fof fke fst tj) 2 lj (i + 1) → gr2.toInt64 = ag (mV fof fke fnu fno tj) (mSt fof fke fst tj) 3 lj (i + 1) → la2.toInt64 = ag (mV fof fke fnu fno tj) (mSt fof fke fst tj) 4 lj (i + 1) → lv_has ls 13 [(11, .int (nI (lj + i))), (10, .int la2), (9, .int gr2), (8, .int le2), (7, .int (nI (cnt (mV fof fke fnu fno tj) lj (i + 1)))), (5, .long sm2), (0, .ref (A 0)), (1, .int (nI tj)), (2, .int (nI lj)), (3, .int (nI hj)), (4, .int (nI wj))] → W p l e (headSpec wM_part ({ frames := 2, cells := 0, slots := 0, locals := 200 })).room s m [.ref (A 0), .int (nI tj), .int (nI lj), .int (nI hj), .int (nI wj)].toArray below meth c H locs1 0 0 (MQ below (va_Ql (fun r (u : Nat) => (u = 0 ∧ ¬ (inT (nI tj) mn ∧ inT (nI lj) 1024 ∧ inT (nI hj) 1024 ∧ nI lj ≤ nI hj ∧ inT (nI wj) 5) ∧ r = 0) ∨ (u = 2 ∧ ∃ tj_1 lj_1 hj_1 wj_1, tj_1 < mn ∧ nI tj = nI tj_1 ∧ lj_1 < 1024 ∧ nI lj = nI lj_1 ∧ hj_1 < 1024 ∧ nI hj = nI hj_1 ∧ wj_1 < 5 ∧ nI wj = nI wj_1 ∧ lj_1 ≤ hj_1 ∧ r = ag (mV fof fke fnu fno tj_1) (mSt fof fke fst tj_1) wj_1 lj_1 (hj_1 + 1 - lj_1))) (fun u t' => ∃ fla' fot', va_P Γ.1 gC (wM Γ A (match u with | 0 => 1 | 1 => 2 | _ => 0) (nI mn) fof fke fst fnu fno fla' fot') t'.heap) (mA Γ)) [.ref (A 0), .int (nI tj), .int (nI lj), .int (nI hj), .int (nI wj)].toArray s 0 0 (mA Γ)) (F0 m 161 ls []) := by
                            intro sm2 le2 gr2 la2 ls q1 q2 q3 q4 q5 hl
                            refine lv_iinc (v := nI (lj + (i + 1))) (lv' := [(11, .int (nI (lj + (i + 1)))), (10, .int la2), (9, .int gr2), (8, .int le2), (7, .int (nI (cnt (mV fof fke fnu fno tj) lj (i + 1)))), (5, .long sm2), (0, .ref (A 0)), (1, .int (nI tj)), (2, .int (nI lj)), (3, .int (nI hj)), (4, .int (nI wj))]) hx hb dM_part_161 hl (k := 0) rfl (by rw [← Nat.add_assoc]; exact nI_1 (lj + i)) (by decide) rfl (fun ls hl => ?_)
                            refine lv_goto (tgt := 80) hx hb dM_part_164 (by decide) ?_
                            exact ih (i + 1) sm2 le2 gr2 la2 ls (by omega) q1 q2 q3 q4 q5 (lv_sub hl [0, 1, 2, 3, 4, 5, 6, 7, 8, 9, 10] rfl)
                          have t121 : ∀ (la2 : Int32) (ls : Array Slot), la2.toInt64 = ag (mV fof fke fnu fno tj) (mSt fof fke fst tj) 4 lj (i + 1) → lv_has ls 13 [(12, .int (nI cc)), (11, .int (nI (lj + i))), (10, .int la2), (9, .int gr), (8, .int le), (7, .int (nI (cnt (mV fof fke fnu fno tj) lj i))), (5, .long sm), (0, .ref (A 0)), (1, .int (nI tj)), (2, .int (nI lj)), (3, .int (nI hj)), (4, .int (nI wj))] → W p l e (headSpec wM_part ({ frames := 2, cells := 0, slots := 0, locals := 200 })).room s m [.ref (A 0), .int (nI tj), .int (nI lj), .int (nI hj), .int (nI wj)].toArray below meth c H locs1 0 0 (MQ below (va_Ql (fun r (u : Nat) => (u = 0 ∧ ¬ (inT (nI tj) mn ∧ inT (nI lj) 1024 ∧ inT (nI hj) 1024 ∧ nI lj ≤ nI hj ∧ inT (nI wj) 5) ∧ r = 0) ∨ (u = 2 ∧ ∃ tj_1 lj_1 hj_1 wj_1, tj_1 < mn ∧ nI tj = nI tj_1 ∧ lj_1 < 1024 ∧ nI lj = nI lj_1 ∧ hj_1 < 1024 ∧ nI hj = nI hj_1 ∧ wj_1 < 5 ∧ nI wj = nI wj_1 ∧ lj_1 ≤ hj_1 ∧ r = ag (mV fof fke fnu fno tj_1) (mSt fof fke fst tj_1) wj_1 lj_1 (hj_1 + 1 - lj_1))) (fun u t' => ∃ fla' fot', va_P Γ.1 gC (wM Γ A (match u with | 0 => 1 | 1 => 2 | _ => 0) (nI mn) fof fke fst fnu fno fla' fot') t'.heap) (mA Γ)) [.ref (A 0), .int (nI tj), .int (nI lj), .int (nI hj), .int (nI wj)].toArray s 0 0 (mA Γ)) (F0 m 121 ls []) := by
                            intro la2 ls q5 hl
                            refine lv_aload_n hx hb dM_part_121 rfl (lv_at hl 7 rfl) ?_
                            refine lv_iload hx hb dM_part_122 (lv_at hl 0 rfl) ?_
                            refine vp_callSi (W.runV (As := [.int (nI cc)]) (rest := []) ⟨hx, hb, hml, hown, hg⟩ (c_M_has l Γ H (ci := cc) hP (by omega)) (cwV 1 hg gM_64 rfl rfl rfl (by decide +kernel) ⟨Nat.le_of_ble_eq_true rfl, Nat.le_of_ble_eq_true rfl⟩) (gP_V hW (vS_m hm hS) (ci := 2) rfl (hP 0 _ rfl)) rfl rfl hl.1 rfl (lv_room (Nat.le_of_ble_eq_true rfl)) dM_part_124 ⟨Nat.le_of_ble_eq_true rfl, Nat.le_of_ble_eq_true rfl⟩) (fun x1 hx1 => ?_)
                            by_cases hb9 : cc ≠ 0 ∧ fno cc = 0
                            · rw [if_pos hb9] at hx1
                              subst hx1
                              have hVk := mV_val (fnu := fnu) hcc hb9.1 hb9.2
                              refine lv_if_ne (tgt := 133) hx hb dM_part_127 (by decide) (fun c10 => ?_) (fun c10 => ?_)
                              · refine lv_iinc (v := nI (cnt (mV fof fke fnu fno tj) lj (i + 1))) (lv' := [(7, .int (nI (cnt (mV fof fke fnu fno tj) lj (i + 1)))), (12, .int (nI cc)), (11, .int (nI (lj + i))), (10, .int la2), (9, .int gr), (8, .int le), (5, .long sm), (0, .ref (A 0)), (1, .int (nI tj)), (2, .int (nI lj)), (3, .int (nI hj)), (4, .int (nI wj))]) hx hb dM_part_133 hl (k := 5) rfl (by rw [show cnt (mV fof fke fnu fno tj) lj (i + 1) = cnt (mV fof fke fnu fno tj) lj i + 1 by simp [cnt, hVk]]; exact nI_1 _) (by decide) rfl (fun ls hl => ?_)
                                refine lv_lload hx hb dM_part_136 (lv_at hl 6 rfl) ?_
                                refine lv_aload_n hx hb dM_part_138 rfl (lv_at hl 7 rfl) ?_
                                refine va_get (D := Γ.1) (ci := 2) (v := .ref (A 4)) (C := RM) (T := TM) (N := 9) hx hb hg inM hown hW.1 hP 0 rfl rfl 4 (by decide) (hg _ kw293) (fun _ h9 => h9) rfl dM_part_139 ?_
                                refine lv_iload hx hb dM_part_142 (lv_at hl 1 rfl) ?_
                                refine va_lald (D := Γ.1) (cl := gC) (tys := gT Γ) hx hb hW.1 hP 4 0 rfl rfl (vp_in_nI (show cc < 400 by omega) (by omega)) dM_part_144 ?_
                                rw [nI_clamp (show cc < 2 ^ 31 by omega)]
                                refine lv_ladd hx hb dM_part_145 ?_
                                refine lv_lstore (lv' := [(5, .long (sm + (fnu cc))), (7, .int (nI (cnt (mV fof fke fnu fno tj) lj (i + 1)))), (12, .int (nI cc)), (11, .int (nI (lj + i))), (10, .int la2), (9, .int gr), (8, .int le), (0, .ref (A 0)), (1, .int (nI tj)), (2, .int (nI lj)), (3, .int (nI hj)), (4, .int (nI wj))]) hx hb dM_part_146 hl (by decide) rfl (fun ls hl => ?_)
                                refine lv_iload hx hb dM_part_148 (lv_at hl 3 rfl) ?_
                                refine lv_istore (lv' := [(9, .int (nI (lj + i))), (5, .long (sm + (fnu cc))), (7, .int (nI (cnt (mV fof fke fnu fno tj) lj (i + 1)))), (12, .int (nI cc)), (11, .int (nI (lj + i))), (10, .int la2), (8, .int le), (0, .ref (A 0)), (1, .int (nI tj)), (2, .int (nI lj)), (3, .int (nI hj)), (4, .int (nI wj))]) hx hb dM_part_150 hl (by decide) rfl (fun ls hl => ?_)
                                refine lv_iload hx hb dM_part_152 (lv_at hl 6 rfl) ?_
                                refine lv_if_ge (tgt := 161) hx hb dM_part_154 (by decide) (fun c11 => ?_) (fun c11 => ?_)
                                · have hle2 : ¬ le.toInt64 = -1 := by
                                    rcases r2 with h | ⟨j, hj9, h⟩
                                    · rw [h] at c11; exact absurd c11 (by decide)
                                    · rw [h, nI_l (by omega)]; exact lN_ne hj9
                                  exact t161 _ le (nI (lj + i)) la2 ls (by rw [r1]; simp [ag, cmb, lfv, hVk]) r2 (by rw [r3]; show ag (mV fof fke fnu fno tj) (mSt fof fke fst tj) 2 lj i = cmb 2 (ag (mV fof fke fnu fno tj) (mSt fof fke fst tj) 2 lj i) (lfv (mV fof fke fnu fno tj) (mSt fof fke fst tj) 2 (lj + i)); rw [← r3]; simp [cmb, hle2]) (by rw [nI_l (by omega)]; show lN (lj + i) = cmb 3 (ag (mV fof fke fnu fno tj) (mSt fof fke fst tj) 3 lj i) (lfv (mV fof fke fnu fno tj) (mSt fof fke fst tj) 3 (lj + i)); simp [cmb, lfv, hVk, lN_ne hki]) q5 (lv_sub hl [4, 5, 0, 6, 2, 1, 7, 8, 9, 10, 11] rfl)
                                · have hle1 : le = -1 := by
                                    rcases r2 with h | ⟨j, hj9, h⟩
                                    · exact h
                                    · exact absurd (by rw [h]; exact nI_pos' (by omega)) c11
                                  refine lv_iload hx hb dM_part_157 (lv_at hl 4 rfl) ?_
                                  refine lv_istore (lv' := [(8, .int (nI (lj + i))), (9, .int (nI (lj + i))), (5, .long (sm + (fnu cc))), (7, .int (nI (cnt (mV fof fke fnu fno tj) lj (i + 1)))), (12, .int (nI cc)), (11, .int (nI (lj + i))), (10, .int la2), (0, .ref (A 0)), (1, .int (nI tj)), (2, .int (nI lj)), (3, .int (nI hj)), (4, .int (nI wj))]) hx hb dM_part_159 hl (by decide) rfl (fun ls hl => ?_)
                                  exact t161 _ (nI (lj + i)) (nI (lj + i)) la2 ls (by rw [r1]; simp [ag, cmb, lfv, hVk]) (Or.inr ⟨_, hki, rfl⟩) (by rw [nI_l (by omega)]; show lN (lj + i) = cmb 2 (ag (mV fof fke fnu fno tj) (mSt fof fke fst tj) 2 lj i) (lfv (mV fof fke fnu fno tj) (mSt fof fke fst tj) 2 (lj + i)); rw [← r3, hle1, neg1_64]; simp [cmb, lfv, hVk]) (by rw [nI_l (by omega)]; show lN (lj + i) = cmb 3 (ag (mV fof fke fnu fno tj) (mSt fof fke fst tj) 3 lj i) (lfv (mV fof fke fnu fno tj) (mSt fof fke fst tj) 3 (lj + i)); simp [cmb, lfv, hVk, lN_ne hki]) q5 (lv_sub hl [5, 6, 1, 0, 3, 2, 7, 8, 9, 10, 11] rfl)
                              · exact absurd c10 (by decide)
                            · rw [if_neg hb9] at hx1
                              subst hx1
                              have hVk := mV_no (fnu := fnu) hcc hb9
                              refine lv_if_ne (tgt := 133) hx hb dM_part_127 (by decide) (fun c10 => ?_) (fun c10 => ?_)
                              · exact absurd rfl c10
                              · refine lv_goto (tgt := 161) hx hb dM_part_130 (by decide) ?_
                                have ec : cnt (mV fof fke fnu fno tj) lj (i + 1) = cnt (mV fof fke fnu fno tj) lj i := by simp [cnt, hVk]
                                exact t161 sm le gr la2 ls (by rw [r1]; simp [ag, cmb, lfv, hVk]) r2 (by rw [r3]; show ag (mV fof fke fnu fno tj) (mSt fof fke fst tj) 2 lj i = cmb 2 (ag (mV fof fke fnu fno tj) (mSt fof fke fst tj) 2 lj i) (lfv (mV fof fke fnu fno tj) (mSt fof fke fst tj) 2 (lj + i)); by_cases h9 : ag (mV fof fke fnu fno tj) (mSt fof fke fst tj) 2 lj i = -1 <;> simp [cmb, lfv, hVk, h9]) (by rw [r4]; show ag (mV fof fke fnu fno tj) (mSt fof fke fst tj) 3 lj i = cmb 3 (ag (mV fof fke fnu fno tj) (mSt fof fke fst tj) 3 lj i) (lfv (mV fof fke fnu fno tj) (mSt fof fke fst tj) 3 (lj + i)); simp [cmb, lfv, hVk]) q5 (by rw [ec]; exact lv_sub hl [1, 2, 3, 4, 5, 6, 7, 8, 9, 10, 11] rfl)
                          refine lv_iload hx hb dM_part_80 (lv_at hl 0 rfl) ?_
                          refine lv_iload_n hx hb dM_part_82 rfl (lv_at hl 9 rfl) ?_
                          refine lv_icmp_gt (tgt := 167) hx hb dM_part_83 (by decide) (fun d1 => ?_) (fun d1 => ?_)
                          · exact absurd d1 (nI_nlt (b := lj + i) (a := hj) (by omega) (by omega))
                          · refine lv_aload_n hx hb dM_part_86 rfl (lv_at hl 6 rfl) ?_
                            refine va_get (D := Γ.1) (ci := 2) (v := .ref (A 6)) (C := RM) (T := TM) (N := 9) hx hb hg inM hown hW.1 hP 0 rfl rfl 6 (by decide) (hg _ kw295) (fun _ h9 => h9) rfl dM_part_87 ?_
                            refine lv_iload hx hb dM_part_90 (lv_at hl 0 rfl) ?_
                            refine va_iald (D := Γ.1) (cl := gC) (tys := gT Γ) hx hb hW.1 hP 6 2 rfl rfl (vp_in_nI (show lj + i < 1024 by omega) (by omega)) dM_part_92 ?_
                            rw [nI_clamp (show lj + i < 2 ^ 31 by omega)]
                            rw [hg6 _ hki, hcc]
                            refine lv_istore (lv' := [(12, .int (nI cc)), (11, .int (nI (lj + i))), (10, .int la), (9, .int gr), (8, .int le), (7, .int (nI (cnt (mV fof fke fnu fno tj) lj i))), (5, .long sm), (0, .ref (A 0)), (1, .int (nI tj)), (2, .int (nI lj)), (3, .int (nI hj)), (4, .int (nI wj))]) hx hb dM_part_93 hl (by decide) rfl (fun ls hl => ?_)
                            refine lv_iload hx hb dM_part_95 (lv_at hl 0 rfl) ?_
                            refine lv_if_eq (tgt := 121) hx hb dM_part_97 (by decide) (fun d2 => ?_) (fun d2 => ?_)
                            · have h0 : cc = 0 := (nI_eq (by omega) (by omega)).mp (d2.trans nI_0.symm)
                              refine t121 la ls ?_ (lv_sub hl [0, 1, 2, 3, 4, 5, 6, 7, 8, 9, 10, 11] rfl)
                              show la.toInt64 = cmb 4 (ag (mV fof fke fnu fno tj) (mSt fof fke fst tj) 4 lj i) (lfv (mV fof fke fnu fno tj) (mSt fof fke fst tj) 4 (lj + i))
                              rw [show lfv (mV fof fke fnu fno tj) (mSt fof fke fst tj) 4 (lj + i) = tkN 4 by simp [lfv, mSt, hcc, h0, tkN], cmb_r (by omega) (ag_ge' hwf 4 lj i)]
                              exact r5
                            · have h0 : ¬ cc = 0 := fun h => d2 (by rw [h]; exact nI_0)
                              have hS4 : lfv (mV fof fke fnu fno tj) (mSt fof fke fst tj) 4 (lj + i) = (fst cc).toInt64 := by simp [lfv, mSt, hcc, h0]
                              refine lv_aload_n hx hb dM_part_100 rfl (lv_at hl 7 rfl) ?_
                              refine va_get (D := Γ.1) (ci := 2) (v := .ref (A 3)) (C := RM) (T := TM) (N := 9) hx hb hg inM hown hW.1 hP 0 rfl rfl 3 (by decide) (hg _ kw292) (fun _ h9 => h9) rfl dM_part_101 ?_
                              refine lv_iload hx hb dM_part_104 (lv_at hl 0 rfl) ?_
                              refine va_iald (D := Γ.1) (cl := gC) (tys := gT Γ) hx hb hW.1 hP 3 2 rfl rfl (vp_in_nI (show cc < 400 by omega) (by omega)) dM_part_106 ?_
                              rw [nI_clamp (show cc < 2 ^ 31 by omega)]
                              refine lv_iload hx hb dM_part_107 (lv_at hl 2 rfl) ?_
                              refine lv_icmp_le (tgt := 121) hx hb dM_part_109 (by decide) (fun d3 => ?_) (fun d3 => ?_)
                              · refine t121 la ls ?_ (lv_sub hl [0, 1, 2, 3, 4, 5, 6, 7, 8, 9, 10, 11] rfl)
                                show la.toInt64 = cmb 4 (ag (mV fof fke fnu fno tj) (mSt fof fke fst tj) 4 lj i) (lfv (mV fof fke fnu fno tj) (mSt fof fke fst tj) 4 (lj + i))
                                rw [hS4, ← r5, cmb4_32, if_pos d3]
                              · refine lv_aload_n hx hb dM_part_112 rfl (lv_at hl 7 rfl) ?_
                                refine va_get (D := Γ.1) (ci := 2) (v := .ref (A 3)) (C := RM) (T := TM) (N := 9) hx hb hg inM hown hW.1 hP 0 rfl rfl 3 (by decide) (hg _ kw292) (fun _ h9 => h9) rfl dM_part_113 ?_
                                refine lv_iload hx hb dM_part_116 (lv_at hl 0 rfl) ?_
                                refine va_iald (D := Γ.1) (cl := gC) (tys := gT Γ) hx hb hW.1 hP 3 2 rfl rfl (vp_in_nI (show cc < 400 by omega) (by omega)) dM_part_118 ?_
                                rw [nI_clamp (show cc < 2 ^ 31 by omega)]
                                refine lv_istore (lv' := [(10, .int (fst cc)), (12, .int (nI cc)), (11, .int (nI (lj + i))), (9, .int gr), (8, .int le), (7, .int (nI (cnt (mV fof fke fnu fno tj) lj i))), (5, .long sm), (0, .ref (A 0)), (1, .int (nI tj)), (2, .int (nI lj)), (3, .int (nI hj)), (4, .int (nI wj))]) hx hb dM_part_119 hl (by decide) rfl (fun ls hl => ?_)
                                refine t121 (fst cc) ls ?_ (lv_sub hl [1, 2, 0, 3, 4, 5, 6, 7, 8, 9, 10, 11] rfl)
                                show (fst cc).toInt64 = cmb 4 (ag (mV fof fke fnu fno tj) (mSt fof fke fst tj) 4 lj i) (lfv (mV fof fke fnu fno tj) (mSt fof fke fst tj) 4 (lj + i))
                                rw [hS4, ← r5, cmb4_32, if_neg d3]
                      exact key (hj + 1 - lj) 0 0 (-1) (-1) (-1) ls (by omega) rfl (Or.inl rfl) neg1_64 neg1_64 neg1_64 (lv_sub hl [0, 1, 2, 3, 4, 5, 6, 7, 8, 9, 10] rfl)
                    · exact absurd rfl c7
                  · refine lv_iconst (v := 1) hx hb dM_part_39 (by decide) ?_
                    refine lv_goto (tgt := 44) hx hb dM_part_40 (by decide) ?_
                    refine lv_iconst (v := 1) hx hb dM_part_44 (by decide) ?_
                    refine va_calli (va_runV (As := [.int 1, .int 1]) (rest := []) ⟨hx, hb, hml, hown, hg⟩ (c_M_fails1 l Γ s.heap hP hD hm) (cwV 2 hg gM_48 rfl rfl rfl (by decide +kernel) ⟨Nat.le_of_ble_eq_true rfl, Nat.le_of_ble_eq_true rfl⟩) (gP_V hW (vS_m hm hS) (ci := 2) rfl (hP 0 _ rfl)) rfl rfl hl.1 rfl (lv_room (Nat.le_of_ble_eq_true rfl)) dM_part_45 ⟨Nat.le_of_ble_eq_true rfl, Nat.le_of_ble_eq_true rfl⟩) hS (fun q _ h => h) (fun q h => h) (fun r u t9 H1 locs1 ht hvm hp hB hz1 hk1 hS => ?_)
                    subst hp
                    rw [ht] at hB
                    have hP : va_P Γ.1 gC (wM Γ A (1) (nI mn) (fof) (fke) (fst) (fnu) (fno) (fla) (fot)) H1 := hB
                    have hD : va_D (mA Γ) (wM Γ A (1) (nI mn) (fof) (fke) (fst) (fnu) (fno) (fla) (fot)) := vD_map (by rfl) hD
                    generalize H1 = H at hP hS ⊢
                    clear hk1 hz1 ht hB
                    refine lv_if_eq (tgt := 53) hx hb dM_part_48 (by decide) (fun c9 => ?_) (fun c9 => ?_)
                    · exact absurd c9 (by decide)
                    · refine lv_lconst (v := 0) hx hb dM_part_51 (by decide) ?_
                      exact W.lret (v := 0) hx hb hr (fun t8 ht8 hW9 => ⟨⟨0, 0, rfl, Or.inl ⟨rfl, fun h => by obtain ⟨j, hj, rfl⟩ := h.2.2.2.2; exact c6 (nI_le (a := j) (b := 4) (by omega) (by omega)), rfl⟩, ⟨_, _, by subst ht8; exact hP⟩⟩, hS.F ht8⟩) (fun q hq => hS.2.2 q hq) dM_part_52
          · refine lv_if_ne (tgt := 39) hx hb dM_part_20 (by decide) (fun c8 => ?_) (fun c8 => ?_)
            · refine lv_iconst (v := 1) hx hb dM_part_39 (by decide) ?_
              refine lv_goto (tgt := 44) hx hb dM_part_40 (by decide) ?_
              refine lv_iconst (v := 1) hx hb dM_part_44 (by decide) ?_
              refine va_calli (va_runV (As := [.int 1, .int 1]) (rest := []) ⟨hx, hb, hml, hown, hg⟩ (c_M_fails1 l Γ s.heap hP hD hm) (cwV 2 hg gM_48 rfl rfl rfl (by decide +kernel) ⟨Nat.le_of_ble_eq_true rfl, Nat.le_of_ble_eq_true rfl⟩) (gP_V hW (vS_m hm hS) (ci := 2) rfl (hP 0 _ rfl)) rfl rfl hl.1 rfl (lv_room (Nat.le_of_ble_eq_true rfl)) dM_part_45 ⟨Nat.le_of_ble_eq_true rfl, Nat.le_of_ble_eq_true rfl⟩) hS (fun q _ h => h) (fun q h => h) (fun r u t9 H1 locs1 ht hvm hp hB hz1 hk1 hS => ?_)
              subst hp
              rw [ht] at hB
              have hP : va_P Γ.1 gC (wM Γ A (1) (nI mn) (fof) (fke) (fst) (fnu) (fno) (fla) (fot)) H1 := hB
              have hD : va_D (mA Γ) (wM Γ A (1) (nI mn) (fof) (fke) (fst) (fnu) (fno) (fla) (fot)) := vD_map (by rfl) hD
              generalize H1 = H at hP hS ⊢
              clear hk1 hz1 ht hB
              refine lv_if_eq (tgt := 53) hx hb dM_part_48 (by decide) (fun c9 => ?_) (fun c9 => ?_)
              · exact absurd c9 (by decide)
              · refine lv_lconst (v := 0) hx hb dM_part_51 (by decide) ?_
                exact W.lret (v := 0) hx hb hr (fun t8 ht8 hW9 => ⟨⟨0, 0, rfl, Or.inl ⟨rfl, fun h => h3 h.2.2.1, rfl⟩, ⟨_, _, by subst ht8; exact hP⟩⟩, hS.F ht8⟩) (fun q hq => hS.2.2 q hq) dM_part_52
            · exact absurd c8 (by decide)
      · refine lv_if_ne (tgt := 39) hx hb dM_part_13 (by decide) (fun c8 => ?_) (fun c8 => ?_)
        · refine lv_iconst (v := 1) hx hb dM_part_39 (by decide) ?_
          refine lv_goto (tgt := 44) hx hb dM_part_40 (by decide) ?_
          refine lv_iconst (v := 1) hx hb dM_part_44 (by decide) ?_
          refine va_calli (va_runV (As := [.int 1, .int 1]) (rest := []) ⟨hx, hb, hml, hown, hg⟩ (c_M_fails1 l Γ s.heap hP hD hm) (cwV 2 hg gM_48 rfl rfl rfl (by decide +kernel) ⟨Nat.le_of_ble_eq_true rfl, Nat.le_of_ble_eq_true rfl⟩) (gP_V hW (vS_m hm hS) (ci := 2) rfl (hP 0 _ rfl)) rfl rfl hl.1 rfl (lv_room (Nat.le_of_ble_eq_true rfl)) dM_part_45 ⟨Nat.le_of_ble_eq_true rfl, Nat.le_of_ble_eq_true rfl⟩) hS (fun q _ h => h) (fun q h => h) (fun r u t9 H1 locs1 ht hvm hp hB hz1 hk1 hS => ?_)
          subst hp
          rw [ht] at hB
          have hP : va_P Γ.1 gC (wM Γ A (1) (nI mn) (fof) (fke) (fst) (fnu) (fno) (fla) (fot)) H1 := hB
          have hD : va_D (mA Γ) (wM Γ A (1) (nI mn) (fof) (fke) (fst) (fnu) (fno) (fla) (fot)) := vD_map (by rfl) hD
          generalize H1 = H at hP hS ⊢
          clear hk1 hz1 ht hB
          refine lv_if_eq (tgt := 53) hx hb dM_part_48 (by decide) (fun c9 => ?_) (fun c9 => ?_)
          · exact absurd c9 (by decide)
          · refine lv_lconst (v := 0) hx hb dM_part_51 (by decide) ?_
            exact W.lret (v := 0) hx hb hr (fun t8 ht8 hW9 => ⟨⟨0, 0, rfl, Or.inl ⟨rfl, fun h => h2 h.2.1, rfl⟩, ⟨_, _, by subst ht8; exact hP⟩⟩, hS.F ht8⟩) (fun q hq => hS.2.2 q hq) dM_part_52
        · exact absurd c8 (by decide)
  · refine lv_if_ne (tgt := 39) hx hb dM_part_6 (by decide) (fun c8 => ?_) (fun c8 => ?_)
    · refine lv_iconst (v := 1) hx hb dM_part_39 (by decide) ?_
      refine lv_goto (tgt := 44) hx hb dM_part_40 (by decide) ?_
      refine lv_iconst (v := 1) hx hb dM_part_44 (by decide) ?_
      refine va_calli (va_runV (As := [.int 1, .int 1]) (rest := []) ⟨hx, hb, hml, hown, hg⟩ (c_M_fails1 l Γ s.heap hP hD hm) (cwV 2 hg gM_48 rfl rfl rfl (by decide +kernel) ⟨Nat.le_of_ble_eq_true rfl, Nat.le_of_ble_eq_true rfl⟩) (gP_V hW (vS_m hm hS) (ci := 2) rfl (hP 0 _ rfl)) rfl rfl hl.1 rfl (lv_room (Nat.le_of_ble_eq_true rfl)) dM_part_45 ⟨Nat.le_of_ble_eq_true rfl, Nat.le_of_ble_eq_true rfl⟩) hS (fun q _ h => h) (fun q h => h) (fun r u t9 H1 locs1 ht hvm hp hB hz1 hk1 hS => ?_)
      subst hp
      rw [ht] at hB
      have hP : va_P Γ.1 gC (wM Γ A (1) (nI mn) (fof) (fke) (fst) (fnu) (fno) (fla) (fot)) H1 := hB
      have hD : va_D (mA Γ) (wM Γ A (1) (nI mn) (fof) (fke) (fst) (fnu) (fno) (fla) (fot)) := vD_map (by rfl) hD
      generalize H1 = H at hP hS ⊢
      clear hk1 hz1 ht hB
      refine lv_if_eq (tgt := 53) hx hb dM_part_48 (by decide) (fun c9 => ?_) (fun c9 => ?_)
      · exact absurd c9 (by decide)
      · refine lv_lconst (v := 0) hx hb dM_part_51 (by decide) ?_
        exact W.lret (v := 0) hx hb hr (fun t8 ht8 hW9 => ⟨⟨0, 0, rfl, Or.inl ⟨rfl, fun h => h1 h.1, rfl⟩, ⟨_, _, by subst ht8; exact hP⟩⟩, hS.F ht8⟩) (fun q hq => hS.2.2 q hq) dM_part_52
    · exact absurd c8 (by decide)
