/-! reads of a tree, the long ones -/
theorem smod10 : ∀ L, L < 11 → (((nI L) &&& 31).toBitVec.smod 32).toNat = L := by decide +kernel
theorem shl10 {L : Nat} (hL : L < 11) : (1 : Int32) <<< (nI L &&& 31) = nI (2 ^ L) := by
  have h2 : 2 ^ L ≤ 2 ^ 10 := Nat.pow_le_pow_right (by decide) (by omega)
  have := pk_shlN (n := 1) (nI L &&& 31) L (smod10 L hL) (by omega)
  rw [Nat.one_mul] at this
  exact this
theorem lastk {a L : Nat} (hL : L < 11) (ha : a + 2 ^ L ≤ 1024) : nI a + (1 : Int32) <<< (nI L &&& 31) - 1 = nI (a + 2 ^ L - 1) := by
  have h2 : 0 < 2 ^ L := Nat.two_pow_pos L
  rw [shl10 hL, nI_add, show a + 2 ^ L = (a + 2 ^ L - 1) + 1 by omega, nI_pred]
  rw [Nat.add_sub_cancel]
set_option maxHeartbeats 4000000 in
set_option maxRecDepth 100000 in
theorem c_S_keyBehind (l : Launch) (Γ : gE) (H : Heap) {V : Nat → Option Int64} {S : Nat → Int32} {r : Option Nat} {k : Nat} (hwf : wfS S) (hT : TR Γ H V S 10 0 r) (hk : k < cnt V 0 1024) : Met l yS_keyBehind wS_keyBehind ({ frames := 2, cells := 0, slots := 0, locals := 200 }) (gP Γ H [va_rf r, .int (nI k)]) (vp_Si (fun x => ∃ K, K < 1024 ∧ x = nI K ∧ (V K).isSome = true ∧ cnt V 0 K = k)) 0 0 (fun _ => False) := by
  refine Met.ofW (cc := cS_keyBehind) (maxL := 8) (ret := (some .int)) (by decide) rfl ?_
  intro p e s m args below meth c s₁ B hml hv
  obtain ⟨rfl, rfl, hW⟩ := hv
  have hx := B.exec
  have hb := B.bytes
  have hr := B.returns
  have hg : ∀ w ∈ gW, w.before _ s = true := fun w h => atoms_spec (ws := wS_keyBehind) B.pre w (List.mem_cons_of_mem _ h)
  have hown : s.vm.findClass RS = some m.cls := findClass_of_methodNamed B.named
  have hlocks := B.notSynchronized
  have hS : va_S (gA Γ) s.heap s.heap [] := va_S.rf
  have hl := lv_entry ([va_rf r, .int (nI k)]) (n := 8) (by cases r <;> exact Nat.le_of_ble_eq_true rfl)
  rw [lg_entry_eq]
  generalize (lg_sl ([va_rf r, .int (nI k)]) ++ List.replicate (8 - (lg_sl ([va_rf r, .int (nI k)])).length) Slot.unset).toArray = ls at hl ⊢
  have hl : lv_has ls 8 [(0, va_rf r), (1, .int (nI k))] := by cases r <;> exact hl
  have key : ∀ (L a b : Nat) (q : Option Nat) (ls : Array Slot), L ≤ 10 → a + 2 ^ L ≤ 1024 → b < cnt V a (2 ^ L) → cnt V 0 a + b = k → TR Γ s.heap V S L a q → lv_has ls 8 [(5, .int (nI L)), (3, .long (lN b)), (2, va_rf q), (0, va_rf r), (1, .int (nI k))] → W p l e (headSpec wS_keyBehind ({ frames := 2, cells := 0, slots := 0, locals := 200 })).room s m [va_rf r, .int (nI k)].toArray below meth c s.heap [] 0 0 (MQ below (vp_Si (fun x => ∃ K, K < 1024 ∧ x = nI K ∧ (V K).isSome = true ∧ cnt V 0 K = k)) [va_rf r, .int (nI k)].toArray s 0 0 (fun _ => False)) (F0 m 9 ls []) := by
    intro L
    induction L with
    | zero =>
      intro a b q ls hL ha hb1 hb2 hT hl
      refine lv_iload hx hb dS_keyBehind_9 (lv_at hl 0 rfl) ?_
      refine lv_if_le (tgt := 55) hx hb dS_keyBehind_11 (by decide) (fun c1 => ?_) (fun c1 => ?_)
      · obtain ⟨f, hf, hv⟩ := hT.f
        have hs : (V a).isSome = true := by
          by_cases h : (V a).isSome = true
          · exact h
          · simp [cnt, h] at hb1
        have hb0 : b = 0 := by simp [cnt, hs] at hb1; omega
        refine q_aload_n hx hb dS_keyBehind_55 rfl (lv_at hl 2 rfl) ?_
        refine lv_iconst (v := 2) hx hb dS_keyBehind_56 (by decide) ?_
        refine vp_callSl (W.runS (As := [va_rf q, .int 2]) (rest := []) ⟨hx, hb, hml, hown, hg⟩ (c_S_takenOf l Γ s.heap (w := 2) (by omega) hf) (va_cwS 2 hg gS_46 rfl rfl rfl (by decide +kernel) ⟨Nat.le_of_ble_eq_true rfl, Nat.le_of_ble_eq_true rfl⟩) (gP_S hW hS) rfl rfl hl.1 rfl (lv_room (Nat.le_of_ble_eq_true rfl)) dS_keyBehind_57 ⟨Nat.le_of_ble_eq_true rfl, Nat.le_of_ble_eq_true rfl⟩) (fun x0 hx0 => ?_)
        refine lv_l2i (v := x0.toInt32) hx hb dS_keyBehind_60 rfl ?_
        have e0 : x0 = lN a := by rw [hx0, hv 2 (by omega)]; show ag V S 2 a 1 = lN a; rw [ag_one hwf (by omega)]; simp [lfv, hs]
        exact W.iret (v := x0.toInt32) hx hb hr (fun t ht hW9 => ⟨_, rfl, ⟨a, by simp at ha; omega, by rw [e0, lN_i], hs, by omega⟩, ht⟩) (fun _ h => nomatch h) dS_keyBehind_61
      · exact absurd (by decide) c1
    | succ L ih =>
      intro a b q ls hL ha hb1 hb2 hT hl
      obtain ⟨-, lo, up, hbl, hlo, hup⟩ := hT
      have hp := pow2_s L
      obtain ⟨f, hf, hv⟩ := hlo.f
      have hcs := cnt_split V a (2 ^ L) (2 ^ L)
      rw [← hp] at hcs
      have hcl := cnt_le V a (2 ^ L)
      have hcl2 := cnt_le V a (2 ^ (L + 1))
      refine lv_iload hx hb dS_keyBehind_9 (lv_at hl 0 rfl) ?_
      refine lv_if_le (tgt := 55) hx hb dS_keyBehind_11 (by decide) (fun c1 => ?_) (fun c1 => ?_)
      · exact absurd c1 (nI_nle (by omega) (by omega))
      · refine q_aload_n hx hb dS_keyBehind_14 rfl (lv_at hl 2 rfl) ?_
        refine va_csq (W.runS (As := [va_rf q]) (rest := []) ⟨hx, hb, hml, hown, hg⟩ (c_S_lowerOf l Γ s.heap hbl) (va_cwS 1 hg gS_94 rfl rfl rfl (by decide +kernel) ⟨Nat.le_of_ble_eq_true rfl, Nat.le_of_ble_eq_true rfl⟩) (gP_S hW hS) rfl rfl hl.1 rfl (lv_room (Nat.le_of_ble_eq_true rfl)) dS_keyBehind_15 ⟨Nat.le_of_ble_eq_true rfl, Nat.le_of_ble_eq_true rfl⟩) (fun x hx9 => ?_)
        subst hx9
        refine lv_iconst (v := 0) hx hb dS_keyBehind_18 (by decide) ?_
        refine vp_callSl (W.runS (As := [va_rf x, .int 0]) (rest := []) ⟨hx, hb, hml, hown, hg⟩ (c_S_takenOf l Γ s.heap (w := 0) (by omega) hf) (va_cwS 2 hg gS_46 rfl rfl rfl (by decide +kernel) ⟨Nat.le_of_ble_eq_true rfl, Nat.le_of_ble_eq_true rfl⟩) (gP_S hW hS) rfl rfl hl.1 rfl (lv_room (Nat.le_of_ble_eq_true rfl)) dS_keyBehind_19 ⟨Nat.le_of_ble_eq_true rfl, Nat.le_of_ble_eq_true rfl⟩) (fun x0 hx0 => ?_)
        have e0 : x0 = lN (cnt V a (2 ^ L)) := by rw [hx0, hv 0 (by omega), ag_cnt]
        subst e0
        refine lv_lstore (lv' := [(6, .long (lN (cnt V a (2 ^ L)))), (5, .int (nI (L + 1))), (3, .long (lN b)), (2, va_rf q), (0, va_rf r), (1, .int (nI k))]) hx hb dS_keyBehind_22 hl (by decide) rfl (fun ls hl => ?_)
        refine lv_lload_n hx hb dS_keyBehind_24 rfl (lv_at hl 2 rfl) ?_
        refine lv_lload hx hb dS_keyBehind_25 (lv_at hl 0 rfl) ?_
        refine W.lcmp hx hb dS_keyBehind_27 ?_
        refine lv_if_ge (tgt := 39) hx hb dS_keyBehind_28 (by decide) (fun c2 => ?_) (fun c2 => ?_)
        · have h1 : cnt V a (2 ^ L) ≤ b := (lN_le (by omega) (by omega)).mp ((lg_cmp_ge _ _).mp c2)
          refine lv_lload_n hx hb dS_keyBehind_39 rfl (lv_at hl 2 rfl) ?_
          refine lv_lload hx hb dS_keyBehind_40 (lv_at hl 0 rfl) ?_
          refine lv_lsub hx hb dS_keyBehind_42 ?_
          refine lv_topl (fun v ev => ?_)
          have ev : v = lN (b - cnt V a (2 ^ L)) := ev.trans (lN_sub h1)
          subst ev
          refine lv_lstore_n (lv' := [(3, .long (lN (b - cnt V a (2 ^ L)))), (6, .long (lN (cnt V a (2 ^ L)))), (5, .int (nI (L + 1))), (2, va_rf q), (0, va_rf r), (1, .int (nI k))]) hx hb dS_keyBehind_43 rfl hl (by decide) (by cases q <;> rfl) (fun ls hl => ?_)
          refine q_aload_n hx hb dS_keyBehind_44 rfl (lv_at hl 3 rfl) ?_
          refine va_csq (W.runS (As := [va_rf q]) (rest := []) ⟨hx, hb, hml, hown, hg⟩ (c_S_upperOf l Γ s.heap hbl) (va_cwS 1 hg gS_98 rfl rfl rfl (by decide +kernel) ⟨Nat.le_of_ble_eq_true rfl, Nat.le_of_ble_eq_true rfl⟩) (gP_S hW hS) rfl rfl hl.1 rfl (lv_room (Nat.le_of_ble_eq_true rfl)) dS_keyBehind_45 ⟨Nat.le_of_ble_eq_true rfl, Nat.le_of_ble_eq_true rfl⟩) (fun y hy9 => ?_)
          subst hy9
          refine q_astore_n (lv' := [(2, va_rf y), (3, .long (lN (b - cnt V a (2 ^ L)))), (6, .long (lN (cnt V a (2 ^ L)))), (5, .int (nI (L + 1))), (0, va_rf r), (1, .int (nI k))]) hx hb dS_keyBehind_48 rfl hl (by decide) rfl (fun ls hl => ?_)
          refine lv_iinc (v := nI L) (lv' := [(5, .int (nI L)), (2, va_rf y), (3, .long (lN (b - cnt V a (2 ^ L)))), (6, .long (lN (cnt V a (2 ^ L)))), (0, va_rf r), (1, .int (nI k))]) hx hb dS_keyBehind_49 hl (k := 3) rfl (pk_m1 L) (by decide) rfl (fun ls hl => ?_)
          refine lv_goto (tgt := 9) hx hb dS_keyBehind_52 (by decide) ?_
          have hc0 := cnt_split V 0 a (2 ^ L)
          rw [Nat.zero_add] at hc0
          exact ih (a + 2 ^ L) (b - cnt V a (2 ^ L)) y ls (by omega) (by omega) (by omega) (by omega) hup (lv_sub hl [0, 2, 1, 4, 5] rfl)
        · have h1 : ¬ cnt V a (2 ^ L) ≤ b := fun h => c2 ((lg_cmp_ge _ _).mpr ((lN_le (by omega) (by omega)).mpr h))
          refine q_aload_n hx hb dS_keyBehind_31 rfl (lv_at hl 3 rfl) ?_
          refine va_csq (W.runS (As := [va_rf q]) (rest := []) ⟨hx, hb, hml, hown, hg⟩ (c_S_lowerOf l Γ s.heap hbl) (va_cwS 1 hg gS_94 rfl rfl rfl (by decide +kernel) ⟨Nat.le_of_ble_eq_true rfl, Nat.le_of_ble_eq_true rfl⟩) (gP_S hW hS) rfl rfl hl.1 rfl (lv_room (Nat.le_of_ble_eq_true rfl)) dS_keyBehind_32 ⟨Nat.le_of_ble_eq_true rfl, Nat.le_of_ble_eq_true rfl⟩) (fun y hy9 => ?_)
          subst hy9
          refine q_astore_n (lv' := [(2, va_rf y), (6, .long (lN (cnt V a (2 ^ L)))), (5, .int (nI (L + 1))), (3, .long (lN b)), (0, va_rf r), (1, .int (nI k))]) hx hb dS_keyBehind_35 rfl hl (by decide) rfl (fun ls hl => ?_)
          refine lv_goto (tgt := 49) hx hb dS_keyBehind_36 (by decide) ?_
          refine lv_iinc (v := nI L) (lv' := [(5, .int (nI L)), (2, va_rf y), (6, .long (lN (cnt V a (2 ^ L)))), (3, .long (lN b)), (0, va_rf r), (1, .int (nI k))]) hx hb dS_keyBehind_49 hl (k := 2) rfl (pk_m1 L) (by decide) rfl (fun ls hl => ?_)
          refine lv_goto (tgt := 9) hx hb dS_keyBehind_52 (by decide) ?_
          exact ih a b y ls (by omega) (by omega) (by omega) (by omega) hlo (lv_sub hl [0, 3, 1, 4, 5] rfl)
  refine q_aload_n hx hb dS_keyBehind_0 rfl (lv_at hl 0 rfl) ?_
  refine q_astore_n (lv' := [(2, va_rf r), (0, va_rf r), (1, .int (nI k))]) hx hb dS_keyBehind_1 rfl hl (by decide) rfl (fun ls hl => ?_)
  refine lv_iload_n hx hb dS_keyBehind_2 rfl (lv_at hl 2 rfl) ?_
  refine lv_i2l (v := (nI k).toInt64) hx hb dS_keyBehind_3 rfl ?_
  refine lv_topl (fun v ev => ?_)
  have ev : v = lN k := ev.trans (nI_l (by have := cnt_le V 0 1024; omega))
  subst ev
  refine lv_lstore_n (lv' := [(3, .long (lN k)), (2, va_rf r), (0, va_rf r), (1, .int (nI k))]) hx hb dS_keyBehind_4 rfl hl (by decide) (by cases r <;> rfl) (fun ls hl => ?_)
  refine lv_bipush (v := 10) hx hb dS_keyBehind_5 (by decide) ?_
  refine lv_istore (lv' := [(5, .int 10), (3, .long (lN k)), (2, va_rf r), (0, va_rf r), (1, .int (nI k))]) hx hb dS_keyBehind_7 hl (by decide) rfl (fun ls hl => ?_)
  exact key 10 0 k r ls (Nat.le_refl _) (by decide) hk (by simp [cnt]) hT (lv_sub hl [0, 1, 2, 3, 4] rfl)
set_option maxHeartbeats 4000000 in
set_option maxRecDepth 100000 in
theorem c_S_differences (l : Launch) (Γ : gE) (H : Heap) {V V' : Nat → Option Int64} {S S' : Nat → Int32} (hS1 : wfS S) (hS2 : wfS S') : ∀ (L a : Nat) (r q : Option Nat), L ≤ 10 → TR Γ H V S L a r → TR Γ H V' S' L a q → Met l yS_differences wS_differences ({ frames := L + 4, cells := 0, slots := 0, locals := 100 * (L) + 400 }) (gP Γ H [va_rf r, va_rf q, .int (nI L)]) (vp_Si (fun x => x = nI (dcn V V' a (2 ^ L)))) 0 0 (fun _ => False) := by
  intro L
  induction L with
  | zero =>
      intro a r q hL h1 h2
      refine Met.ofW (cc := cS_differences) (maxL := 3) (ret := (some .int)) (by decide) rfl ?_
      intro p e s m args below meth c s₁ B hml hv
      obtain ⟨rfl, rfl, hW⟩ := hv
      have hx := B.exec
      have hb := B.bytes
      have hr := B.returns
      have hg : ∀ w ∈ gW, w.before _ s = true := fun w h => atoms_spec (ws := wS_differences) B.pre w (List.mem_cons_of_mem _ h)
      have hown : s.vm.findClass RS = some m.cls := findClass_of_methodNamed B.named
      have hlocks := B.notSynchronized
      have hS : va_S (gA Γ) s.heap s.heap [] := va_S.rf
      have hl := lv_entry ([va_rf r, va_rf q, .int (nI (0))]) (n := 3) (by cases r <;> cases q <;> exact Nat.le_of_ble_eq_true rfl)
      rw [lg_entry_eq]
      generalize (lg_sl ([va_rf r, va_rf q, .int (nI (0))]) ++ List.replicate (3 - (lg_sl ([va_rf r, va_rf q, .int (nI (0))])).length) Slot.unset).toArray = ls at hl ⊢
      have hl : lv_has ls 3 [(0, va_rf r), (1, va_rf q), (2, .int (nI (0)))] := by cases r <;> cases q <;> exact hl
      refine q_aload_n hx hb dS_differences_0 rfl (lv_at hl 0 rfl) ?_
      refine q_aload_n hx hb dS_differences_1 rfl (lv_at hl 1 rfl) ?_
      refine lv_acmp_ne (tgt := 7) hx hb dS_differences_2 (by decide) (fun c1 => ?_) (fun c1 => ?_)
      · refine lv_iload_n hx hb dS_differences_7 rfl (lv_at hl 2 rfl) ?_
        refine lv_if_gt (tgt := 25) hx hb dS_differences_8 (by decide) (fun c2 => ?_) (fun c2 => ?_)
        · exact absurd c2 (by decide)
        · obtain ⟨f, hf, hv⟩ := h1.f
          obtain ⟨f2, hf2, hv2⟩ := h2.f
          have e1 : ∀ w, w ≤ 4 → f w = lfv V S w a := fun w hw => (hv w hw).trans (ag_one hS1 hw a)
          have e2 : ∀ w, w ≤ 4 → f2 w = lfv V' S' w a := fun w hw => (hv2 w hw).trans (ag_one hS2 hw a)
          have e3 : (f 0 = f2 0 ∧ f 1 = f2 1) ↔ V a = V' a := by
            rw [e1 0 (by omega), e1 1 (by omega), e2 0 (by omega), e2 1 (by omega)]
            exact ⟨fun h => lfv_inj h.1 h.2, fun h => ⟨lfv_of h (Or.inl rfl), lfv_of h (Or.inr rfl)⟩⟩
          refine q_aload_n hx hb dS_differences_11 rfl (lv_at hl 0 rfl) ?_
          refine q_aload_n hx hb dS_differences_12 rfl (lv_at hl 1 rfl) ?_
          refine vp_callSi (W.runS (As := [va_rf r, va_rf q]) (rest := []) ⟨hx, hb, hml, hown, hg⟩ (c_S_haveSameNumber l Γ s.heap hf hf2) (va_cwS 2 hg gS_124 rfl rfl rfl (by decide +kernel) ⟨by decide, by decide⟩) (gP_S hW hS) rfl rfl hl.1 rfl (lv_room (Nat.le_of_ble_eq_true rfl)) dS_differences_13 ⟨Nat.le_of_ble_eq_true rfl, Nat.le_of_ble_eq_true rfl⟩) (fun x0 hx0 => ?_)
          refine lv_if_eq (tgt := 23) hx hb dS_differences_16 (by decide) (fun c3 => ?_) (fun c3 => ?_)
          · have h3 : ¬ V a = V' a := fun h => by rw [hx0, if_pos (e3.mpr h)] at c3; exact absurd c3 (by decide)
            refine lv_iconst (v := 1) hx hb dS_differences_23 (by decide) ?_
            exact W.iret (v := 1) hx hb hr (fun t ht hW9 => ⟨_, rfl, by simp [dcn, h3]; rfl, ht⟩) (fun _ h => nomatch h) dS_differences_24
          · have h3 : V a = V' a := by
              by_cases h : V a = V' a
              · exact h
              · rw [hx0, if_neg (fun z => h (e3.mp z))] at c3; exact absurd rfl c3
            refine lv_iconst (v := 0) hx hb dS_differences_19 (by decide) ?_
            refine lv_goto (tgt := 24) hx hb dS_differences_20 (by decide) ?_
            exact W.iret (v := 0) hx hb hr (fun t ht hW9 => ⟨_, rfl, by simp [dcn, h3]; rfl, ht⟩) (fun _ h => nomatch h) dS_differences_24
      · subst c1
        refine lv_iconst (v := 0) hx hb dS_differences_5 (by decide) ?_
        exact W.iret (v := 0) hx hb hr (fun t ht hW9 => ⟨_, rfl, by rw [dcn_same _ (fun k h3 h4 => TR.det hS1 hS2 h1 h2 k h3 h4)]; rfl, ht⟩) (fun _ h => nomatch h) dS_differences_6
  | succ L ih =>
      intro a r q hL h1 h2
      refine Met.ofW (cc := cS_differences) (maxL := 3) (ret := (some .int)) (by decide) rfl ?_
      intro p e s m args below meth c s₁ B hml hv
      obtain ⟨rfl, rfl, hW⟩ := hv
      have hx := B.exec
      have hb := B.bytes
      have hr := B.returns
      have hg : ∀ w ∈ gW, w.before _ s = true := fun w h => atoms_spec (ws := wS_differences) B.pre w (List.mem_cons_of_mem _ h)
      have hown : s.vm.findClass RS = some m.cls := findClass_of_methodNamed B.named
      have hlocks := B.notSynchronized
      have hS : va_S (gA Γ) s.heap s.heap [] := va_S.rf
      have hl := lv_entry ([va_rf r, va_rf q, .int (nI (L + 1))]) (n := 3) (by cases r <;> cases q <;> exact Nat.le_of_ble_eq_true rfl)
      rw [lg_entry_eq]
      generalize (lg_sl ([va_rf r, va_rf q, .int (nI (L + 1))]) ++ List.replicate (3 - (lg_sl ([va_rf r, va_rf q, .int (nI (L + 1))])).length) Slot.unset).toArray = ls at hl ⊢
      have hl : lv_has ls 3 [(0, va_rf r), (1, va_rf q), (2, .int (nI (L + 1)))] := by cases r <;> cases q <;> exact hl
      refine q_aload_n hx hb dS_differences_0 rfl (lv_at hl 0 rfl) ?_
      refine q_aload_n hx hb dS_differences_1 rfl (lv_at hl 1 rfl) ?_
      refine lv_acmp_ne (tgt := 7) hx hb dS_differences_2 (by decide) (fun c1 => ?_) (fun c1 => ?_)
      · refine lv_iload_n hx hb dS_differences_7 rfl (lv_at hl 2 rfl) ?_
        refine lv_if_gt (tgt := 25) hx hb dS_differences_8 (by decide) (fun c2 => ?_) (fun c2 => ?_)
        · obtain ⟨-, lo, up, hbl, hlo, hup⟩ := h1
          obtain ⟨-, lo2, up2, hbl2, hlo2, hup2⟩ := h2
          have hp := pow2_s L
          refine q_aload_n hx hb dS_differences_25 rfl (lv_at hl 0 rfl) ?_
          refine va_csq (W.runS (As := [va_rf r]) (rest := []) ⟨hx, hb, hml, hown, hg⟩ (c_S_lowerOf l Γ s.heap hbl) (va_cwS 1 hg gS_94 rfl rfl rfl (by decide +kernel) ⟨by show 0 + 1 ≤ L + 1 + 4; omega, by show 8 + (1 + 11) + 0 ≤ 100 * (L + 1) + 400; omega⟩) (gP_S hW hS) rfl rfl hl.1 rfl (lv_room (Nat.le_of_ble_eq_true rfl)) dS_differences_26 ⟨Nat.le_of_ble_eq_true rfl, Nat.le_of_ble_eq_true rfl⟩) (fun x1 hx1 => ?_)
          subst hx1
          refine q_aload_n hx hb dS_differences_29 rfl (lv_at hl 1 rfl) ?_
          refine va_csq (W.runS (As := [va_rf q]) (rest := [va_rf x1]) ⟨hx, hb, hml, hown, hg⟩ (c_S_lowerOf l Γ s.heap hbl2) (va_cwS 1 hg gS_94 rfl rfl rfl (by decide +kernel) ⟨by show 0 + 1 ≤ L + 1 + 4; omega, by show 8 + (1 + 11) + 0 ≤ 100 * (L + 1) + 400; omega⟩) (gP_S hW hS) rfl rfl hl.1 rfl (lv_room (by cases x1 <;> exact Nat.le_of_ble_eq_true rfl)) dS_differences_30 ⟨Nat.le_of_ble_eq_true rfl, Nat.le_of_ble_eq_true rfl⟩) (fun x2 hx2 => ?_)
          subst hx2
          refine lv_iload_n hx hb dS_differences_33 rfl (lv_at hl 2 rfl) ?_
          refine lv_iconst (v := 1) hx hb dS_differences_34 (by decide) ?_
          refine lv_isub hx hb dS_differences_35 ?_
          refine lv_topi (fun v ev => ?_)
          have ev : v = nI L := ev.trans (nI_pred L)
          subst ev
          refine vp_callSi (W.runS (As := [va_rf x1, va_rf x2, .int (nI L)]) (rest := []) ⟨hx, hb, hml, hown, hg⟩ (ih a x1 x2 (by omega) hlo hlo2) (va_cwS 3 hg gS_77 rfl rfl rfl (by decide +kernel) ⟨by show L + 4 + 1 ≤ L + 1 + 4; omega, by show 8 + (3 + 11) + (100 * L + 400) ≤ 100 * (L + 1) + 400; omega⟩) (gP_S hW hS) rfl rfl hl.1 rfl (lv_room (Nat.le_of_ble_eq_true rfl)) dS_differences_36 ⟨Nat.le_of_ble_eq_true rfl, Nat.le_of_ble_eq_true rfl⟩) (fun n1 hn1 => ?_)
          refine q_aload_n hx hb dS_differences_39 rfl (lv_at hl 0 rfl) ?_
          refine va_csq (W.runS (As := [va_rf r]) (rest := [.int n1]) ⟨hx, hb, hml, hown, hg⟩ (c_S_upperOf l Γ s.heap hbl) (va_cwS 1 hg gS_98 rfl rfl rfl (by decide +kernel) ⟨by show 0 + 1 ≤ L + 1 + 4; omega, by show 8 + (1 + 11) + 0 ≤ 100 * (L + 1) + 400; omega⟩) (gP_S hW hS) rfl rfl hl.1 rfl (lv_room (Nat.le_of_ble_eq_true rfl)) dS_differences_40 ⟨Nat.le_of_ble_eq_true rfl, Nat.le_of_ble_eq_true rfl⟩) (fun x3 hx3 => ?_)
          subst hx3
          refine q_aload_n hx hb dS_differences_43 rfl (lv_at hl 1 rfl) ?_
          refine va_csq (W.runS (As := [va_rf q]) (rest := [va_rf x3, .int n1]) ⟨hx, hb, hml, hown, hg⟩ (c_S_upperOf l Γ s.heap hbl2) (va_cwS 1 hg gS_98 rfl rfl rfl (by decide +kernel) ⟨by show 0 + 1 ≤ L + 1 + 4; omega, by show 8 + (1 + 11) + 0 ≤ 100 * (L + 1) + 400; omega⟩) (gP_S hW hS) rfl rfl hl.1 rfl (lv_room (by cases x3 <;> exact Nat.le_of_ble_eq_true rfl)) dS_differences_44 ⟨Nat.le_of_ble_eq_true rfl, Nat.le_of_ble_eq_true rfl⟩) (fun x4 hx4 => ?_)
          subst hx4
          refine lv_iload_n hx hb dS_differences_47 rfl (lv_at hl 2 rfl) ?_
          refine lv_iconst (v := 1) hx hb dS_differences_48 (by decide) ?_
          refine lv_isub hx hb dS_differences_49 ?_
          refine lv_topi (fun v2 ev2 => ?_)
          have ev2 : v2 = nI L := ev2.trans (nI_pred L)
          subst ev2
          refine vp_callSi (W.runS (As := [va_rf x3, va_rf x4, .int (nI L)]) (rest := [.int n1]) ⟨hx, hb, hml, hown, hg⟩ (ih (a + 2 ^ L) x3 x4 (by omega) hup hup2) (va_cwS 3 hg gS_77 rfl rfl rfl (by decide +kernel) ⟨by show L + 4 + 1 ≤ L + 1 + 4; omega, by show 8 + (3 + 11) + (100 * L + 400) ≤ 100 * (L + 1) + 400; omega⟩) (gP_S hW hS) rfl rfl hl.1 rfl (lv_room (Nat.le_of_ble_eq_true rfl)) dS_differences_50 ⟨Nat.le_of_ble_eq_true rfl, Nat.le_of_ble_eq_true rfl⟩) (fun n2 hn2 => ?_)
          refine lv_iadd hx hb dS_differences_53 ?_
          exact W.iret (v := n1 + n2) hx hb hr (fun t ht hW9 => ⟨_, rfl, by rw [hn1, hn2, nI_add, hp, dcn_split], ht⟩) (fun _ h => nomatch h) dS_differences_54
        · exact absurd (show (0 : Int32) < nI (L + 1) from by rw [← nI_0]; exact nI_lt (by omega) (by omega)) c2
      · subst c1
        refine lv_iconst (v := 0) hx hb dS_differences_5 (by decide) ?_
        exact W.iret (v := 0) hx hb hr (fun t ht hW9 => ⟨_, rfl, by rw [dcn_same _ (fun k h3 h4 => TR.det hS1 hS2 h1 h2 k h3 h4)]; rfl, ht⟩) (fun _ h => nomatch h) dS_differences_6
set_option maxHeartbeats 4000000 in
set_option maxRecDepth 100000 in
theorem c_S_takenWithin (l : Launch) (Γ : gE) (H : Heap) {V : Nat → Option Int64} {S : Nat → Int32} {lo hi w : Nat} (hwf : wfS S) (hw : w ≤ 4) (hlo1 : lo < 1024) (hhi1 : hi < 1024) : ∀ (L a : Nat) (r : Option Nat), L ≤ 10 → a + 2 ^ L ≤ 1024 → TR Γ H V S L a r → Met l yS_takenWithin wS_takenWithin ({ frames := L + 4, cells := 0, slots := 0, locals := 100 * (L) + 400 }) (gP Γ H [va_rf r, .int (nI L), .int (nI a), .int (nI lo), .int (nI hi), .int (nI w)]) (vp_Sl (fun x => x = ag (rV V lo hi) (rS S lo hi) w a (2 ^ L))) 0 0 (fun _ => False) := by
  intro L
  induction L with
  | zero =>
      intro a r hL ha hT
      refine Met.ofW (cc := cS_takenWithin) (maxL := 12) (ret := (some .long)) (by decide) rfl ?_
      intro p e s m args below meth c s₁ B hml hv
      obtain ⟨rfl, rfl, hW⟩ := hv
      have hx := B.exec
      have hb := B.bytes
      have hr := B.returns
      have hg : ∀ w ∈ gW, w.before _ s = true := fun w h => atoms_spec (ws := wS_takenWithin) B.pre w (List.mem_cons_of_mem _ h)
      have hown : s.vm.findClass RS = some m.cls := findClass_of_methodNamed B.named
      have hlocks := B.notSynchronized
      have hS : va_S (gA Γ) s.heap s.heap [] := va_S.rf
      have hl := lv_entry ([va_rf r, .int (nI (0)), .int (nI a), .int (nI lo), .int (nI hi), .int (nI w)]) (n := 12) (by cases r <;> exact Nat.le_of_ble_eq_true rfl)
      rw [lg_entry_eq]
      generalize (lg_sl ([va_rf r, .int (nI (0)), .int (nI a), .int (nI lo), .int (nI hi), .int (nI w)]) ++ List.replicate (12 - (lg_sl ([va_rf r, .int (nI (0)), .int (nI a), .int (nI lo), .int (nI hi), .int (nI w)])).length) Slot.unset).toArray = ls at hl ⊢
      have hl : lv_has ls 12 [(0, va_rf r), (1, .int (nI (0))), (2, .int (nI a)), (3, .int (nI lo)), (4, .int (nI hi)), (5, .int (nI w))] := by cases r <;> exact hl
      refine lv_iload_n hx hb dS_takenWithin_0 rfl (lv_at hl 2 rfl) ?_
      refine lv_iconst (v := 1) hx hb dS_takenWithin_1 (by decide) ?_
      refine lv_iload_n hx hb dS_takenWithin_2 rfl (lv_at hl 1 rfl) ?_
      refine lv_ishl hx hb dS_takenWithin_3 ?_
      refine lv_iadd hx hb dS_takenWithin_4 ?_
      refine lv_iconst (v := 1) hx hb dS_takenWithin_5 (by decide) ?_
      refine lv_isub hx hb dS_takenWithin_6 ?_
      refine lv_topi (fun v ev => ?_)
      have ev : v = nI (a + 2 ^ (0) - 1) := ev.trans (lastk (by omega) ha)
      subst ev
      have hp0 : 0 < 2 ^ (0) := Nat.two_pow_pos _
      refine lv_istore (lv' := [(6, .int (nI (a + 2 ^ (0) - 1))), (0, va_rf r), (1, .int (nI (0))), (2, .int (nI a)), (3, .int (nI lo)), (4, .int (nI hi)), (5, .int (nI w))]) hx hb dS_takenWithin_7 hl (by decide) rfl (fun ls hl => ?_)
      refine q_aload_n hx hb dS_takenWithin_9 rfl (lv_at hl 1 rfl) ?_
      refine q_ifnull (tgt := 25) hx hb dS_takenWithin_10 (by decide) (fun c1 => ?_) (fun xc1 c1 => ?_)
      · subst c1
        refine lv_iload hx hb dS_takenWithin_25 (lv_at hl 6 rfl) ?_
        refine vp_callSl (W.runS (As := [.int (nI w)]) (rest := []) ⟨hx, hb, hml, hown, hg⟩ (c_S_takenOfNothing l Γ s.heap hw) (va_cwS 1 hg gS_109 rfl rfl rfl (by decide +kernel) ⟨by show 0 + 1 ≤ 0 + 4; omega, by show 8 + (1 + 11) + 0 ≤ 100 * (0) + 400; omega⟩) (gP_S hW hS) rfl rfl hl.1 rfl (lv_room (Nat.le_of_ble_eq_true rfl)) dS_takenWithin_27 ⟨Nat.le_of_ble_eq_true rfl, Nat.le_of_ble_eq_true rfl⟩) (fun r0 hr0 => ?_)
        exact W.lret (v := r0) hx hb hr (fun t ht hW9 => ⟨_, rfl, hr0.trans (ag_r_none hw (TR.nul hT)).symm, ht⟩) (fun _ h => nomatch h) dS_takenWithin_30
      · subst c1
        have hl : lv_has ls 12 [(6, .int (nI (a + 2 ^ (0) - 1))), (0, .ref xc1), (1, .int (nI (0))), (2, .int (nI a)), (3, .int (nI lo)), (4, .int (nI hi)), (5, .int (nI w))] := hl
        obtain ⟨f, hf, hv⟩ := hT.f
        refine lv_iload hx hb dS_takenWithin_13 (lv_at hl 0 rfl) ?_
        refine lv_iload_n hx hb dS_takenWithin_15 rfl (lv_at hl 4 rfl) ?_
        refine lv_icmp_lt (tgt := 25) hx hb dS_takenWithin_16 (by decide) (fun c2 => ?_) (fun c2 => ?_)
        · have h1 : a + 2 ^ (0) - 1 < lo := (nI_ltI (by omega) (by omega)).mp c2
          refine lv_iload hx hb dS_takenWithin_25 (lv_at hl 6 rfl) ?_
          refine vp_callSl (W.runS (As := [.int (nI w)]) (rest := []) ⟨hx, hb, hml, hown, hg⟩ (c_S_takenOfNothing l Γ s.heap hw) (va_cwS 1 hg gS_109 rfl rfl rfl (by decide +kernel) ⟨by show 0 + 1 ≤ 0 + 4; omega, by show 8 + (1 + 11) + 0 ≤ 100 * (0) + 400; omega⟩) (gP_S hW hS) rfl rfl hl.1 rfl (lv_room (Nat.le_of_ble_eq_true rfl)) dS_takenWithin_27 ⟨Nat.le_of_ble_eq_true rfl, Nat.le_of_ble_eq_true rfl⟩) (fun r0 hr0 => ?_)
          exact W.lret (v := r0) hx hb hr (fun t ht hW9 => ⟨_, rfl, hr0.trans (ag_r_out hw (Or.inl (by omega))).symm, ht⟩) (fun _ h => nomatch h) dS_takenWithin_30
        · have h1 : ¬ a + 2 ^ (0) - 1 < lo := fun h => c2 ((nI_ltI (by omega) (by omega)).mpr h)
          refine lv_iload_n hx hb dS_takenWithin_19 rfl (lv_at hl 3 rfl) ?_
          refine lv_iload hx hb dS_takenWithin_20 (lv_at hl 5 rfl) ?_
          refine lv_icmp_le (tgt := 31) hx hb dS_takenWithin_22 (by decide) (fun c3 => ?_) (fun c3 => ?_)
          · have h2 : a ≤ hi := (nI_leI (by omega) (by omega)).mp c3
            refine lv_iload_n hx hb dS_takenWithin_31 rfl (lv_at hl 2 rfl) ?_
            refine lv_if_le (tgt := 47) hx hb dS_takenWithin_32 (by decide) (fun c4 => ?_) (fun c4 => ?_)
            · refine lv_aload_n hx hb dS_takenWithin_47 rfl (lv_at hl 1 rfl) ?_
              refine lv_iload hx hb dS_takenWithin_48 (lv_at hl 6 rfl) ?_
              refine vp_callSl (W.runS (As := [.ref xc1, .int (nI w)]) (rest := []) ⟨hx, hb, hml, hown, hg⟩ (c_S_takenOf l Γ s.heap hw hf) (va_cwS 2 hg gS_46 rfl rfl rfl (by decide +kernel) ⟨by show 1 + 1 ≤ 0 + 4; omega, by show 8 + (2 + 11) + 20 ≤ 100 * (0) + 400; omega⟩) (gP_S hW hS) rfl rfl hl.1 rfl (lv_room (Nat.le_of_ble_eq_true rfl)) dS_takenWithin_50 ⟨Nat.le_of_ble_eq_true rfl, Nat.le_of_ble_eq_true rfl⟩) (fun r0 hr0 => ?_)
              exact W.lret (v := r0) hx hb hr (fun t ht hW9 => ⟨_, rfl, by rw [hr0, hv w hw, ag_r_in (by simp at h1; omega) (by simp; omega)], ht⟩) (fun _ h => nomatch h) dS_takenWithin_53
            · exact absurd (by decide) c4
          · have h2 : ¬ a ≤ hi := fun h => c3 ((nI_leI (by omega) (by omega)).mpr h)
            refine lv_iload hx hb dS_takenWithin_25 (lv_at hl 6 rfl) ?_
            refine vp_callSl (W.runS (As := [.int (nI w)]) (rest := []) ⟨hx, hb, hml, hown, hg⟩ (c_S_takenOfNothing l Γ s.heap hw) (va_cwS 1 hg gS_109 rfl rfl rfl (by decide +kernel) ⟨by show 0 + 1 ≤ 0 + 4; omega, by show 8 + (1 + 11) + 0 ≤ 100 * (0) + 400; omega⟩) (gP_S hW hS) rfl rfl hl.1 rfl (lv_room (Nat.le_of_ble_eq_true rfl)) dS_takenWithin_27 ⟨Nat.le_of_ble_eq_true rfl, Nat.le_of_ble_eq_true rfl⟩) (fun r0 hr0 => ?_)
            exact W.lret (v := r0) hx hb hr (fun t ht hW9 => ⟨_, rfl, hr0.trans (ag_r_out hw (Or.inr (by omega))).symm, ht⟩) (fun _ h => nomatch h) dS_takenWithin_30
  | succ L ih =>
      intro a r hL ha hT
      refine Met.ofW (cc := cS_takenWithin) (maxL := 12) (ret := (some .long)) (by decide) rfl ?_
      intro p e s m args below meth c s₁ B hml hv
      obtain ⟨rfl, rfl, hW⟩ := hv
      have hx := B.exec
      have hb := B.bytes
      have hr := B.returns
      have hg : ∀ w ∈ gW, w.before _ s = true := fun w h => atoms_spec (ws := wS_takenWithin) B.pre w (List.mem_cons_of_mem _ h)
      have hown : s.vm.findClass RS = some m.cls := findClass_of_methodNamed B.named
      have hlocks := B.notSynchronized
      have hS : va_S (gA Γ) s.heap s.heap [] := va_S.rf
      have hl := lv_entry ([va_rf r, .int (nI (L + 1)), .int (nI a), .int (nI lo), .int (nI hi), .int (nI w)]) (n := 12) (by cases r <;> exact Nat.le_of_ble_eq_true rfl)
      rw [lg_entry_eq]
      generalize (lg_sl ([va_rf r, .int (nI (L + 1)), .int (nI a), .int (nI lo), .int (nI hi), .int (nI w)]) ++ List.replicate (12 - (lg_sl ([va_rf r, .int (nI (L + 1)), .int (nI a), .int (nI lo), .int (nI hi), .int (nI w)])).length) Slot.unset).toArray = ls at hl ⊢
      have hl : lv_has ls 12 [(0, va_rf r), (1, .int (nI (L + 1))), (2, .int (nI a)), (3, .int (nI lo)), (4, .int (nI hi)), (5, .int (nI w))] := by cases r <;> exact hl
      refine lv_iload_n hx hb dS_takenWithin_0 rfl (lv_at hl 2 rfl) ?_
      refine lv_iconst (v := 1) hx hb dS_takenWithin_1 (by decide) ?_
      refine lv_iload_n hx hb dS_takenWithin_2 rfl (lv_at hl 1 rfl) ?_
      refine lv_ishl hx hb dS_takenWithin_3 ?_
      refine lv_iadd hx hb dS_takenWithin_4 ?_
      refine lv_iconst (v := 1) hx hb dS_takenWithin_5 (by decide) ?_
      refine lv_isub hx hb dS_takenWithin_6 ?_
      refine lv_topi (fun v ev => ?_)
      have ev : v = nI (a + 2 ^ (L + 1) - 1) := ev.trans (lastk (by omega) ha)
      subst ev
      have hp0 : 0 < 2 ^ (L + 1) := Nat.two_pow_pos _
      refine lv_istore (lv' := [(6, .int (nI (a + 2 ^ (L + 1) - 1))), (0, va_rf r), (1, .int (nI (L + 1))), (2, .int (nI a)), (3, .int (nI lo)), (4, .int (nI hi)), (5, .int (nI w))]) hx hb dS_takenWithin_7 hl (by decide) rfl (fun ls hl => ?_)
      refine q_aload_n hx hb dS_takenWithin_9 rfl (lv_at hl 1 rfl) ?_
      refine q_ifnull (tgt := 25) hx hb dS_takenWithin_10 (by decide) (fun c1 => ?_) (fun xc1 c1 => ?_)
      · subst c1
        refine lv_iload hx hb dS_takenWithin_25 (lv_at hl 6 rfl) ?_
        refine vp_callSl (W.runS (As := [.int (nI w)]) (rest := []) ⟨hx, hb, hml, hown, hg⟩ (c_S_takenOfNothing l Γ s.heap hw) (va_cwS 1 hg gS_109 rfl rfl rfl (by decide +kernel) ⟨by show 0 + 1 ≤ L + 1 + 4; omega, by show 8 + (1 + 11) + 0 ≤ 100 * (L + 1) + 400; omega⟩) (gP_S hW hS) rfl rfl hl.1 rfl (lv_room (Nat.le_of_ble_eq_true rfl)) dS_takenWithin_27 ⟨Nat.le_of_ble_eq_true rfl, Nat.le_of_ble_eq_true rfl⟩) (fun r0 hr0 => ?_)
        exact W.lret (v := r0) hx hb hr (fun t ht hW9 => ⟨_, rfl, hr0.trans (ag_r_none hw (TR.nul hT)).symm, ht⟩) (fun _ h => nomatch h) dS_takenWithin_30
      · subst c1
        have hl : lv_has ls 12 [(6, .int (nI (a + 2 ^ (L + 1) - 1))), (0, .ref xc1), (1, .int (nI (L + 1))), (2, .int (nI a)), (3, .int (nI lo)), (4, .int (nI hi)), (5, .int (nI w))] := hl
        obtain ⟨f, hf, hv⟩ := hT.f
        refine lv_iload hx hb dS_takenWithin_13 (lv_at hl 0 rfl) ?_
        refine lv_iload_n hx hb dS_takenWithin_15 rfl (lv_at hl 4 rfl) ?_
        refine lv_icmp_lt (tgt := 25) hx hb dS_takenWithin_16 (by decide) (fun c2 => ?_) (fun c2 => ?_)
        · have h1 : a + 2 ^ (L + 1) - 1 < lo := (nI_ltI (by omega) (by omega)).mp c2
          refine lv_iload hx hb dS_takenWithin_25 (lv_at hl 6 rfl) ?_
          refine vp_callSl (W.runS (As := [.int (nI w)]) (rest := []) ⟨hx, hb, hml, hown, hg⟩ (c_S_takenOfNothing l Γ s.heap hw) (va_cwS 1 hg gS_109 rfl rfl rfl (by decide +kernel) ⟨by show 0 + 1 ≤ L + 1 + 4; omega, by show 8 + (1 + 11) + 0 ≤ 100 * (L + 1) + 400; omega⟩) (gP_S hW hS) rfl rfl hl.1 rfl (lv_room (Nat.le_of_ble_eq_true rfl)) dS_takenWithin_27 ⟨Nat.le_of_ble_eq_true rfl, Nat.le_of_ble_eq_true rfl⟩) (fun r0 hr0 => ?_)
          exact W.lret (v := r0) hx hb hr (fun t ht hW9 => ⟨_, rfl, hr0.trans (ag_r_out hw (Or.inl (by omega))).symm, ht⟩) (fun _ h => nomatch h) dS_takenWithin_30
        · have h1 : ¬ a + 2 ^ (L + 1) - 1 < lo := fun h => c2 ((nI_ltI (by omega) (by omega)).mpr h)
          refine lv_iload_n hx hb dS_takenWithin_19 rfl (lv_at hl 3 rfl) ?_
          refine lv_iload hx hb dS_takenWithin_20 (lv_at hl 5 rfl) ?_
          refine lv_icmp_le (tgt := 31) hx hb dS_takenWithin_22 (by decide) (fun c3 => ?_) (fun c3 => ?_)
          · have h2 : a ≤ hi := (nI_leI (by omega) (by omega)).mp c3
            refine lv_iload_n hx hb dS_takenWithin_31 rfl (lv_at hl 2 rfl) ?_
            refine lv_if_le (tgt := 47) hx hb dS_takenWithin_32 (by decide) (fun c4 => ?_) (fun c4 => ?_)
            · exact absurd c4 (nI_nle (by omega) (by omega))
            · refine lv_iload_n hx hb dS_takenWithin_35 rfl (lv_at hl 4 rfl) ?_
              refine lv_iload_n hx hb dS_takenWithin_36 rfl (lv_at hl 3 rfl) ?_
              refine lv_icmp_gt (tgt := 54) hx hb dS_takenWithin_37 (by decide) (fun c5 => ?_) (fun c5 => ?_)
              · obtain ⟨-, lb, ub, hbl, hlo, hup⟩ := hT
                obtain ⟨hz, tk, hB⟩ := hbl
                have hp := pow2_s L
                refine lv_iload_n hx hb dS_takenWithin_54 rfl (lv_at hl 3 rfl) ?_
                refine lv_iconst (v := 1) hx hb dS_takenWithin_55 (by decide) ?_
                refine lv_iload_n hx hb dS_takenWithin_56 rfl (lv_at hl 2 rfl) ?_
                refine lv_iconst (v := 1) hx hb dS_takenWithin_57 (by decide) ?_
                refine lv_isub hx hb dS_takenWithin_58 ?_
                refine lv_topi (fun v1 ev1 => ?_)
                have ev1 : v1 = nI L := ev1.trans (nI_pred L)
                subst ev1
                refine lv_ishl hx hb dS_takenWithin_59 ?_
                refine lv_iadd hx hb dS_takenWithin_60 ?_
                refine lv_topi (fun v2 ev2 => ?_)
                have ev2 : v2 = nI (a + 2 ^ L) := ev2.trans (by rw [shl10 (by omega), nI_add])
                subst ev2
                refine lv_istore (lv' := [(7, .int (nI (a + 2 ^ L))), (6, .int (nI (a + 2 ^ (L + 1) - 1))), (0, .ref xc1), (1, .int (nI (L + 1))), (2, .int (nI a)), (3, .int (nI lo)), (4, .int (nI hi)), (5, .int (nI w))]) hx hb dS_takenWithin_61 hl (by decide) rfl (fun ls hl => ?_)
                refine lv_aload_n hx hb dS_takenWithin_63 rfl (lv_at hl 2 rfl) ?_
                refine va_getN (D := Γ.1) (ci := 0) (v := va_rf lb) (C := RB) (T := TB) (N := 3) (host := RS) hx hb hg inB hown hW.1 (p1 hB) 0 rfl rfl 0 (by decide) ((hW.2.1.1 _ (List.mem_of_getElem? (i := 1) rfl)).use rfl) (fun _ h9 => h9) rfl dS_takenWithin_64 ?_
                refine lv_iload_n hx hb dS_takenWithin_67 rfl (lv_at hl 3 rfl) ?_
                refine lv_iconst (v := 1) hx hb dS_takenWithin_68 (by decide) ?_
                refine lv_isub hx hb dS_takenWithin_69 ?_
                refine lv_topi (fun v3 ev3 => ?_)
                have ev3 : v3 = nI L := ev3.trans (nI_pred L)
                subst ev3
                refine lv_iload_n hx hb dS_takenWithin_70 rfl (lv_at hl 4 rfl) ?_
                refine lv_iload_n hx hb dS_takenWithin_71 rfl (lv_at hl 5 rfl) ?_
                refine lv_iload hx hb dS_takenWithin_72 (lv_at hl 6 rfl) ?_
                refine lv_iload hx hb dS_takenWithin_74 (lv_at hl 7 rfl) ?_
                refine vp_callSl (W.runS (As := [va_rf lb, .int (nI L), .int (nI a), .int (nI lo), .int (nI hi), .int (nI w)]) (rest := []) ⟨hx, hb, hml, hown, hg⟩ (ih a lb (by omega) (by omega) hlo) (va_cwS 6 hg gS_64 rfl rfl rfl (by decide +kernel) ⟨by show L + 4 + 1 ≤ L + 1 + 4; omega, by show 8 + (12 + 11) + (100 * L + 400) ≤ 100 * (L + 1) + 400; omega⟩) (gP_S hW hS) rfl rfl hl.1 rfl (lv_room (Nat.le_of_ble_eq_true rfl)) dS_takenWithin_76 ⟨Nat.le_of_ble_eq_true rfl, Nat.le_of_ble_eq_true rfl⟩) (fun n1 hn1 => ?_)
                refine lv_lstore (lv' := [(8, .long n1), (7, .int (nI (a + 2 ^ L))), (6, .int (nI (a + 2 ^ (L + 1) - 1))), (0, .ref xc1), (1, .int (nI (L + 1))), (2, .int (nI a)), (3, .int (nI lo)), (4, .int (nI hi)), (5, .int (nI w))]) hx hb dS_takenWithin_79 hl (by decide) rfl (fun ls hl => ?_)
                refine lv_aload_n hx hb dS_takenWithin_81 rfl (lv_at hl 3 rfl) ?_
                refine va_getN (D := Γ.1) (ci := 0) (v := va_rf ub) (C := RB) (T := TB) (N := 3) (host := RS) hx hb hg inB hown hW.1 (p1 hB) 0 rfl rfl 1 (by decide) ((hW.2.1.1 _ (List.mem_of_getElem? (i := 2) rfl)).use rfl) (fun _ h9 => h9) rfl dS_takenWithin_82 ?_
                refine lv_iload_n hx hb dS_takenWithin_85 rfl (lv_at hl 4 rfl) ?_
                refine lv_iconst (v := 1) hx hb dS_takenWithin_86 (by decide) ?_
                refine lv_isub hx hb dS_takenWithin_87 ?_
                refine lv_topi (fun v4 ev4 => ?_)
                have ev4 : v4 = nI L := ev4.trans (nI_pred L)
                subst ev4
                refine lv_iload hx hb dS_takenWithin_88 (lv_at hl 1 rfl) ?_
                refine lv_iload_n hx hb dS_takenWithin_90 rfl (lv_at hl 6 rfl) ?_
                refine lv_iload hx hb dS_takenWithin_91 (lv_at hl 7 rfl) ?_
                refine lv_iload hx hb dS_takenWithin_93 (lv_at hl 8 rfl) ?_
                refine vp_callSl (W.runS (As := [va_rf ub, .int (nI L), .int (nI (a + 2 ^ L)), .int (nI lo), .int (nI hi), .int (nI w)]) (rest := []) ⟨hx, hb, hml, hown, hg⟩ (ih (a + 2 ^ L) ub (by omega) (by omega) hup) (va_cwS 6 hg gS_64 rfl rfl rfl (by decide +kernel) ⟨by show L + 4 + 1 ≤ L + 1 + 4; omega, by show 8 + (12 + 11) + (100 * L + 400) ≤ 100 * (L + 1) + 400; omega⟩) (gP_S hW hS) rfl rfl hl.1 rfl (lv_room (Nat.le_of_ble_eq_true rfl)) dS_takenWithin_95 ⟨Nat.le_of_ble_eq_true rfl, Nat.le_of_ble_eq_true rfl⟩) (fun n2 hn2 => ?_)
                refine lv_lstore (lv' := [(10, .long n2), (8, .long n1), (7, .int (nI (a + 2 ^ L))), (6, .int (nI (a + 2 ^ (L + 1) - 1))), (0, .ref xc1), (1, .int (nI (L + 1))), (2, .int (nI a)), (3, .int (nI lo)), (4, .int (nI hi)), (5, .int (nI w))]) hx hb dS_takenWithin_98 hl (by decide) rfl (fun ls hl => ?_)
                refine lv_lload hx hb dS_takenWithin_100 (lv_at hl 1 rfl) ?_
                refine lv_lload hx hb dS_takenWithin_102 (lv_at hl 0 rfl) ?_
                refine lv_iload hx hb dS_takenWithin_104 (lv_at hl 9 rfl) ?_
                refine vp_callSl (W.runS (As := [.long n1, .long n2, .int (nI w)]) (rest := []) ⟨hx, hb, hml, hown, hg⟩ (c_S_takenTogether l Γ s.heap n1 n2 hw) (va_cwS 3 hg gS_120 rfl rfl rfl (by decide +kernel) ⟨by show 1 + 1 ≤ L + 1 + 4; omega, by show 8 + (5 + 11) + 20 ≤ 100 * (L + 1) + 400; omega⟩) (gP_S hW hS) rfl rfl hl.1 rfl (lv_room (Nat.le_of_ble_eq_true rfl)) dS_takenWithin_106 ⟨Nat.le_of_ble_eq_true rfl, Nat.le_of_ble_eq_true rfl⟩) (fun n3 hn3 => ?_)
                exact W.lret (v := n3) hx hb hr (fun t ht hW9 => ⟨_, rfl, by rw [hn3, hn1, hn2, hp, ag_split (rS_wf hwf) hw], ht⟩) (fun _ h => nomatch h) dS_takenWithin_109
              · have h3 : ¬ a < lo := fun h => c5 (nI_lt h (by omega))
                refine lv_iload hx hb dS_takenWithin_40 (lv_at hl 0 rfl) ?_
                refine lv_iload hx hb dS_takenWithin_42 (lv_at hl 5 rfl) ?_
                refine lv_icmp_gt (tgt := 54) hx hb dS_takenWithin_44 (by decide) (fun c6 => ?_) (fun c6 => ?_)
                · obtain ⟨-, lb, ub, hbl, hlo, hup⟩ := hT
                  obtain ⟨hz, tk, hB⟩ := hbl
                  have hp := pow2_s L
                  refine lv_iload_n hx hb dS_takenWithin_54 rfl (lv_at hl 3 rfl) ?_
                  refine lv_iconst (v := 1) hx hb dS_takenWithin_55 (by decide) ?_
                  refine lv_iload_n hx hb dS_takenWithin_56 rfl (lv_at hl 2 rfl) ?_
                  refine lv_iconst (v := 1) hx hb dS_takenWithin_57 (by decide) ?_
                  refine lv_isub hx hb dS_takenWithin_58 ?_
                  refine lv_topi (fun v1 ev1 => ?_)
                  have ev1 : v1 = nI L := ev1.trans (nI_pred L)
                  subst ev1
                  refine lv_ishl hx hb dS_takenWithin_59 ?_
                  refine lv_iadd hx hb dS_takenWithin_60 ?_
                  refine lv_topi (fun v2 ev2 => ?_)
                  have ev2 : v2 = nI (a + 2 ^ L) := ev2.trans (by rw [shl10 (by omega), nI_add])
                  subst ev2
                  refine lv_istore (lv' := [(7, .int (nI (a + 2 ^ L))), (6, .int (nI (a + 2 ^ (L + 1) - 1))), (0, .ref xc1), (1, .int (nI (L + 1))), (2, .int (nI a)), (3, .int (nI lo)), (4, .int (nI hi)), (5, .int (nI w))]) hx hb dS_takenWithin_61 hl (by decide) rfl (fun ls hl => ?_)
                  refine lv_aload_n hx hb dS_takenWithin_63 rfl (lv_at hl 2 rfl) ?_
                  refine va_getN (D := Γ.1) (ci := 0) (v := va_rf lb) (C := RB) (T := TB) (N := 3) (host := RS) hx hb hg inB hown hW.1 (p1 hB) 0 rfl rfl 0 (by decide) ((hW.2.1.1 _ (List.mem_of_getElem? (i := 1) rfl)).use rfl) (fun _ h9 => h9) rfl dS_takenWithin_64 ?_
                  refine lv_iload_n hx hb dS_takenWithin_67 rfl (lv_at hl 3 rfl) ?_
                  refine lv_iconst (v := 1) hx hb dS_takenWithin_68 (by decide) ?_
                  refine lv_isub hx hb dS_takenWithin_69 ?_
                  refine lv_topi (fun v3 ev3 => ?_)
                  have ev3 : v3 = nI L := ev3.trans (nI_pred L)
                  subst ev3
                  refine lv_iload_n hx hb dS_takenWithin_70 rfl (lv_at hl 4 rfl) ?_
                  refine lv_iload_n hx hb dS_takenWithin_71 rfl (lv_at hl 5 rfl) ?_
                  refine lv_iload hx hb dS_takenWithin_72 (lv_at hl 6 rfl) ?_
                  refine lv_iload hx hb dS_takenWithin_74 (lv_at hl 7 rfl) ?_
                  refine vp_callSl (W.runS (As := [va_rf lb, .int (nI L), .int (nI a), .int (nI lo), .int (nI hi), .int (nI w)]) (rest := []) ⟨hx, hb, hml, hown, hg⟩ (ih a lb (by omega) (by omega) hlo) (va_cwS 6 hg gS_64 rfl rfl rfl (by decide +kernel) ⟨by show L + 4 + 1 ≤ L + 1 + 4; omega, by show 8 + (12 + 11) + (100 * L + 400) ≤ 100 * (L + 1) + 400; omega⟩) (gP_S hW hS) rfl rfl hl.1 rfl (lv_room (Nat.le_of_ble_eq_true rfl)) dS_takenWithin_76 ⟨Nat.le_of_ble_eq_true rfl, Nat.le_of_ble_eq_true rfl⟩) (fun n1 hn1 => ?_)
                  refine lv_lstore (lv' := [(8, .long n1), (7, .int (nI (a + 2 ^ L))), (6, .int (nI (a + 2 ^ (L + 1) - 1))), (0, .ref xc1), (1, .int (nI (L + 1))), (2, .int (nI a)), (3, .int (nI lo)), (4, .int (nI hi)), (5, .int (nI w))]) hx hb dS_takenWithin_79 hl (by decide) rfl (fun ls hl => ?_)
                  refine lv_aload_n hx hb dS_takenWithin_81 rfl (lv_at hl 3 rfl) ?_
                  refine va_getN (D := Γ.1) (ci := 0) (v := va_rf ub) (C := RB) (T := TB) (N := 3) (host := RS) hx hb hg inB hown hW.1 (p1 hB) 0 rfl rfl 1 (by decide) ((hW.2.1.1 _ (List.mem_of_getElem? (i := 2) rfl)).use rfl) (fun _ h9 => h9) rfl dS_takenWithin_82 ?_
                  refine lv_iload_n hx hb dS_takenWithin_85 rfl (lv_at hl 4 rfl) ?_
                  refine lv_iconst (v := 1) hx hb dS_takenWithin_86 (by decide) ?_
                  refine lv_isub hx hb dS_takenWithin_87 ?_
                  refine lv_topi (fun v4 ev4 => ?_)
                  have ev4 : v4 = nI L := ev4.trans (nI_pred L)
                  subst ev4
                  refine lv_iload hx hb dS_takenWithin_88 (lv_at hl 1 rfl) ?_
                  refine lv_iload_n hx hb dS_takenWithin_90 rfl (lv_at hl 6 rfl) ?_
                  refine lv_iload hx hb dS_takenWithin_91 (lv_at hl 7 rfl) ?_
                  refine lv_iload hx hb dS_takenWithin_93 (lv_at hl 8 rfl) ?_
                  refine vp_callSl (W.runS (As := [va_rf ub, .int (nI L), .int (nI (a + 2 ^ L)), .int (nI lo), .int (nI hi), .int (nI w)]) (rest := []) ⟨hx, hb, hml, hown, hg⟩ (ih (a + 2 ^ L) ub (by omega) (by omega) hup) (va_cwS 6 hg gS_64 rfl rfl rfl (by decide +kernel) ⟨by show L + 4 + 1 ≤ L + 1 + 4; omega, by show 8 + (12 + 11) + (100 * L + 400) ≤ 100 * (L + 1) + 400; omega⟩) (gP_S hW hS) rfl rfl hl.1 rfl (lv_room (Nat.le_of_ble_eq_true rfl)) dS_takenWithin_95 ⟨Nat.le_of_ble_eq_true rfl, Nat.le_of_ble_eq_true rfl⟩) (fun n2 hn2 => ?_)
                  refine lv_lstore (lv' := [(10, .long n2), (8, .long n1), (7, .int (nI (a + 2 ^ L))), (6, .int (nI (a + 2 ^ (L + 1) - 1))), (0, .ref xc1), (1, .int (nI (L + 1))), (2, .int (nI a)), (3, .int (nI lo)), (4, .int (nI hi)), (5, .int (nI w))]) hx hb dS_takenWithin_98 hl (by decide) rfl (fun ls hl => ?_)
                  refine lv_lload hx hb dS_takenWithin_100 (lv_at hl 1 rfl) ?_
                  refine lv_lload hx hb dS_takenWithin_102 (lv_at hl 0 rfl) ?_
                  refine lv_iload hx hb dS_takenWithin_104 (lv_at hl 9 rfl) ?_
                  refine vp_callSl (W.runS (As := [.long n1, .long n2, .int (nI w)]) (rest := []) ⟨hx, hb, hml, hown, hg⟩ (c_S_takenTogether l Γ s.heap n1 n2 hw) (va_cwS 3 hg gS_120 rfl rfl rfl (by decide +kernel) ⟨by show 1 + 1 ≤ L + 1 + 4; omega, by show 8 + (5 + 11) + 20 ≤ 100 * (L + 1) + 400; omega⟩) (gP_S hW hS) rfl rfl hl.1 rfl (lv_room (Nat.le_of_ble_eq_true rfl)) dS_takenWithin_106 ⟨Nat.le_of_ble_eq_true rfl, Nat.le_of_ble_eq_true rfl⟩) (fun n3 hn3 => ?_)
                  exact W.lret (v := n3) hx hb hr (fun t ht hW9 => ⟨_, rfl, by rw [hn3, hn1, hn2, hp, ag_split (rS_wf hwf) hw], ht⟩) (fun _ h => nomatch h) dS_takenWithin_109
                · have h4 : ¬ hi < a + 2 ^ (L + 1) - 1 := fun h => c6 (nI_lt h (by omega))
                  refine lv_aload_n hx hb dS_takenWithin_47 rfl (lv_at hl 1 rfl) ?_
                  refine lv_iload hx hb dS_takenWithin_48 (lv_at hl 6 rfl) ?_
                  refine vp_callSl (W.runS (As := [.ref xc1, .int (nI w)]) (rest := []) ⟨hx, hb, hml, hown, hg⟩ (c_S_takenOf l Γ s.heap hw hf) (va_cwS 2 hg gS_46 rfl rfl rfl (by decide +kernel) ⟨by show 1 + 1 ≤ L + 1 + 4; omega, by show 8 + (2 + 11) + 20 ≤ 100 * (L + 1) + 400; omega⟩) (gP_S hW hS) rfl rfl hl.1 rfl (lv_room (Nat.le_of_ble_eq_true rfl)) dS_takenWithin_50 ⟨Nat.le_of_ble_eq_true rfl, Nat.le_of_ble_eq_true rfl⟩) (fun r0 hr0 => ?_)
                  exact W.lret (v := r0) hx hb hr (fun t ht hW9 => ⟨_, rfl, by rw [hr0, hv w hw, ag_r_in (by omega) (by omega)], ht⟩) (fun _ h => nomatch h) dS_takenWithin_53
          · have h2 : ¬ a ≤ hi := fun h => c3 ((nI_leI (by omega) (by omega)).mpr h)
            refine lv_iload hx hb dS_takenWithin_25 (lv_at hl 6 rfl) ?_
            refine vp_callSl (W.runS (As := [.int (nI w)]) (rest := []) ⟨hx, hb, hml, hown, hg⟩ (c_S_takenOfNothing l Γ s.heap hw) (va_cwS 1 hg gS_109 rfl rfl rfl (by decide +kernel) ⟨by show 0 + 1 ≤ L + 1 + 4; omega, by show 8 + (1 + 11) + 0 ≤ 100 * (L + 1) + 400; omega⟩) (gP_S hW hS) rfl rfl hl.1 rfl (lv_room (Nat.le_of_ble_eq_true rfl)) dS_takenWithin_27 ⟨Nat.le_of_ble_eq_true rfl, Nat.le_of_ble_eq_true rfl⟩) (fun r0 hr0 => ?_)
            exact W.lret (v := r0) hx hb hr (fun t ht hW9 => ⟨_, rfl, hr0.trans (ag_r_out hw (Or.inr (by omega))).symm, ht⟩) (fun _ h => nomatch h) dS_takenWithin_30
