/-! a table is made -/
set_option maxHeartbeats 4000000 in
set_option maxRecDepth 100000 in
theorem c_S_rewritten (l : Launch) (Γ : gE) {V V' : Nat → Option Int64} {S S' : Nat → Int32} {k : Nat} (hwf : wfS S') (hk : k < 1024) (hoff : ∀ j, j ≠ k → V j = V' j ∧ S j = S' j) : ∀ (L : Nat) (H : Heap) (r : Option Nat) (lf : Nat), L ≤ 10 → gb0 Γ ≤ H.size → TR Γ H V S L (k / 2 ^ L * 2 ^ L) r → TR Γ H V' S' 0 k (some lf) → Met l yS_rewritten wS_rewritten ({ frames := L + 5, cells := 2 * (L), slots := 8 * (L), locals := 100 * (L) + 500 }) (gP Γ H [va_rf r, .int (nI (L)), .int (nI k), .ref lf]) (va_Qq (fun r y => r = some y) (fun (y : Nat) t => TR Γ t.heap V' S' L (k / 2 ^ (L) * 2 ^ (L)) (some y)) (fun _ => False)) (2 * L) (8 * L) (fun q => H.size ≤ q) := by
  intro L
  induction L with
  | zero =>
      intro H r lf hL hz hT hlf
      refine Met.ofW (cc := cS_rewritten) (maxL := 6) (ret := (some (.object "StampTables$Block"))) (by decide) rfl ?_
      intro p e s m args below meth c s₁ B hml hv
      obtain ⟨rfl, rfl, hW⟩ := hv
      have hx := B.exec
      have hb := B.bytes
      have hr := B.returns
      have hg : ∀ w ∈ gW, w.before _ s = true := fun w h => atoms_spec (ws := wS_rewritten) B.pre w (List.mem_cons_of_mem _ h)
      have hown : s.vm.findClass RS = some m.cls := findClass_of_methodNamed B.named
      have hlocks := B.notSynchronized
      have hS : va_S (gA Γ) s.heap s.heap [] := va_S.rf
      have hl := lv_entry ([va_rf r, .int (nI (0)), .int (nI k), .ref lf]) (n := 6) (by cases r <;> exact Nat.le_of_ble_eq_true rfl)
      rw [lg_entry_eq]
      generalize (lg_sl ([va_rf r, .int (nI (0)), .int (nI k), .ref lf]) ++ List.replicate (6 - (lg_sl ([va_rf r, .int (nI (0)), .int (nI k), .ref lf])).length) Slot.unset).toArray = ls at hl ⊢
      have hl : lv_has ls 6 [(0, va_rf r), (1, .int (nI (0))), (2, .int (nI k)), (3, .ref lf)] := by cases r <;> exact hl
      have hS : va_S (nA s) s.heap s.heap [] := va_S.rf
      have hA : ∀ q, s.heap.size ≤ q → nA s q := fun _ h => h
      refine lv_iload_n hx hb dS_rewritten_0 rfl (lv_at hl 1 rfl) ?_
      refine lv_if_gt (tgt := 6) hx hb dS_rewritten_1 (by decide) (fun c1 => ?_) (fun c1 => ?_)
      · exact absurd c1 (by decide)
      · refine lv_aload_n hx hb dS_rewritten_4 rfl (lv_at hl 3 rfl) ?_
        exact W.aret (v := .ref lf) hx hb hr (Or.inl ⟨_, rfl⟩) (Or.inr ⟨_, rfl⟩) (fun t ht8 hW9 => ⟨⟨some lf, lf, rfl, rfl, by show TR Γ t.heap V' S' 0 (k / 2 ^ 0 * 2 ^ 0) (some lf); rw [ht8, show k / 2 ^ 0 * 2 ^ 0 = k by simp]; exact hlf⟩, vS_F hS ht8⟩) (fun q hq => hS.2.2 q hq) dS_rewritten_5
  | succ L ih =>
      intro H r lf hL hz hT hlf
      refine Met.ofW (cc := cS_rewritten) (maxL := 6) (ret := (some (.object "StampTables$Block"))) (by decide) rfl ?_
      intro p e s m args below meth c s₁ B hml hv
      obtain ⟨rfl, rfl, hW⟩ := hv
      have hx := B.exec
      have hb := B.bytes
      have hr := B.returns
      have hg : ∀ w ∈ gW, w.before _ s = true := fun w h => atoms_spec (ws := wS_rewritten) B.pre w (List.mem_cons_of_mem _ h)
      have hown : s.vm.findClass RS = some m.cls := findClass_of_methodNamed B.named
      have hlocks := B.notSynchronized
      have hS : va_S (gA Γ) s.heap s.heap [] := va_S.rf
      have hl := lv_entry ([va_rf r, .int (nI (L + 1)), .int (nI k), .ref lf]) (n := 6) (by cases r <;> exact Nat.le_of_ble_eq_true rfl)
      rw [lg_entry_eq]
      generalize (lg_sl ([va_rf r, .int (nI (L + 1)), .int (nI k), .ref lf]) ++ List.replicate (6 - (lg_sl ([va_rf r, .int (nI (L + 1)), .int (nI k), .ref lf])).length) Slot.unset).toArray = ls at hl ⊢
      have hl : lv_has ls 6 [(0, va_rf r), (1, .int (nI (L + 1))), (2, .int (nI k)), (3, .ref lf)] := by cases r <;> exact hl
      have hS : va_S (nA s) s.heap s.heap [] := va_S.rf
      have hA : ∀ q, s.heap.size ≤ q → nA s q := fun _ h => h
      refine lv_iload_n hx hb dS_rewritten_0 rfl (lv_at hl 1 rfl) ?_
      refine lv_if_gt (tgt := 6) hx hb dS_rewritten_1 (by decide) (fun c1 => ?_) (fun c1 => ?_)
      · obtain ⟨-, lo, up, hbl, hlo, hup⟩ := hT
        have hp := pow2_s L
        have e1 := half_eq k L
        have hkL : k / 2 ^ L * 2 ^ L ≤ k := Nat.div_mul_le_self k (2 ^ L)
        have hkL2 : k < k / 2 ^ L * 2 ^ L + 2 ^ L := by have := Nat.lt_div_mul_add (a := k) (Nat.two_pow_pos L); omega
        generalize hqa : k / 2 ^ (L + 1) * 2 ^ (L + 1) = qa at *
        refine q_aload_n hx hb dS_rewritten_6 rfl (lv_at hl 0 rfl) ?_
        refine va_csq (W.runS (As := [va_rf r]) (rest := []) ⟨hx, hb, hml, hown, hg⟩ (c_S_lowerOf l Γ s.heap hbl) (va_cwS 1 hg gS_94 rfl rfl rfl (by decide +kernel) ⟨by show 0 + 1 ≤ L + 1 + 5; omega, by show 8 + (1 + 11) + 0 ≤ 100 * (L + 1) + 500; omega⟩) (gP_S hW (vS_g hW hS)) rfl rfl hl.1 rfl (lv_room (Nat.le_of_ble_eq_true rfl)) dS_rewritten_7 ⟨Nat.zero_le _, Nat.zero_le _⟩) (fun x1 hx1 => ?_)
        subst hx1
        refine q_astore (lv' := [(4, va_rf x1), (0, va_rf r), (1, .int (nI (L + 1))), (2, .int (nI k)), (3, .ref lf)]) hx hb dS_rewritten_10 hl (by decide) rfl (fun ls hl => ?_)
        refine q_aload_n hx hb dS_rewritten_12 rfl (lv_at hl 1 rfl) ?_
        refine va_csq (W.runS (As := [va_rf r]) (rest := []) ⟨hx, hb, hml, hown, hg⟩ (c_S_upperOf l Γ s.heap hbl) (va_cwS 1 hg gS_98 rfl rfl rfl (by decide +kernel) ⟨by show 0 + 1 ≤ L + 1 + 5; omega, by show 8 + (1 + 11) + 0 ≤ 100 * (L + 1) + 500; omega⟩) (gP_S hW (vS_g hW hS)) rfl rfl hl.1 rfl (lv_room (Nat.le_of_ble_eq_true rfl)) dS_rewritten_13 ⟨Nat.le_of_ble_eq_true rfl, Nat.le_of_ble_eq_true rfl⟩) (fun x2 hx2 => ?_)
        subst hx2
        refine q_astore (lv' := [(5, va_rf x2), (4, va_rf x1), (0, va_rf r), (1, .int (nI (L + 1))), (2, .int (nI k)), (3, .ref lf)]) hx hb dS_rewritten_16 hl (by decide) (by cases x1 <;> rfl) (fun ls hl => ?_)
        refine lv_iload_n hx hb dS_rewritten_18 rfl (lv_at hl 4 rfl) ?_
        refine lv_iload_n hx hb dS_rewritten_19 rfl (lv_at hl 3 rfl) ?_
        refine vp_callSi (W.runS (As := [.int (nI k), .int (nI (L + 1))]) (rest := []) ⟨hx, hb, hml, hown, hg⟩ (c_S_isInUpperHalf l Γ s.heap (k := k) (L := L) hk (by omega)) (va_cwS 2 hg gS_101 rfl rfl rfl (by decide +kernel) ⟨by show 0 + 1 ≤ L + 1 + 5; omega, by show 8 + (2 + 11) + 0 ≤ 100 * (L + 1) + 500; omega⟩) (gP_S hW (vS_g hW hS)) rfl rfl hl.1 rfl (lv_room (Nat.le_of_ble_eq_true rfl)) dS_rewritten_20 ⟨Nat.le_of_ble_eq_true rfl, Nat.le_of_ble_eq_true rfl⟩) (fun r1 hr1 => ?_)
        refine lv_if_eq (tgt := 41) hx hb dS_rewritten_23 (by decide) (fun c2 => ?_) (fun c2 => ?_)
        · have h1 : ¬ k / 2 ^ L % 2 = 1 := fun h => by rw [hr1, if_pos h] at c2; exact absurd c2 (by decide)
          rw [if_neg h1, Nat.add_zero] at e1
          refine q_aload hx hb dS_rewritten_41 (lv_at hl 1 rfl) ?_
          refine lv_iload_n hx hb dS_rewritten_43 rfl (lv_at hl 3 rfl) ?_
          refine lv_iconst (v := 1) hx hb dS_rewritten_44 (by decide) ?_
          refine lv_isub hx hb dS_rewritten_45 ?_
          refine lv_topi (fun v ev => ?_)
          have ev : v = nI L := ev.trans (nI_pred L)
          subst ev
          refine lv_iload_n hx hb dS_rewritten_46 rfl (lv_at hl 4 rfl) ?_
          refine lv_aload_n hx hb dS_rewritten_47 rfl (lv_at hl 5 rfl) ?_
          refine va_callq (va_runS (As := [va_rf x1, .int (nI L), .int (nI k), .ref lf]) (rest := []) ⟨hx, hb, hml, hown, hg⟩ (ih s.heap x1 lf (by omega) hz (by rw [e1]; exact hlo) hlf) (va_cwS 4 hg gS_90 rfl rfl rfl (by decide +kernel) ⟨by show L + 5 + 1 ≤ L + 1 + 5; omega, by show 8 + (6 + 11) + (100 * L + 500) ≤ 100 * (L + 1) + 500; omega⟩) (gP_S hW (vS_g hW hS)) rfl rfl hl.1 rfl (lv_room (Nat.le_of_ble_eq_true rfl)) dS_rewritten_48 ⟨by show 0 + 2 * L ≤ 2 * (L + 1); omega, by show 0 + 8 * L ≤ 8 * (L + 1); omega⟩) hS (fun q _ h => h.elim) (fun q h => Nat.le_trans hS.1 h) (fun r3 y3 t H1 locs1 ht hvm hp3 hB hz1 hk1 hS => ?_)
          subst hp3
          have hN : TR Γ H1 V' S' L (k / 2 ^ L * 2 ^ L) (some y3) := by subst ht; exact hB
          rw [e1] at hN
          have hXX : hX (fun _ => False) s.heap H1 := ⟨hz1, fun q h1 h2 => hk1 q h1 h2⟩
          refine lv_astore (lv' := [(4, .ref y3), (5, va_rf x2), (0, va_rf r), (1, .int (nI (L + 1))), (2, .int (nI k)), (3, .ref lf)]) hx hb dS_rewritten_51 hl (by decide) rfl (fun ls hl => ?_)
          refine lv_aload hx hb dS_rewritten_53 (lv_at hl 0 rfl) ?_
          refine q_aload hx hb dS_rewritten_55 (lv_at hl 1 rfl) ?_
          have hU : TR Γ H1 V' S' L (qa + 2 ^ L) x2 := (hup.kept (hX_hb hXX)).congr (fun j h3 h4 => hoff j (by omega))
          obtain ⟨f1, hf1, hv1⟩ := hN.f
          obtain ⟨f2, hf2, hv2⟩ := hU.f
          refine va_callq (va_runS (As := [.ref y3, va_rf x2]) (rest := []) ⟨hx, hb, hml, hown, hg⟩ (c_S_joined l Γ H1 (lo := (some y3)) (up := x2) (Nat.le_trans hz hz1) hf1 hf2) (va_cwS 2 hg gS_105 rfl rfl rfl (by decide +kernel) ⟨by show 3 + 1 ≤ L + 1 + 5; omega, by show 8 + (4 + 11) + 300 ≤ 100 * (L + 1) + 500; omega⟩) (gP_S hW (vS_g hW hS)) rfl rfl hl.1 rfl (lv_room (Nat.le_of_ble_eq_true rfl)) dS_rewritten_57 ⟨by show 0 + 2 * L + 2 ≤ 2 * (L + 1); omega, by show 0 + 8 * L + 8 ≤ 8 * (L + 1); omega⟩) hS (fun q _ h => h.elim) (fun q h => Nat.le_trans hS.1 h) (fun r4 y4 t4 H2 locs2 ht4 hvm4 hp4 hB4 hz2 hk2 hS => ?_)
          subst hp4
          have hXY : hX (fun _ => False) H1 H2 := ⟨hz2, fun q h1 h2 => hk2 q h1 h2⟩
          rw [ht4] at hB4
          obtain ⟨F4, hF4, hL4, hV4⟩ := hB4
          refine W.widen (k := 2 * (L + 1)) (n := 8 * (L + 1)) (by omega) (by omega) ?_
          exact W.aret (v := .ref y4) hx hb hr (Or.inl ⟨_, rfl⟩) (Or.inr ⟨_, rfl⟩) (fun t8 ht8 hW9 => ⟨⟨some y4, y4, rfl, rfl, by subst ht8; exact ⟨⟨F4, hF4, fun w hw => by rw [hV4 w hw, hv1 w hw, hv2 w hw, hp, ag_split hwf hw]⟩, (some y3), x2, hL4, hN.kept (hX_hb hXY), hU.kept (hX_hb hXY)⟩⟩, vS_F hS ht8⟩) (fun q hq => hS.2.2 q hq) dS_rewritten_60
        · have h1 : k / 2 ^ L % 2 = 1 := by
            by_cases h : k / 2 ^ L % 2 = 1
            · exact h
            · rw [hr1, if_neg h] at c2
              exact absurd rfl c2
          rw [if_pos h1] at e1
          refine q_aload hx hb dS_rewritten_26 (lv_at hl 0 rfl) ?_
          refine lv_iload_n hx hb dS_rewritten_28 rfl (lv_at hl 3 rfl) ?_
          refine lv_iconst (v := 1) hx hb dS_rewritten_29 (by decide) ?_
          refine lv_isub hx hb dS_rewritten_30 ?_
          refine lv_topi (fun v ev => ?_)
          have ev : v = nI L := ev.trans (nI_pred L)
          subst ev
          refine lv_iload_n hx hb dS_rewritten_31 rfl (lv_at hl 4 rfl) ?_
          refine lv_aload_n hx hb dS_rewritten_32 rfl (lv_at hl 5 rfl) ?_
          refine va_callq (va_runS (As := [va_rf x2, .int (nI L), .int (nI k), .ref lf]) (rest := []) ⟨hx, hb, hml, hown, hg⟩ (ih s.heap x2 lf (by omega) hz (by rw [e1]; exact hup) hlf) (va_cwS 4 hg gS_90 rfl rfl rfl (by decide +kernel) ⟨by show L + 5 + 1 ≤ L + 1 + 5; omega, by show 8 + (6 + 11) + (100 * L + 500) ≤ 100 * (L + 1) + 500; omega⟩) (gP_S hW (vS_g hW hS)) rfl rfl hl.1 rfl (lv_room (Nat.le_of_ble_eq_true rfl)) dS_rewritten_33 ⟨by show 0 + 2 * L ≤ 2 * (L + 1); omega, by show 0 + 8 * L ≤ 8 * (L + 1); omega⟩) hS (fun q _ h => h.elim) (fun q h => Nat.le_trans hS.1 h) (fun r3 y3 t H1 locs1 ht hvm hp3 hB hz1 hk1 hS => ?_)
          subst hp3
          have hN : TR Γ H1 V' S' L (k / 2 ^ L * 2 ^ L) (some y3) := by subst ht; exact hB
          rw [e1] at hN
          have hXX : hX (fun _ => False) s.heap H1 := ⟨hz1, fun q h1 h2 => hk1 q h1 h2⟩
          refine lv_astore (lv' := [(5, .ref y3), (4, va_rf x1), (0, va_rf r), (1, .int (nI (L + 1))), (2, .int (nI k)), (3, .ref lf)]) hx hb dS_rewritten_36 hl (by decide) (by cases x1 <;> rfl) (fun ls hl => ?_)
          refine lv_goto (tgt := 53) hx hb dS_rewritten_38 (by decide) ?_
          refine q_aload hx hb dS_rewritten_53 (lv_at hl 1 rfl) ?_
          refine lv_aload hx hb dS_rewritten_55 (lv_at hl 0 rfl) ?_
          have hU : TR Γ H1 V' S' L qa x1 := (hlo.kept (hX_hb hXX)).congr (fun j h3 h4 => hoff j (by omega))
          obtain ⟨f1, hf1, hv1⟩ := hU.f
          obtain ⟨f2, hf2, hv2⟩ := hN.f
          refine va_callq (va_runS (As := [va_rf x1, .ref y3]) (rest := []) ⟨hx, hb, hml, hown, hg⟩ (c_S_joined l Γ H1 (lo := x1) (up := (some y3)) (Nat.le_trans hz hz1) hf1 hf2) (va_cwS 2 hg gS_105 rfl rfl rfl (by decide +kernel) ⟨by show 3 + 1 ≤ L + 1 + 5; omega, by show 8 + (4 + 11) + 300 ≤ 100 * (L + 1) + 500; omega⟩) (gP_S hW (vS_g hW hS)) rfl rfl hl.1 rfl (lv_room (Nat.le_of_ble_eq_true rfl)) dS_rewritten_57 ⟨by show 0 + 2 * L + 2 ≤ 2 * (L + 1); omega, by show 0 + 8 * L + 8 ≤ 8 * (L + 1); omega⟩) hS (fun q _ h => h.elim) (fun q h => Nat.le_trans hS.1 h) (fun r4 y4 t4 H2 locs2 ht4 hvm4 hp4 hB4 hz2 hk2 hS => ?_)
          subst hp4
          have hXY : hX (fun _ => False) H1 H2 := ⟨hz2, fun q h1 h2 => hk2 q h1 h2⟩
          rw [ht4] at hB4
          obtain ⟨F4, hF4, hL4, hV4⟩ := hB4
          refine W.widen (k := 2 * (L + 1)) (n := 8 * (L + 1)) (by omega) (by omega) ?_
          exact W.aret (v := .ref y4) hx hb hr (Or.inl ⟨_, rfl⟩) (Or.inr ⟨_, rfl⟩) (fun t8 ht8 hW9 => ⟨⟨some y4, y4, rfl, rfl, by subst ht8; exact ⟨⟨F4, hF4, fun w hw => by rw [hV4 w hw, hv1 w hw, hv2 w hw, hp, ag_split hwf hw]⟩, x1, (some y3), hL4, hU.kept (hX_hb hXY), hN.kept (hX_hb hXY)⟩⟩, vS_F hS ht8⟩) (fun q hq => hS.2.2 q hq) dS_rewritten_60
      · exact absurd (show (0 : Int32) < nI (L + 1) from by rw [← nI_0]; exact nI_lt (by omega) (by omega)) c1
