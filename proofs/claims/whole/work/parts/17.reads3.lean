/-! the public reads -/
set_option maxHeartbeats 4000000 in
set_option maxRecDepth 100000 in
theorem c_S_get (l : Launch) (hnt : l.stackTraces = false) (Γ : gE) (H : Heap) {x ro md : Nat} {rt : Nat → Option Nat} {Vs : Nat → Nat → Option Int64} {Ss : Nat → Nat → Int32} {t k : Int32} (hX0 : SX Γ H x ro md rt Vs Ss) : vx_Met l yS_get wS_get ({ frames := 20, cells := 3, slots := 18, locals := 1000 }) (gP Γ H [.ref x, .int t, .int k]) (va_Ql (fun r (u : Nat × Nat) => u.1 < md ∧ t = nI u.1 ∧ u.2 < 1024 ∧ k = nI u.2 ∧ Vs u.1 u.2 = some r) (fun _ t' => t'.heap = H) (fun _ => False)) (xT (fun E => (E = xIA ∧ ¬ (inT t md ∧ inT k 1024)) ∨ (E = xUO ∧ ∃ tj kj, tj < md ∧ t = nI tj ∧ kj < 1024 ∧ k = nI kj ∧ Vs tj kj = none))) 3 18 (fun q => H.size ≤ q) := by
  refine vx_ofW (cc := cS_get) (maxL := 4) (ret := (some .long)) (by decide) rfl ?_
  intro p e s m args below meth c s₁ B hml htab hv
  obtain ⟨rfl, rfl, hW⟩ := hv
  have hx := B.exec
  have hb := B.bytes
  have hr := B.returns
  have hg : ∀ w ∈ gW, w.before _ s = true := fun w h => atoms_spec (ws := wS_get) B.pre w (List.mem_cons_of_mem _ h)
  have hown : s.vm.findClass RS = some m.cls := findClass_of_methodNamed B.named
  have hlocks := B.notSynchronized
  have hS : va_S (gA Γ) s.heap s.heap [] := va_S.rf
  have hl := lv_entry ([.ref x, .int t, .int k]) (n := 4) (Nat.le_of_ble_eq_true rfl)
  rw [lg_entry_eq]
  generalize (lg_sl ([.ref x, .int t, .int k]) ++ List.replicate (4 - (lg_sl ([.ref x, .int t, .int k])).length) Slot.unset).toArray = ls at hl ⊢
  have hl : lv_has ls 4 [(0, .ref x), (1, .int t), (2, .int k)] := hl
  have hS : va_S (nA s) s.heap s.heap [] := va_S.rf
  obtain ⟨hO, hR, hmd, hT⟩ := hX0
  refine lv_aload_n hx hb dS_get_0 rfl (lv_at hl 0 rfl) ?_
  refine lv_iload_n hx hb dS_get_1 rfl (lv_at hl 1 rfl) ?_
  refine vx_callv (vx_runV (As := [.int t]) (rest := []) ⟨hx, hb, hml, hown, hg⟩ (c_S_checkTable l hnt Γ s.heap (t := t) hO (by omega)) (cwV 1 hg gS_35 rfl rfl rfl (by decide +kernel) ⟨Nat.le_of_ble_eq_true rfl, Nat.le_of_ble_eq_true rfl⟩) (gP_V hW (vS_g hW hS) (ci := 1) rfl hO) rfl rfl hl.1 rfl (lv_room (Nat.le_of_ble_eq_true rfl)) dS_get_2 ⟨Nat.le_of_ble_eq_true rfl, Nat.le_of_ble_eq_true rfl⟩) hS (fun q _ h => h.elim) (fun q h => Nat.le_trans hS.1 h) (fun q _ h => h.elim) (fun E ce q9 u tx H1 locs1 ht hvm hpx hBX hz1 hk1 hS hcell hcv hcl => ?_) (fun u t9 H1 locs1 ht hvm hp hB hz1 hk1 hS => ?_)
  · exact vx_out (E := E) (mc := 3) (ms := 18) (fun x h => (htab x h).elim) hlocks hcell hcv hcl (fun t9 h9 _ => ⟨(), trivial, Or.inl ⟨hBX.1, fun h => hBX.2 h.1⟩, by rw [h9]; exact hS.1, fun q hq _ => by rw [h9]; exact hS.2.1 q hq (Nat.not_le.mpr hq)⟩) (fun z hz => hS.2.2 z hz) (Nat.le_of_ble_eq_true rfl) (Nat.le_of_ble_eq_true rfl)
  have hHH : H1 = s.heap := ht.symm.trans hB
  subst hHH
  have h1 := hp
  refine lv_iload_n hx hb dS_get_5 rfl (lv_at hl 2 rfl) ?_
  refine vx_callv (vx_runS (As := [.int k]) (rest := []) ⟨hx, hb, hml, hown, hg⟩ (c_S_checkKey l hnt Γ s.heap (k := k)) (va_cwS 1 hg gS_39 rfl rfl rfl (by decide +kernel) ⟨Nat.le_of_ble_eq_true rfl, Nat.le_of_ble_eq_true rfl⟩) (gP_S hW (vS_g hW hS)) rfl rfl hl.1 rfl (lv_room (Nat.le_of_ble_eq_true rfl)) dS_get_6 ⟨Nat.le_of_ble_eq_true rfl, Nat.le_of_ble_eq_true rfl⟩) hS (fun q _ h => h.elim) (fun q h => Nat.le_trans hS.1 h) (fun q _ h => h.elim) (fun E ce q9 u tx H1 locs1 ht hvm hpx hBX hz1 hk1 hS hcell hcv hcl => ?_) (fun u t9 H1 locs1 ht hvm hp hB hz1 hk1 hS => ?_)
  · exact vx_out (E := E) (mc := 3) (ms := 18) (fun x h => (htab x h).elim) hlocks hcell hcv hcl (fun t9 h9 _ => ⟨(), trivial, Or.inl ⟨hBX.1, fun h => hBX.2 h.2⟩, by rw [h9]; exact hS.1, fun q hq _ => by rw [h9]; exact hS.2.1 q hq (Nat.not_le.mpr hq)⟩) (fun z hz => hS.2.2 z hz) (Nat.le_of_ble_eq_true rfl) (Nat.le_of_ble_eq_true rfl)
  have hHH : H1 = s.heap := ht.symm.trans hB
  subst hHH
  have h2 := hp
  obtain ⟨tj, htj, rfl⟩ := h1
  obtain ⟨kj, hkj, rfl⟩ := h2
  refine lv_aload_n hx hb dS_get_9 rfl (lv_at hl 0 rfl) ?_
  refine va_get (D := Γ.1) (ci := 1) (v := .ref ro) (C := RS) (T := TS) (N := 2) hx hb hg inS hown hW.1 (p1 hO) 0 rfl rfl 0 (by decide) (hg _ kw31) (fun _ h9 => h9) rfl dS_get_10 ?_
  refine lv_iload_n hx hb dS_get_13 rfl (lv_at hl 1 rfl) ?_
  refine va_aldq (D := Γ.1) (cl := gC) (tys := gT Γ) hx hb hW.1 (p1 hR) 0 1 rfl rfl (vp_in_nI (show tj < 400 by omega) (by omega)) dS_get_14 ?_
  rw [nI_clamp (show tj < 2 ^ 31 by omega)]
  refine lv_iload_n hx hb dS_get_15 rfl (lv_at hl 2 rfl) ?_
  refine va_csq (W.runS (As := [va_rf (rt tj), .int (nI kj)]) (rest := []) ⟨hx, hb, hml, hown, hg⟩ (c_S_leafOf l Γ s.heap (hT tj htj).2 hkj) (va_cwS 2 hg gS_42 rfl rfl rfl (by decide +kernel) ⟨Nat.le_of_ble_eq_true rfl, Nat.le_of_ble_eq_true rfl⟩) (gP_S hW (vS_g hW hS)) rfl rfl hl.1 rfl (lv_room (Nat.le_of_ble_eq_true rfl)) dS_get_16 ⟨Nat.le_of_ble_eq_true rfl, Nat.le_of_ble_eq_true rfl⟩) (fun r1 hr1 => ?_)
  obtain ⟨f, hf, hv⟩ := hr1.f
  have hv : ∀ w, w ≤ 4 → f w = lfv (Vs tj) (Ss tj) w kj := fun w hw => (hv w hw).trans (ag_one (hT tj htj).1 hw kj)
  refine q_astore_n (lv' := [(3, va_rf r1), (0, .ref x), (1, .int (nI tj)), (2, .int (nI kj))]) hx hb dS_get_19 rfl hl (by decide) rfl (fun ls hl => ?_)
  refine q_aload_n hx hb dS_get_20 rfl (lv_at hl 0 rfl) ?_
  refine lv_iconst (v := 0) hx hb dS_get_21 (by decide) ?_
  refine vp_callSl (W.runS (As := [va_rf r1, .int 0]) (rest := []) ⟨hx, hb, hml, hown, hg⟩ (c_S_takenOf l Γ s.heap (w := 0) (by omega) hf) (va_cwS 2 hg gS_46 rfl rfl rfl (by decide +kernel) ⟨Nat.le_of_ble_eq_true rfl, Nat.le_of_ble_eq_true rfl⟩) (gP_S hW (vS_g hW hS)) rfl rfl hl.1 rfl (lv_room (Nat.le_of_ble_eq_true rfl)) dS_get_22 ⟨Nat.le_of_ble_eq_true rfl, Nat.le_of_ble_eq_true rfl⟩) (fun x0 hx0 => ?_)
  refine lv_lconst (v := 0) hx hb dS_get_25 (by decide) ?_
  refine W.lcmp hx hb dS_get_26 ?_
  refine lv_if_ne (tgt := 40) hx hb dS_get_27 (by decide) (fun c1 => ?_) (fun c1 => ?_)
  · have h3 : (Vs tj kj).isSome = true := by
      by_cases h : (Vs tj kj).isSome = true
      · exact h
      · exact absurd ((lg_cmp_eq _ _).mpr (by rw [hx0, hv 0 (by omega)]; simp [lfv, h])) c1
    refine q_aload_n hx hb dS_get_40 rfl (lv_at hl 0 rfl) ?_
    refine lv_iconst (v := 1) hx hb dS_get_41 (by decide) ?_
    refine vp_callSl (W.runS (As := [va_rf r1, .int 1]) (rest := []) ⟨hx, hb, hml, hown, hg⟩ (c_S_takenOf l Γ s.heap (w := 1) (by omega) hf) (va_cwS 2 hg gS_46 rfl rfl rfl (by decide +kernel) ⟨Nat.le_of_ble_eq_true rfl, Nat.le_of_ble_eq_true rfl⟩) (gP_S hW (vS_g hW hS)) rfl rfl hl.1 rfl (lv_room (Nat.le_of_ble_eq_true rfl)) dS_get_42 ⟨Nat.le_of_ble_eq_true rfl, Nat.le_of_ble_eq_true rfl⟩) (fun x1 hx1 => ?_)
    have h4 : Vs tj kj = some x1 := by
      obtain ⟨v, hv9⟩ := Option.isSome_iff_exists.mp h3
      rw [hx1, hv 1 (by omega), hv9]; simp [lfv, hv9]
    refine W.widen (k := 3) (n := 18) (Nat.le_of_ble_eq_true rfl) (Nat.le_of_ble_eq_true rfl) ?_
    refine vx_ret ?_
    exact W.lret (v := x1) hx hb hr (fun t8 ht8 hW9 => ⟨⟨x1, (tj, kj), rfl, ⟨htj, rfl, hkj, rfl, h4⟩, ht8⟩, vS_F hS ht8⟩) (fun q hq => hS.2.2 q hq) dS_get_45
  · have h3 : Vs tj kj = none := by
      have h4 := (lg_cmp_eq _ _).mp c1
      rw [hx0, hv 0 (by omega)] at h4
      cases hvv : Vs tj kj with
      | none => rfl
      | some v => simp [lfv, hvv] at h4
    obtain ⟨sa, hstr⟩ := hW.2.1.2.1 (52, "the key has no number") (List.mem_of_getElem? (i := 4) rfl)
    exact vx_throwS (own := RS) (cls := xUO) (text := "the key has no number") (names := xNs) (ik := 50) (is := 52) (ic := 54) (mc := 3) (ms := 18) (sa := sa) (A := gA Γ) hx hb hnt hown (by decide) (by decide) (hg _ kw224) (hg _ kw20) hstr (x_hat xw_UO xb_UO hg hW.2.1) xg_UO hW.2.2.2.1 hW.2.2.2.2 (vS_g hW hS) (by rw [hml]; exact hl.1) dS_get_30 dS_get_33 dS_get_34 dS_get_36 dS_get_39 (fun x h => (htab x h).elim) (Nat.lt_of_succ_le (Nat.le_of_ble_eq_true rfl)) (Nat.le_of_ble_eq_true rfl) (Nat.le_of_ble_eq_true rfl) (Nat.le_of_ble_eq_true rfl) hlocks (fun t9 _ h1 h2 => ⟨(), trivial, Or.inr ⟨rfl, tj, kj, htj, rfl, hkj, rfl, h3⟩, Nat.le_trans hS.1 h1, fun q hq _ => (h2 q (Nat.lt_of_lt_of_le hq hS.1)).trans (hS.2.1 q hq (Nat.not_le.mpr hq))⟩) (fun z hz => hS.2.2 z hz) (Nat.le_of_ble_eq_true rfl) (Nat.le_of_ble_eq_true rfl)
set_option maxHeartbeats 4000000 in
set_option maxRecDepth 100000 in
theorem c_S_stamp (l : Launch) (hnt : l.stackTraces = false) (Γ : gE) (H : Heap) {x ro md : Nat} {rt : Nat → Option Nat} {Vs : Nat → Nat → Option Int64} {Ss : Nat → Nat → Int32} {t k : Int32} (hX0 : SX Γ H x ro md rt Vs Ss) : vx_Met l yS_stamp wS_stamp ({ frames := 20, cells := 3, slots := 18, locals := 1000 }) (gP Γ H [.ref x, .int t, .int k]) (va_Qi (fun r (u : Nat × Nat) => u.1 < md ∧ t = nI u.1 ∧ u.2 < 1024 ∧ k = nI u.2 ∧ r = Ss u.1 u.2) (fun _ t' => t'.heap = H) (fun _ => False)) (xT (fun E => E = xIA ∧ ¬ (inT t md ∧ inT k 1024))) 3 18 (fun q => H.size ≤ q) := by
  refine vx_ofW (cc := cS_stamp) (maxL := 3) (ret := (some .int)) (by decide) rfl ?_
  intro p e s m args below meth c s₁ B hml htab hv
  obtain ⟨rfl, rfl, hW⟩ := hv
  have hx := B.exec
  have hb := B.bytes
  have hr := B.returns
  have hg : ∀ w ∈ gW, w.before _ s = true := fun w h => atoms_spec (ws := wS_stamp) B.pre w (List.mem_cons_of_mem _ h)
  have hown : s.vm.findClass RS = some m.cls := findClass_of_methodNamed B.named
  have hlocks := B.notSynchronized
  have hS : va_S (gA Γ) s.heap s.heap [] := va_S.rf
  have hl := lv_entry ([.ref x, .int t, .int k]) (n := 3) (Nat.le_of_ble_eq_true rfl)
  rw [lg_entry_eq]
  generalize (lg_sl ([.ref x, .int t, .int k]) ++ List.replicate (3 - (lg_sl ([.ref x, .int t, .int k])).length) Slot.unset).toArray = ls at hl ⊢
  have hl : lv_has ls 3 [(0, .ref x), (1, .int t), (2, .int k)] := hl
  have hS : va_S (nA s) s.heap s.heap [] := va_S.rf
  obtain ⟨hO, hR, hmd, hT⟩ := hX0
  refine lv_aload_n hx hb dS_stamp_0 rfl (lv_at hl 0 rfl) ?_
  refine lv_iload_n hx hb dS_stamp_1 rfl (lv_at hl 1 rfl) ?_
  refine vx_callv (vx_runV (As := [.int t]) (rest := []) ⟨hx, hb, hml, hown, hg⟩ (c_S_checkTable l hnt Γ s.heap (t := t) hO (by omega)) (cwV 1 hg gS_35 rfl rfl rfl (by decide +kernel) ⟨Nat.le_of_ble_eq_true rfl, Nat.le_of_ble_eq_true rfl⟩) (gP_V hW (vS_g hW hS) (ci := 1) rfl hO) rfl rfl hl.1 rfl (lv_room (Nat.le_of_ble_eq_true rfl)) dS_stamp_2 ⟨Nat.le_of_ble_eq_true rfl, Nat.le_of_ble_eq_true rfl⟩) hS (fun q _ h => h.elim) (fun q h => Nat.le_trans hS.1 h) (fun q _ h => h.elim) (fun E ce q9 u tx H1 locs1 ht hvm hpx hBX hz1 hk1 hS hcell hcv hcl => ?_) (fun u t9 H1 locs1 ht hvm hp hB hz1 hk1 hS => ?_)
  · exact vx_out (E := E) (mc := 3) (ms := 18) (fun x h => (htab x h).elim) hlocks hcell hcv hcl (fun t9 h9 _ => ⟨(), trivial, ⟨hBX.1, fun h => hBX.2 h.1⟩, by rw [h9]; exact hS.1, fun q hq _ => by rw [h9]; exact hS.2.1 q hq (Nat.not_le.mpr hq)⟩) (fun z hz => hS.2.2 z hz) (Nat.le_of_ble_eq_true rfl) (Nat.le_of_ble_eq_true rfl)
  have hHH : H1 = s.heap := ht.symm.trans hB
  subst hHH
  have h1 := hp
  refine lv_iload_n hx hb dS_stamp_5 rfl (lv_at hl 2 rfl) ?_
  refine vx_callv (vx_runS (As := [.int k]) (rest := []) ⟨hx, hb, hml, hown, hg⟩ (c_S_checkKey l hnt Γ s.heap (k := k)) (va_cwS 1 hg gS_39 rfl rfl rfl (by decide +kernel) ⟨Nat.le_of_ble_eq_true rfl, Nat.le_of_ble_eq_true rfl⟩) (gP_S hW (vS_g hW hS)) rfl rfl hl.1 rfl (lv_room (Nat.le_of_ble_eq_true rfl)) dS_stamp_6 ⟨Nat.le_of_ble_eq_true rfl, Nat.le_of_ble_eq_true rfl⟩) hS (fun q _ h => h.elim) (fun q h => Nat.le_trans hS.1 h) (fun q _ h => h.elim) (fun E ce q9 u tx H1 locs1 ht hvm hpx hBX hz1 hk1 hS hcell hcv hcl => ?_) (fun u t9 H1 locs1 ht hvm hp hB hz1 hk1 hS => ?_)
  · exact vx_out (E := E) (mc := 3) (ms := 18) (fun x h => (htab x h).elim) hlocks hcell hcv hcl (fun t9 h9 _ => ⟨(), trivial, ⟨hBX.1, fun h => hBX.2 h.2⟩, by rw [h9]; exact hS.1, fun q hq _ => by rw [h9]; exact hS.2.1 q hq (Nat.not_le.mpr hq)⟩) (fun z hz => hS.2.2 z hz) (Nat.le_of_ble_eq_true rfl) (Nat.le_of_ble_eq_true rfl)
  have hHH : H1 = s.heap := ht.symm.trans hB
  subst hHH
  have h2 := hp
  obtain ⟨tj, htj, rfl⟩ := h1
  obtain ⟨kj, hkj, rfl⟩ := h2
  refine lv_aload_n hx hb dS_stamp_9 rfl (lv_at hl 0 rfl) ?_
  refine va_get (D := Γ.1) (ci := 1) (v := .ref ro) (C := RS) (T := TS) (N := 2) hx hb hg inS hown hW.1 (p1 hO) 0 rfl rfl 0 (by decide) (hg _ kw31) (fun _ h9 => h9) rfl dS_stamp_10 ?_
  refine lv_iload_n hx hb dS_stamp_13 rfl (lv_at hl 1 rfl) ?_
  refine va_aldq (D := Γ.1) (cl := gC) (tys := gT Γ) hx hb hW.1 (p1 hR) 0 1 rfl rfl (vp_in_nI (show tj < 400 by omega) (by omega)) dS_stamp_14 ?_
  rw [nI_clamp (show tj < 2 ^ 31 by omega)]
  refine lv_iload_n hx hb dS_stamp_15 rfl (lv_at hl 2 rfl) ?_
  refine va_csq (W.runS (As := [va_rf (rt tj), .int (nI kj)]) (rest := []) ⟨hx, hb, hml, hown, hg⟩ (c_S_leafOf l Γ s.heap (hT tj htj).2 hkj) (va_cwS 2 hg gS_42 rfl rfl rfl (by decide +kernel) ⟨Nat.le_of_ble_eq_true rfl, Nat.le_of_ble_eq_true rfl⟩) (gP_S hW (vS_g hW hS)) rfl rfl hl.1 rfl (lv_room (Nat.le_of_ble_eq_true rfl)) dS_stamp_16 ⟨Nat.le_of_ble_eq_true rfl, Nat.le_of_ble_eq_true rfl⟩) (fun r1 hr1 => ?_)
  obtain ⟨f, hf, hv⟩ := hr1.f
  have hv : ∀ w, w ≤ 4 → f w = lfv (Vs tj) (Ss tj) w kj := fun w hw => (hv w hw).trans (ag_one (hT tj htj).1 hw kj)
  refine lv_iconst (v := 4) hx hb dS_stamp_19 (by decide) ?_
  refine vp_callSl (W.runS (As := [va_rf r1, .int 4]) (rest := []) ⟨hx, hb, hml, hown, hg⟩ (c_S_takenOf l Γ s.heap (w := 4) (by omega) hf) (va_cwS 2 hg gS_46 rfl rfl rfl (by decide +kernel) ⟨Nat.le_of_ble_eq_true rfl, Nat.le_of_ble_eq_true rfl⟩) (gP_S hW (vS_g hW hS)) rfl rfl hl.1 rfl (lv_room (Nat.le_of_ble_eq_true rfl)) dS_stamp_20 ⟨Nat.le_of_ble_eq_true rfl, Nat.le_of_ble_eq_true rfl⟩) (fun x0 hx0 => ?_)
  refine lv_l2i (v := x0.toInt32) hx hb dS_stamp_23 rfl ?_
  refine W.widen (k := 3) (n := 18) (Nat.le_of_ble_eq_true rfl) (Nat.le_of_ble_eq_true rfl) ?_
  refine vx_ret ?_
  exact W.iret (v := x0.toInt32) hx hb hr (fun t8 ht8 hW9 => ⟨⟨x0.toInt32, (tj, kj), rfl, ⟨htj, rfl, hkj, rfl, by rw [hx0, hv 4 (by omega)]; simp [lfv]⟩, ht8⟩, vS_F hS ht8⟩) (fun q hq => hS.2.2 q hq) dS_stamp_24
set_option maxHeartbeats 4000000 in
set_option maxRecDepth 100000 in
theorem c_S_part (l : Launch) (hnt : l.stackTraces = false) (Γ : gE) (H : Heap) {x ro md : Nat} {rt : Nat → Option Nat} {Vs : Nat → Nat → Option Int64} {Ss : Nat → Nat → Int32} {t lo hi wh : Int32} (hX0 : SX Γ H x ro md rt Vs Ss) : vx_Met l yS_part wS_part ({ frames := 40, cells := 4, slots := 24, locals := 4000 }) (gP Γ H [.ref x, .int t, .int lo, .int hi, .int wh]) (va_Ql (fun r (u : Nat × Nat × Nat × Nat) => u.1 < md ∧ t = nI u.1 ∧ u.2.1 < 1024 ∧ lo = nI u.2.1 ∧ u.2.2.1 < 1024 ∧ hi = nI u.2.2.1 ∧ u.2.2.2 < 5 ∧ wh = nI u.2.2.2 ∧ u.2.1 ≤ u.2.2.1 ∧ r = ag (Vs u.1) (Ss u.1) u.2.2.2 u.2.1 (u.2.2.1 + 1 - u.2.1)) (fun _ t' => t'.heap = H) (fun _ => False)) (xT (fun E => E = xIA ∧ ¬ (inT t md ∧ inT lo 1024 ∧ inT hi 1024 ∧ lo ≤ hi ∧ inT wh 5))) 4 24 (fun q => H.size ≤ q) := by
  refine vx_ofW (cc := cS_part) (maxL := 5) (ret := (some .long)) (by decide) rfl ?_
  intro p e s m args below meth c s₁ B hml htab hv
  obtain ⟨rfl, rfl, hW⟩ := hv
  have hx := B.exec
  have hb := B.bytes
  have hr := B.returns
  have hg : ∀ w ∈ gW, w.before _ s = true := fun w h => atoms_spec (ws := wS_part) B.pre w (List.mem_cons_of_mem _ h)
  have hown : s.vm.findClass RS = some m.cls := findClass_of_methodNamed B.named
  have hlocks := B.notSynchronized
  have hS : va_S (gA Γ) s.heap s.heap [] := va_S.rf
  have hl := lv_entry ([.ref x, .int t, .int lo, .int hi, .int wh]) (n := 5) (Nat.le_of_ble_eq_true rfl)
  rw [lg_entry_eq]
  generalize (lg_sl ([.ref x, .int t, .int lo, .int hi, .int wh]) ++ List.replicate (5 - (lg_sl ([.ref x, .int t, .int lo, .int hi, .int wh])).length) Slot.unset).toArray = ls at hl ⊢
  have hl : lv_has ls 5 [(0, .ref x), (1, .int t), (2, .int lo), (3, .int hi), (4, .int wh)] := hl
  have hS : va_S (nA s) s.heap s.heap [] := va_S.rf
  obtain ⟨hO, hR, hmd, hT⟩ := hX0
  refine lv_aload_n hx hb dS_part_0 rfl (lv_at hl 0 rfl) ?_
  refine lv_iload_n hx hb dS_part_1 rfl (lv_at hl 1 rfl) ?_
  refine vx_callv (vx_runV (As := [.int t]) (rest := []) ⟨hx, hb, hml, hown, hg⟩ (c_S_checkTable l hnt Γ s.heap (t := t) hO (by omega)) (cwV 1 hg gS_35 rfl rfl rfl (by decide +kernel) ⟨Nat.le_of_ble_eq_true rfl, Nat.le_of_ble_eq_true rfl⟩) (gP_V hW (vS_g hW hS) (ci := 1) rfl hO) rfl rfl hl.1 rfl (lv_room (Nat.le_of_ble_eq_true rfl)) dS_part_2 ⟨Nat.le_of_ble_eq_true rfl, Nat.le_of_ble_eq_true rfl⟩) hS (fun q _ h => h.elim) (fun q h => Nat.le_trans hS.1 h) (fun q _ h => h.elim) (fun E ce q9 u tx H1 locs1 ht hvm hpx hBX hz1 hk1 hS hcell hcv hcl => ?_) (fun u t9 H1 locs1 ht hvm hp hB hz1 hk1 hS => ?_)
  · exact vx_out (E := E) (mc := 4) (ms := 24) (fun x h => (htab x h).elim) hlocks hcell hcv hcl (fun t9 h9 _ => ⟨(), trivial, ⟨hBX.1, fun h => hBX.2 h.1⟩, by rw [h9]; exact hS.1, fun q hq _ => by rw [h9]; exact hS.2.1 q hq (Nat.not_le.mpr hq)⟩) (fun z hz => hS.2.2 z hz) (Nat.le_of_ble_eq_true rfl) (Nat.le_of_ble_eq_true rfl)
  have hHH : H1 = s.heap := ht.symm.trans hB
  subst hHH
  have h1 := hp
  refine lv_iload_n hx hb dS_part_5 rfl (lv_at hl 2 rfl) ?_
  refine vx_callv (vx_runS (As := [.int lo]) (rest := []) ⟨hx, hb, hml, hown, hg⟩ (c_S_checkKey l hnt Γ s.heap (k := lo)) (va_cwS 1 hg gS_39 rfl rfl rfl (by decide +kernel) ⟨Nat.le_of_ble_eq_true rfl, Nat.le_of_ble_eq_true rfl⟩) (gP_S hW (vS_g hW hS)) rfl rfl hl.1 rfl (lv_room (Nat.le_of_ble_eq_true rfl)) dS_part_6 ⟨Nat.le_of_ble_eq_true rfl, Nat.le_of_ble_eq_true rfl⟩) hS (fun q _ h => h.elim) (fun q h => Nat.le_trans hS.1 h) (fun q _ h => h.elim) (fun E ce q9 u tx H1 locs1 ht hvm hpx hBX hz1 hk1 hS hcell hcv hcl => ?_) (fun u t9 H1 locs1 ht hvm hp hB hz1 hk1 hS => ?_)
  · exact vx_out (E := E) (mc := 4) (ms := 24) (fun x h => (htab x h).elim) hlocks hcell hcv hcl (fun t9 h9 _ => ⟨(), trivial, ⟨hBX.1, fun h => hBX.2 h.2.1⟩, by rw [h9]; exact hS.1, fun q hq _ => by rw [h9]; exact hS.2.1 q hq (Nat.not_le.mpr hq)⟩) (fun z hz => hS.2.2 z hz) (Nat.le_of_ble_eq_true rfl) (Nat.le_of_ble_eq_true rfl)
  have hHH : H1 = s.heap := ht.symm.trans hB
  subst hHH
  have h2 := hp
  refine lv_iload_n hx hb dS_part_9 rfl (lv_at hl 3 rfl) ?_
  refine vx_callv (vx_runS (As := [.int hi]) (rest := []) ⟨hx, hb, hml, hown, hg⟩ (c_S_checkKey l hnt Γ s.heap (k := hi)) (va_cwS 1 hg gS_39 rfl rfl rfl (by decide +kernel) ⟨Nat.le_of_ble_eq_true rfl, Nat.le_of_ble_eq_true rfl⟩) (gP_S hW (vS_g hW hS)) rfl rfl hl.1 rfl (lv_room (Nat.le_of_ble_eq_true rfl)) dS_part_10 ⟨Nat.le_of_ble_eq_true rfl, Nat.le_of_ble_eq_true rfl⟩) hS (fun q _ h => h.elim) (fun q h => Nat.le_trans hS.1 h) (fun q _ h => h.elim) (fun E ce q9 u tx H1 locs1 ht hvm hpx hBX hz1 hk1 hS hcell hcv hcl => ?_) (fun u t9 H1 locs1 ht hvm hp hB hz1 hk1 hS => ?_)
  · exact vx_out (E := E) (mc := 4) (ms := 24) (fun x h => (htab x h).elim) hlocks hcell hcv hcl (fun t9 h9 _ => ⟨(), trivial, ⟨hBX.1, fun h => hBX.2 h.2.2.1⟩, by rw [h9]; exact hS.1, fun q hq _ => by rw [h9]; exact hS.2.1 q hq (Nat.not_le.mpr hq)⟩) (fun z hz => hS.2.2 z hz) (Nat.le_of_ble_eq_true rfl) (Nat.le_of_ble_eq_true rfl)
  have hHH : H1 = s.heap := ht.symm.trans hB
  subst hHH
  have h3 := hp
  refine lv_iload_n hx hb dS_part_13 rfl (lv_at hl 2 rfl) ?_
  refine lv_iload_n hx hb dS_part_14 rfl (lv_at hl 3 rfl) ?_
  refine lv_icmp_le (tgt := 28) hx hb dS_part_15 (by decide) (fun c1 => ?_) (fun c1 => ?_)
  · refine lv_iload hx hb dS_part_28 (lv_at hl 4 rfl) ?_
    refine lv_if_lt (tgt := 39) hx hb dS_part_30 (by decide) (fun c2 => ?_) (fun c2 => ?_)
    · obtain ⟨sa, hstr⟩ := hW.2.1.2.1 (62, "no such what") (List.mem_of_getElem? (i := 6) rfl)
      exact vx_throwS (own := RS) (cls := xIA) (text := "no such what") (names := xNs) (ik := 57) (is := 62) (ic := 61) (mc := 4) (ms := 24) (sa := sa) (A := gA Γ) hx hb hnt hown (by decide) (by decide) (hg _ kw59) (hg _ kw16) hstr (x_hat xw_IA xb_IA hg hW.2.1) xg_IA hW.2.2.2.1 hW.2.2.2.2 (vS_g hW hS) (by rw [hml]; exact hl.1) dS_part_39 dS_part_42 dS_part_43 dS_part_45 dS_part_48 (fun x h => (htab x h).elim) (Nat.lt_of_succ_le (Nat.le_of_ble_eq_true rfl)) (Nat.le_of_ble_eq_true rfl) (Nat.le_of_ble_eq_true rfl) (Nat.le_of_ble_eq_true rfl) hlocks (fun t9 _ h1 h2 => ⟨(), trivial, ⟨rfl, fun h => (inT_no (by omega)).mpr (Or.inl c2) h.2.2.2.2⟩, Nat.le_trans hS.1 h1, fun q hq _ => (h2 q (Nat.lt_of_lt_of_le hq hS.1)).trans (hS.2.1 q hq (Nat.not_le.mpr hq))⟩) (fun z hz => hS.2.2 z hz) (Nat.le_of_ble_eq_true rfl) (Nat.le_of_ble_eq_true rfl)
    · refine lv_iload hx hb dS_part_33 (lv_at hl 4 rfl) ?_
      refine lv_iconst (v := 4) hx hb dS_part_35 (by decide) ?_
      refine lv_icmp_le (tgt := 49) hx hb dS_part_36 (by decide) (fun c3 => ?_) (fun c3 => ?_)
      · have h5 : inT wh 5 := by
          rcases pk_ix wh (show 5 < 2 ^ 31 by omega) with h | h | h
          · exact absurd h c2
          · exact absurd (Int32.le_trans h c3) (by decide)
          · exact h
        obtain ⟨tj, htj, rfl⟩ := h1
        obtain ⟨lj, hlj, rfl⟩ := h2
        obtain ⟨hj, hhj, rfl⟩ := h3
        obtain ⟨wj, hwj, rfl⟩ := h5
        have hle : lj ≤ hj := (nI_leI (by omega) (by omega)).mp c1
        refine lv_aload_n hx hb dS_part_49 rfl (lv_at hl 0 rfl) ?_
        refine va_get (D := Γ.1) (ci := 1) (v := .ref ro) (C := RS) (T := TS) (N := 2) hx hb hg inS hown hW.1 (p1 hO) 0 rfl rfl 0 (by decide) (hg _ kw31) (fun _ h9 => h9) rfl dS_part_50 ?_
        refine lv_iload_n hx hb dS_part_53 rfl (lv_at hl 1 rfl) ?_
        refine va_aldq (D := Γ.1) (cl := gC) (tys := gT Γ) hx hb hW.1 (p1 hR) 0 1 rfl rfl (vp_in_nI (show tj < 400 by omega) (by omega)) dS_part_54 ?_
        rw [nI_clamp (show tj < 2 ^ 31 by omega)]
        refine lv_bipush (v := 10) hx hb dS_part_55 (by decide) ?_
        refine lv_iconst (v := 0) hx hb dS_part_57 (by decide) ?_
        refine lv_iload_n hx hb dS_part_58 rfl (lv_at hl 2 rfl) ?_
        refine lv_iload_n hx hb dS_part_59 rfl (lv_at hl 3 rfl) ?_
        refine lv_iload hx hb dS_part_60 (lv_at hl 4 rfl) ?_
        refine vp_callSl (W.runS (As := [va_rf (rt tj), .int 10, .int 0, .int (nI lj), .int (nI hj), .int (nI wj)]) (rest := []) ⟨hx, hb, hml, hown, hg⟩ (c_S_takenWithin l Γ s.heap (lo := lj) (hi := hj) (w := wj) (hT tj htj).1 (by omega) hlj hhj 10 0 (rt tj) (Nat.le_refl _) (by decide) (hT tj htj).2) (va_cwS 6 hg gS_64 rfl rfl rfl (by decide +kernel) ⟨Nat.le_of_ble_eq_true rfl, Nat.le_of_ble_eq_true rfl⟩) (gP_S hW (vS_g hW hS)) rfl rfl hl.1 rfl (lv_room (Nat.le_of_ble_eq_true rfl)) dS_part_62 ⟨Nat.le_of_ble_eq_true rfl, Nat.le_of_ble_eq_true rfl⟩) (fun x0 hx0 => ?_)
        refine W.widen (k := 4) (n := 24) (Nat.le_of_ble_eq_true rfl) (Nat.le_of_ble_eq_true rfl) ?_
        refine vx_ret ?_
        exact W.lret (v := x0) hx hb hr (fun t8 ht8 hW9 => ⟨⟨x0, (tj, lj, hj, wj), rfl, ⟨htj, rfl, hlj, rfl, hhj, rfl, hwj, rfl, hle, hx0.trans (ag_r_all (hT tj htj).1 (by omega) hle hhj)⟩, ht8⟩, vS_F hS ht8⟩) (fun q hq => hS.2.2 q hq) dS_part_65
      · obtain ⟨sa, hstr⟩ := hW.2.1.2.1 (62, "no such what") (List.mem_of_getElem? (i := 6) rfl)
        exact vx_throwS (own := RS) (cls := xIA) (text := "no such what") (names := xNs) (ik := 57) (is := 62) (ic := 61) (mc := 4) (ms := 24) (sa := sa) (A := gA Γ) hx hb hnt hown (by decide) (by decide) (hg _ kw59) (hg _ kw16) hstr (x_hat xw_IA xb_IA hg hW.2.1) xg_IA hW.2.2.2.1 hW.2.2.2.2 (vS_g hW hS) (by rw [hml]; exact hl.1) dS_part_39 dS_part_42 dS_part_43 dS_part_45 dS_part_48 (fun x h => (htab x h).elim) (Nat.lt_of_succ_le (Nat.le_of_ble_eq_true rfl)) (Nat.le_of_ble_eq_true rfl) (Nat.le_of_ble_eq_true rfl) (Nat.le_of_ble_eq_true rfl) hlocks (fun t9 _ h1 h2 => ⟨(), trivial, ⟨rfl, fun h => by obtain ⟨j, hj, rfl⟩ := h.2.2.2.2; exact c3 (nI_le (a := j) (b := 4) (by omega) (by omega))⟩, Nat.le_trans hS.1 h1, fun q hq _ => (h2 q (Nat.lt_of_lt_of_le hq hS.1)).trans (hS.2.1 q hq (Nat.not_le.mpr hq))⟩) (fun z hz => hS.2.2 z hz) (Nat.le_of_ble_eq_true rfl) (Nat.le_of_ble_eq_true rfl)
  · obtain ⟨sa, hstr⟩ := hW.2.1.2.1 (59, "low is above high") (List.mem_of_getElem? (i := 5) rfl)
    exact vx_throwS (own := RS) (cls := xIA) (text := "low is above high") (names := xNs) (ik := 57) (is := 59) (ic := 61) (mc := 4) (ms := 24) (sa := sa) (A := gA Γ) hx hb hnt hown (by decide) (by decide) (hg _ kw59) (hg _ kw16) hstr (x_hat xw_IA xb_IA hg hW.2.1) xg_IA hW.2.2.2.1 hW.2.2.2.2 (vS_g hW hS) (by rw [hml]; exact hl.1) dS_part_18 dS_part_21 dS_part_22 dS_part_24 dS_part_27 (fun x h => (htab x h).elim) (Nat.lt_of_succ_le (Nat.le_of_ble_eq_true rfl)) (Nat.le_of_ble_eq_true rfl) (Nat.le_of_ble_eq_true rfl) (Nat.le_of_ble_eq_true rfl) hlocks (fun t9 _ h1 h2 => ⟨(), trivial, ⟨rfl, fun h => c1 h.2.2.2.1⟩, Nat.le_trans hS.1 h1, fun q hq _ => (h2 q (Nat.lt_of_lt_of_le hq hS.1)).trans (hS.2.1 q hq (Nat.not_le.mpr hq))⟩) (fun z hz => hS.2.2 z hz) (Nat.le_of_ble_eq_true rfl) (Nat.le_of_ble_eq_true rfl)
set_option maxHeartbeats 4000000 in
set_option maxRecDepth 100000 in
theorem c_S_at (l : Launch) (hnt : l.stackTraces = false) (Γ : gE) (H : Heap) {x ro md : Nat} {rt : Nat → Option Nat} {Vs : Nat → Nat → Option Int64} {Ss : Nat → Nat → Int32} {t k : Int32} (hX0 : SX Γ H x ro md rt Vs Ss) : vx_Met l yS_at wS_at ({ frames := 40, cells := 2, slots := 12, locals := 4000 }) (gP Γ H [.ref x, .int t, .int k]) (va_Qi (fun r (u : Nat × Nat) => u.1 < md ∧ t = nI u.1 ∧ u.2 < 1024 ∧ r = nI u.2 ∧ (Vs u.1 u.2).isSome = true ∧ k = nI (cnt (Vs u.1) 0 u.2)) (fun _ t' => t'.heap = H) (fun _ => False)) (xT (fun E => (E = xIA ∧ ¬ inT t md) ∨ (E = xIO ∧ ∃ tj, tj < md ∧ t = nI tj ∧ ¬ inT k (cnt (Vs tj) 0 1024)))) 2 12 (fun q => H.size ≤ q) := by
  refine vx_ofW (cc := cS_at) (maxL := 4) (ret := (some .int)) (by decide) rfl ?_
  intro p e s m args below meth c s₁ B hml htab hv
  obtain ⟨rfl, rfl, hW⟩ := hv
  have hx := B.exec
  have hb := B.bytes
  have hr := B.returns
  have hg : ∀ w ∈ gW, w.before _ s = true := fun w h => atoms_spec (ws := wS_at) B.pre w (List.mem_cons_of_mem _ h)
  have hown : s.vm.findClass RS = some m.cls := findClass_of_methodNamed B.named
  have hlocks := B.notSynchronized
  have hS : va_S (gA Γ) s.heap s.heap [] := va_S.rf
  have hl := lv_entry ([.ref x, .int t, .int k]) (n := 4) (Nat.le_of_ble_eq_true rfl)
  rw [lg_entry_eq]
  generalize (lg_sl ([.ref x, .int t, .int k]) ++ List.replicate (4 - (lg_sl ([.ref x, .int t, .int k])).length) Slot.unset).toArray = ls at hl ⊢
  have hl : lv_has ls 4 [(0, .ref x), (1, .int t), (2, .int k)] := hl
  have hS : va_S (nA s) s.heap s.heap [] := va_S.rf
  obtain ⟨hO, hR, hmd, hT⟩ := hX0
  refine lv_aload_n hx hb dS_at_0 rfl (lv_at hl 0 rfl) ?_
  refine lv_iload_n hx hb dS_at_1 rfl (lv_at hl 1 rfl) ?_
  refine vx_callv (vx_runV (As := [.int t]) (rest := []) ⟨hx, hb, hml, hown, hg⟩ (c_S_checkTable l hnt Γ s.heap (t := t) hO (by omega)) (cwV 1 hg gS_35 rfl rfl rfl (by decide +kernel) ⟨Nat.le_of_ble_eq_true rfl, Nat.le_of_ble_eq_true rfl⟩) (gP_V hW (vS_g hW hS) (ci := 1) rfl hO) rfl rfl hl.1 rfl (lv_room (Nat.le_of_ble_eq_true rfl)) dS_at_2 ⟨Nat.le_of_ble_eq_true rfl, Nat.le_of_ble_eq_true rfl⟩) hS (fun q _ h => h.elim) (fun q h => Nat.le_trans hS.1 h) (fun q _ h => h.elim) (fun E ce q9 u tx H1 locs1 ht hvm hpx hBX hz1 hk1 hS hcell hcv hcl => ?_) (fun u t9 H1 locs1 ht hvm hp hB hz1 hk1 hS => ?_)
  · exact vx_out (E := E) (mc := 2) (ms := 12) (fun x h => (htab x h).elim) hlocks hcell hcv hcl (fun t9 h9 _ => ⟨(), trivial, Or.inl hBX, by rw [h9]; exact hS.1, fun q hq _ => by rw [h9]; exact hS.2.1 q hq (Nat.not_le.mpr hq)⟩) (fun z hz => hS.2.2 z hz) (Nat.le_of_ble_eq_true rfl) (Nat.le_of_ble_eq_true rfl)
  have hHH : H1 = s.heap := ht.symm.trans hB
  subst hHH
  have h1 := hp
  obtain ⟨tj, htj, rfl⟩ := h1
  refine lv_aload_n hx hb dS_at_5 rfl (lv_at hl 0 rfl) ?_
  refine va_get (D := Γ.1) (ci := 1) (v := .ref ro) (C := RS) (T := TS) (N := 2) hx hb hg inS hown hW.1 (p1 hO) 0 rfl rfl 0 (by decide) (hg _ kw31) (fun _ h9 => h9) rfl dS_at_6 ?_
  refine lv_iload_n hx hb dS_at_9 rfl (lv_at hl 1 rfl) ?_
  refine va_aldq (D := Γ.1) (cl := gC) (tys := gT Γ) hx hb hW.1 (p1 hR) 0 1 rfl rfl (vp_in_nI (show tj < 400 by omega) (by omega)) dS_at_10 ?_
  rw [nI_clamp (show tj < 2 ^ 31 by omega)]
  have hTt := (hT tj htj).2
  have hwt := (hT tj htj).1
  generalize rt tj = r1 at hTt ⊢
  obtain ⟨f, hf, hv⟩ := hTt.f
  have hc9 := cnt_le (Vs tj) 0 1024
  refine q_astore_n (lv' := [(3, va_rf r1), (0, .ref x), (1, .int (nI tj)), (2, .int k)]) hx hb dS_at_11 rfl hl (by decide) rfl (fun ls hl => ?_)
  refine lv_iload_n hx hb dS_at_12 rfl (lv_at hl 3 rfl) ?_
  refine lv_if_lt (tgt := 27) hx hb dS_at_13 (by decide) (fun c1 => ?_) (fun c1 => ?_)
  · obtain ⟨sa, hstr⟩ := hW.2.1.2.1 (70, "no key has so many keys with numbers below it") (List.mem_of_getElem? (i := 7) rfl)
    exact vx_throwS (own := RS) (cls := xIO) (text := "no key has so many keys with numbers below it") (names := xNs) (ik := 68) (is := 70) (ic := 72) (mc := 2) (ms := 12) (sa := sa) (A := gA Γ) hx hb hnt hown (by decide) (by decide) (hg _ kw133) (hg _ kw17) hstr (x_hat xw_IO xb_IO hg hW.2.1) xg_IO hW.2.2.2.1 hW.2.2.2.2 (vS_g hW hS) (by rw [hml]; exact hl.1) dS_at_27 dS_at_30 dS_at_31 dS_at_33 dS_at_36 (fun x h => (htab x h).elim) (Nat.lt_of_succ_le (Nat.le_of_ble_eq_true rfl)) (Nat.le_of_ble_eq_true rfl) (Nat.le_of_ble_eq_true rfl) (Nat.le_of_ble_eq_true rfl) hlocks (fun t9 _ h1 h2 => ⟨(), trivial, Or.inr ⟨rfl, tj, htj, rfl, (inT_no (by omega)).mpr (Or.inl c1)⟩, Nat.le_trans hS.1 h1, fun q hq _ => (h2 q (Nat.lt_of_lt_of_le hq hS.1)).trans (hS.2.1 q hq (Nat.not_le.mpr hq))⟩) (fun z hz => hS.2.2 z hz) (Nat.le_of_ble_eq_true rfl) (Nat.le_of_ble_eq_true rfl)
  · obtain ⟨kn, hkn, rfl⟩ := nI_of c1
    refine lv_iload_n hx hb dS_at_16 rfl (lv_at hl 3 rfl) ?_
    refine lv_i2l (v := (nI kn).toInt64) hx hb dS_at_17 rfl ?_
    refine q_aload_n hx hb dS_at_18 rfl (lv_at hl 0 rfl) ?_
    refine lv_iconst (v := 0) hx hb dS_at_19 (by decide) ?_
    refine vp_callSl (W.runS (As := [va_rf r1, .int 0]) (rest := [.long ((nI kn).toInt64)]) ⟨hx, hb, hml, hown, hg⟩ (c_S_takenOf l Γ s.heap (w := 0) (by omega) hf) (va_cwS 2 hg gS_46 rfl rfl rfl (by decide +kernel) ⟨Nat.le_of_ble_eq_true rfl, Nat.le_of_ble_eq_true rfl⟩) (gP_S hW (vS_g hW hS)) rfl rfl hl.1 rfl (lv_room (Nat.le_of_ble_eq_true rfl)) dS_at_20 ⟨Nat.le_of_ble_eq_true rfl, Nat.le_of_ble_eq_true rfl⟩) (fun x0 hx0 => ?_)
    have e0 : x0 = lN (cnt (Vs tj) 0 1024) := by rw [hx0, hv 0 (by omega), ag_cnt]
    subst e0
    refine W.lcmp hx hb dS_at_23 ?_
    refine lv_if_lt (tgt := 37) hx hb dS_at_24 (by decide) (fun c2 => ?_) (fun c2 => ?_)
    · have h2 : kn < cnt (Vs tj) 0 1024 := by
        have h3 := (lg_cmp_lt _ _).mp c2
        rw [nI_l hkn] at h3
        exact (lN_lt hkn (by omega)).mp h3
      refine q_aload_n hx hb dS_at_37 rfl (lv_at hl 0 rfl) ?_
      refine lv_iload_n hx hb dS_at_38 rfl (lv_at hl 3 rfl) ?_
      refine vp_callSi (W.runS (As := [va_rf r1, .int (nI kn)]) (rest := []) ⟨hx, hb, hml, hown, hg⟩ (c_S_keyBehind l Γ s.heap hwt hTt h2) (va_cwS 2 hg gS_73 rfl rfl rfl (by decide +kernel) ⟨Nat.le_of_ble_eq_true rfl, Nat.le_of_ble_eq_true rfl⟩) (gP_S hW (vS_g hW hS)) rfl rfl hl.1 rfl (lv_room (Nat.le_of_ble_eq_true rfl)) dS_at_39 ⟨Nat.le_of_ble_eq_true rfl, Nat.le_of_ble_eq_true rfl⟩) (fun x1 hx1 => ?_)
      obtain ⟨K, hK, eK, hsK, hcK⟩ := hx1
      refine W.widen (k := 2) (n := 12) (Nat.le_of_ble_eq_true rfl) (Nat.le_of_ble_eq_true rfl) ?_
      refine vx_ret ?_
      exact W.iret (v := x1) hx hb hr (fun t8 ht8 hW9 => ⟨⟨x1, (tj, K), rfl, ⟨htj, rfl, hK, eK, hsK, by rw [hcK]⟩, ht8⟩, vS_F hS ht8⟩) (fun q hq => hS.2.2 q hq) dS_at_42
    · obtain ⟨sa, hstr⟩ := hW.2.1.2.1 (70, "no key has so many keys with numbers below it") (List.mem_of_getElem? (i := 7) rfl)
      exact vx_throwS (own := RS) (cls := xIO) (text := "no key has so many keys with numbers below it") (names := xNs) (ik := 68) (is := 70) (ic := 72) (mc := 2) (ms := 12) (sa := sa) (A := gA Γ) hx hb hnt hown (by decide) (by decide) (hg _ kw133) (hg _ kw17) hstr (x_hat xw_IO xb_IO hg hW.2.1) xg_IO hW.2.2.2.1 hW.2.2.2.2 (vS_g hW hS) (by rw [hml]; exact hl.1) dS_at_27 dS_at_30 dS_at_31 dS_at_33 dS_at_36 (fun x h => (htab x h).elim) (Nat.lt_of_succ_le (Nat.le_of_ble_eq_true rfl)) (Nat.le_of_ble_eq_true rfl) (Nat.le_of_ble_eq_true rfl) (Nat.le_of_ble_eq_true rfl) hlocks (fun t9 _ h1 h2 => ⟨(), trivial, Or.inr ⟨rfl, tj, htj, rfl, fun h => by obtain ⟨j, hj, ej⟩ := h; rw [(nI_eq hkn (by omega)).mp ej] at c2; exact c2 ((lg_cmp_lt _ _).mpr (by rw [nI_l (by omega)]; exact (lN_lt (by omega) (by omega)).mpr hj))⟩, Nat.le_trans hS.1 h1, fun q hq _ => (h2 q (Nat.lt_of_lt_of_le hq hS.1)).trans (hS.2.1 q hq (Nat.not_le.mpr hq))⟩) (fun z hz => hS.2.2 z hz) (Nat.le_of_ble_eq_true rfl) (Nat.le_of_ble_eq_true rfl)
set_option maxHeartbeats 4000000 in
set_option maxRecDepth 100000 in
theorem c_S_differ (l : Launch) (hnt : l.stackTraces = false) (Γ : gE) (H : Heap) {x ro md : Nat} {rt : Nat → Option Nat} {Vs : Nat → Nat → Option Int64} {Ss : Nat → Nat → Int32} {a b : Int32} (hX0 : SX Γ H x ro md rt Vs Ss) : vx_Met l yS_differ wS_differ ({ frames := 40, cells := 2, slots := 12, locals := 4000 }) (gP Γ H [.ref x, .int a, .int b]) (va_Qi (fun r (u : Nat × Nat) => u.1 < md ∧ a = nI u.1 ∧ u.2 < md ∧ b = nI u.2 ∧ r = nI (dcn (Vs u.1) (Vs u.2) 0 1024)) (fun _ t' => t'.heap = H) (fun _ => False)) (xT (fun E => E = xIA ∧ ¬ (inT a md ∧ inT b md))) 2 12 (fun q => H.size ≤ q) := by
  refine vx_ofW (cc := cS_differ) (maxL := 3) (ret := (some .int)) (by decide) rfl ?_
  intro p e s m args below meth c s₁ B hml htab hv
  obtain ⟨rfl, rfl, hW⟩ := hv
  have hx := B.exec
  have hb := B.bytes
  have hr := B.returns
  have hg : ∀ w ∈ gW, w.before _ s = true := fun w h => atoms_spec (ws := wS_differ) B.pre w (List.mem_cons_of_mem _ h)
  have hown : s.vm.findClass RS = some m.cls := findClass_of_methodNamed B.named
  have hlocks := B.notSynchronized
  have hS : va_S (gA Γ) s.heap s.heap [] := va_S.rf
  have hl := lv_entry ([.ref x, .int a, .int b]) (n := 3) (Nat.le_of_ble_eq_true rfl)
  rw [lg_entry_eq]
  generalize (lg_sl ([.ref x, .int a, .int b]) ++ List.replicate (3 - (lg_sl ([.ref x, .int a, .int b])).length) Slot.unset).toArray = ls at hl ⊢
  have hl : lv_has ls 3 [(0, .ref x), (1, .int a), (2, .int b)] := hl
  have hS : va_S (nA s) s.heap s.heap [] := va_S.rf
  obtain ⟨hO, hR, hmd, hT⟩ := hX0
  refine lv_aload_n hx hb dS_differ_0 rfl (lv_at hl 0 rfl) ?_
  refine lv_iload_n hx hb dS_differ_1 rfl (lv_at hl 1 rfl) ?_
  refine vx_callv (vx_runV (As := [.int a]) (rest := []) ⟨hx, hb, hml, hown, hg⟩ (c_S_checkTable l hnt Γ s.heap (t := a) hO (by omega)) (cwV 1 hg gS_35 rfl rfl rfl (by decide +kernel) ⟨Nat.le_of_ble_eq_true rfl, Nat.le_of_ble_eq_true rfl⟩) (gP_V hW (vS_g hW hS) (ci := 1) rfl hO) rfl rfl hl.1 rfl (lv_room (Nat.le_of_ble_eq_true rfl)) dS_differ_2 ⟨Nat.le_of_ble_eq_true rfl, Nat.le_of_ble_eq_true rfl⟩) hS (fun q _ h => h.elim) (fun q h => Nat.le_trans hS.1 h) (fun q _ h => h.elim) (fun E ce q9 u tx H1 locs1 ht hvm hpx hBX hz1 hk1 hS hcell hcv hcl => ?_) (fun u t9 H1 locs1 ht hvm hp hB hz1 hk1 hS => ?_)
  · exact vx_out (E := E) (mc := 2) (ms := 12) (fun x h => (htab x h).elim) hlocks hcell hcv hcl (fun t9 h9 _ => ⟨(), trivial, ⟨hBX.1, fun h => hBX.2 h.1⟩, by rw [h9]; exact hS.1, fun q hq _ => by rw [h9]; exact hS.2.1 q hq (Nat.not_le.mpr hq)⟩) (fun z hz => hS.2.2 z hz) (Nat.le_of_ble_eq_true rfl) (Nat.le_of_ble_eq_true rfl)
  have hHH : H1 = s.heap := ht.symm.trans hB
  subst hHH
  have h1 := hp
  refine lv_aload_n hx hb dS_differ_5 rfl (lv_at hl 0 rfl) ?_
  refine lv_iload_n hx hb dS_differ_6 rfl (lv_at hl 2 rfl) ?_
  refine vx_callv (vx_runV (As := [.int b]) (rest := []) ⟨hx, hb, hml, hown, hg⟩ (c_S_checkTable l hnt Γ s.heap (t := b) hO (by omega)) (cwV 1 hg gS_35 rfl rfl rfl (by decide +kernel) ⟨Nat.le_of_ble_eq_true rfl, Nat.le_of_ble_eq_true rfl⟩) (gP_V hW (vS_g hW hS) (ci := 1) rfl hO) rfl rfl hl.1 rfl (lv_room (Nat.le_of_ble_eq_true rfl)) dS_differ_7 ⟨Nat.le_of_ble_eq_true rfl, Nat.le_of_ble_eq_true rfl⟩) hS (fun q _ h => h.elim) (fun q h => Nat.le_trans hS.1 h) (fun q _ h => h.elim) (fun E ce q9 u tx H1 locs1 ht hvm hpx hBX hz1 hk1 hS hcell hcv hcl => ?_) (fun u t9 H1 locs1 ht hvm hp hB hz1 hk1 hS => ?_)
  · exact vx_out (E := E) (mc := 2) (ms := 12) (fun x h => (htab x h).elim) hlocks hcell hcv hcl (fun t9 h9 _ => ⟨(), trivial, ⟨hBX.1, fun h => hBX.2 h.2⟩, by rw [h9]; exact hS.1, fun q hq _ => by rw [h9]; exact hS.2.1 q hq (Nat.not_le.mpr hq)⟩) (fun z hz => hS.2.2 z hz) (Nat.le_of_ble_eq_true rfl) (Nat.le_of_ble_eq_true rfl)
  have hHH : H1 = s.heap := ht.symm.trans hB
  subst hHH
  have h2 := hp
  obtain ⟨aj, haj, rfl⟩ := h1
  obtain ⟨bj, hbj, rfl⟩ := h2
  refine lv_aload_n hx hb dS_differ_10 rfl (lv_at hl 0 rfl) ?_
  refine va_get (D := Γ.1) (ci := 1) (v := .ref ro) (C := RS) (T := TS) (N := 2) hx hb hg inS hown hW.1 (p1 hO) 0 rfl rfl 0 (by decide) (hg _ kw31) (fun _ h9 => h9) rfl dS_differ_11 ?_
  refine lv_iload_n hx hb dS_differ_14 rfl (lv_at hl 1 rfl) ?_
  refine va_aldq (D := Γ.1) (cl := gC) (tys := gT Γ) hx hb hW.1 (p1 hR) 0 1 rfl rfl (vp_in_nI (show aj < 400 by omega) (by omega)) dS_differ_15 ?_
  rw [nI_clamp (show aj < 2 ^ 31 by omega)]
  refine lv_aload_n hx hb dS_differ_16 rfl (lv_at hl 0 rfl) ?_
  refine va_get (D := Γ.1) (ci := 1) (v := .ref ro) (C := RS) (T := TS) (N := 2) hx hb hg inS hown hW.1 (p1 hO) 0 rfl rfl 0 (by decide) (hg _ kw31) (fun _ h9 => h9) rfl dS_differ_17 ?_
  refine lv_iload_n hx hb dS_differ_20 rfl (lv_at hl 2 rfl) ?_
  refine va_aldq (D := Γ.1) (cl := gC) (tys := gT Γ) hx hb hW.1 (p1 hR) 0 1 rfl rfl (vp_in_nI (show bj < 400 by omega) (by omega)) dS_differ_21 ?_
  rw [nI_clamp (show bj < 2 ^ 31 by omega)]
  refine lv_bipush (v := 10) hx hb dS_differ_22 (by decide) ?_
  refine vp_callSi (W.runS (As := [va_rf (rt aj), va_rf (rt bj), .int 10]) (rest := []) ⟨hx, hb, hml, hown, hg⟩ (c_S_differences l Γ s.heap (hT aj haj).1 (hT bj hbj).1 10 0 (rt aj) (rt bj) (Nat.le_refl _) (hT aj haj).2 (hT bj hbj).2) (va_cwS 3 hg gS_77 rfl rfl rfl (by decide +kernel) ⟨Nat.le_of_ble_eq_true rfl, Nat.le_of_ble_eq_true rfl⟩) (gP_S hW (vS_g hW hS)) rfl rfl hl.1 rfl (lv_room (Nat.le_of_ble_eq_true rfl)) dS_differ_24 ⟨Nat.le_of_ble_eq_true rfl, Nat.le_of_ble_eq_true rfl⟩) (fun x0 hx0 => ?_)
  refine W.widen (k := 2) (n := 12) (Nat.le_of_ble_eq_true rfl) (Nat.le_of_ble_eq_true rfl) ?_
  refine vx_ret ?_
  exact W.iret (v := x0) hx hb hr (fun t8 ht8 hW9 => ⟨⟨x0, (aj, bj), rfl, ⟨haj, rfl, hbj, rfl, hx0⟩, ht8⟩, vS_F hS ht8⟩) (fun q hq => hS.2.2 q hq) dS_differ_27
set_option maxHeartbeats 4000000 in
set_option maxRecDepth 100000 in
theorem c_S_tables (l : Launch) (Γ : gE) (H : Heap) {x ro md : Nat} (hO : oS Γ H x ro (nI md)) : Met l yS_tables wS_tables ({ frames := 0, cells := 0, slots := 0, locals := 0 }) (gP Γ H [.ref x]) (vp_Si (fun r => r = nI md)) 0 0 (fun _ => False) := by
  refine Met.ofW (cc := cS_tables) (maxL := 1) (ret := (some .int)) (by decide) rfl ?_
  intro p e s m args below meth c s₁ B hml hv
  obtain ⟨rfl, rfl, hW⟩ := hv
  have hx := B.exec
  have hb := B.bytes
  have hr := B.returns
  have hg : ∀ w ∈ gW, w.before _ s = true := fun w h => atoms_spec (ws := wS_tables) B.pre w (List.mem_cons_of_mem _ h)
  have hown : s.vm.findClass RS = some m.cls := findClass_of_methodNamed B.named
  have hlocks := B.notSynchronized
  have hS : va_S (gA Γ) s.heap s.heap [] := va_S.rf
  have hl := lv_entry ([.ref x]) (n := 1) (Nat.le_of_ble_eq_true rfl)
  rw [lg_entry_eq]
  generalize (lg_sl ([.ref x]) ++ List.replicate (1 - (lg_sl ([.ref x])).length) Slot.unset).toArray = ls at hl ⊢
  have hl : lv_has ls 1 [(0, .ref x)] := hl
  refine lv_aload_n hx hb dS_tables_0 rfl (lv_at hl 0 rfl) ?_
  refine va_get (D := Γ.1) (ci := 1) (v := .int (nI md)) (C := RS) (T := TS) (N := 2) hx hb hg inS hown hW.1 (p1 hO) 0 rfl rfl 1 (by decide) (hg _ kw32) (fun _ h9 => h9) rfl dS_tables_1 ?_
  exact W.iret (v := nI md) hx hb hr (fun t ht hW9 => ⟨_, rfl, rfl, ht⟩) (fun _ h => nomatch h) dS_tables_4
