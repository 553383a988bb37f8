/-! the public methods of StampTables -/
theorem vS_mono {A B : Nat → Prop} {H0 H : Heap} {locs : List Loc} (h : va_S A H0 H locs) (hAB : ∀ q, A q → B q) : va_S B H0 H locs := ⟨h.1, fun q h1 h2 => h.2.1 q h1 (fun h3 => h2 (hAB q h3)), fun q hq => hAB _ (h.2.2 q hq)⟩
theorem leafTR {Γ : gE} {H : Heap} {V : Nat → Option Int64} {S : Nat → Int32} {k y : Nat} {F : Nat → Int64} (hwf : wfS S) (hF : bT Γ H (some y) F) (h0 : F 0 = lfv V S 0 k) (h1 : F 1 = lfv V S 1 k) (h2 : F 2 = lfv V S 2 k) (h3 : F 3 = lfv V S 3 k) (h4 : F 4 = lfv V S 4 k) : TR Γ H V S 0 k (some y) := by
  refine ⟨⟨F, hF, fun w hw => ?_⟩, fun h => nomatch h⟩
  rw [ag_one hwf hw]
  rcases (show w = 0 ∨ w = 1 ∨ w = 2 ∨ w = 3 ∨ w = 4 by omega) with rfl | rfl | rfl | rfl | rfl <;> assumption
theorem wfS_up {S : Nat → Int32} {k : Nat} {st : Int32} (h : wfS S) (hst : okS st) : wfS (va_up S k st) := by
  intro j
  unfold va_up
  split
  · have := Int32.le_iff_toInt_le.mp hst.1
    simp at this
    omega
  · exact h j
theorem up_off {V : Nat → Option Int64} {S : Nat → Int32} {k : Nat} {v : Option Int64} {st : Int32} : ∀ j, j ≠ k → V j = va_up V k v j ∧ S j = va_up S k st j := fun j hj => ⟨(va_up_ne V v hj).symm, (va_up_ne S st hj).symm⟩
/-- the object holds these tables -/
def SX (Γ : gE) (H : Heap) (x ro md : Nat) (rt : Nat → Option Nat) (Vs : Nat → Nat → Option Int64) (Ss : Nat → Nat → Int32) : Prop := oS Γ H x ro (nI md) ∧ oO Γ H ro 400 rt ∧ md ≤ 400 ∧ ∀ t, t < md → wfS (Ss t) ∧ TR Γ H (Vs t) (Ss t) 10 0 (rt t)
set_option maxHeartbeats 4000000 in
set_option maxRecDepth 100000 in
theorem c_S_put (l : Launch) (hnt : l.stackTraces = false) (Γ : gE) (H : Heap) {x ro md : Nat} {rt : Nat → Option Nat} {Vs : Nat → Nat → Option Int64} {Ss : Nat → Nat → Int32} {t k st : Int32} {v : Int64} (hX0 : SX Γ H x ro md rt Vs Ss) (hxro : x ≠ ro) (hzx : gz Γ ≤ x) (hzr : gz Γ ≤ ro) (hx0 : x < gb0 Γ) (hr0 : ro < gb0 Γ) (hz : gb0 Γ ≤ H.size) : vx_Met l yS_put wS_put ({ frames := 40, cells := 26, slots := 112, locals := 4000 }) (gP Γ H [.ref x, .int t, .int k, .long v, .int st]) (va_Qi (fun r (u : Nat × Nat × Nat) => u.1 < md ∧ t = nI u.1 ∧ u.2.1 < 1024 ∧ k = nI u.2.1 ∧ okS st ∧ md < 400 ∧ r = nI md) (fun u t' => oS Γ t'.heap x ro (nI (md + 1)) ∧ oO Γ t'.heap ro 400 (va_up rt md (some u.2.2)) ∧ TR Γ t'.heap (va_up (Vs u.1) u.2.1 (some v)) (va_up (Ss u.1) u.2.1 st) 10 0 (some u.2.2)) (fun q => q = x ∨ q = ro)) (xT (fun E => (E = xIA ∧ ¬ (inT t md ∧ inT k 1024 ∧ okS st)) ∨ (E = xIO ∧ (inT t md ∧ inT k 1024 ∧ okS st) ∧ ¬ md < 400))) 26 112 (fun q => q = x ∨ q = ro ∨ H.size ≤ q) := by
  refine vx_ofW (cc := cS_put) (maxL := 6) (ret := (some .int)) (by decide) rfl ?_
  intro p e s m args below meth c s₁ B hml htab hv
  obtain ⟨rfl, rfl, hW⟩ := hv
  have hx := B.exec
  have hb := B.bytes
  have hr := B.returns
  have hg : ∀ w ∈ gW, w.before _ s = true := fun w h => atoms_spec (ws := wS_put) B.pre w (List.mem_cons_of_mem _ h)
  have hown : s.vm.findClass RS = some m.cls := findClass_of_methodNamed B.named
  have hlocks := B.notSynchronized
  have hS : va_S (gA Γ) s.heap s.heap [] := va_S.rf
  have hl := lv_entry ([.ref x, .int t, .int k, .long v, .int st]) (n := 6) (Nat.le_of_ble_eq_true rfl)
  rw [lg_entry_eq]
  generalize (lg_sl ([.ref x, .int t, .int k, .long v, .int st]) ++ List.replicate (6 - (lg_sl ([.ref x, .int t, .int k, .long v, .int st])).length) Slot.unset).toArray = ls at hl ⊢
  have hl : lv_has ls 6 [(0, .ref x), (1, .int t), (2, .int k), (3, .long v), (5, .int st)] := hl
  have hS : va_S (nA s) s.heap s.heap [] := va_S.rf
  obtain ⟨hO, hR, hmd, hT⟩ := hX0
  refine lv_aload_n hx hb dS_put_0 rfl (lv_at hl 0 rfl) ?_
  refine lv_iload_n hx hb dS_put_1 rfl (lv_at hl 1 rfl) ?_
  refine lv_iload_n hx hb dS_put_2 rfl (lv_at hl 2 rfl) ?_
  refine lv_iload hx hb dS_put_3 (lv_at hl 4 rfl) ?_
  refine vx_callv (vx_runV (As := [.int t, .int k, .int st]) (rest := []) ⟨hx, hb, hml, hown, hg⟩ (c_S_checkChange l hnt Γ s.heap (t := t) (k := k) (st := st) hO hmd) (cwV 3 hg gS_19 rfl rfl rfl (by decide +kernel) ⟨Nat.le_of_ble_eq_true rfl, Nat.le_of_ble_eq_true rfl⟩) (gP_V hW (vS_g hW hS) (ci := 1) rfl hO) rfl rfl hl.1 rfl (lv_room (Nat.le_of_ble_eq_true rfl)) dS_put_5 ⟨Nat.le_of_ble_eq_true rfl, Nat.le_of_ble_eq_true rfl⟩) hS (fun q _ h => h.elim) (fun q h => Nat.le_trans hS.1 h) (fun q _ h => h.elim) (fun E ce q9 u tx H1 locs1 ht hvm hpx hBX hz1 hk1 hS hcell hcv hcl => ?_) (fun u t9 H1 locs1 ht hvm hp hB hz1 hk1 hS => ?_)
  · exact vx_out (E := E) (mc := 26) (ms := 112) (fun x h => (htab x h).elim) hlocks hcell hcv hcl (fun t9 h9 _ => ⟨(), trivial, hBX, by rw [h9]; exact hS.1, fun q hq _ => by rw [h9]; exact hS.2.1 q hq (Nat.not_le.mpr hq)⟩) (fun z hz => Or.inr (Or.inr (hS.2.2 z hz))) (Nat.le_of_ble_eq_true rfl) (Nat.le_of_ble_eq_true rfl)
  have hHH : H1 = s.heap := ht.symm.trans hB
  subst hHH
  have h1 := hp
  obtain ⟨⟨⟨tj, htj, rfl⟩, ⟨kj, hkj, rfl⟩, hst⟩, hmd4⟩ := h1
  refine lv_aload_n hx hb dS_put_8 rfl (lv_at hl 0 rfl) ?_
  refine lv_iload_n hx hb dS_put_9 rfl (lv_at hl 1 rfl) ?_
  refine lv_iload_n hx hb dS_put_10 rfl (lv_at hl 2 rfl) ?_
  refine lv_iload_n hx hb dS_put_11 rfl (lv_at hl 2 rfl) ?_
  refine lv_lload_n hx hb dS_put_12 rfl (lv_at hl 3 rfl) ?_
  refine lv_iload hx hb dS_put_13 (lv_at hl 4 rfl) ?_
  refine va_callq (va_runS (As := [.int (nI kj), .long v, .int st]) (rest := [.int (nI kj), .int (nI tj), .ref x]) ⟨hx, hb, hml, hown, hg⟩ (c_S_leafWithNumber l Γ s.heap (k := kj) (v := v) (st := st) hz) (va_cwS 3 hg gS_23 rfl rfl rfl (by decide +kernel) ⟨Nat.le_of_ble_eq_true rfl, Nat.le_of_ble_eq_true rfl⟩) (gP_S hW (vS_g hW hS)) rfl rfl hl.1 rfl (lv_room (Nat.le_of_ble_eq_true rfl)) dS_put_15 ⟨Nat.le_of_ble_eq_true rfl, Nat.le_of_ble_eq_true rfl⟩) hS (fun q _ h => h.elim) (fun q h => Nat.le_trans hS.1 h) (fun r2 y2 t2 H2 locs2 ht2 hvm2 hp2 hB2 hz2 hk2 hS => ?_)
  subst hp2
  rw [ht2] at hB2
  obtain ⟨F, hF, hF0, hF1, hF2, hF3, hF4⟩ := hB2
  have hXX : hX (fun _ => False) s.heap H2 := ⟨hz2, fun q h1 h2 => hk2 q h1 h2⟩
  have hwf : wfS (va_up (Ss tj) kj st) := wfS_up (hT tj htj).1 hst
  have hlf : TR Γ H2 (va_up (Vs tj) kj (some v)) (va_up (Ss tj) kj st) 0 kj (some y2) := leafTR hwf hF (by rw [hF0]; simp [lfv, va_up]) (by rw [hF1]; simp [lfv, va_up]) (by rw [hF2, nI_l (by omega)]; simp [lfv, va_up]) (by rw [hF3, nI_l (by omega)]; simp [lfv, va_up]) (by rw [hF4]; simp [lfv, va_up])
  have hS := vS_mono (B := fun q => q = x ∨ q = ro ∨ s.heap.size ≤ q) hS (fun q h => Or.inr (Or.inr h))
  refine va_calli (va_runV (As := [.int (nI tj), .int (nI kj), .ref y2]) (rest := []) ⟨hx, hb, hml, hown, hg⟩ (c_S_addTable l Γ H2 (hXX.at hO (fun h => h)) (hXX.at hR (fun h => h)) hxro hx0 hr0 (Nat.le_trans hz hz2) hmd4 htj hwf hkj up_off ((hT tj htj).2.kept (hX_hb hXX)) hlf) (cwV 3 hg gS_27 rfl rfl rfl (by decide +kernel) ⟨Nat.le_of_ble_eq_true rfl, Nat.le_of_ble_eq_true rfl⟩) (gP_V hW (vS_mono hS (fun q h => h.elim (fun h => by rw [h]; exact hzx) (fun h => h.elim (fun h => by rw [h]; exact hzr) (fun h => Nat.le_trans hW.2.2.1 h)))) (ci := 1) rfl (hXX.at hO (fun h => h))) rfl rfl hl.1 rfl (lv_room (Nat.le_of_ble_eq_true rfl)) dS_put_18 ⟨Nat.le_of_ble_eq_true rfl, Nat.le_of_ble_eq_true rfl⟩) hS (fun q _ h => h.elim Or.inl (fun h => Or.inr (Or.inl h))) (fun q h => h.elim Or.inl (fun h => Or.inr (Or.inl h))) (fun r3 y3 t3 H3 locs3 ht3 hvm3 hp3 hB3 hz3 hk3 hS => ?_)
  refine vx_ret ?_
  exact W.iret (v := r3) hx hb hr (fun t8 ht8 hW9 => ⟨⟨r3, (tj, kj, y3), rfl, ⟨htj, rfl, hkj, rfl, hst, hmd4, hp3⟩, by rw [← ht3] at ht8; rw [← ht8] at hB3; exact hB3⟩, ⟨by rw [ht8]; exact hS.1, fun q h1 h2 => by rw [ht8]; exact hS.2.1 q h1 (fun h => h.elim (fun h => h2 (Or.inl h)) (fun h => h.elim (fun h => h2 (Or.inr h)) (fun h => absurd h (Nat.not_le.mpr h1))))⟩⟩) (fun q hq => hS.2.2 q hq) dS_put_21
set_option maxHeartbeats 4000000 in
set_option maxRecDepth 100000 in
theorem c_S_delete (l : Launch) (hnt : l.stackTraces = false) (Γ : gE) (H : Heap) {x ro md : Nat} {rt : Nat → Option Nat} {Vs : Nat → Nat → Option Int64} {Ss : Nat → Nat → Int32} {t k st : Int32} (hX0 : SX Γ H x ro md rt Vs Ss) (hxro : x ≠ ro) (hzx : gz Γ ≤ x) (hzr : gz Γ ≤ ro) (hx0 : x < gb0 Γ) (hr0 : ro < gb0 Γ) (hz : gb0 Γ ≤ H.size) : vx_Met l yS_delete wS_delete ({ frames := 40, cells := 26, slots := 112, locals := 4000 }) (gP Γ H [.ref x, .int t, .int k, .int st]) (va_Qi (fun r (u : Nat × Nat × Nat) => u.1 < md ∧ t = nI u.1 ∧ u.2.1 < 1024 ∧ k = nI u.2.1 ∧ okS st ∧ md < 400 ∧ r = nI md) (fun u t' => oS Γ t'.heap x ro (nI (md + 1)) ∧ oO Γ t'.heap ro 400 (va_up rt md (some u.2.2)) ∧ TR Γ t'.heap (va_up (Vs u.1) u.2.1 (none)) (va_up (Ss u.1) u.2.1 st) 10 0 (some u.2.2)) (fun q => q = x ∨ q = ro)) (xT (fun E => (E = xIA ∧ ¬ (inT t md ∧ inT k 1024 ∧ okS st)) ∨ (E = xIO ∧ (inT t md ∧ inT k 1024 ∧ okS st) ∧ ¬ md < 400))) 26 112 (fun q => q = x ∨ q = ro ∨ H.size ≤ q) := by
  refine vx_ofW (cc := cS_delete) (maxL := 4) (ret := (some .int)) (by decide) rfl ?_
  intro p e s m args below meth c s₁ B hml htab hv
  obtain ⟨rfl, rfl, hW⟩ := hv
  have hx := B.exec
  have hb := B.bytes
  have hr := B.returns
  have hg : ∀ w ∈ gW, w.before _ s = true := fun w h => atoms_spec (ws := wS_delete) B.pre w (List.mem_cons_of_mem _ h)
  have hown : s.vm.findClass RS = some m.cls := findClass_of_methodNamed B.named
  have hlocks := B.notSynchronized
  have hS : va_S (gA Γ) s.heap s.heap [] := va_S.rf
  have hl := lv_entry ([.ref x, .int t, .int k, .int st]) (n := 4) (Nat.le_of_ble_eq_true rfl)
  rw [lg_entry_eq]
  generalize (lg_sl ([.ref x, .int t, .int k, .int st]) ++ List.replicate (4 - (lg_sl ([.ref x, .int t, .int k, .int st])).length) Slot.unset).toArray = ls at hl ⊢
  have hl : lv_has ls 4 [(0, .ref x), (1, .int t), (2, .int k), (3, .int st)] := hl
  have hS : va_S (nA s) s.heap s.heap [] := va_S.rf
  obtain ⟨hO, hR, hmd, hT⟩ := hX0
  refine lv_aload_n hx hb dS_delete_0 rfl (lv_at hl 0 rfl) ?_
  refine lv_iload_n hx hb dS_delete_1 rfl (lv_at hl 1 rfl) ?_
  refine lv_iload_n hx hb dS_delete_2 rfl (lv_at hl 2 rfl) ?_
  refine lv_iload_n hx hb dS_delete_3 rfl (lv_at hl 3 rfl) ?_
  refine vx_callv (vx_runV (As := [.int t, .int k, .int st]) (rest := []) ⟨hx, hb, hml, hown, hg⟩ (c_S_checkChange l hnt Γ s.heap (t := t) (k := k) (st := st) hO hmd) (cwV 3 hg gS_19 rfl rfl rfl (by decide +kernel) ⟨Nat.le_of_ble_eq_true rfl, Nat.le_of_ble_eq_true rfl⟩) (gP_V hW (vS_g hW hS) (ci := 1) rfl hO) rfl rfl hl.1 rfl (lv_room (Nat.le_of_ble_eq_true rfl)) dS_delete_4 ⟨Nat.le_of_ble_eq_true rfl, Nat.le_of_ble_eq_true rfl⟩) hS (fun q _ h => h.elim) (fun q h => Nat.le_trans hS.1 h) (fun q _ h => h.elim) (fun E ce q9 u tx H1 locs1 ht hvm hpx hBX hz1 hk1 hS hcell hcv hcl => ?_) (fun u t9 H1 locs1 ht hvm hp hB hz1 hk1 hS => ?_)
  · exact vx_out (E := E) (mc := 26) (ms := 112) (fun x h => (htab x h).elim) hlocks hcell hcv hcl (fun t9 h9 _ => ⟨(), trivial, hBX, by rw [h9]; exact hS.1, fun q hq _ => by rw [h9]; exact hS.2.1 q hq (Nat.not_le.mpr hq)⟩) (fun z hz => Or.inr (Or.inr (hS.2.2 z hz))) (Nat.le_of_ble_eq_true rfl) (Nat.le_of_ble_eq_true rfl)
  have hHH : H1 = s.heap := ht.symm.trans hB
  subst hHH
  have h1 := hp
  obtain ⟨⟨⟨tj, htj, rfl⟩, ⟨kj, hkj, rfl⟩, hst⟩, hmd4⟩ := h1
  refine lv_aload_n hx hb dS_delete_7 rfl (lv_at hl 0 rfl) ?_
  refine lv_iload_n hx hb dS_delete_8 rfl (lv_at hl 1 rfl) ?_
  refine lv_iload_n hx hb dS_delete_9 rfl (lv_at hl 2 rfl) ?_
  refine lv_iload_n hx hb dS_delete_10 rfl (lv_at hl 3 rfl) ?_
  refine va_callq (va_runS (As := [.int st]) (rest := [.int (nI kj), .int (nI tj), .ref x]) ⟨hx, hb, hml, hown, hg⟩ (c_S_leafWithoutNumber l Γ s.heap (st := st) hz) (va_cwS 1 hg gS_31 rfl rfl rfl (by decide +kernel) ⟨Nat.le_of_ble_eq_true rfl, Nat.le_of_ble_eq_true rfl⟩) (gP_S hW (vS_g hW hS)) rfl rfl hl.1 rfl (lv_room (Nat.le_of_ble_eq_true rfl)) dS_delete_11 ⟨Nat.le_of_ble_eq_true rfl, Nat.le_of_ble_eq_true rfl⟩) hS (fun q _ h => h.elim) (fun q h => Nat.le_trans hS.1 h) (fun r2 y2 t2 H2 locs2 ht2 hvm2 hp2 hB2 hz2 hk2 hS => ?_)
  subst hp2
  rw [ht2] at hB2
  obtain ⟨F, hF, hF0, hF1, hF2, hF3, hF4⟩ := hB2
  have hXX : hX (fun _ => False) s.heap H2 := ⟨hz2, fun q h1 h2 => hk2 q h1 h2⟩
  have hwf : wfS (va_up (Ss tj) kj st) := wfS_up (hT tj htj).1 hst
  have hlf : TR Γ H2 (va_up (Vs tj) kj (none)) (va_up (Ss tj) kj st) 0 kj (some y2) := leafTR hwf hF (by rw [hF0]; simp [lfv, va_up]) (by rw [hF1]; simp [lfv, va_up]) (by rw [hF2]; simp [lfv, va_up]) (by rw [hF3]; simp [lfv, va_up]) (by rw [hF4]; simp [lfv, va_up])
  have hS := vS_mono (B := fun q => q = x ∨ q = ro ∨ s.heap.size ≤ q) hS (fun q h => Or.inr (Or.inr h))
  refine va_calli (va_runV (As := [.int (nI tj), .int (nI kj), .ref y2]) (rest := []) ⟨hx, hb, hml, hown, hg⟩ (c_S_addTable l Γ H2 (hXX.at hO (fun h => h)) (hXX.at hR (fun h => h)) hxro hx0 hr0 (Nat.le_trans hz hz2) hmd4 htj hwf hkj up_off ((hT tj htj).2.kept (hX_hb hXX)) hlf) (cwV 3 hg gS_27 rfl rfl rfl (by decide +kernel) ⟨Nat.le_of_ble_eq_true rfl, Nat.le_of_ble_eq_true rfl⟩) (gP_V hW (vS_mono hS (fun q h => h.elim (fun h => by rw [h]; exact hzx) (fun h => h.elim (fun h => by rw [h]; exact hzr) (fun h => Nat.le_trans hW.2.2.1 h)))) (ci := 1) rfl (hXX.at hO (fun h => h))) rfl rfl hl.1 rfl (lv_room (Nat.le_of_ble_eq_true rfl)) dS_delete_14 ⟨Nat.le_of_ble_eq_true rfl, Nat.le_of_ble_eq_true rfl⟩) hS (fun q _ h => h.elim Or.inl (fun h => Or.inr (Or.inl h))) (fun q h => h.elim Or.inl (fun h => Or.inr (Or.inl h))) (fun r3 y3 t3 H3 locs3 ht3 hvm3 hp3 hB3 hz3 hk3 hS => ?_)
  refine vx_ret ?_
  exact W.iret (v := r3) hx hb hr (fun t8 ht8 hW9 => ⟨⟨r3, (tj, kj, y3), rfl, ⟨htj, rfl, hkj, rfl, hst, hmd4, hp3⟩, by rw [← ht3] at ht8; rw [← ht8] at hB3; exact hB3⟩, ⟨by rw [ht8]; exact hS.1, fun q h1 h2 => by rw [ht8]; exact hS.2.1 q h1 (fun h => h.elim (fun h => h2 (Or.inl h)) (fun h => h.elim (fun h => h2 (Or.inr h)) (fun h => absurd h (Nat.not_le.mpr h1))))⟩⟩) (fun q hq => hS.2.2 q hq) dS_delete_17
