/-! the checks, put and delete: they return or throw -/
def inT (t : Int32) (n : Nat) : Prop := ∃ j, j < n ∧ t = nI j
theorem inT_no {t : Int32} {n : Nat} (hn : n < 2 ^ 31) : ¬ inT t n ↔ t < 0 ∨ nI n ≤ t := by
  constructor
  · intro h
    rcases pk_ix t hn with h1 | h1 | h1
    · exact Or.inl h1
    · exact Or.inr h1
    · exact absurd h1 h
  · rintro (h | h) ⟨j, hj, rfl⟩
    · exact nI_pos (by omega) h
    · exact nI_ge hj hn h
theorem inT_of {t : Int32} {n : Nat} (hn : n < 2 ^ 31) (h1 : ¬ t < 0) (h2 : t < nI n) : inT t n := by
  rcases pk_ix t hn with h | h | h
  · exact absurd h h1
  · exact absurd h2 (Int32.not_lt.mpr h)
  · exact h
theorem inT_k {k : Int32} (h1 : ¬ k < 0) (h2 : k ≤ 1023) : inT k 1024 := by
  rcases pk_ix k (show 1024 < 2 ^ 31 by omega) with h | h | h
  · exact absurd h h1
  · exact absurd (Int32.le_trans h h2) (by decide)
  · exact h
def okS (st : Int32) : Prop := 0 ≤ st ∧ st ≤ 1000000000
set_option maxHeartbeats 4000000 in
set_option maxRecDepth 100000 in
theorem c_S_checkTable (l : Launch) (hnt : l.stackTraces = false) (Γ : gE) (H : Heap) {x ro md : Nat} {t : Int32} (hO : oS Γ H x ro (nI md)) (hmd : md ≤ 400) : vx_Met l yS_checkTable wS_checkTable ({ frames := 8, cells := 1, slots := 6, locals := 200 }) (gP Γ H [.ref x, .int t]) (va_Qv (fun _ : Unit => inT t md) (fun _ t' => t'.heap = H) (fun _ => False)) (xT (fun E => E = xIA ∧ ¬ inT t md)) 1 6 (fun q => H.size ≤ q) := by
  refine vx_ofW (cc := cS_checkTable) (maxL := 2) (ret := none) (by decide) rfl ?_
  intro p e s m args below meth c s₁ B hml htab hv
  obtain ⟨rfl, rfl, hW⟩ := hv
  have hx := B.exec
  have hb := B.bytes
  have hr := B.returns
  have hg : ∀ w ∈ gW, w.before _ s = true := fun w h => atoms_spec (ws := wS_checkTable) B.pre w (List.mem_cons_of_mem _ h)
  have hown : s.vm.findClass RS = some m.cls := findClass_of_methodNamed B.named
  have hlocks := B.notSynchronized
  have hS : va_S (gA Γ) s.heap s.heap [] := va_S.rf
  have hl := lv_entry ([.ref x, .int t]) (n := 2) (Nat.le_of_ble_eq_true rfl)
  rw [lg_entry_eq]
  generalize (lg_sl ([.ref x, .int t]) ++ List.replicate (2 - (lg_sl ([.ref x, .int t])).length) Slot.unset).toArray = ls at hl ⊢
  have hl : lv_has ls 2 [(0, .ref x), (1, .int t)] := hl
  have hS : va_S (nA s) s.heap s.heap [] := va_S.rf
  refine lv_iload_n hx hb dS_checkTable_0 rfl (lv_at hl 1 rfl) ?_
  refine lv_if_lt (tgt := 12) hx hb dS_checkTable_1 (by decide) (fun c1 => ?_) (fun c1 => ?_)
  · obtain ⟨sa, hstr⟩ := hW.2.1.2.1 (81, "no such table") (List.mem_of_getElem? (i := 0) rfl)
    exact vx_throwS (own := RS) (cls := xIA) (text := "no such table") (names := xNs) (ik := 57) (is := 81) (ic := 61) (mc := 1) (ms := 6) (sa := sa) (A := gA Γ) hx hb hnt hown (by decide) (by decide) (hg _ kw59) (hg _ kw16) hstr (x_hat xw_IA xb_IA hg hW.2.1) xg_IA hW.2.2.2.1 hW.2.2.2.2 (vS_g hW hS) (by rw [hml]; exact hl.1) dS_checkTable_12 dS_checkTable_15 dS_checkTable_16 dS_checkTable_18 dS_checkTable_21 (fun x h => (htab x h).elim) (Nat.lt_of_succ_le (Nat.le_of_ble_eq_true rfl)) (Nat.le_of_ble_eq_true rfl) (Nat.le_of_ble_eq_true rfl) (Nat.le_of_ble_eq_true rfl) hlocks (fun t9 _ h1 h2 => ⟨(), trivial, ⟨rfl, (inT_no (by omega)).mpr (Or.inl c1)⟩, Nat.le_trans hS.1 h1, fun q hq _ => (h2 q (Nat.lt_of_lt_of_le hq hS.1)).trans (hS.2.1 q hq (Nat.not_le.mpr hq))⟩) (fun z hz => hS.2.2 z hz) (Nat.le_of_ble_eq_true rfl) (Nat.le_of_ble_eq_true rfl)
  · refine lv_iload_n hx hb dS_checkTable_4 rfl (lv_at hl 1 rfl) ?_
    refine lv_aload_n hx hb dS_checkTable_5 rfl (lv_at hl 0 rfl) ?_
    refine va_get (D := Γ.1) (ci := 1) (v := .int (nI md)) (C := RS) (T := TS) (N := 2) hx hb hg inS hown hW.1 (p1 hO) 0 rfl rfl 1 (by decide) (hg _ kw32) (fun _ h9 => h9) rfl dS_checkTable_6 ?_
    refine lv_icmp_lt (tgt := 22) hx hb dS_checkTable_9 (by decide) (fun c2 => ?_) (fun c2 => ?_)
    · refine W.widen (k := 1) (n := 6) (Nat.le_of_ble_eq_true rfl) (Nat.le_of_ble_eq_true rfl) ?_
      refine vx_ret ?_
      exact W.vret hx hb hr (fun t ht hW9 => ⟨⟨(), rfl, inT_of (by omega) c1 c2, ht⟩, vS_F hS ht⟩) (fun q hq => hS.2.2 q hq) dS_checkTable_22
    · obtain ⟨sa, hstr⟩ := hW.2.1.2.1 (81, "no such table") (List.mem_of_getElem? (i := 0) rfl)
      exact vx_throwS (own := RS) (cls := xIA) (text := "no such table") (names := xNs) (ik := 57) (is := 81) (ic := 61) (mc := 1) (ms := 6) (sa := sa) (A := gA Γ) hx hb hnt hown (by decide) (by decide) (hg _ kw59) (hg _ kw16) hstr (x_hat xw_IA xb_IA hg hW.2.1) xg_IA hW.2.2.2.1 hW.2.2.2.2 (vS_g hW hS) (by rw [hml]; exact hl.1) dS_checkTable_12 dS_checkTable_15 dS_checkTable_16 dS_checkTable_18 dS_checkTable_21 (fun x h => (htab x h).elim) (Nat.lt_of_succ_le (Nat.le_of_ble_eq_true rfl)) (Nat.le_of_ble_eq_true rfl) (Nat.le_of_ble_eq_true rfl) (Nat.le_of_ble_eq_true rfl) hlocks (fun t9 _ h1 h2 => ⟨(), trivial, ⟨rfl, (inT_no (by omega)).mpr (Or.inr (Int32.not_lt.mp c2))⟩, Nat.le_trans hS.1 h1, fun q hq _ => (h2 q (Nat.lt_of_lt_of_le hq hS.1)).trans (hS.2.1 q hq (Nat.not_le.mpr hq))⟩) (fun z hz => hS.2.2 z hz) (Nat.le_of_ble_eq_true rfl) (Nat.le_of_ble_eq_true rfl)
set_option maxHeartbeats 4000000 in
set_option maxRecDepth 100000 in
theorem c_S_checkKey (l : Launch) (hnt : l.stackTraces = false) (Γ : gE) (H : Heap) {k : Int32} : vx_Met l yS_checkKey wS_checkKey ({ frames := 8, cells := 1, slots := 6, locals := 200 }) (gP Γ H [.int k]) (va_Qv (fun _ : Unit => inT k 1024) (fun _ t' => t'.heap = H) (fun _ => False)) (xT (fun E => E = xIA ∧ ¬ inT k 1024)) 1 6 (fun q => H.size ≤ q) := by
  refine vx_ofW (cc := cS_checkKey) (maxL := 1) (ret := none) (by decide) rfl ?_
  intro p e s m args below meth c s₁ B hml htab hv
  obtain ⟨rfl, rfl, hW⟩ := hv
  have hx := B.exec
  have hb := B.bytes
  have hr := B.returns
  have hg : ∀ w ∈ gW, w.before _ s = true := fun w h => atoms_spec (ws := wS_checkKey) B.pre w (List.mem_cons_of_mem _ h)
  have hown : s.vm.findClass RS = some m.cls := findClass_of_methodNamed B.named
  have hlocks := B.notSynchronized
  have hS : va_S (gA Γ) s.heap s.heap [] := va_S.rf
  have hl := lv_entry ([.int k]) (n := 1) (Nat.le_of_ble_eq_true rfl)
  rw [lg_entry_eq]
  generalize (lg_sl ([.int k]) ++ List.replicate (1 - (lg_sl ([.int k])).length) Slot.unset).toArray = ls at hl ⊢
  have hl : lv_has ls 1 [(0, .int k)] := hl
  have hS : va_S (nA s) s.heap s.heap [] := va_S.rf
  refine lv_iload_n hx hb dS_checkKey_0 rfl (lv_at hl 0 rfl) ?_
  refine lv_if_lt (tgt := 11) hx hb dS_checkKey_1 (by decide) (fun c1 => ?_) (fun c1 => ?_)
  · obtain ⟨sa, hstr⟩ := hW.2.1.2.1 (83, "no such key") (List.mem_of_getElem? (i := 1) rfl)
    exact vx_throwS (own := RS) (cls := xIA) (text := "no such key") (names := xNs) (ik := 57) (is := 83) (ic := 61) (mc := 1) (ms := 6) (sa := sa) (A := gA Γ) hx hb hnt hown (by decide) (by decide) (hg _ kw59) (hg _ kw16) hstr (x_hat xw_IA xb_IA hg hW.2.1) xg_IA hW.2.2.2.1 hW.2.2.2.2 (vS_g hW hS) (by rw [hml]; exact hl.1) dS_checkKey_11 dS_checkKey_14 dS_checkKey_15 dS_checkKey_17 dS_checkKey_20 (fun x h => (htab x h).elim) (Nat.lt_of_succ_le (Nat.le_of_ble_eq_true rfl)) (Nat.le_of_ble_eq_true rfl) (Nat.le_of_ble_eq_true rfl) (Nat.le_of_ble_eq_true rfl) hlocks (fun t9 _ h1 h2 => ⟨(), trivial, ⟨rfl, (inT_no (by omega)).mpr (Or.inl c1)⟩, Nat.le_trans hS.1 h1, fun q hq _ => (h2 q (Nat.lt_of_lt_of_le hq hS.1)).trans (hS.2.1 q hq (Nat.not_le.mpr hq))⟩) (fun z hz => hS.2.2 z hz) (Nat.le_of_ble_eq_true rfl) (Nat.le_of_ble_eq_true rfl)
  · refine lv_iload_n hx hb dS_checkKey_4 rfl (lv_at hl 0 rfl) ?_
    refine lv_sipush (v := 1023) hx hb dS_checkKey_5 (by decide) ?_
    refine lv_icmp_le (tgt := 21) hx hb dS_checkKey_8 (by decide) (fun c2 => ?_) (fun c2 => ?_)
    · refine W.widen (k := 1) (n := 6) (Nat.le_of_ble_eq_true rfl) (Nat.le_of_ble_eq_true rfl) ?_
      refine vx_ret ?_
      exact W.vret hx hb hr (fun t ht hW9 => ⟨⟨(), rfl, inT_k c1 c2, ht⟩, vS_F hS ht⟩) (fun q hq => hS.2.2 q hq) dS_checkKey_21
    · obtain ⟨sa, hstr⟩ := hW.2.1.2.1 (83, "no such key") (List.mem_of_getElem? (i := 1) rfl)
      exact vx_throwS (own := RS) (cls := xIA) (text := "no such key") (names := xNs) (ik := 57) (is := 83) (ic := 61) (mc := 1) (ms := 6) (sa := sa) (A := gA Γ) hx hb hnt hown (by decide) (by decide) (hg _ kw59) (hg _ kw16) hstr (x_hat xw_IA xb_IA hg hW.2.1) xg_IA hW.2.2.2.1 hW.2.2.2.2 (vS_g hW hS) (by rw [hml]; exact hl.1) dS_checkKey_11 dS_checkKey_14 dS_checkKey_15 dS_checkKey_17 dS_checkKey_20 (fun x h => (htab x h).elim) (Nat.lt_of_succ_le (Nat.le_of_ble_eq_true rfl)) (Nat.le_of_ble_eq_true rfl) (Nat.le_of_ble_eq_true rfl) (Nat.le_of_ble_eq_true rfl) hlocks (fun t9 _ h1 h2 => ⟨(), trivial, ⟨rfl, fun h9 => by obtain ⟨j, hj, rfl⟩ := h9; exact c2 (nI_le (a := j) (b := 1023) (by omega) (by omega))⟩, Nat.le_trans hS.1 h1, fun q hq _ => (h2 q (Nat.lt_of_lt_of_le hq hS.1)).trans (hS.2.1 q hq (Nat.not_le.mpr hq))⟩) (fun z hz => hS.2.2 z hz) (Nat.le_of_ble_eq_true rfl) (Nat.le_of_ble_eq_true rfl)
set_option maxHeartbeats 4000000 in
set_option maxRecDepth 100000 in
theorem c_S_checkChange (l : Launch) (hnt : l.stackTraces = false) (Γ : gE) (H : Heap) {x ro md : Nat} {t k st : Int32} (hO : oS Γ H x ro (nI md)) (hmd : md ≤ 400) : vx_Met l yS_checkChange wS_checkChange ({ frames := 12, cells := 4, slots := 24, locals := 500 }) (gP Γ H [.ref x, .int t, .int k, .int st]) (va_Qv (fun _ : Unit => (inT t md ∧ inT k 1024 ∧ okS st) ∧ md < 400) (fun _ t' => t'.heap = H) (fun _ => False)) (xT (fun E => (E = xIA ∧ ¬ (inT t md ∧ inT k 1024 ∧ okS st)) ∨ (E = xIO ∧ (inT t md ∧ inT k 1024 ∧ okS st) ∧ ¬ md < 400))) 4 24 (fun q => H.size ≤ q) := by
  refine vx_ofW (cc := cS_checkChange) (maxL := 4) (ret := none) (by decide) rfl ?_
  intro p e s m args below meth c s₁ B hml htab hv
  obtain ⟨rfl, rfl, hW⟩ := hv
  have hx := B.exec
  have hb := B.bytes
  have hr := B.returns
  have hg : ∀ w ∈ gW, w.before _ s = true := fun w h => atoms_spec (ws := wS_checkChange) B.pre w (List.mem_cons_of_mem _ h)
  have hown : s.vm.findClass RS = some m.cls := findClass_of_methodNamed B.named
  have hlocks := B.notSynchronized
  have hS : va_S (gA Γ) s.heap s.heap [] := va_S.rf
  have hl := lv_entry ([.ref x, .int t, .int k, .int st]) (n := 4) (Nat.le_of_ble_eq_true rfl)
  rw [lg_entry_eq]
  generalize (lg_sl ([.ref x, .int t, .int k, .int st]) ++ List.replicate (4 - (lg_sl ([.ref x, .int t, .int k, .int st])).length) Slot.unset).toArray = ls at hl ⊢
  have hl : lv_has ls 4 [(0, .ref x), (1, .int t), (2, .int k), (3, .int st)] := hl
  have hS : va_S (nA s) s.heap s.heap [] := va_S.rf
  refine lv_aload_n hx hb dS_checkChange_0 rfl (lv_at hl 0 rfl) ?_
  refine lv_iload_n hx hb dS_checkChange_1 rfl (lv_at hl 1 rfl) ?_
  refine vx_callv (vx_runV (As := [.int t]) (rest := []) ⟨hx, hb, hml, hown, hg⟩ (c_S_checkTable l hnt Γ s.heap (t := t) hO (by omega)) (cwV 1 hg gS_35 rfl rfl rfl (by decide +kernel) ⟨Nat.le_of_ble_eq_true rfl, Nat.le_of_ble_eq_true rfl⟩) (gP_V hW (vS_g hW hS) (ci := 1) rfl hO) rfl rfl hl.1 rfl (lv_room (Nat.le_of_ble_eq_true rfl)) dS_checkChange_2 ⟨Nat.le_of_ble_eq_true rfl, Nat.le_of_ble_eq_true rfl⟩) hS (fun q _ h => h.elim) (fun q h => Nat.le_trans hS.1 h) (fun q _ h => h.elim) (fun E ce q9 u tx H1 locs1 ht hvm hpx hBX hz1 hk1 hS hcell hcv hcl => ?_) (fun u t9 H1 locs1 ht hvm hp hB hz1 hk1 hS => ?_)
  · exact vx_out (E := E) (mc := 4) (ms := 24) (fun x h => (htab x h).elim) hlocks hcell hcv hcl (fun t9 h9 _ => ⟨(), trivial, Or.inl ⟨hBX.1, fun h => hBX.2 h.1⟩, by rw [h9]; exact hS.1, fun q hq _ => by rw [h9]; exact hS.2.1 q hq (Nat.not_le.mpr hq)⟩) (fun z hz => hS.2.2 z hz) (Nat.le_of_ble_eq_true rfl) (Nat.le_of_ble_eq_true rfl)
  have hHH : H1 = s.heap := ht.symm.trans hB
  subst hHH
  have h1 := hp
  refine lv_iload_n hx hb dS_checkChange_5 rfl (lv_at hl 2 rfl) ?_
  refine vx_callv (vx_runS (As := [.int k]) (rest := []) ⟨hx, hb, hml, hown, hg⟩ (c_S_checkKey l hnt Γ s.heap (k := k)) (va_cwS 1 hg gS_39 rfl rfl rfl (by decide +kernel) ⟨Nat.le_of_ble_eq_true rfl, Nat.le_of_ble_eq_true rfl⟩) (gP_S hW (vS_g hW hS)) rfl rfl hl.1 rfl (lv_room (Nat.le_of_ble_eq_true rfl)) dS_checkChange_6 ⟨Nat.le_of_ble_eq_true rfl, Nat.le_of_ble_eq_true rfl⟩) hS (fun q _ h => h.elim) (fun q h => Nat.le_trans hS.1 h) (fun q _ h => h.elim) (fun E ce q9 u tx H1 locs1 ht hvm hpx hBX hz1 hk1 hS hcell hcv hcl => ?_) (fun u t9 H1 locs1 ht hvm hp hB hz1 hk1 hS => ?_)
  · exact vx_out (E := E) (mc := 4) (ms := 24) (fun x h => (htab x h).elim) hlocks hcell hcv hcl (fun t9 h9 _ => ⟨(), trivial, Or.inl ⟨hBX.1, fun h => hBX.2 h.2.1⟩, by rw [h9]; exact hS.1, fun q hq _ => by rw [h9]; exact hS.2.1 q hq (Nat.not_le.mpr hq)⟩) (fun z hz => hS.2.2 z hz) (Nat.le_of_ble_eq_true rfl) (Nat.le_of_ble_eq_true rfl)
  have hHH : H1 = s.heap := ht.symm.trans hB
  subst hHH
  have h2 := hp
  refine lv_iload_n hx hb dS_checkChange_9 rfl (lv_at hl 3 rfl) ?_
  refine lv_if_lt (tgt := 19) hx hb dS_checkChange_10 (by decide) (fun c1 => ?_) (fun c1 => ?_)
  · obtain ⟨sa, hstr⟩ := hW.2.1.2.1 (86, "no such stamp") (List.mem_of_getElem? (i := 2) rfl)
    exact vx_throwS (own := RS) (cls := xIA) (text := "no such stamp") (names := xNs) (ik := 57) (is := 86) (ic := 61) (mc := 4) (ms := 24) (sa := sa) (A := gA Γ) hx hb hnt hown (by decide) (by decide) (hg _ kw59) (hg _ kw16) hstr (x_hat xw_IA xb_IA hg hW.2.1) xg_IA hW.2.2.2.1 hW.2.2.2.2 (vS_g hW hS) (by rw [hml]; exact hl.1) dS_checkChange_19 dS_checkChange_22 dS_checkChange_23 dS_checkChange_25 dS_checkChange_28 (fun x h => (htab x h).elim) (Nat.lt_of_succ_le (Nat.le_of_ble_eq_true rfl)) (Nat.le_of_ble_eq_true rfl) (Nat.le_of_ble_eq_true rfl) (Nat.le_of_ble_eq_true rfl) hlocks (fun t9 _ h1 h2 => ⟨(), trivial, Or.inl ⟨rfl, fun h => absurd c1 (Int32.not_lt.mpr h.2.2.1)⟩, Nat.le_trans hS.1 h1, fun q hq _ => (h2 q (Nat.lt_of_lt_of_le hq hS.1)).trans (hS.2.1 q hq (Nat.not_le.mpr hq))⟩) (fun z hz => hS.2.2 z hz) (Nat.le_of_ble_eq_true rfl) (Nat.le_of_ble_eq_true rfl)
  · refine lv_iload_n hx hb dS_checkChange_13 rfl (lv_at hl 3 rfl) ?_
    refine lv_ldc (v := 1000000000) hx hb hown (hg _ kw131) dS_checkChange_14 ?_
    refine lv_icmp_le (tgt := 29) hx hb dS_checkChange_16 (by decide) (fun c2 => ?_) (fun c2 => ?_)
    · have hok : inT t md ∧ inT k 1024 ∧ okS st := ⟨h1, h2, Int32.not_lt.mp c1, c2⟩
      refine lv_aload_n hx hb dS_checkChange_29 rfl (lv_at hl 0 rfl) ?_
      refine va_get (D := Γ.1) (ci := 1) (v := .int (nI md)) (C := RS) (T := TS) (N := 2) hx hb hg inS hown hW.1 (p1 hO) 0 rfl rfl 1 (by decide) (hg _ kw32) (fun _ h9 => h9) rfl dS_checkChange_30 ?_
      refine lv_sipush (v := 400) hx hb dS_checkChange_33 (by decide) ?_
      refine lv_icmp_lt (tgt := 49) hx hb dS_checkChange_36 (by decide) (fun c3 => ?_) (fun c3 => ?_)
      · refine W.widen (k := 4) (n := 24) (Nat.le_of_ble_eq_true rfl) (Nat.le_of_ble_eq_true rfl) ?_
        refine vx_ret ?_
        exact W.vret hx hb hr (fun t ht hW9 => ⟨⟨(), rfl, ⟨hok, (nI_ltI (a := md) (b := 400) (by omega) (by omega)).mp c3⟩, ht⟩, vS_F hS ht⟩) (fun q hq => hS.2.2 q hq) dS_checkChange_49
      · obtain ⟨sa, hstr⟩ := hW.2.1.2.1 (88, "there are 400 tables") (List.mem_of_getElem? (i := 3) rfl)
        exact vx_throwS (own := RS) (cls := xIO) (text := "there are 400 tables") (names := xNs) (ik := 68) (is := 88) (ic := 72) (mc := 4) (ms := 24) (sa := sa) (A := gA Γ) hx hb hnt hown (by decide) (by decide) (hg _ kw133) (hg _ kw17) hstr (x_hat xw_IO xb_IO hg hW.2.1) xg_IO hW.2.2.2.1 hW.2.2.2.2 (vS_g hW hS) (by rw [hml]; exact hl.1) dS_checkChange_39 dS_checkChange_42 dS_checkChange_43 dS_checkChange_45 dS_checkChange_48 (fun x h => (htab x h).elim) (Nat.lt_of_succ_le (Nat.le_of_ble_eq_true rfl)) (Nat.le_of_ble_eq_true rfl) (Nat.le_of_ble_eq_true rfl) (Nat.le_of_ble_eq_true rfl) hlocks (fun t9 _ h1 h2 => ⟨(), trivial, Or.inr ⟨rfl, hok, fun h => c3 (nI_lt (a := md) (b := 400) h (by omega))⟩, Nat.le_trans hS.1 h1, fun q hq _ => (h2 q (Nat.lt_of_lt_of_le hq hS.1)).trans (hS.2.1 q hq (Nat.not_le.mpr hq))⟩) (fun z hz => hS.2.2 z hz) (Nat.le_of_ble_eq_true rfl) (Nat.le_of_ble_eq_true rfl)
    · obtain ⟨sa, hstr⟩ := hW.2.1.2.1 (86, "no such stamp") (List.mem_of_getElem? (i := 2) rfl)
      exact vx_throwS (own := RS) (cls := xIA) (text := "no such stamp") (names := xNs) (ik := 57) (is := 86) (ic := 61) (mc := 4) (ms := 24) (sa := sa) (A := gA Γ) hx hb hnt hown (by decide) (by decide) (hg _ kw59) (hg _ kw16) hstr (x_hat xw_IA xb_IA hg hW.2.1) xg_IA hW.2.2.2.1 hW.2.2.2.2 (vS_g hW hS) (by rw [hml]; exact hl.1) dS_checkChange_19 dS_checkChange_22 dS_checkChange_23 dS_checkChange_25 dS_checkChange_28 (fun x h => (htab x h).elim) (Nat.lt_of_succ_le (Nat.le_of_ble_eq_true rfl)) (Nat.le_of_ble_eq_true rfl) (Nat.le_of_ble_eq_true rfl) (Nat.le_of_ble_eq_true rfl) hlocks (fun t9 _ h1 h2 => ⟨(), trivial, Or.inl ⟨rfl, fun h => c2 h.2.2.2⟩, Nat.le_trans hS.1 h1, fun q hq _ => (h2 q (Nat.lt_of_lt_of_le hq hS.1)).trans (hS.2.1 q hq (Nat.not_le.mpr hq))⟩) (fun z hz => hS.2.2 z hz) (Nat.le_of_ble_eq_true rfl) (Nat.le_of_ble_eq_true rfl)
