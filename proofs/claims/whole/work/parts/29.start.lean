/-! the law from its entry -/
theorem nW_tbl : ∀ w ∈ nW, w ∈ lw_tbl := by decide +kernel
theorem arr_of {s : State} {args : Array Value} {ty : FieldType} (h : (Cond.arrayClass ty).before args s = true) (hty : ∀ C, ty ≠ .object C) : ∃ c, ArrOfT s c ty ∧ va_RA s c ty := by
  obtain ⟨c, k, comp, h1, h2, h3⟩ := Cond.arrayClass_spec (args := args) (first := s) (o := none) (s := s) (idx := []) h
  refine ⟨c, fun n z => ⟨fun k h => (by cases h), k, h2, comp, h3⟩, ?_⟩
  cases ty <;> first | exact absurd rfl (hty _) | exact h1
theorem arr_o {s : State} (h : va_AO RB s) : ∃ c, ArrOfT s c (.object RB) ∧ va_RA s c (.object RB) := by
  obtain ⟨comp, c, k, h1, -, h2, h3, h4⟩ := Cond.arrayOver_spec h
  exact ⟨c, fun n z => ⟨fun k h => (by cases h), k, h2, comp, h3⟩, k, comp, h2, h3, h1, h4⟩
theorem PN_start {s : State} {b : Nat} (hts : ∀ w ∈ lw_tbl, w.before #[Value.ref b] s = true) (hgv : (Jvm.Cond.and given_1 narrow_1).before #[Value.ref b] s = true) : PN s := by
  have hs := flat_of_before _ hgv
  refine ⟨fun w hw => va_Nw.of (nW_tab w hw) (hts w (nW_tbl w hw)), fun q hq => ?_, fun q hq => ?_, va_AO.of (hts (.arrayOver (.object RB)) (by decide +kernel))⟩
  · simp only [txts, List.mem_cons, List.not_mem_nil, or_false] at hq
    rcases hq with rfl | rfl | rfl | rfl | rfl | rfl | rfl | rfl
    · obtain ⟨a, c, cA, kA, q1, -⟩ := Cond.exactly_spec (args := #[Value.ref b]) (first := s) (o := none) (s := s) (idx := []) (t := .string "StampTables" 81) (cls := "java/lang/String") (hs _ (by decide +kernel))
      exact ⟨a, vk_R.of (hts (.stringRef RS 81 "no such table") (by decide +kernel)) q1⟩
    · obtain ⟨a, c, cA, kA, q1, -⟩ := Cond.exactly_spec (args := #[Value.ref b]) (first := s) (o := none) (s := s) (idx := []) (t := .string "StampTables" 83) (cls := "java/lang/String") (hs _ (by decide +kernel))
      exact ⟨a, vk_R.of (hts (.stringRef RS 83 "no such key") (by decide +kernel)) q1⟩
    · obtain ⟨a, c, cA, kA, q1, -⟩ := Cond.exactly_spec (args := #[Value.ref b]) (first := s) (o := none) (s := s) (idx := []) (t := .string "StampTables" 86) (cls := "java/lang/String") (hs _ (by decide +kernel))
      exact ⟨a, vk_R.of (hts (.stringRef RS 86 "no such stamp") (by decide +kernel)) q1⟩
    · obtain ⟨a, c, cA, kA, q1, -⟩ := Cond.exactly_spec (args := #[Value.ref b]) (first := s) (o := none) (s := s) (idx := []) (t := .string "StampTables" 88) (cls := "java/lang/String") (hs _ (by decide +kernel))
      exact ⟨a, vk_R.of (hts (.stringRef RS 88 "there are 400 tables") (by decide +kernel)) q1⟩
    · obtain ⟨a, c, cA, kA, q1, -⟩ := Cond.exactly_spec (args := #[Value.ref b]) (first := s) (o := none) (s := s) (idx := []) (t := .string "StampTables" 52) (cls := "java/lang/String") (hs _ (by decide +kernel))
      exact ⟨a, vk_R.of (hts (.stringRef RS 52 "the key has no number") (by decide +kernel)) q1⟩
    · obtain ⟨a, c, cA, kA, q1, -⟩ := Cond.exactly_spec (args := #[Value.ref b]) (first := s) (o := none) (s := s) (idx := []) (t := .string "StampTables" 59) (cls := "java/lang/String") (hs _ (by decide +kernel))
      exact ⟨a, vk_R.of (hts (.stringRef RS 59 "low is above high") (by decide +kernel)) q1⟩
    · obtain ⟨a, c, cA, kA, q1, -⟩ := Cond.exactly_spec (args := #[Value.ref b]) (first := s) (o := none) (s := s) (idx := []) (t := .string "StampTables" 62) (cls := "java/lang/String") (hs _ (by decide +kernel))
      exact ⟨a, vk_R.of (hts (.stringRef RS 62 "no such what") (by decide +kernel)) q1⟩
    · obtain ⟨a, c, cA, kA, q1, -⟩ := Cond.exactly_spec (args := #[Value.ref b]) (first := s) (o := none) (s := s) (idx := []) (t := .string "StampTables" 70) (cls := "java/lang/String") (hs _ (by decide +kernel))
      exact ⟨a, vk_R.of (hts (.stringRef RS 70 "no key has so many keys with numbers below it") (by decide +kernel)) q1⟩
  · simp only [ncs, List.mem_cons, List.not_mem_nil, or_false] at hq
    rcases hq with rfl | rfl
    · exact va_Nc.of (hs (.not (.castable xIO xIA)) (by decide +kernel))
    · exact va_Nc.of (hs (.not (.castable xUO xIA)) (by decide +kernel))
theorem PZ_start {Γ : gE} {s : State} {b : Nat} (hgz : gz Γ = s.heap.size) (hts : ∀ w ∈ lw_tbl, w.before #[Value.ref b] s = true) (hgv : (Jvm.Cond.and given_1 narrow_1).before #[Value.ref b] s = true) : PZ Γ s s.heap := by
  have hs := flat_of_before _ hgv
  have hA : ∀ a : Nat, a < s.heap.size → ¬ gA Γ a := fun a h => by unfold gA; omega
  exact ⟨by omega, vx_Zqof (hts (.laysStatic Bundle.tN "UNASSIGNED_STACK" Bundle.steD) (by decide +kernel)) (hts (.initialized Bundle.tN) (by decide +kernel)) (hs (.isRef (.static Bundle.tN "UNASSIGNED_STACK" Bundle.steD)) (by decide +kernel)) hA, vx_Zqof (hts (.laysStatic Bundle.tN "SUPPRESSED_SENTINEL" Bundle.listD) (by decide +kernel)) (hts (.initialized Bundle.tN) (by decide +kernel)) (hs (.isRef (.static Bundle.tN "SUPPRESSED_SENTINEL" Bundle.listD)) (by decide +kernel)) hA⟩
set_option maxHeartbeats 4000000 in
set_option maxRecDepth 100000 in
theorem whole_start {p : Program} {e : Env} {s : State} {m : MethodId} {below : List Frame} {meth : Method} {c : Code} (l : Launch) (hnt : l.stackTraces = false) {b L : Nat} {xs : Nat → Int32} (hL : L ≤ 3072) (C0 : lw_At p s m meth c b L xs) : W p l e room_1 s m #[Value.ref b] below meth c s.heap [] 0 0 (lw_Z below #[Value.ref b] s) (entryFrame m ([Value.ref b] : List Value).toArray 8) := by
  obtain ⟨hx, hb, hr, hml, hown0, hts, hScr, hbl, hlocks, hgv⟩ := id C0
  have hown : s.vm.findClass RL = some m.cls := hown0
  have hg : ∀ w ∈ gW, w.before #[Value.ref b] s = true := fun w h => hts w (gW_tbl h)
  obtain ⟨c0, iS0, hKn0⟩ := u_known (C := RB) (T := TB) (N := 3) (n := 3) hg inB (hg _ kw152)
  obtain ⟨c1, iS1, hKn1⟩ := u_known (C := RS) (T := TS) (N := 2) (n := 2) hg inS (hg _ kw22)
  obtain ⟨c2, iS2, hKn2⟩ := u_known (C := RM) (T := TM) (N := 9) (n := 9) hg inM (hg _ kw284)
  obtain ⟨D, hKc⟩ : ∃ (D : va_G), ∀ (k : Nat) (q : vw_C), gC[k]? = some q → u_Kn s q.1 q.2.1 q.2.2 (D.1 k) (D.2 k) := by
    refine ⟨(fun k => if k = 0 then c0 else if k = 1 then c1 else c2, fun k => if k = 0 then iS0 else if k = 1 then iS1 else iS2), ?_⟩
    intro k q hq
    match k, hq with
    | 0, hq => cases hq; exact hKn0
    | 1, hq => cases hq; exact hKn1
    | 2, hq => cases hq; exact hKn2
    | k + 3, hq => simp [gC] at hq
  have hPN := PN_start hts hgv
  obtain ⟨cJ, hJa⟩ := arr_of (hg _ kw170) (fun C h => by cases h)
  obtain ⟨cI, hIa⟩ := arr_of (hg _ kw317) (fun C h => by cases h)
  obtain ⟨cZ, hZa⟩ := arr_of (hg _ kw318) (fun C h => by cases h)
  obtain ⟨cO, hOa⟩ := arr_o hPN.2.2.2
  have hKall : ∀ (z0 z1 z2 : Nat), PW (D, (s.heap.size, z0, z1, z2), (cJ, cO, cI, cZ)) s := by
    intro z0 z1 z2
    refine ⟨⟨hKc, fun k q hk => ?_⟩, hPN, PZ_start rfl hts hgv⟩
    match k, hk with
    | 0, hk => cases hk; exact hJa
    | 1, hk => cases hk; exact hOa
    | 2, hk => cases hk; exact hIa
    | 3, hk => cases hk; exact hZa
    | k + 4, hk => simp [gT] at hk
  have hl := lv_entry ([.ref b]) (n := 8) (Nat.le_of_ble_eq_true rfl)
  rw [lg_entry_eq]
  generalize (lg_sl ([.ref b]) ++ List.replicate (8 - (lg_sl ([.ref b])).length) Slot.unset).toArray = ls at hl ⊢
  have hl : lv_has ls 8 [(0, .ref b)] := hl
  obtain ⟨Γ, eΓ⟩ : ∃ Γ : gE, Γ = (D, (s.heap.size, 0, 0, 0), (cJ, cO, cI, cZ)) := ⟨_, rfl⟩
  have hW : PW Γ s := by rw [eΓ]; exact hKall 0 0 0
  have hgz : gz Γ = s.heap.size := by rw [eΓ]
  have hA : ∀ q, s.heap.size ≤ q → nA s q := fun _ h => h
  have hS : va_S (nA s) s.heap s.heap [] := va_S.rf
  refine va_new (D := Γ.1) (cl := gC) (tys := gT Γ) (ws := []) (A := nA s) (H0 := s.heap) (ci := 1) (fs := [.null, .int 0]) (C := RS) (T := TS) (N := 2) hx hb hg inS tyS tyS_ok hown (hg _ kw21) (hg _ kw22) (hg _ kw11) hW.1 p0 d0 hS hA rfl (fun j hj => by rcases (show j = 0 ∨ j = 1 by omega) with rfl | rfl <;> rfl) (Nat.le_of_ble_eq_true rfl) (Nat.le_of_ble_eq_true rfl) dL_law_0 (fun x Hx hP hD hSx => ?_)
  have hOx : va_at Γ.1 gC (x, .inr (1, [.null, .int 0])) Hx := hP 0 _ rfl
  have hxA : s.heap.size ≤ x := hD.2 0 _ rfl
  have hSg : va_S (gA Γ) s.heap Hx [] := vS_g hW hSx
  have hxl := hOx.lt
  refine lv_dup hx hb dL_law_3 rfl ?_
  refine va_callv (va_runI (As := []) (rest := [.ref x]) ⟨hx, hb, hml, hown, hg⟩ (c_S_init l Γ Hx hOx) (cwI 0 hg (gI kw25) rfl rfl rfl (hg _ kw11) (hg _ kw23) (hg _ kw24) rfl (by decide +kernel) ⟨Nat.le_of_ble_eq_true rfl, Nat.le_of_ble_eq_true rfl⟩) (gP_S hW hSg) rfl rfl hl.1 rfl (lv_room (Nat.le_of_ble_eq_true rfl)) dL_law_4 ⟨Nat.le_of_ble_eq_true rfl, Nat.le_of_ble_eq_true rfl⟩) hSg (fun q _ h => by rw [show q = x from h]; show gz Γ ≤ x; omega) (fun q h => Or.elim h (fun h => by rw [show q = x from h]; show gz Γ ≤ x; omega) (fun h => Nat.le_trans (show gz Γ ≤ Hx.size by omega) h)) (fun ro t1 Ha locs1 ht1 hvm1 hro hB1 hz1 hk1 hSa => ?_)
  rw [ht1] at hB1
  obtain ⟨hOa, hRa⟩ := hB1
  have hxa := hOa.lt
  have hra := hRa.lt
  refine va_forget (fun q hq => by have := hSa.2.2 q hq; unfold gA at this; omega) ?_
  refine lv_astore_n (lv' := [(1, .ref x), (0, .ref b)]) hx hb dL_law_7 rfl hl (by decide) rfl (fun ls hl => ?_)
  have hSb : va_S (fun q => Ha.size ≤ q) Ha Ha [] := va_S.rf
  refine va_new (D := Γ.1) (cl := gC) (tys := gT Γ) (ws := []) (A := (fun q => Ha.size ≤ q)) (H0 := Ha) (ci := 2) (fs := [.int 0, .null, .null, .null, .null, .null, .null, .null, .int 0]) (C := RM) (T := TM) (N := 9) hx hb hg inM tyM tyM_ok hown (hg _ kw283) (hg _ kw284) (hg _ kw12) hW.1 p0 d0 hSb (fun _ h => h) rfl (fun j hj => by rcases (show j = 0 ∨ j = 1 ∨ j = 2 ∨ j = 3 ∨ j = 4 ∨ j = 5 ∨ j = 6 ∨ j = 7 ∨ j = 8 by omega) with rfl | rfl | rfl | rfl | rfl | rfl | rfl | rfl | rfl <;> rfl) (Nat.le_of_ble_eq_true rfl) (Nat.le_of_ble_eq_true rfl) dL_law_8 (fun mm Hmm hP hD hSmm => ?_)
  have hOm : va_at Γ.1 gC (mm, .inr (2, [.int 0, .null, .null, .null, .null, .null, .null, .null, .int 0])) Hmm := hP 0 _ rfl
  have hmA : Ha.size ≤ mm := hD.2 0 _ rfl
  have hml9 := hOm.lt
  have hXm : hX (fun _ => False) Ha Hmm := ⟨hSmm.1, fun q h1 _ => hSmm.2.1 q h1 (Nat.not_le.mpr h1)⟩
  have hSg2 : va_S (gA Γ) s.heap Hmm [] := ⟨Nat.le_trans hSa.1 hXm.1, fun q h1 h2 => (hXm.2 q (Nat.lt_of_lt_of_le h1 hSa.1) id).trans (hSa.2.1 q h1 h2), fun q hq => nomatch hq⟩
  refine lv_dup hx hb dL_law_11 rfl ?_
  refine va_callv (va_runI (As := []) (rest := [.ref mm]) ⟨hx, hb, hml, hown, hg⟩ (c_M_init l Γ Hmm hOm) (cwI 0 hg (gI kw287) rfl rfl rfl (hg _ kw12) (hg _ kw285) (hg _ kw286) rfl (by decide +kernel) ⟨Nat.le_of_ble_eq_true rfl, Nat.le_of_ble_eq_true rfl⟩) (gP_S hW hSg2) rfl rfl hl.1 rfl (lv_room (Nat.le_of_ble_eq_true rfl)) dL_law_12 ⟨Nat.le_of_ble_eq_true rfl, Nat.le_of_ble_eq_true rfl⟩) hSg2 (fun q _ h => by rw [show q = mm from h]; show gz Γ ≤ mm; have := hSa.1; omega) (fun q h => Or.elim h (fun h => by rw [show q = mm from h]; show gz Γ ≤ mm; have := hSa.1; omega) (fun h => Nat.le_trans (show gz Γ ≤ Hmm.size by have := hSa.1; have := hXm.1; omega) h)) (fun A t2 Hb locs2 ht2 hvm2 hpA hB2 hz2 hk2 hSbb => ?_)
  rw [ht2] at hB2
  obtain ⟨eA0, hDA⟩ := hpA
  have hXb : hX (fun q => q = mm) Hmm Hb := ⟨hz2, fun q h1 h2 => hk2 q h1 h2⟩
  have hOb := hXb.at (hXm.at hOa id) (fun h => by have h : x = mm := h; omega)
  have hRb := hXb.at (hXm.at hRa id) (fun h => by have h : ro = mm := h; omega)
  refine va_forget (fun q hq => by have := hSbb.2.2 q hq; unfold gA at this; omega) ?_
  rw [← eA0]
  refine lv_astore_n (lv' := [(2, .ref (A 0)), (1, .ref x), (0, .ref b)]) hx hb dL_law_15 rfl hl (by decide) rfl (fun ls hl => ?_)
  refine lv_iconst (v := 1) hx hb dL_law_16 (by decide) ?_
  have hSc : va_S (fun q => Hb.size ≤ q) Hb Hb [] := va_S.rf
  refine va_newa (atype := .long) (D := Γ.1) (cl := gC) (tys := gT Γ) (ws := []) (A := fun q => Hb.size ≤ q) (H0 := Hb) (ty := .long) (a0 := (1, .inr (.inl (fun _ => 0)))) (N' := 1) hx hb (hg _ kw170) rfl hW.1 p0 d0 hSc (fun _ h => h) (fun cA => rfl) (by decide) (by decide) (by decide) (Nat.le_of_ble_eq_true rfl) (Nat.le_of_ble_eq_true rfl) dL_law_17 (fun out cA Hc hK hP hD hSd => ?_)
  have eA := kJ_eq hW.1 hK
  subst eA
  have hJ : oJ Γ Hc out 1 (fun _ => 0) := hP 0 _ rfl
  have hoA : Hb.size ≤ out := hD.2 0 _ rfl
  have hol := hJ.lt
  have hXc : hX (fun _ => False) Hb Hc := ⟨hSd.1, fun q h1 _ => hSd.2.1 q h1 (Nat.not_le.mpr h1)⟩
  have hSg3 : va_S (gA Γ) s.heap Hc [] := ⟨Nat.le_trans hSbb.1 hXc.1, fun q h1 h2 => (hXc.2 q (Nat.lt_of_lt_of_le h1 hSbb.1) id).trans (hSbb.2.1 q h1 h2), fun q hq => nomatch hq⟩
  refine lv_astore_n (lv' := [(3, .ref out), (2, .ref (A 0)), (1, .ref x), (0, .ref b)]) hx hb dL_law_19 rfl hl (by decide) rfl (fun ls hl => ?_)
  refine lv_iconst (v := 0) hx hb dL_law_20 (by decide) ?_
  refine lv_istore (lv' := [(4, .int 0), (3, .ref out), (2, .ref (A 0)), (1, .ref x), (0, .ref b)]) hx hb dL_law_21 hl (by decide) rfl (fun ls hl => ?_)
  obtain ⟨Γ2, eΓ2⟩ : ∃ Γ2 : gE, Γ2 = (D, (s.heap.size, Ha.size, Hb.size, Hc.size), (cJ, cO, cI, cZ)) := ⟨_, rfl⟩
  have hW2 : PW Γ2 s := by rw [eΓ2]; exact hKall _ _ _
  have hgz2 : gz Γ2 = s.heap.size := by rw [eΓ2]
  have g1 : gm0 Γ2 = Ha.size := by rw [eΓ2]
  have g2 : gm1 Γ2 = Hb.size := by rw [eΓ2]
  have g3 : gb0 Γ2 = Hc.size := by rw [eΓ2]
  have hZ2 : ZF Γ2 x ro out := by unfold ZF; rw [hgz2, g1, g2, g3]; have := hXm.1; have := hXb.1; have := hSa.1; refine ⟨hxA, by omega, hxa, hra, by omega, by omega, hoA, hol⟩
  have hO2 : oS Γ2 Hc x ro (nI 1) := by rw [eΓ2]; rw [eΓ] at hOb; exact hXc.at hOb id
  have hR2 : oO Γ2 Hc ro 400 (fun _ => none) := by rw [eΓ2]; rw [eΓ] at hRb; exact hXc.at hRb id
  have hJ2 : oJ Γ2 Hc out 1 (fun _ => 0) := by rw [eΓ2]; rw [eΓ] at hJ; exact hJ
  have hP2 : va_P Γ2.1 gC (wM Γ2 A 0 (nI 1) (fun _ => 0) (fun _ => 0) (fun _ => 0) (fun _ => 0) (fun _ => 0) (fun _ => 0) (fun _ => 0)) Hc := by
    rw [eΓ] at hB2
    rw [eΓ2]
    exact va_P.kept hB2 (fun k q hq => hXc.2 q.1 (hB2 k q hq).lt id)
  have hD2 : va_D (mA Γ2) (wM Γ2 A 0 (nI 1) (fun _ => 0) (fun _ => 0) (fun _ => 0) (fun _ => 0) (fun _ => 0) (fun _ => 0) (fun _ => 0)) := by
    rw [eΓ] at hDA hB2
    have h9 : va_D (mA Γ2) (wM (D, (s.heap.size, 0, 0, 0), (cJ, cO, cI, cZ)) A 0 (nI 1) (fun _ => 0) (fun _ => 0) (fun _ => 0) (fun _ => 0) (fun _ => 0) (fun _ => 0) (fun _ => 0)) := hDA.weaken (fun k q hq h => by
      have hlt := (hB2 k q hq).lt
      have h8 := hXm.1
      unfold mA; rw [g1, g2]
      exact ⟨h.elim (fun h => by omega) (fun h => by omega), hlt⟩)
    rw [eΓ2]
    rw [eΓ2] at h9
    exact h9
  have hMI : MI 1 (fun _ => 0) (fun _ => 0) (fun _ => 0) (fun _ => 0) := fun c h1 h2 => by omega
  have hSX : SX Γ2 Hc x ro 1 (fun _ => none) (mV (fun _ => 0) (fun _ => 0) (fun _ => 0) (fun _ => 0)) (mSt (fun _ => 0) (fun _ => 0) (fun _ => 0)) := by
    refine ⟨hO2, hR2, by omega, fun t ht => ⟨mSt_wf (by omega) hMI ht, TR.ofNone (fun k h1 h2 => ?_)⟩⟩
    rw [show t = 0 by omega]
    simp [mV, mSt, wq_0]
  have hLI : LI Γ2 Hc x ro out A 0 1 := ⟨_, _, _, _, _, _, _, _, _, hSX, hP2, hD2, hMI, Nat.le_refl _, hJ2⟩
  have hSg4 : va_S (gA Γ2) s.heap Hc [] := vS_mono hSg3 (fun q h => by unfold gA at h ⊢; omega)
  refine W.widen (k := 20 + 26 * 0) (n := 6000 + 112 * 0) (by omega) (by omega) ?_
  exact law_loop hnt C0 hW2 hgz2 hZ2 hL (L + 1) 0 1 0 Hc [] ls (by omega) (by omega) hLI (by omega) hSg4 (lv_sub hl [0, 1, 2, 3, 4] rfl)
