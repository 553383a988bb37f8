/-! the law: the reads -/
set_option maxHeartbeats 4000000 in
set_option maxRecDepth 100000 in
theorem law_get {p : Program} {l : Launch} {e : Env} {s : State} {m : MethodId} {below : List Frame} {meth : Method} {c : Code} {b L : Nat} {xs : Nat → Int32} {Γ : gE} {x ro out : Nat} {A : Nat → Nat} (hnt : l.stackTraces = false) (C0 : lw_At p s m meth c b L xs) (hW : PW Γ s) (hgz : gz Γ = s.heap.size) (hZ : ZF Γ x ro out) {j md : Nat} {er : Int32} {H : Heap} {locs : List Loc} {ls : Array Slot} (hL : L ≤ 3072) (hj : 6 * j + 6 ≤ L) (hI : LI Γ H x ro out A er md) (hbz : gb0 Γ ≤ H.size) (hS : va_S (gA Γ) s.heap H locs) (hl : lv_has ls 8 [(4, .int (nI (6 * j))), (3, .ref out), (2, .ref (A 0)), (1, .ref x), (0, .ref b)]) (hk : ∀ (H2 : Heap) (locs2 : List Loc) (ls2 : Array Slot) (er2 : Int32) (md2 : Nat), LI Γ H2 x ro out A er2 md2 → gb0 Γ ≤ H2.size → va_S (gA Γ) s.heap H2 locs2 → lv_has ls2 8 [(4, .int (nI (6 * j))), (3, .ref out), (2, .ref (A 0)), (1, .ref x), (0, .ref b)] → W p l e room_1 s m #[Value.ref b] below meth c H2 locs2 (20 + 26 * j + 26) (6000 + 112 * j + 112) (lw_Z below #[Value.ref b] s) (F0 m 667 ls2 [])) : W p l e room_1 s m #[Value.ref b] below meth c H locs (20 + 26 * j) (6000 + 112 * j) (lw_Z below #[Value.ref b] s) (F0 m 292 ls []) := by
  obtain ⟨hx, hb, hr, hml, hown, hts, hScr, hbl, hlocks, hgv⟩ := C0
  have hown : s.vm.findClass RL = some m.cls := hown
  have hg : ∀ w ∈ gW, w.before #[Value.ref b] s = true := fun w h => hts w (gW_tbl h)
  have hbA : ¬ gA Γ b := by unfold gA; omega
  obtain ⟨fof, fke, fst, fnu, fno, fla, fot, rt, fo, hSX, hP, hD, hMI, hmd1, hJ⟩ := hI
  obtain ⟨z1, z2, z3, z4, z5, z6, z7, z8⟩ := hZ
  have hmd : md ≤ 400 := hSX.2.2.1
  refine lv_aload_n hx hb dL_law_292 rfl (lv_at hl 3 rfl) ?_
  refine lv_aload_n hx hb dL_law_293 rfl (lv_at hl 4 rfl) ?_
  refine lv_iload hx hb dL_law_294 (lv_at hl 0 rfl) ?_
  refine lv_iconst (v := 1) hx hb dL_law_296 (by decide) ?_
  refine lv_iadd hx hb dL_law_297 ?_
  refine lv_topi (fun i298 ei298 => ?_)
  have ei298 : i298 = nI (6 * j + 1) := ei298.trans (nI_add (6 * j) 1)
  subst ei298
  refine va_sld hx hb hScr hbl hbA hS (vp_in_nI (show 6 * j + 1 < L by omega) (by omega)) dL_law_298 ?_
  rw [nI_clamp (show 6 * j + 1 < 2 ^ 31 by omega)]
  refine lv_aload_n hx hb dL_law_299 rfl (lv_at hl 4 rfl) ?_
  refine lv_iload hx hb dL_law_300 (lv_at hl 0 rfl) ?_
  refine lv_iconst (v := 2) hx hb dL_law_302 (by decide) ?_
  refine lv_iadd hx hb dL_law_303 ?_
  refine lv_topi (fun i304 ei304 => ?_)
  have ei304 : i304 = nI (6 * j + 2) := ei304.trans (nI_add (6 * j) 2)
  subst ei304
  refine va_sld hx hb hScr hbl hbA hS (vp_in_nI (show 6 * j + 2 < L by omega) (by omega)) dL_law_304 ?_
  rw [nI_clamp (show 6 * j + 2 < 2 ^ 31 by omega)]
  refine lv_aload_n hx hb dL_law_305 rfl (lv_at hl 1 rfl) ?_
  have hzo : gz Γ ≤ out := by omega
  have hsz : gz Γ ≤ H.size := by have := hS.1; omega
  refine va_calli (vx_runSW (As := [.ref x, .int (xs (6 * j + 1)), .int (xs (6 * j + 2)), .ref out]) (rest := []) ⟨hx, hb, hml, hown, hg⟩ (c_L_get l hnt Γ H (t := (xs (6 * j + 1))) (k := (xs (6 * j + 2))) hSX hJ z5 z1 z2 hzo (by omega) (by omega) z8 (by omega) (by omega) hbz) (vx_cwSW 4 hg gL_61 rfl rfl rfl (by decide +kernel) ⟨Nat.le_of_ble_eq_true rfl, Nat.le_of_ble_eq_true rfl⟩) (gP_S hW hS) rfl rfl hl.1 rfl (lv_room (Nat.le_of_ble_eq_true rfl)) dL_law_306 ⟨by show 20 + 26 * j + 3 ≤ 657075; omega, by show 6000 + 112 * j + 18 ≤ 7124880; omega⟩) hS (fun q _ h => by rw [show q = out from h]; exact hzo) (fun q h => h.elim (fun h => by rw [h]; exact hzo) (fun h => Nat.le_trans hsz h)) (fun r u t9 H1 locs1 ht hvm hp hB hz1 hk1 hS => ?_)
  rw [ht] at hB
  have hP1 := wM_kept hP hD hk1 (fun q hq => fun h => by have := hq.1; have := hq.2; omega)
  refine lv_istore (lv' := [(5, .int r), (4, .int (nI (6 * j))), (3, .ref out), (2, .ref (A 0)), (1, .ref x), (0, .ref b)]) hx hb dL_law_309 hl (by decide) rfl (fun ls hl => ?_)
  refine lv_aload_n hx hb dL_law_311 rfl (lv_at hl 3 rfl) ?_
  refine lv_aload_n hx hb dL_law_312 rfl (lv_at hl 5 rfl) ?_
  refine lv_iload hx hb dL_law_313 (lv_at hl 1 rfl) ?_
  refine lv_iconst (v := 1) hx hb dL_law_315 (by decide) ?_
  refine lv_iadd hx hb dL_law_316 ?_
  refine lv_topi (fun i317 ei317 => ?_)
  have ei317 : i317 = nI (6 * j + 1) := ei317.trans (nI_add (6 * j) 1)
  subst ei317
  refine va_sld hx hb hScr hbl hbA hS (vp_in_nI (show 6 * j + 1 < L by omega) (by omega)) dL_law_317 ?_
  rw [nI_clamp (show 6 * j + 1 < 2 ^ 31 by omega)]
  refine lv_aload_n hx hb dL_law_318 rfl (lv_at hl 5 rfl) ?_
  refine lv_iload hx hb dL_law_319 (lv_at hl 1 rfl) ?_
  refine lv_iconst (v := 2) hx hb dL_law_321 (by decide) ?_
  refine lv_iadd hx hb dL_law_322 ?_
  refine lv_topi (fun i323 ei323 => ?_)
  have ei323 : i323 = nI (6 * j + 2) := ei323.trans (nI_add (6 * j) 2)
  subst ei323
  refine va_sld hx hb hScr hbl hbA hS (vp_in_nI (show 6 * j + 2 < L by omega) (by omega)) dL_law_323 ?_
  rw [nI_clamp (show 6 * j + 2 < 2 ^ 31 by omega)]
  have hmz : ∀ q, mA Γ q → gA Γ q := fun q h => by have := h.1; show gz Γ ≤ q; omega
  refine va_calll (va_runV (As := [.int (xs (6 * j + 1)), .int (xs (6 * j + 2))]) (rest := []) ⟨hx, hb, hml, hown, hg⟩ (c_M_get l Γ H1 (t := (xs (6 * j + 1))) (k := (xs (6 * j + 2))) hP1 hD (by omega) hmd hMI) (cwV 2 hg gL_64 rfl rfl rfl (by decide +kernel) ⟨Nat.le_of_ble_eq_true rfl, Nat.le_of_ble_eq_true rfl⟩) (gP_V hW hS (ci := 2) rfl (hP1 0 _ rfl)) rfl rfl hl.1 rfl (lv_room (Nat.le_of_ble_eq_true rfl)) dL_law_324 ⟨by show 20 + 26 * j + 3 + 0 ≤ 657075; omega, by show 6000 + 112 * j + 18 + 0 ≤ 7124880; omega⟩) hS (fun q _ h => hmz q h) (fun q h => hmz q h) (fun r2 u2 t8 H2 locs2 ht2 hvm2 hp2 hB2 hz2 hk2 hS => ?_)
  rw [ht2] at hB2
  have hX2 : hX (mA Γ) H1 H2 := ⟨hz2, fun q h1 h2 => hk2 q h1 h2⟩
  have hSk : ∀ {rt9 : Nat → Option Nat} {md9 : Nat} {V9 : Nat → Nat → Option Int64} {S9 : Nat → Nat → Int32}, SX Γ H1 x ro md9 rt9 V9 S9 → SX Γ H2 x ro md9 rt9 V9 S9 := fun h => h.kept hX2 (fun h => by have := h.1; omega) (fun h => by have := h.1; omega) (fun q h => by have := h.2; omega)
  have hJk : ∀ {f9 : Nat → Int64}, oJ Γ H1 out 1 f9 → oJ Γ H2 out 1 f9 := fun h => hX2.at h (fun h => by have := h.2; omega)
  have hall : ∃ er2 md2, LI Γ H2 x ro out A er2 md2 ∧ r = er2 ∧ (r = 0 → ∃ fo3, oJ Γ H2 out 1 fo3 ∧ fo3 (0 : Int32).toNatClampNeg = r2) := by
    obtain ⟨u1, val⟩ := u
    obtain ⟨hS1, fo1, hJ1, hfo⟩ := hB
    rcases hp with ⟨h1, hr1, q1⟩ | ⟨h1, hr1, q1⟩ | ⟨h1, hr1, q1⟩
    · rcases hp2 with ⟨h2, -, -⟩ | ⟨h2, ⟨tj, kj, a1, a2, a3, a4, -⟩, -⟩ | ⟨h2, tj, kj, a1, a2, a3, a4, -⟩
      · subst h2
        exact ⟨1, md, ⟨fof, fke, fst, fnu, fno, fla, fot, rt, fo1, hSk hS1, hB2, vD_map (by rfl) hD, hMI, hmd1, hJk hJ1⟩, hr1, fun h => by rw [hr1] at h; exact absurd h (by decide)⟩
      · exact absurd ⟨⟨tj, a1, a2⟩, ⟨kj, a3, a4⟩⟩ q1
      · exact absurd ⟨⟨tj, a1, a2⟩, ⟨kj, a3, a4⟩⟩ q1
    · obtain ⟨ti, ki, b1, b2, b3, b4, b5⟩ := q1
      rcases hp2 with ⟨h2, hbad, -⟩ | ⟨h2, -, -⟩ | ⟨h2, tj, kj, a1, a2, a3, a4, a5⟩
      · exact absurd ⟨⟨ti, b1, b2⟩, ⟨ki, b3, b4⟩⟩ hbad
      · subst h2
        exact ⟨2, md, ⟨fof, fke, fst, fnu, fno, fla, fot, rt, fo1, hSk hS1, hB2, vD_map (by rfl) hD, hMI, hmd1, hJk hJ1⟩, hr1, fun h => by rw [hr1] at h; exact absurd h (by decide)⟩
      · rw [nI_inj a2 b2 (by omega) (by omega), nI_inj a4 b4 (by omega) (by omega), b5] at a5
        exact nomatch a5
    · obtain ⟨ti, ki, b1, b2, b3, b4, b5⟩ := q1
      rcases hp2 with ⟨h2, hbad, -⟩ | ⟨h2, ⟨tj, kj, a1, a2, a3, a4, a5⟩, -⟩ | ⟨h2, tj, kj, a1, a2, a3, a4, a5⟩
      · exact absurd ⟨⟨ti, b1, b2⟩, ⟨ki, b3, b4⟩⟩ hbad
      · rw [nI_inj a2 b2 (by omega) (by omega), nI_inj a4 b4 (by omega) (by omega), b5] at a5
        exact nomatch a5
      · subst h2
        rw [nI_inj a2 b2 (by omega) (by omega), nI_inj a4 b4 (by omega) (by omega), b5] at a5
        exact ⟨0, md, ⟨fof, fke, fst, fnu, fno, fla, fot, rt, fo1, hSk hS1, hB2, vD_map (by rfl) hD, hMI, hmd1, hJk hJ1⟩, hr1, fun _ => ⟨fo1, hJk hJ1, (hfo h1).trans (Option.some.inj a5)⟩⟩
  refine lv_lstore (lv' := [(6, .long r2), (5, .int r), (4, .int (nI (6 * j))), (3, .ref out), (2, .ref (A 0)), (1, .ref x), (0, .ref b)]) hx hb dL_law_327 hl (by decide) rfl (fun ls hl => ?_)
  refine lv_aload_n hx hb dL_law_329 rfl (lv_at hl 4 rfl) ?_
  obtain ⟨er2, md2, hLI, hE, hV⟩ := hall
  obtain ⟨fof2, fke2, fst2, fnu2, fno2, fla2, fot2, rt2, fo2, hSX2, hP2, hD2, hM2, hm2, hJ2⟩ := id hLI
  refine vp_callSi (W.runV (As := []) (rest := []) ⟨hx, hb, hml, hown, hg⟩ (c_M_thrown l Γ H2 hP2) (cwV 0 hg gL_53 rfl rfl rfl (by decide +kernel) ⟨Nat.le_of_ble_eq_true rfl, Nat.le_of_ble_eq_true rfl⟩) (gP_V hW hS (ci := 2) rfl (hP2 0 _ rfl)) rfl rfl hl.1 rfl (lv_room (Nat.le_of_ble_eq_true rfl)) dL_law_330 ⟨by show 20 + 26 * j + 3 + 0 + 0 ≤ 657075; omega, by show 6000 + 112 * j + 18 + 0 + 0 ≤ 7124880; omega⟩) (fun r4 hr4 => ?_)
  subst hr4
  refine lv_iload hx hb dL_law_333 (lv_at hl 1 rfl) ?_
  refine lv_icmp_eq (tgt := 340) hx hb dL_law_335 (by decide) (fun k1 => ?_) (fun k1 => ?_)
  · refine lv_iload hx hb dL_law_340 (lv_at hl 1 rfl) ?_
    refine lv_if_ne (tgt := 356) hx hb dL_law_342 (by decide) (fun k2 => ?_) (fun k2 => ?_)
    · refine lv_goto (tgt := 667) hx hb dL_law_356 (by decide) ?_
      refine W.widen (k := 20 + 26 * j + 26) (n := 6000 + 112 * j + 112) (by omega) (by omega) ?_
      exact hk H2 locs2 ls r4 md2 hLI (by omega) hS (lv_sub hl [2, 3, 4, 5, 6] rfl)
    · obtain ⟨fo3, hJ3, hV3⟩ := hV k2
      refine lv_aload_n hx hb dL_law_345 rfl (lv_at hl 3 rfl) ?_
      refine lv_iconst (v := 0) hx hb dL_law_346 (by decide) ?_
      refine va_lald (D := Γ.1) (cl := gC) (tys := gT Γ) hx hb hW.1 (p1 hJ3) 0 0 rfl rfl (by unfold vp_in; decide) dL_law_347 ?_
      refine lv_lload hx hb dL_law_348 (lv_at hl 0 rfl) ?_
      refine W.lcmp hx hb dL_law_350 ?_
      refine lv_if_eq (tgt := 356) hx hb dL_law_351 (by decide) (fun k3 => ?_) (fun k3 => ?_)
      · refine lv_goto (tgt := 667) hx hb dL_law_356 (by decide) ?_
        refine W.widen (k := 20 + 26 * j + 26) (n := 6000 + 112 * j + 112) (by omega) (by omega) ?_
        exact hk H2 locs2 ls r4 md2 hLI (by omega) hS (lv_sub hl [2, 3, 4, 5, 6] rfl)
      · exact absurd ((lg_cmp_eq _ _).mpr hV3) k3
  · exact absurd hE.symm k1
set_option maxHeartbeats 4000000 in
set_option maxRecDepth 100000 in
theorem law_stamp {p : Program} {l : Launch} {e : Env} {s : State} {m : MethodId} {below : List Frame} {meth : Method} {c : Code} {b L : Nat} {xs : Nat → Int32} {Γ : gE} {x ro out : Nat} {A : Nat → Nat} (hnt : l.stackTraces = false) (C0 : lw_At p s m meth c b L xs) (hW : PW Γ s) (hgz : gz Γ = s.heap.size) (hZ : ZF Γ x ro out) {j md : Nat} {er : Int32} {H : Heap} {locs : List Loc} {ls : Array Slot} (hL : L ≤ 3072) (hj : 6 * j + 6 ≤ L) (hI : LI Γ H x ro out A er md) (hbz : gb0 Γ ≤ H.size) (hS : va_S (gA Γ) s.heap H locs) (hl : lv_has ls 8 [(4, .int (nI (6 * j))), (3, .ref out), (2, .ref (A 0)), (1, .ref x), (0, .ref b)]) (hk : ∀ (H2 : Heap) (locs2 : List Loc) (ls2 : Array Slot) (er2 : Int32) (md2 : Nat), LI Γ H2 x ro out A er2 md2 → gb0 Γ ≤ H2.size → va_S (gA Γ) s.heap H2 locs2 → lv_has ls2 8 [(4, .int (nI (6 * j))), (3, .ref out), (2, .ref (A 0)), (1, .ref x), (0, .ref b)] → W p l e room_1 s m #[Value.ref b] below meth c H2 locs2 (20 + 26 * j + 26) (6000 + 112 * j + 112) (lw_Z below #[Value.ref b] s) (F0 m 667 ls2 [])) : W p l e room_1 s m #[Value.ref b] below meth c H locs (20 + 26 * j) (6000 + 112 * j) (lw_Z below #[Value.ref b] s) (F0 m 359 ls []) := by
  obtain ⟨hx, hb, hr, hml, hown, hts, hScr, hbl, hlocks, hgv⟩ := C0
  have hown : s.vm.findClass RL = some m.cls := hown
  have hg : ∀ w ∈ gW, w.before #[Value.ref b] s = true := fun w h => hts w (gW_tbl h)
  have hbA : ¬ gA Γ b := by unfold gA; omega
  obtain ⟨fof, fke, fst, fnu, fno, fla, fot, rt, fo, hSX, hP, hD, hMI, hmd1, hJ⟩ := hI
  obtain ⟨z1, z2, z3, z4, z5, z6, z7, z8⟩ := hZ
  have hmd : md ≤ 400 := hSX.2.2.1
  refine lv_aload_n hx hb dL_law_359 rfl (lv_at hl 3 rfl) ?_
  refine lv_aload_n hx hb dL_law_360 rfl (lv_at hl 4 rfl) ?_
  refine lv_iload hx hb dL_law_361 (lv_at hl 0 rfl) ?_
  refine lv_iconst (v := 1) hx hb dL_law_363 (by decide) ?_
  refine lv_iadd hx hb dL_law_364 ?_
  refine lv_topi (fun i365 ei365 => ?_)
  have ei365 : i365 = nI (6 * j + 1) := ei365.trans (nI_add (6 * j) 1)
  subst ei365
  refine va_sld hx hb hScr hbl hbA hS (vp_in_nI (show 6 * j + 1 < L by omega) (by omega)) dL_law_365 ?_
  rw [nI_clamp (show 6 * j + 1 < 2 ^ 31 by omega)]
  refine lv_aload_n hx hb dL_law_366 rfl (lv_at hl 4 rfl) ?_
  refine lv_iload hx hb dL_law_367 (lv_at hl 0 rfl) ?_
  refine lv_iconst (v := 2) hx hb dL_law_369 (by decide) ?_
  refine lv_iadd hx hb dL_law_370 ?_
  refine lv_topi (fun i371 ei371 => ?_)
  have ei371 : i371 = nI (6 * j + 2) := ei371.trans (nI_add (6 * j) 2)
  subst ei371
  refine va_sld hx hb hScr hbl hbA hS (vp_in_nI (show 6 * j + 2 < L by omega) (by omega)) dL_law_371 ?_
  rw [nI_clamp (show 6 * j + 2 < 2 ^ 31 by omega)]
  refine lv_aload_n hx hb dL_law_372 rfl (lv_at hl 1 rfl) ?_
  have hzo : gz Γ ≤ out := by omega
  have hsz : gz Γ ≤ H.size := by have := hS.1; omega
  refine va_calli (vx_runSW (As := [.ref x, .int (xs (6 * j + 1)), .int (xs (6 * j + 2)), .ref out]) (rest := []) ⟨hx, hb, hml, hown, hg⟩ (c_L_stamp l hnt Γ H (t := (xs (6 * j + 1))) (k := (xs (6 * j + 2))) hSX hJ z5 z1 z2 hzo (by omega) (by omega) z8 (by omega) (by omega) hbz) (vx_cwSW 4 hg gL_65 rfl rfl rfl (by decide +kernel) ⟨Nat.le_of_ble_eq_true rfl, Nat.le_of_ble_eq_true rfl⟩) (gP_S hW hS) rfl rfl hl.1 rfl (lv_room (Nat.le_of_ble_eq_true rfl)) dL_law_373 ⟨by show 20 + 26 * j + 3 ≤ 657075; omega, by show 6000 + 112 * j + 18 ≤ 7124880; omega⟩) hS (fun q _ h => by rw [show q = out from h]; exact hzo) (fun q h => h.elim (fun h => by rw [h]; exact hzo) (fun h => Nat.le_trans hsz h)) (fun r u t9 H1 locs1 ht hvm hp hB hz1 hk1 hS => ?_)
  rw [ht] at hB
  have hP1 := wM_kept hP hD hk1 (fun q hq => fun h => by have := hq.1; have := hq.2; omega)
  refine lv_istore (lv' := [(5, .int r), (4, .int (nI (6 * j))), (3, .ref out), (2, .ref (A 0)), (1, .ref x), (0, .ref b)]) hx hb dL_law_376 hl (by decide) rfl (fun ls hl => ?_)
  refine lv_aload_n hx hb dL_law_378 rfl (lv_at hl 3 rfl) ?_
  refine lv_aload_n hx hb dL_law_379 rfl (lv_at hl 5 rfl) ?_
  refine lv_iload hx hb dL_law_380 (lv_at hl 1 rfl) ?_
  refine lv_iconst (v := 1) hx hb dL_law_382 (by decide) ?_
  refine lv_iadd hx hb dL_law_383 ?_
  refine lv_topi (fun i384 ei384 => ?_)
  have ei384 : i384 = nI (6 * j + 1) := ei384.trans (nI_add (6 * j) 1)
  subst ei384
  refine va_sld hx hb hScr hbl hbA hS (vp_in_nI (show 6 * j + 1 < L by omega) (by omega)) dL_law_384 ?_
  rw [nI_clamp (show 6 * j + 1 < 2 ^ 31 by omega)]
  refine lv_aload_n hx hb dL_law_385 rfl (lv_at hl 5 rfl) ?_
  refine lv_iload hx hb dL_law_386 (lv_at hl 1 rfl) ?_
  refine lv_iconst (v := 2) hx hb dL_law_388 (by decide) ?_
  refine lv_iadd hx hb dL_law_389 ?_
  refine lv_topi (fun i390 ei390 => ?_)
  have ei390 : i390 = nI (6 * j + 2) := ei390.trans (nI_add (6 * j) 2)
  subst ei390
  refine va_sld hx hb hScr hbl hbA hS (vp_in_nI (show 6 * j + 2 < L by omega) (by omega)) dL_law_390 ?_
  rw [nI_clamp (show 6 * j + 2 < 2 ^ 31 by omega)]
  have hmz : ∀ q, mA Γ q → gA Γ q := fun q h => by have := h.1; show gz Γ ≤ q; omega
  refine va_calli (va_runV (As := [.int (xs (6 * j + 1)), .int (xs (6 * j + 2))]) (rest := []) ⟨hx, hb, hml, hown, hg⟩ (c_M_stamp l Γ H1 (t := (xs (6 * j + 1))) (k := (xs (6 * j + 2))) hP1 hD (by omega) hmd hMI) (cwV 2 hg gL_67 rfl rfl rfl (by decide +kernel) ⟨Nat.le_of_ble_eq_true rfl, Nat.le_of_ble_eq_true rfl⟩) (gP_V hW hS (ci := 2) rfl (hP1 0 _ rfl)) rfl rfl hl.1 rfl (lv_room (Nat.le_of_ble_eq_true rfl)) dL_law_391 ⟨by show 20 + 26 * j + 3 + 0 ≤ 657075; omega, by show 6000 + 112 * j + 18 + 0 ≤ 7124880; omega⟩) hS (fun q _ h => hmz q h) (fun q h => hmz q h) (fun r2 u2 t8 H2 locs2 ht2 hvm2 hp2 hB2 hz2 hk2 hS => ?_)
  rw [ht2] at hB2
  have hX2 : hX (mA Γ) H1 H2 := ⟨hz2, fun q h1 h2 => hk2 q h1 h2⟩
  have hSk : ∀ {rt9 : Nat → Option Nat} {md9 : Nat} {V9 : Nat → Nat → Option Int64} {S9 : Nat → Nat → Int32}, SX Γ H1 x ro md9 rt9 V9 S9 → SX Γ H2 x ro md9 rt9 V9 S9 := fun h => h.kept hX2 (fun h => by have := h.1; omega) (fun h => by have := h.1; omega) (fun q h => by have := h.2; omega)
  have hJk : ∀ {f9 : Nat → Int64}, oJ Γ H1 out 1 f9 → oJ Γ H2 out 1 f9 := fun h => hX2.at h (fun h => by have := h.2; omega)
  have hall : ∃ er2 md2, LI Γ H2 x ro out A er2 md2 ∧ r = er2 ∧ (r = 0 → ∃ fo3, oJ Γ H2 out 1 fo3 ∧ fo3 (0 : Int32).toNatClampNeg = r2.toInt64) := by
    obtain ⟨u1, val⟩ := u
    obtain ⟨hS1, fo1, hJ1, hfo⟩ := hB
    rcases hp with ⟨h1, hr1, q1⟩ | ⟨h1, hr1, q1⟩ | ⟨h1, hr1, q1⟩
    · rcases hp2 with ⟨h2, -, -⟩ | ⟨h2, tj, kj, a1, a2, a3, a4, -⟩
      · subst h2
        exact ⟨1, md, ⟨fof, fke, fst, fnu, fno, fla, fot, rt, fo1, hSk hS1, hB2, vD_map (by rfl) hD, hMI, hmd1, hJk hJ1⟩, hr1, fun h => by rw [hr1] at h; exact absurd h (by decide)⟩
      · exact absurd ⟨⟨tj, a1, a2⟩, ⟨kj, a3, a4⟩⟩ q1
    · exact q1.elim
    · obtain ⟨ti, ki, b1, b2, b3, b4, b5⟩ := q1
      rcases hp2 with ⟨h2, hbad, -⟩ | ⟨h2, tj, kj, a1, a2, a3, a4, a5⟩
      · exact absurd ⟨⟨ti, b1, b2⟩, ⟨ki, b3, b4⟩⟩ hbad
      · subst h2
        rw [nI_inj a2 b2 (by omega) (by omega), nI_inj a4 b4 (by omega) (by omega)] at a5
        have b5 : val = (mSt fof fke fst ti ki).toInt64 := b5
        exact ⟨0, md, ⟨fof, fke, fst, fnu, fno, fla, fot, rt, fo1, hSk hS1, hB2, vD_map (by rfl) hD, hMI, hmd1, hJk hJ1⟩, hr1, fun _ => ⟨fo1, hJk hJ1, (hfo h1).trans (by rw [b5, a5])⟩⟩
  refine lv_istore (lv' := [(6, .int r2), (5, .int r), (4, .int (nI (6 * j))), (3, .ref out), (2, .ref (A 0)), (1, .ref x), (0, .ref b)]) hx hb dL_law_394 hl (by decide) rfl (fun ls hl => ?_)
  refine lv_aload_n hx hb dL_law_396 rfl (lv_at hl 4 rfl) ?_
  obtain ⟨er2, md2, hLI, hE, hV⟩ := hall
  obtain ⟨fof2, fke2, fst2, fnu2, fno2, fla2, fot2, rt2, fo2, hSX2, hP2, hD2, hM2, hm2, hJ2⟩ := id hLI
  refine vp_callSi (W.runV (As := []) (rest := []) ⟨hx, hb, hml, hown, hg⟩ (c_M_thrown l Γ H2 hP2) (cwV 0 hg gL_53 rfl rfl rfl (by decide +kernel) ⟨Nat.le_of_ble_eq_true rfl, Nat.le_of_ble_eq_true rfl⟩) (gP_V hW hS (ci := 2) rfl (hP2 0 _ rfl)) rfl rfl hl.1 rfl (lv_room (Nat.le_of_ble_eq_true rfl)) dL_law_397 ⟨by show 20 + 26 * j + 3 + 0 + 0 ≤ 657075; omega, by show 6000 + 112 * j + 18 + 0 + 0 ≤ 7124880; omega⟩) (fun r4 hr4 => ?_)
  subst hr4
  refine lv_iload hx hb dL_law_400 (lv_at hl 1 rfl) ?_
  refine lv_icmp_eq (tgt := 407) hx hb dL_law_402 (by decide) (fun k1 => ?_) (fun k1 => ?_)
  · refine lv_iload hx hb dL_law_407 (lv_at hl 1 rfl) ?_
    refine lv_if_ne (tgt := 424) hx hb dL_law_409 (by decide) (fun k2 => ?_) (fun k2 => ?_)
    · refine lv_goto (tgt := 667) hx hb dL_law_424 (by decide) ?_
      refine W.widen (k := 20 + 26 * j + 26) (n := 6000 + 112 * j + 112) (by omega) (by omega) ?_
      exact hk H2 locs2 ls r4 md2 hLI (by omega) hS (lv_sub hl [2, 3, 4, 5, 6] rfl)
    · obtain ⟨fo3, hJ3, hV3⟩ := hV k2
      refine lv_aload_n hx hb dL_law_412 rfl (lv_at hl 3 rfl) ?_
      refine lv_iconst (v := 0) hx hb dL_law_413 (by decide) ?_
      refine va_lald (D := Γ.1) (cl := gC) (tys := gT Γ) hx hb hW.1 (p1 hJ3) 0 0 rfl rfl (by unfold vp_in; decide) dL_law_414 ?_
      refine lv_iload hx hb dL_law_415 (lv_at hl 0 rfl) ?_
      refine lv_i2l (v := r2.toInt64) hx hb dL_law_417 rfl ?_
      refine W.lcmp hx hb dL_law_418 ?_
      refine lv_if_eq (tgt := 424) hx hb dL_law_419 (by decide) (fun k3 => ?_) (fun k3 => ?_)
      · refine lv_goto (tgt := 667) hx hb dL_law_424 (by decide) ?_
        refine W.widen (k := 20 + 26 * j + 26) (n := 6000 + 112 * j + 112) (by omega) (by omega) ?_
        exact hk H2 locs2 ls r4 md2 hLI (by omega) hS (lv_sub hl [2, 3, 4, 5, 6] rfl)
      · exact absurd ((lg_cmp_eq _ _).mpr hV3) k3
  · exact absurd hE.symm k1
set_option maxHeartbeats 4000000 in
set_option maxRecDepth 100000 in
theorem law_part {p : Program} {l : Launch} {e : Env} {s : State} {m : MethodId} {below : List Frame} {meth : Method} {c : Code} {b L : Nat} {xs : Nat → Int32} {Γ : gE} {x ro out : Nat} {A : Nat → Nat} (hnt : l.stackTraces = false) (C0 : lw_At p s m meth c b L xs) (hW : PW Γ s) (hgz : gz Γ = s.heap.size) (hZ : ZF Γ x ro out) {j md : Nat} {er : Int32} {H : Heap} {locs : List Loc} {ls : Array Slot} (hL : L ≤ 3072) (hj : 6 * j + 6 ≤ L) (hI : LI Γ H x ro out A er md) (hbz : gb0 Γ ≤ H.size) (hS : va_S (gA Γ) s.heap H locs) (hl : lv_has ls 8 [(4, .int (nI (6 * j))), (3, .ref out), (2, .ref (A 0)), (1, .ref x), (0, .ref b)]) (hk : ∀ (H2 : Heap) (locs2 : List Loc) (ls2 : Array Slot) (er2 : Int32) (md2 : Nat), LI Γ H2 x ro out A er2 md2 → gb0 Γ ≤ H2.size → va_S (gA Γ) s.heap H2 locs2 → lv_has ls2 8 [(4, .int (nI (6 * j))), (3, .ref out), (2, .ref (A 0)), (1, .ref x), (0, .ref b)] → W p l e room_1 s m #[Value.ref b] below meth c H2 locs2 (20 + 26 * j + 26) (6000 + 112 * j + 112) (lw_Z below #[Value.ref b] s) (F0 m 667 ls2 [])) : W p l e room_1 s m #[Value.ref b] below meth c H locs (20 + 26 * j) (6000 + 112 * j) (lw_Z below #[Value.ref b] s) (F0 m 427 ls []) := by
  obtain ⟨hx, hb, hr, hml, hown, hts, hScr, hbl, hlocks, hgv⟩ := C0
  have hown : s.vm.findClass RL = some m.cls := hown
  have hg : ∀ w ∈ gW, w.before #[Value.ref b] s = true := fun w h => hts w (gW_tbl h)
  have hbA : ¬ gA Γ b := by unfold gA; omega
  obtain ⟨fof, fke, fst, fnu, fno, fla, fot, rt, fo, hSX, hP, hD, hMI, hmd1, hJ⟩ := hI
  obtain ⟨z1, z2, z3, z4, z5, z6, z7, z8⟩ := hZ
  have hmd : md ≤ 400 := hSX.2.2.1
  refine lv_aload_n hx hb dL_law_427 rfl (lv_at hl 3 rfl) ?_
  refine lv_aload_n hx hb dL_law_428 rfl (lv_at hl 4 rfl) ?_
  refine lv_iload hx hb dL_law_429 (lv_at hl 0 rfl) ?_
  refine lv_iconst (v := 1) hx hb dL_law_431 (by decide) ?_
  refine lv_iadd hx hb dL_law_432 ?_
  refine lv_topi (fun i433 ei433 => ?_)
  have ei433 : i433 = nI (6 * j + 1) := ei433.trans (nI_add (6 * j) 1)
  subst ei433
  refine va_sld hx hb hScr hbl hbA hS (vp_in_nI (show 6 * j + 1 < L by omega) (by omega)) dL_law_433 ?_
  rw [nI_clamp (show 6 * j + 1 < 2 ^ 31 by omega)]
  refine lv_aload_n hx hb dL_law_434 rfl (lv_at hl 4 rfl) ?_
  refine lv_iload hx hb dL_law_435 (lv_at hl 0 rfl) ?_
  refine lv_iconst (v := 2) hx hb dL_law_437 (by decide) ?_
  refine lv_iadd hx hb dL_law_438 ?_
  refine lv_topi (fun i439 ei439 => ?_)
  have ei439 : i439 = nI (6 * j + 2) := ei439.trans (nI_add (6 * j) 2)
  subst ei439
  refine va_sld hx hb hScr hbl hbA hS (vp_in_nI (show 6 * j + 2 < L by omega) (by omega)) dL_law_439 ?_
  rw [nI_clamp (show 6 * j + 2 < 2 ^ 31 by omega)]
  refine lv_aload_n hx hb dL_law_440 rfl (lv_at hl 4 rfl) ?_
  refine lv_iload hx hb dL_law_441 (lv_at hl 0 rfl) ?_
  refine lv_iconst (v := 3) hx hb dL_law_443 (by decide) ?_
  refine lv_iadd hx hb dL_law_444 ?_
  refine lv_topi (fun i445 ei445 => ?_)
  have ei445 : i445 = nI (6 * j + 3) := ei445.trans (nI_add (6 * j) 3)
  subst ei445
  refine va_sld hx hb hScr hbl hbA hS (vp_in_nI (show 6 * j + 3 < L by omega) (by omega)) dL_law_445 ?_
  rw [nI_clamp (show 6 * j + 3 < 2 ^ 31 by omega)]
  refine lv_aload_n hx hb dL_law_446 rfl (lv_at hl 4 rfl) ?_
  refine lv_iload hx hb dL_law_447 (lv_at hl 0 rfl) ?_
  refine lv_iconst (v := 4) hx hb dL_law_449 (by decide) ?_
  refine lv_iadd hx hb dL_law_450 ?_
  refine lv_topi (fun i451 ei451 => ?_)
  have ei451 : i451 = nI (6 * j + 4) := ei451.trans (nI_add (6 * j) 4)
  subst ei451
  refine va_sld hx hb hScr hbl hbA hS (vp_in_nI (show 6 * j + 4 < L by omega) (by omega)) dL_law_451 ?_
  rw [nI_clamp (show 6 * j + 4 < 2 ^ 31 by omega)]
  refine lv_aload_n hx hb dL_law_452 rfl (lv_at hl 1 rfl) ?_
  have hzo : gz Γ ≤ out := by omega
  have hsz : gz Γ ≤ H.size := by have := hS.1; omega
  refine va_calli (vx_runSW (As := [.ref x, .int (xs (6 * j + 1)), .int (xs (6 * j + 2)), .int (xs (6 * j + 3)), .int (xs (6 * j + 4)), .ref out]) (rest := []) ⟨hx, hb, hml, hown, hg⟩ (c_L_part l hnt Γ H (t := (xs (6 * j + 1))) (lo := (xs (6 * j + 2))) (hi := (xs (6 * j + 3))) (wh := (xs (6 * j + 4))) hSX hJ z5 z1 z2 hzo (by omega) (by omega) z8 (by omega) (by omega) hbz) (vx_cwSW 6 hg gL_68 rfl rfl rfl (by decide +kernel) ⟨Nat.le_of_ble_eq_true rfl, Nat.le_of_ble_eq_true rfl⟩) (gP_S hW hS) rfl rfl hl.1 rfl (lv_room (Nat.le_of_ble_eq_true rfl)) dL_law_453 ⟨by show 20 + 26 * j + 4 ≤ 657075; omega, by show 6000 + 112 * j + 24 ≤ 7124880; omega⟩) hS (fun q _ h => by rw [show q = out from h]; exact hzo) (fun q h => h.elim (fun h => by rw [h]; exact hzo) (fun h => Nat.le_trans hsz h)) (fun r u t9 H1 locs1 ht hvm hp hB hz1 hk1 hS => ?_)
  rw [ht] at hB
  have hP1 := wM_kept hP hD hk1 (fun q hq => fun h => by have := hq.1; have := hq.2; omega)
  refine lv_istore (lv' := [(5, .int r), (4, .int (nI (6 * j))), (3, .ref out), (2, .ref (A 0)), (1, .ref x), (0, .ref b)]) hx hb dL_law_456 hl (by decide) rfl (fun ls hl => ?_)
  refine lv_aload_n hx hb dL_law_458 rfl (lv_at hl 3 rfl) ?_
  refine lv_aload_n hx hb dL_law_459 rfl (lv_at hl 5 rfl) ?_
  refine lv_iload hx hb dL_law_460 (lv_at hl 1 rfl) ?_
  refine lv_iconst (v := 1) hx hb dL_law_462 (by decide) ?_
  refine lv_iadd hx hb dL_law_463 ?_
  refine lv_topi (fun i464 ei464 => ?_)
  have ei464 : i464 = nI (6 * j + 1) := ei464.trans (nI_add (6 * j) 1)
  subst ei464
  refine va_sld hx hb hScr hbl hbA hS (vp_in_nI (show 6 * j + 1 < L by omega) (by omega)) dL_law_464 ?_
  rw [nI_clamp (show 6 * j + 1 < 2 ^ 31 by omega)]
  refine lv_aload_n hx hb dL_law_465 rfl (lv_at hl 5 rfl) ?_
  refine lv_iload hx hb dL_law_466 (lv_at hl 1 rfl) ?_
  refine lv_iconst (v := 2) hx hb dL_law_468 (by decide) ?_
  refine lv_iadd hx hb dL_law_469 ?_
  refine lv_topi (fun i470 ei470 => ?_)
  have ei470 : i470 = nI (6 * j + 2) := ei470.trans (nI_add (6 * j) 2)
  subst ei470
  refine va_sld hx hb hScr hbl hbA hS (vp_in_nI (show 6 * j + 2 < L by omega) (by omega)) dL_law_470 ?_
  rw [nI_clamp (show 6 * j + 2 < 2 ^ 31 by omega)]
  refine lv_aload_n hx hb dL_law_471 rfl (lv_at hl 5 rfl) ?_
  refine lv_iload hx hb dL_law_472 (lv_at hl 1 rfl) ?_
  refine lv_iconst (v := 3) hx hb dL_law_474 (by decide) ?_
  refine lv_iadd hx hb dL_law_475 ?_
  refine lv_topi (fun i476 ei476 => ?_)
  have ei476 : i476 = nI (6 * j + 3) := ei476.trans (nI_add (6 * j) 3)
  subst ei476
  refine va_sld hx hb hScr hbl hbA hS (vp_in_nI (show 6 * j + 3 < L by omega) (by omega)) dL_law_476 ?_
  rw [nI_clamp (show 6 * j + 3 < 2 ^ 31 by omega)]
  refine lv_aload_n hx hb dL_law_477 rfl (lv_at hl 5 rfl) ?_
  refine lv_iload hx hb dL_law_478 (lv_at hl 1 rfl) ?_
  refine lv_iconst (v := 4) hx hb dL_law_480 (by decide) ?_
  refine lv_iadd hx hb dL_law_481 ?_
  refine lv_topi (fun i482 ei482 => ?_)
  have ei482 : i482 = nI (6 * j + 4) := ei482.trans (nI_add (6 * j) 4)
  subst ei482
  refine va_sld hx hb hScr hbl hbA hS (vp_in_nI (show 6 * j + 4 < L by omega) (by omega)) dL_law_482 ?_
  rw [nI_clamp (show 6 * j + 4 < 2 ^ 31 by omega)]
  have hmz : ∀ q, mA Γ q → gA Γ q := fun q h => by have := h.1; show gz Γ ≤ q; omega
  refine va_calll (va_runV (As := [.int (xs (6 * j + 1)), .int (xs (6 * j + 2)), .int (xs (6 * j + 3)), .int (xs (6 * j + 4))]) (rest := []) ⟨hx, hb, hml, hown, hg⟩ (c_M_part l Γ H1 (t := (xs (6 * j + 1))) (lo := (xs (6 * j + 2))) (hi := (xs (6 * j + 3))) (wh := (xs (6 * j + 4))) hP1 hD (by omega) hmd hMI) (cwV 4 hg gL_71 rfl rfl rfl (by decide +kernel) ⟨Nat.le_of_ble_eq_true rfl, Nat.le_of_ble_eq_true rfl⟩) (gP_V hW hS (ci := 2) rfl (hP1 0 _ rfl)) rfl rfl hl.1 rfl (lv_room (Nat.le_of_ble_eq_true rfl)) dL_law_483 ⟨by show 20 + 26 * j + 4 + 0 ≤ 657075; omega, by show 6000 + 112 * j + 24 + 0 ≤ 7124880; omega⟩) hS (fun q _ h => hmz q h) (fun q h => hmz q h) (fun r2 u2 t8 H2 locs2 ht2 hvm2 hp2 hB2 hz2 hk2 hS => ?_)
  rw [ht2] at hB2
  have hX2 : hX (mA Γ) H1 H2 := ⟨hz2, fun q h1 h2 => hk2 q h1 h2⟩
  have hSk : ∀ {rt9 : Nat → Option Nat} {md9 : Nat} {V9 : Nat → Nat → Option Int64} {S9 : Nat → Nat → Int32}, SX Γ H1 x ro md9 rt9 V9 S9 → SX Γ H2 x ro md9 rt9 V9 S9 := fun h => h.kept hX2 (fun h => by have := h.1; omega) (fun h => by have := h.1; omega) (fun q h => by have := h.2; omega)
  have hJk : ∀ {f9 : Nat → Int64}, oJ Γ H1 out 1 f9 → oJ Γ H2 out 1 f9 := fun h => hX2.at h (fun h => by have := h.2; omega)
  have hall : ∃ er2 md2, LI Γ H2 x ro out A er2 md2 ∧ r = er2 ∧ (r = 0 → ∃ fo3, oJ Γ H2 out 1 fo3 ∧ fo3 (0 : Int32).toNatClampNeg = r2) := by
    obtain ⟨u1, val⟩ := u
    obtain ⟨hS1, fo1, hJ1, hfo⟩ := hB
    rcases hp with ⟨h1, hr1, q1⟩ | ⟨h1, hr1, q1⟩ | ⟨h1, hr1, q1⟩
    · obtain ⟨fla1, fot1, hB2⟩ := hB2
      rcases hp2 with ⟨h2, -, -⟩ | ⟨h2, tj, lj, hj9, wj, a1, a2, a3, a4, a5, a6, a7, a8, a9, -⟩
      · subst h2
        exact ⟨1, md, ⟨fof, fke, fst, fnu, fno, fla1, fot1, rt, fo1, hSk hS1, hB2, vD_map (by rfl) hD, hMI, hmd1, hJk hJ1⟩, hr1, fun h => by rw [hr1] at h; exact absurd h (by decide)⟩
      · exact absurd ⟨⟨tj, a1, a2⟩, ⟨lj, a3, a4⟩, ⟨hj9, a5, a6⟩, by rw [a4, a6]; exact nI_le a9 (by omega), ⟨wj, a7, a8⟩⟩ q1
    · exact q1.elim
    · obtain ⟨fla1, fot1, hB2⟩ := hB2
      obtain ⟨ti, li, hi9, wi, b1, b2, b3, b4, b5, b6, b7, b8, b9, b10⟩ := q1
      rcases hp2 with ⟨h2, hbad, -⟩ | ⟨h2, tj, lj, hj9, wj, a1, a2, a3, a4, a5, a6, a7, a8, a9, a10⟩
      · exact absurd ⟨⟨ti, b1, b2⟩, ⟨li, b3, b4⟩, ⟨hi9, b5, b6⟩, by rw [b4, b6]; exact nI_le b9 (by omega), ⟨wi, b7, b8⟩⟩ hbad
      · subst h2
        rw [nI_inj a2 b2 (by omega) (by omega), nI_inj a4 b4 (by omega) (by omega), nI_inj a6 b6 (by omega) (by omega), nI_inj a8 b8 (by omega) (by omega)] at a10
        have b10 : val = ag (mV fof fke fnu fno ti) (mSt fof fke fst ti) wi li (hi9 + 1 - li) := b10
        exact ⟨0, md, ⟨fof, fke, fst, fnu, fno, fla1, fot1, rt, fo1, hSk hS1, hB2, vD_map (by rfl) hD, hMI, hmd1, hJk hJ1⟩, hr1, fun _ => ⟨fo1, hJk hJ1, (hfo h1).trans (by rw [b10, a10])⟩⟩
  refine lv_lstore (lv' := [(6, .long r2), (5, .int r), (4, .int (nI (6 * j))), (3, .ref out), (2, .ref (A 0)), (1, .ref x), (0, .ref b)]) hx hb dL_law_486 hl (by decide) rfl (fun ls hl => ?_)
  refine lv_aload_n hx hb dL_law_488 rfl (lv_at hl 4 rfl) ?_
  obtain ⟨er2, md2, hLI, hE, hV⟩ := hall
  obtain ⟨fof2, fke2, fst2, fnu2, fno2, fla2, fot2, rt2, fo2, hSX2, hP2, hD2, hM2, hm2, hJ2⟩ := id hLI
  refine vp_callSi (W.runV (As := []) (rest := []) ⟨hx, hb, hml, hown, hg⟩ (c_M_thrown l Γ H2 hP2) (cwV 0 hg gL_53 rfl rfl rfl (by decide +kernel) ⟨Nat.le_of_ble_eq_true rfl, Nat.le_of_ble_eq_true rfl⟩) (gP_V hW hS (ci := 2) rfl (hP2 0 _ rfl)) rfl rfl hl.1 rfl (lv_room (Nat.le_of_ble_eq_true rfl)) dL_law_489 ⟨by show 20 + 26 * j + 4 + 0 + 0 ≤ 657075; omega, by show 6000 + 112 * j + 24 + 0 + 0 ≤ 7124880; omega⟩) (fun r4 hr4 => ?_)
  subst hr4
  refine lv_iload hx hb dL_law_492 (lv_at hl 1 rfl) ?_
  refine lv_icmp_eq (tgt := 499) hx hb dL_law_494 (by decide) (fun k1 => ?_) (fun k1 => ?_)
  · refine lv_iload hx hb dL_law_499 (lv_at hl 1 rfl) ?_
    refine lv_if_ne (tgt := 515) hx hb dL_law_501 (by decide) (fun k2 => ?_) (fun k2 => ?_)
    · refine lv_goto (tgt := 667) hx hb dL_law_515 (by decide) ?_
      refine W.widen (k := 20 + 26 * j + 26) (n := 6000 + 112 * j + 112) (by omega) (by omega) ?_
      exact hk H2 locs2 ls r4 md2 hLI (by omega) hS (lv_sub hl [2, 3, 4, 5, 6] rfl)
    · obtain ⟨fo3, hJ3, hV3⟩ := hV k2
      refine lv_aload_n hx hb dL_law_504 rfl (lv_at hl 3 rfl) ?_
      refine lv_iconst (v := 0) hx hb dL_law_505 (by decide) ?_
      refine va_lald (D := Γ.1) (cl := gC) (tys := gT Γ) hx hb hW.1 (p1 hJ3) 0 0 rfl rfl (by unfold vp_in; decide) dL_law_506 ?_
      refine lv_lload hx hb dL_law_507 (lv_at hl 0 rfl) ?_
      refine W.lcmp hx hb dL_law_509 ?_
      refine lv_if_eq (tgt := 515) hx hb dL_law_510 (by decide) (fun k3 => ?_) (fun k3 => ?_)
      · refine lv_goto (tgt := 667) hx hb dL_law_515 (by decide) ?_
        refine W.widen (k := 20 + 26 * j + 26) (n := 6000 + 112 * j + 112) (by omega) (by omega) ?_
        exact hk H2 locs2 ls r4 md2 hLI (by omega) hS (lv_sub hl [2, 3, 4, 5, 6] rfl)
      · exact absurd ((lg_cmp_eq _ _).mpr hV3) k3
  · exact absurd hE.symm k1
set_option maxHeartbeats 4000000 in
set_option maxRecDepth 100000 in
theorem law_at {p : Program} {l : Launch} {e : Env} {s : State} {m : MethodId} {below : List Frame} {meth : Method} {c : Code} {b L : Nat} {xs : Nat → Int32} {Γ : gE} {x ro out : Nat} {A : Nat → Nat} (hnt : l.stackTraces = false) (C0 : lw_At p s m meth c b L xs) (hW : PW Γ s) (hgz : gz Γ = s.heap.size) (hZ : ZF Γ x ro out) {j md : Nat} {er : Int32} {H : Heap} {locs : List Loc} {ls : Array Slot} (hL : L ≤ 3072) (hj : 6 * j + 6 ≤ L) (hI : LI Γ H x ro out A er md) (hbz : gb0 Γ ≤ H.size) (hS : va_S (gA Γ) s.heap H locs) (hl : lv_has ls 8 [(4, .int (nI (6 * j))), (3, .ref out), (2, .ref (A 0)), (1, .ref x), (0, .ref b)]) (hk : ∀ (H2 : Heap) (locs2 : List Loc) (ls2 : Array Slot) (er2 : Int32) (md2 : Nat), LI Γ H2 x ro out A er2 md2 → gb0 Γ ≤ H2.size → va_S (gA Γ) s.heap H2 locs2 → lv_has ls2 8 [(4, .int (nI (6 * j))), (3, .ref out), (2, .ref (A 0)), (1, .ref x), (0, .ref b)] → W p l e room_1 s m #[Value.ref b] below meth c H2 locs2 (20 + 26 * j + 26) (6000 + 112 * j + 112) (lw_Z below #[Value.ref b] s) (F0 m 667 ls2 [])) : W p l e room_1 s m #[Value.ref b] below meth c H locs (20 + 26 * j) (6000 + 112 * j) (lw_Z below #[Value.ref b] s) (F0 m 518 ls []) := by
  obtain ⟨hx, hb, hr, hml, hown, hts, hScr, hbl, hlocks, hgv⟩ := C0
  have hown : s.vm.findClass RL = some m.cls := hown
  have hg : ∀ w ∈ gW, w.before #[Value.ref b] s = true := fun w h => hts w (gW_tbl h)
  have hbA : ¬ gA Γ b := by unfold gA; omega
  obtain ⟨fof, fke, fst, fnu, fno, fla, fot, rt, fo, hSX, hP, hD, hMI, hmd1, hJ⟩ := hI
  obtain ⟨z1, z2, z3, z4, z5, z6, z7, z8⟩ := hZ
  have hmd : md ≤ 400 := hSX.2.2.1
  refine lv_aload_n hx hb dL_law_518 rfl (lv_at hl 3 rfl) ?_
  refine lv_aload_n hx hb dL_law_519 rfl (lv_at hl 4 rfl) ?_
  refine lv_iload hx hb dL_law_520 (lv_at hl 0 rfl) ?_
  refine lv_iconst (v := 1) hx hb dL_law_522 (by decide) ?_
  refine lv_iadd hx hb dL_law_523 ?_
  refine lv_topi (fun i524 ei524 => ?_)
  have ei524 : i524 = nI (6 * j + 1) := ei524.trans (nI_add (6 * j) 1)
  subst ei524
  refine va_sld hx hb hScr hbl hbA hS (vp_in_nI (show 6 * j + 1 < L by omega) (by omega)) dL_law_524 ?_
  rw [nI_clamp (show 6 * j + 1 < 2 ^ 31 by omega)]
  refine lv_aload_n hx hb dL_law_525 rfl (lv_at hl 4 rfl) ?_
  refine lv_iload hx hb dL_law_526 (lv_at hl 0 rfl) ?_
  refine lv_iconst (v := 2) hx hb dL_law_528 (by decide) ?_
  refine lv_iadd hx hb dL_law_529 ?_
  refine lv_topi (fun i530 ei530 => ?_)
  have ei530 : i530 = nI (6 * j + 2) := ei530.trans (nI_add (6 * j) 2)
  subst ei530
  refine va_sld hx hb hScr hbl hbA hS (vp_in_nI (show 6 * j + 2 < L by omega) (by omega)) dL_law_530 ?_
  rw [nI_clamp (show 6 * j + 2 < 2 ^ 31 by omega)]
  refine lv_aload_n hx hb dL_law_531 rfl (lv_at hl 1 rfl) ?_
  have hzo : gz Γ ≤ out := by omega
  have hsz : gz Γ ≤ H.size := by have := hS.1; omega
  refine va_calli (vx_runSW (As := [.ref x, .int (xs (6 * j + 1)), .int (xs (6 * j + 2)), .ref out]) (rest := []) ⟨hx, hb, hml, hown, hg⟩ (c_L_at l hnt Γ H (t := (xs (6 * j + 1))) (k := (xs (6 * j + 2))) hSX hJ z5 z1 z2 hzo (by omega) (by omega) z8 (by omega) (by omega) hbz) (vx_cwSW 4 hg gL_72 rfl rfl rfl (by decide +kernel) ⟨Nat.le_of_ble_eq_true rfl, Nat.le_of_ble_eq_true rfl⟩) (gP_S hW hS) rfl rfl hl.1 rfl (lv_room (Nat.le_of_ble_eq_true rfl)) dL_law_532 ⟨by show 20 + 26 * j + 2 ≤ 657075; omega, by show 6000 + 112 * j + 12 ≤ 7124880; omega⟩) hS (fun q _ h => by rw [show q = out from h]; exact hzo) (fun q h => h.elim (fun h => by rw [h]; exact hzo) (fun h => Nat.le_trans hsz h)) (fun r u t9 H1 locs1 ht hvm hp hB hz1 hk1 hS => ?_)
  rw [ht] at hB
  have hP1 := wM_kept hP hD hk1 (fun q hq => fun h => by have := hq.1; have := hq.2; omega)
  refine lv_istore (lv' := [(5, .int r), (4, .int (nI (6 * j))), (3, .ref out), (2, .ref (A 0)), (1, .ref x), (0, .ref b)]) hx hb dL_law_535 hl (by decide) rfl (fun ls hl => ?_)
  refine lv_aload_n hx hb dL_law_537 rfl (lv_at hl 3 rfl) ?_
  refine lv_aload_n hx hb dL_law_538 rfl (lv_at hl 5 rfl) ?_
  refine lv_iload hx hb dL_law_539 (lv_at hl 1 rfl) ?_
  refine lv_iconst (v := 1) hx hb dL_law_541 (by decide) ?_
  refine lv_iadd hx hb dL_law_542 ?_
  refine lv_topi (fun i543 ei543 => ?_)
  have ei543 : i543 = nI (6 * j + 1) := ei543.trans (nI_add (6 * j) 1)
  subst ei543
  refine va_sld hx hb hScr hbl hbA hS (vp_in_nI (show 6 * j + 1 < L by omega) (by omega)) dL_law_543 ?_
  rw [nI_clamp (show 6 * j + 1 < 2 ^ 31 by omega)]
  refine lv_aload_n hx hb dL_law_544 rfl (lv_at hl 5 rfl) ?_
  refine lv_iload hx hb dL_law_545 (lv_at hl 1 rfl) ?_
  refine lv_iconst (v := 2) hx hb dL_law_547 (by decide) ?_
  refine lv_iadd hx hb dL_law_548 ?_
  refine lv_topi (fun i549 ei549 => ?_)
  have ei549 : i549 = nI (6 * j + 2) := ei549.trans (nI_add (6 * j) 2)
  subst ei549
  refine va_sld hx hb hScr hbl hbA hS (vp_in_nI (show 6 * j + 2 < L by omega) (by omega)) dL_law_549 ?_
  rw [nI_clamp (show 6 * j + 2 < 2 ^ 31 by omega)]
  have hmz : ∀ q, mA Γ q → gA Γ q := fun q h => by have := h.1; show gz Γ ≤ q; omega
  refine va_calli (va_runV (As := [.int (xs (6 * j + 1)), .int (xs (6 * j + 2))]) (rest := []) ⟨hx, hb, hml, hown, hg⟩ (c_M_at l Γ H1 (t := (xs (6 * j + 1))) (n := (xs (6 * j + 2))) hP1 hD (by omega) hmd hMI) (cwV 2 hg gL_74 rfl rfl rfl (by decide +kernel) ⟨Nat.le_of_ble_eq_true rfl, Nat.le_of_ble_eq_true rfl⟩) (gP_V hW hS (ci := 2) rfl (hP1 0 _ rfl)) rfl rfl hl.1 rfl (lv_room (Nat.le_of_ble_eq_true rfl)) dL_law_550 ⟨by show 20 + 26 * j + 2 + 0 ≤ 657075; omega, by show 6000 + 112 * j + 12 + 0 ≤ 7124880; omega⟩) hS (fun q _ h => hmz q h) (fun q h => hmz q h) (fun r2 u2 t8 H2 locs2 ht2 hvm2 hp2 hB2 hz2 hk2 hS => ?_)
  rw [ht2] at hB2
  have hX2 : hX (mA Γ) H1 H2 := ⟨hz2, fun q h1 h2 => hk2 q h1 h2⟩
  have hSk : ∀ {rt9 : Nat → Option Nat} {md9 : Nat} {V9 : Nat → Nat → Option Int64} {S9 : Nat → Nat → Int32}, SX Γ H1 x ro md9 rt9 V9 S9 → SX Γ H2 x ro md9 rt9 V9 S9 := fun h => h.kept hX2 (fun h => by have := h.1; omega) (fun h => by have := h.1; omega) (fun q h => by have := h.2; omega)
  have hJk : ∀ {f9 : Nat → Int64}, oJ Γ H1 out 1 f9 → oJ Γ H2 out 1 f9 := fun h => hX2.at h (fun h => by have := h.2; omega)
  have hall : ∃ er2 md2, LI Γ H2 x ro out A er2 md2 ∧ r = er2 ∧ (r = 0 → ∃ fo3, oJ Γ H2 out 1 fo3 ∧ fo3 (0 : Int32).toNatClampNeg = r2.toInt64) := by
    obtain ⟨u1, val⟩ := u
    obtain ⟨hS1, fo1, hJ1, hfo⟩ := hB
    rcases hp with ⟨h1, hr1, q1⟩ | ⟨h1, hr1, q1⟩ | ⟨h1, hr1, q1⟩
    · obtain ⟨fla1, fot1, hB2⟩ := hB2
      rcases hp2 with ⟨h2, -, -⟩ | ⟨h2, ⟨tj, a1, a2, -⟩, -⟩ | ⟨h2, tj, K, a1, a2, -⟩
      · subst h2
        exact ⟨1, md, ⟨fof, fke, fst, fnu, fno, fla1, fot1, rt, fo1, hSk hS1, hB2, vD_map (by rfl) hD, hMI, hmd1, hJk hJ1⟩, hr1, fun h => by rw [hr1] at h; exact absurd h (by decide)⟩
      · exact absurd ⟨tj, a1, a2⟩ q1
      · exact absurd ⟨tj, a1, a2⟩ q1
    · obtain ⟨fla1, fot1, hB2⟩ := hB2
      obtain ⟨ti, b1, b2, b3⟩ := q1
      rcases hp2 with ⟨h2, hbad, -⟩ | ⟨h2, -, -⟩ | ⟨h2, tj, K, a1, a2, a3, a4, a5, a6⟩
      · exact absurd ⟨ti, b1, b2⟩ hbad
      · subst h2
        exact ⟨2, md, ⟨fof, fke, fst, fnu, fno, fla1, fot1, rt, fo1, hSk hS1, hB2, vD_map (by rfl) hD, hMI, hmd1, hJk hJ1⟩, hr1, fun h => by rw [hr1] at h; exact absurd h (by decide)⟩
      · rw [nI_inj a2 b2 (by omega) (by omega)] at a5 a6
        exact absurd ⟨_, cnt_lt a3 a5, a6⟩ b3
    · obtain ⟨fla1, fot1, hB2⟩ := hB2
      obtain ⟨ti, K9, b1, b2, b3, b4, b5, b6⟩ := q1
      rcases hp2 with ⟨h2, hbad, -⟩ | ⟨h2, ⟨tj, a1, a2, a3⟩, -⟩ | ⟨h2, tj, K, a1, a2, a3, a4, a5, a6⟩
      · exact absurd ⟨ti, b1, b2⟩ hbad
      · rw [nI_inj a2 b2 (by omega) (by omega)] at a3
        exact absurd ⟨_, cnt_lt b3 b5, b6⟩ a3
      · subst h2
        rw [nI_inj a2 b2 (by omega) (by omega)] at a5 a6
        have hc1 := cnt_lt a3 a5
        have hc2 := cnt_lt b3 b5
        have hc3 := cnt_le (mV fof fke fnu fno ti) 0 1024
        have eK : K = K9 := cnt_inj a5 b5 ((nI_eq (by omega) (by omega)).mp (a6.symm.trans b6))
        have b4 : val = (nI K9).toInt64 := b4
        exact ⟨0, md, ⟨fof, fke, fst, fnu, fno, fla1, fot1, rt, fo1, hSk hS1, hB2, vD_map (by rfl) hD, hMI, hmd1, hJk hJ1⟩, hr1, fun _ => ⟨fo1, hJk hJ1, (hfo h1).trans (by rw [b4, a4, eK])⟩⟩
  refine lv_istore (lv' := [(6, .int r2), (5, .int r), (4, .int (nI (6 * j))), (3, .ref out), (2, .ref (A 0)), (1, .ref x), (0, .ref b)]) hx hb dL_law_553 hl (by decide) rfl (fun ls hl => ?_)
  refine lv_aload_n hx hb dL_law_555 rfl (lv_at hl 4 rfl) ?_
  obtain ⟨er2, md2, hLI, hE, hV⟩ := hall
  obtain ⟨fof2, fke2, fst2, fnu2, fno2, fla2, fot2, rt2, fo2, hSX2, hP2, hD2, hM2, hm2, hJ2⟩ := id hLI
  refine vp_callSi (W.runV (As := []) (rest := []) ⟨hx, hb, hml, hown, hg⟩ (c_M_thrown l Γ H2 hP2) (cwV 0 hg gL_53 rfl rfl rfl (by decide +kernel) ⟨Nat.le_of_ble_eq_true rfl, Nat.le_of_ble_eq_true rfl⟩) (gP_V hW hS (ci := 2) rfl (hP2 0 _ rfl)) rfl rfl hl.1 rfl (lv_room (Nat.le_of_ble_eq_true rfl)) dL_law_556 ⟨by show 20 + 26 * j + 2 + 0 + 0 ≤ 657075; omega, by show 6000 + 112 * j + 12 + 0 + 0 ≤ 7124880; omega⟩) (fun r4 hr4 => ?_)
  subst hr4
  refine lv_iload hx hb dL_law_559 (lv_at hl 1 rfl) ?_
  refine lv_icmp_eq (tgt := 566) hx hb dL_law_561 (by decide) (fun k1 => ?_) (fun k1 => ?_)
  · refine lv_iload hx hb dL_law_566 (lv_at hl 1 rfl) ?_
    refine lv_if_ne (tgt := 583) hx hb dL_law_568 (by decide) (fun k2 => ?_) (fun k2 => ?_)
    · refine lv_goto (tgt := 667) hx hb dL_law_583 (by decide) ?_
      refine W.widen (k := 20 + 26 * j + 26) (n := 6000 + 112 * j + 112) (by omega) (by omega) ?_
      exact hk H2 locs2 ls r4 md2 hLI (by omega) hS (lv_sub hl [2, 3, 4, 5, 6] rfl)
    · obtain ⟨fo3, hJ3, hV3⟩ := hV k2
      refine lv_aload_n hx hb dL_law_571 rfl (lv_at hl 3 rfl) ?_
      refine lv_iconst (v := 0) hx hb dL_law_572 (by decide) ?_
      refine va_lald (D := Γ.1) (cl := gC) (tys := gT Γ) hx hb hW.1 (p1 hJ3) 0 0 rfl rfl (by unfold vp_in; decide) dL_law_573 ?_
      refine lv_iload hx hb dL_law_574 (lv_at hl 0 rfl) ?_
      refine lv_i2l (v := r2.toInt64) hx hb dL_law_576 rfl ?_
      refine W.lcmp hx hb dL_law_577 ?_
      refine lv_if_eq (tgt := 583) hx hb dL_law_578 (by decide) (fun k3 => ?_) (fun k3 => ?_)
      · refine lv_goto (tgt := 667) hx hb dL_law_583 (by decide) ?_
        refine W.widen (k := 20 + 26 * j + 26) (n := 6000 + 112 * j + 112) (by omega) (by omega) ?_
        exact hk H2 locs2 ls r4 md2 hLI (by omega) hS (lv_sub hl [2, 3, 4, 5, 6] rfl)
      · exact absurd ((lg_cmp_eq _ _).mpr hV3) k3
  · exact absurd hE.symm k1
set_option maxHeartbeats 4000000 in
set_option maxRecDepth 100000 in
theorem law_differ {p : Program} {l : Launch} {e : Env} {s : State} {m : MethodId} {below : List Frame} {meth : Method} {c : Code} {b L : Nat} {xs : Nat → Int32} {Γ : gE} {x ro out : Nat} {A : Nat → Nat} (hnt : l.stackTraces = false) (C0 : lw_At p s m meth c b L xs) (hW : PW Γ s) (hgz : gz Γ = s.heap.size) (hZ : ZF Γ x ro out) {j md : Nat} {er : Int32} {H : Heap} {locs : List Loc} {ls : Array Slot} (hL : L ≤ 3072) (hj : 6 * j + 6 ≤ L) (hI : LI Γ H x ro out A er md) (hbz : gb0 Γ ≤ H.size) (hS : va_S (gA Γ) s.heap H locs) (hl : lv_has ls 8 [(4, .int (nI (6 * j))), (3, .ref out), (2, .ref (A 0)), (1, .ref x), (0, .ref b)]) (hk : ∀ (H2 : Heap) (locs2 : List Loc) (ls2 : Array Slot) (er2 : Int32) (md2 : Nat), LI Γ H2 x ro out A er2 md2 → gb0 Γ ≤ H2.size → va_S (gA Γ) s.heap H2 locs2 → lv_has ls2 8 [(4, .int (nI (6 * j))), (3, .ref out), (2, .ref (A 0)), (1, .ref x), (0, .ref b)] → W p l e room_1 s m #[Value.ref b] below meth c H2 locs2 (20 + 26 * j + 26) (6000 + 112 * j + 112) (lw_Z below #[Value.ref b] s) (F0 m 667 ls2 [])) : W p l e room_1 s m #[Value.ref b] below meth c H locs (20 + 26 * j) (6000 + 112 * j) (lw_Z below #[Value.ref b] s) (F0 m 586 ls []) := by
  obtain ⟨hx, hb, hr, hml, hown, hts, hScr, hbl, hlocks, hgv⟩ := C0
  have hown : s.vm.findClass RL = some m.cls := hown
  have hg : ∀ w ∈ gW, w.before #[Value.ref b] s = true := fun w h => hts w (gW_tbl h)
  have hbA : ¬ gA Γ b := by unfold gA; omega
  obtain ⟨fof, fke, fst, fnu, fno, fla, fot, rt, fo, hSX, hP, hD, hMI, hmd1, hJ⟩ := hI
  obtain ⟨z1, z2, z3, z4, z5, z6, z7, z8⟩ := hZ
  have hmd : md ≤ 400 := hSX.2.2.1
  refine lv_aload_n hx hb dL_law_586 rfl (lv_at hl 3 rfl) ?_
  refine lv_aload_n hx hb dL_law_587 rfl (lv_at hl 4 rfl) ?_
  refine lv_iload hx hb dL_law_588 (lv_at hl 0 rfl) ?_
  refine lv_iconst (v := 1) hx hb dL_law_590 (by decide) ?_
  refine lv_iadd hx hb dL_law_591 ?_
  refine lv_topi (fun i592 ei592 => ?_)
  have ei592 : i592 = nI (6 * j + 1) := ei592.trans (nI_add (6 * j) 1)
  subst ei592
  refine va_sld hx hb hScr hbl hbA hS (vp_in_nI (show 6 * j + 1 < L by omega) (by omega)) dL_law_592 ?_
  rw [nI_clamp (show 6 * j + 1 < 2 ^ 31 by omega)]
  refine lv_aload_n hx hb dL_law_593 rfl (lv_at hl 4 rfl) ?_
  refine lv_iload hx hb dL_law_594 (lv_at hl 0 rfl) ?_
  refine lv_iconst (v := 2) hx hb dL_law_596 (by decide) ?_
  refine lv_iadd hx hb dL_law_597 ?_
  refine lv_topi (fun i598 ei598 => ?_)
  have ei598 : i598 = nI (6 * j + 2) := ei598.trans (nI_add (6 * j) 2)
  subst ei598
  refine va_sld hx hb hScr hbl hbA hS (vp_in_nI (show 6 * j + 2 < L by omega) (by omega)) dL_law_598 ?_
  rw [nI_clamp (show 6 * j + 2 < 2 ^ 31 by omega)]
  refine lv_aload_n hx hb dL_law_599 rfl (lv_at hl 1 rfl) ?_
  have hzo : gz Γ ≤ out := by omega
  have hsz : gz Γ ≤ H.size := by have := hS.1; omega
  refine va_calli (vx_runSW (As := [.ref x, .int (xs (6 * j + 1)), .int (xs (6 * j + 2)), .ref out]) (rest := []) ⟨hx, hb, hml, hown, hg⟩ (c_L_differ l hnt Γ H (a := (xs (6 * j + 1))) (b := (xs (6 * j + 2))) hSX hJ z5 z1 z2 hzo (by omega) (by omega) z8 (by omega) (by omega) hbz) (vx_cwSW 4 hg gL_75 rfl rfl rfl (by decide +kernel) ⟨Nat.le_of_ble_eq_true rfl, Nat.le_of_ble_eq_true rfl⟩) (gP_S hW hS) rfl rfl hl.1 rfl (lv_room (Nat.le_of_ble_eq_true rfl)) dL_law_600 ⟨by show 20 + 26 * j + 2 ≤ 657075; omega, by show 6000 + 112 * j + 12 ≤ 7124880; omega⟩) hS (fun q _ h => by rw [show q = out from h]; exact hzo) (fun q h => h.elim (fun h => by rw [h]; exact hzo) (fun h => Nat.le_trans hsz h)) (fun r u t9 H1 locs1 ht hvm hp hB hz1 hk1 hS => ?_)
  rw [ht] at hB
  have hP1 := wM_kept hP hD hk1 (fun q hq => fun h => by have := hq.1; have := hq.2; omega)
  refine lv_istore (lv' := [(5, .int r), (4, .int (nI (6 * j))), (3, .ref out), (2, .ref (A 0)), (1, .ref x), (0, .ref b)]) hx hb dL_law_603 hl (by decide) rfl (fun ls hl => ?_)
  refine lv_aload_n hx hb dL_law_605 rfl (lv_at hl 3 rfl) ?_
  refine lv_aload_n hx hb dL_law_606 rfl (lv_at hl 5 rfl) ?_
  refine lv_iload hx hb dL_law_607 (lv_at hl 1 rfl) ?_
  refine lv_iconst (v := 1) hx hb dL_law_609 (by decide) ?_
  refine lv_iadd hx hb dL_law_610 ?_
  refine lv_topi (fun i611 ei611 => ?_)
  have ei611 : i611 = nI (6 * j + 1) := ei611.trans (nI_add (6 * j) 1)
  subst ei611
  refine va_sld hx hb hScr hbl hbA hS (vp_in_nI (show 6 * j + 1 < L by omega) (by omega)) dL_law_611 ?_
  rw [nI_clamp (show 6 * j + 1 < 2 ^ 31 by omega)]
  refine lv_aload_n hx hb dL_law_612 rfl (lv_at hl 5 rfl) ?_
  refine lv_iload hx hb dL_law_613 (lv_at hl 1 rfl) ?_
  refine lv_iconst (v := 2) hx hb dL_law_615 (by decide) ?_
  refine lv_iadd hx hb dL_law_616 ?_
  refine lv_topi (fun i617 ei617 => ?_)
  have ei617 : i617 = nI (6 * j + 2) := ei617.trans (nI_add (6 * j) 2)
  subst ei617
  refine va_sld hx hb hScr hbl hbA hS (vp_in_nI (show 6 * j + 2 < L by omega) (by omega)) dL_law_617 ?_
  rw [nI_clamp (show 6 * j + 2 < 2 ^ 31 by omega)]
  have hmz : ∀ q, mA Γ q → gA Γ q := fun q h => by have := h.1; show gz Γ ≤ q; omega
  refine va_calli (va_runV (As := [.int (xs (6 * j + 1)), .int (xs (6 * j + 2))]) (rest := []) ⟨hx, hb, hml, hown, hg⟩ (c_M_differ l Γ H1 (a := (xs (6 * j + 1))) (b := (xs (6 * j + 2))) hP1 hD (by omega) hmd hMI) (cwV 2 hg gL_77 rfl rfl rfl (by decide +kernel) ⟨Nat.le_of_ble_eq_true rfl, Nat.le_of_ble_eq_true rfl⟩) (gP_V hW hS (ci := 2) rfl (hP1 0 _ rfl)) rfl rfl hl.1 rfl (lv_room (Nat.le_of_ble_eq_true rfl)) dL_law_618 ⟨by show 20 + 26 * j + 2 + 0 ≤ 657075; omega, by show 6000 + 112 * j + 12 + 0 ≤ 7124880; omega⟩) hS (fun q _ h => hmz q h) (fun q h => hmz q h) (fun r2 u2 t8 H2 locs2 ht2 hvm2 hp2 hB2 hz2 hk2 hS => ?_)
  rw [ht2] at hB2
  have hX2 : hX (mA Γ) H1 H2 := ⟨hz2, fun q h1 h2 => hk2 q h1 h2⟩
  have hSk : ∀ {rt9 : Nat → Option Nat} {md9 : Nat} {V9 : Nat → Nat → Option Int64} {S9 : Nat → Nat → Int32}, SX Γ H1 x ro md9 rt9 V9 S9 → SX Γ H2 x ro md9 rt9 V9 S9 := fun h => h.kept hX2 (fun h => by have := h.1; omega) (fun h => by have := h.1; omega) (fun q h => by have := h.2; omega)
  have hJk : ∀ {f9 : Nat → Int64}, oJ Γ H1 out 1 f9 → oJ Γ H2 out 1 f9 := fun h => hX2.at h (fun h => by have := h.2; omega)
  have hall : ∃ er2 md2, LI Γ H2 x ro out A er2 md2 ∧ r = er2 ∧ (r = 0 → ∃ fo3, oJ Γ H2 out 1 fo3 ∧ fo3 (0 : Int32).toNatClampNeg = r2.toInt64) := by
    obtain ⟨u1, val⟩ := u
    obtain ⟨hS1, fo1, hJ1, hfo⟩ := hB
    rcases hp with ⟨h1, hr1, q1⟩ | ⟨h1, hr1, q1⟩ | ⟨h1, hr1, q1⟩
    · obtain ⟨fla1, fot1, hB2⟩ := hB2
      rcases hp2 with ⟨h2, -, -⟩ | ⟨h2, aj, bj, a1, a2, a3, a4, -⟩
      · subst h2
        exact ⟨1, md, ⟨fof, fke, fst, fnu, fno, fla1, fot1, rt, fo1, hSk hS1, hB2, vD_map (by rfl) hD, hMI, hmd1, hJk hJ1⟩, hr1, fun h => by rw [hr1] at h; exact absurd h (by decide)⟩
      · exact absurd ⟨⟨aj, a1, a2⟩, ⟨bj, a3, a4⟩⟩ q1
    · exact q1.elim
    · obtain ⟨fla1, fot1, hB2⟩ := hB2
      obtain ⟨ai, bi, b1, b2, b3, b4, b5⟩ := q1
      rcases hp2 with ⟨h2, hbad, -⟩ | ⟨h2, aj, bj, a1, a2, a3, a4, a5⟩
      · exact absurd ⟨⟨ai, b1, b2⟩, ⟨bi, b3, b4⟩⟩ hbad
      · subst h2
        rw [nI_inj a2 b2 (by omega) (by omega), nI_inj a4 b4 (by omega) (by omega)] at a5
        have b5 : val = (nI (dcn (mV fof fke fnu fno ai) (mV fof fke fnu fno bi) 0 1024)).toInt64 := b5
        exact ⟨0, md, ⟨fof, fke, fst, fnu, fno, fla1, fot1, rt, fo1, hSk hS1, hB2, vD_map (by rfl) hD, hMI, hmd1, hJk hJ1⟩, hr1, fun _ => ⟨fo1, hJk hJ1, (hfo h1).trans (by rw [b5, a5])⟩⟩
  refine lv_istore (lv' := [(6, .int r2), (5, .int r), (4, .int (nI (6 * j))), (3, .ref out), (2, .ref (A 0)), (1, .ref x), (0, .ref b)]) hx hb dL_law_621 hl (by decide) rfl (fun ls hl => ?_)
  refine lv_aload_n hx hb dL_law_623 rfl (lv_at hl 4 rfl) ?_
  obtain ⟨er2, md2, hLI, hE, hV⟩ := hall
  obtain ⟨fof2, fke2, fst2, fnu2, fno2, fla2, fot2, rt2, fo2, hSX2, hP2, hD2, hM2, hm2, hJ2⟩ := id hLI
  refine vp_callSi (W.runV (As := []) (rest := []) ⟨hx, hb, hml, hown, hg⟩ (c_M_thrown l Γ H2 hP2) (cwV 0 hg gL_53 rfl rfl rfl (by decide +kernel) ⟨Nat.le_of_ble_eq_true rfl, Nat.le_of_ble_eq_true rfl⟩) (gP_V hW hS (ci := 2) rfl (hP2 0 _ rfl)) rfl rfl hl.1 rfl (lv_room (Nat.le_of_ble_eq_true rfl)) dL_law_624 ⟨by show 20 + 26 * j + 2 + 0 + 0 ≤ 657075; omega, by show 6000 + 112 * j + 12 + 0 + 0 ≤ 7124880; omega⟩) (fun r4 hr4 => ?_)
  subst hr4
  refine lv_iload hx hb dL_law_627 (lv_at hl 1 rfl) ?_
  refine lv_icmp_eq (tgt := 634) hx hb dL_law_629 (by decide) (fun k1 => ?_) (fun k1 => ?_)
  · refine lv_iload hx hb dL_law_634 (lv_at hl 1 rfl) ?_
    refine lv_if_ne (tgt := 651) hx hb dL_law_636 (by decide) (fun k2 => ?_) (fun k2 => ?_)
    · refine lv_goto (tgt := 667) hx hb dL_law_651 (by decide) ?_
      refine W.widen (k := 20 + 26 * j + 26) (n := 6000 + 112 * j + 112) (by omega) (by omega) ?_
      exact hk H2 locs2 ls r4 md2 hLI (by omega) hS (lv_sub hl [2, 3, 4, 5, 6] rfl)
    · obtain ⟨fo3, hJ3, hV3⟩ := hV k2
      refine lv_aload_n hx hb dL_law_639 rfl (lv_at hl 3 rfl) ?_
      refine lv_iconst (v := 0) hx hb dL_law_640 (by decide) ?_
      refine va_lald (D := Γ.1) (cl := gC) (tys := gT Γ) hx hb hW.1 (p1 hJ3) 0 0 rfl rfl (by unfold vp_in; decide) dL_law_641 ?_
      refine lv_iload hx hb dL_law_642 (lv_at hl 0 rfl) ?_
      refine lv_i2l (v := r2.toInt64) hx hb dL_law_644 rfl ?_
      refine W.lcmp hx hb dL_law_645 ?_
      refine lv_if_eq (tgt := 651) hx hb dL_law_646 (by decide) (fun k3 => ?_) (fun k3 => ?_)
      · refine lv_goto (tgt := 667) hx hb dL_law_651 (by decide) ?_
        refine W.widen (k := 20 + 26 * j + 26) (n := 6000 + 112 * j + 112) (by omega) (by omega) ?_
        exact hk H2 locs2 ls r4 md2 hLI (by omega) hS (lv_sub hl [2, 3, 4, 5, 6] rfl)
      · exact absurd ((lg_cmp_eq _ _).mpr hV3) k3
  · exact absurd hE.symm k1
set_option maxHeartbeats 4000000 in
set_option maxRecDepth 100000 in
theorem law_tables {p : Program} {l : Launch} {e : Env} {s : State} {m : MethodId} {below : List Frame} {meth : Method} {c : Code} {b L : Nat} {xs : Nat → Int32} {Γ : gE} {x ro out : Nat} {A : Nat → Nat} (hnt : l.stackTraces = false) (C0 : lw_At p s m meth c b L xs) (hW : PW Γ s) (hgz : gz Γ = s.heap.size) (hZ : ZF Γ x ro out) {j md : Nat} {er : Int32} {H : Heap} {locs : List Loc} {ls : Array Slot} (hL : L ≤ 3072) (hj : 6 * j + 6 ≤ L) (hI : LI Γ H x ro out A er md) (hbz : gb0 Γ ≤ H.size) (hS : va_S (gA Γ) s.heap H locs) (hl : lv_has ls 8 [(4, .int (nI (6 * j))), (3, .ref out), (2, .ref (A 0)), (1, .ref x), (0, .ref b)]) (hk : ∀ (H2 : Heap) (locs2 : List Loc) (ls2 : Array Slot) (er2 : Int32) (md2 : Nat), LI Γ H2 x ro out A er2 md2 → gb0 Γ ≤ H2.size → va_S (gA Γ) s.heap H2 locs2 → lv_has ls2 8 [(4, .int (nI (6 * j))), (3, .ref out), (2, .ref (A 0)), (1, .ref x), (0, .ref b)] → W p l e room_1 s m #[Value.ref b] below meth c H2 locs2 (20 + 26 * j + 26) (6000 + 112 * j + 112) (lw_Z below #[Value.ref b] s) (F0 m 667 ls2 [])) : W p l e room_1 s m #[Value.ref b] below meth c H locs (20 + 26 * j) (6000 + 112 * j) (lw_Z below #[Value.ref b] s) (F0 m 654 ls []) := by
  obtain ⟨hx, hb, hr, hml, hown, hts, hScr, hbl, hlocks, hgv⟩ := C0
  have hown : s.vm.findClass RL = some m.cls := hown
  have hg : ∀ w ∈ gW, w.before #[Value.ref b] s = true := fun w h => hts w (gW_tbl h)
  have hbA : ¬ gA Γ b := by unfold gA; omega
  obtain ⟨fof, fke, fst, fnu, fno, fla, fot, rt, fo, hSX, hP, hD, hMI, hmd1, hJ⟩ := hI
  obtain ⟨z1, z2, z3, z4, z5, z6, z7, z8⟩ := hZ
  have hmd : md ≤ 400 := hSX.2.2.1
  refine lv_aload_n hx hb dL_law_654 rfl (lv_at hl 3 rfl) ?_
  refine vp_callSi (W.runV (As := []) (rest := []) ⟨hx, hb, hml, hown, hg⟩ (c_S_tables l Γ H hSX.1) (cwV 0 hg gL_78 rfl rfl rfl (by decide +kernel) ⟨Nat.le_of_ble_eq_true rfl, Nat.le_of_ble_eq_true rfl⟩) (gP_V hW hS (ci := 1) rfl hSX.1) rfl rfl hl.1 rfl (lv_room (Nat.le_of_ble_eq_true rfl)) dL_law_655 ⟨by show 20 + 26 * j + 0 ≤ 657075; omega, by show 6000 + 112 * j + 0 ≤ 7124880; omega⟩) (fun r hr9 => ?_)
  subst hr9
  refine lv_aload_n hx hb dL_law_658 rfl (lv_at hl 2 rfl) ?_
  have hP1 := hP
  obtain ⟨H1, eH1⟩ : ∃ H1, H1 = H := ⟨H, rfl⟩
  rw [← eH1] at hP1 hS hSX hJ hbz ⊢
  have hmz : ∀ q, mA Γ q → gA Γ q := fun q h => by have := h.1; show gz Γ ≤ q; omega
  refine va_calli (va_runV (As := []) (rest := [.int (nI md)]) ⟨hx, hb, hml, hown, hg⟩ (c_M_tables l Γ H1 hP1 hD (by omega)) (cwV 0 hg gL_81 rfl rfl rfl (by decide +kernel) ⟨Nat.le_of_ble_eq_true rfl, Nat.le_of_ble_eq_true rfl⟩) (gP_V hW hS (ci := 2) rfl (hP1 0 _ rfl)) rfl rfl hl.1 rfl (lv_room (Nat.le_of_ble_eq_true rfl)) dL_law_659 ⟨by show 20 + 26 * j + 0 + 0 ≤ 657075; omega, by show 6000 + 112 * j + 0 + 0 ≤ 7124880; omega⟩) hS (fun q _ h => hmz q h) (fun q h => hmz q h) (fun r2 u2 t8 H2 locs2 ht2 hvm2 hp2 hB2 hz2 hk2 hS => ?_)
  rw [ht2] at hB2
  have hX2 : hX (mA Γ) H1 H2 := ⟨hz2, fun q h1 h2 => hk2 q h1 h2⟩
  have hSk : ∀ {rt9 : Nat → Option Nat} {md9 : Nat} {V9 : Nat → Nat → Option Int64} {S9 : Nat → Nat → Int32}, SX Γ H1 x ro md9 rt9 V9 S9 → SX Γ H2 x ro md9 rt9 V9 S9 := fun h => h.kept hX2 (fun h => by have := h.1; omega) (fun h => by have := h.1; omega) (fun q h => by have := h.2; omega)
  have hJk : ∀ {f9 : Nat → Int64}, oJ Γ H1 out 1 f9 → oJ Γ H2 out 1 f9 := fun h => hX2.at h (fun h => by have := h.2; omega)
  have hLI : LI Γ H2 x ro out A 0 md := ⟨fof, fke, fst, fnu, fno, fla, fot, rt, fo, hSk hSX, hB2, vD_map (by rfl) hD, hMI, hmd1, hJk hJ⟩
  refine lv_icmp_eq (tgt := 667) hx hb dL_law_662 (by decide) (fun k1 => ?_) (fun k1 => ?_)
  · refine W.widen (k := 20 + 26 * j + 26) (n := 6000 + 112 * j + 112) (by omega) (by omega) ?_
    exact hk H2 locs2 ls 0 md hLI (by omega) hS (lv_sub hl [0, 1, 2, 3, 4] rfl)
  · exact absurd hp2.symm k1
