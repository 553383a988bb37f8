/-! the law: one call of each kind, on both sides -/
set_option maxHeartbeats 4000000 in
set_option maxRecDepth 100000 in
theorem law_put {p : Program} {l : Launch} {e : Env} {s : State} {m : MethodId} {below : List Frame} {meth : Method} {c : Code} {b L : Nat} {xs : Nat → Int32} {Γ : gE} {x ro out : Nat} {A : Nat → Nat} (hnt : l.stackTraces = false) (C0 : lw_At p s m meth c b L xs) (hW : PW Γ s) (hgz : gz Γ = s.heap.size) (hZ : ZF Γ x ro out) {j md : Nat} {er : Int32} {H : Heap} {locs : List Loc} {ls : Array Slot} (hL : L ≤ 3072) (hj : 6 * j + 6 ≤ L) (hI : LI Γ H x ro out A er md) (hbz : gb0 Γ ≤ H.size) (hS : va_S (gA Γ) s.heap H locs) (hl : lv_has ls 8 [(4, .int (nI (6 * j))), (3, .ref out), (2, .ref (A 0)), (1, .ref x), (0, .ref b)]) (hk : ∀ (H2 : Heap) (locs2 : List Loc) (ls2 : Array Slot) (er2 : Int32) (md2 : Nat), LI Γ H2 x ro out A er2 md2 → gb0 Γ ≤ H2.size → va_S (gA Γ) s.heap H2 locs2 → lv_has ls2 8 [(4, .int (nI (6 * j))), (3, .ref out), (2, .ref (A 0)), (1, .ref x), (0, .ref b)] → W p l e room_1 s m #[Value.ref b] below meth c H2 locs2 (20 + 26 * j + 26) (6000 + 112 * j + 112) (lw_Z below #[Value.ref b] s) (F0 m 667 ls2 [])) : W p l e room_1 s m #[Value.ref b] below meth c H locs (20 + 26 * j) (6000 + 112 * j) (lw_Z below #[Value.ref b] s) (F0 m 88 ls []) := by
  obtain ⟨hx, hb, hr, hml, hown, hts, hScr, hbl, hlocks, hgv⟩ := C0
  have hown : s.vm.findClass RL = some m.cls := hown
  have hg : ∀ w ∈ gW, w.before #[Value.ref b] s = true := fun w h => hts w (gW_tbl h)
  have hbA : ¬ gA Γ b := by unfold gA; omega
  obtain ⟨fof, fke, fst, fnu, fno, fla, fot, rt, fo, hSX, hP, hD, hMI, hmd1, hJ⟩ := hI
  obtain ⟨z1, z2, z3, z4, z5, z6, z7, z8⟩ := hZ
  have hmd : md ≤ 400 := hSX.2.2.1
  refine lv_aload_n hx hb dL_law_88 rfl (lv_at hl 3 rfl) ?_
  refine lv_aload_n hx hb dL_law_89 rfl (lv_at hl 4 rfl) ?_
  refine lv_iload hx hb dL_law_90 (lv_at hl 0 rfl) ?_
  refine lv_iconst (v := 1) hx hb dL_law_92 (by decide) ?_
  refine lv_iadd hx hb dL_law_93 ?_
  refine lv_topi (fun i94 ei94 => ?_)
  have ei94 : i94 = nI (6 * j + 1) := ei94.trans (nI_add (6 * j) 1)
  subst ei94
  refine va_sld hx hb hScr hbl hbA hS (vp_in_nI (show 6 * j + 1 < L by omega) (by omega)) dL_law_94 ?_
  rw [nI_clamp (show 6 * j + 1 < 2 ^ 31 by omega)]
  refine lv_aload_n hx hb dL_law_95 rfl (lv_at hl 4 rfl) ?_
  refine lv_iload hx hb dL_law_96 (lv_at hl 0 rfl) ?_
  refine lv_iconst (v := 2) hx hb dL_law_98 (by decide) ?_
  refine lv_iadd hx hb dL_law_99 ?_
  refine lv_topi (fun i100 ei100 => ?_)
  have ei100 : i100 = nI (6 * j + 2) := ei100.trans (nI_add (6 * j) 2)
  subst ei100
  refine va_sld hx hb hScr hbl hbA hS (vp_in_nI (show 6 * j + 2 < L by omega) (by omega)) dL_law_100 ?_
  rw [nI_clamp (show 6 * j + 2 < 2 ^ 31 by omega)]
  refine lv_aload_n hx hb dL_law_101 rfl (lv_at hl 4 rfl) ?_
  refine lv_iload hx hb dL_law_102 (lv_at hl 0 rfl) ?_
  refine lv_iconst (v := 3) hx hb dL_law_104 (by decide) ?_
  refine lv_iadd hx hb dL_law_105 ?_
  refine lv_topi (fun i106 ei106 => ?_)
  have ei106 : i106 = nI (6 * j + 3) := ei106.trans (nI_add (6 * j) 3)
  subst ei106
  refine va_sld hx hb hScr hbl hbA hS (vp_in_nI (show 6 * j + 3 < L by omega) (by omega)) dL_law_106 ?_
  rw [nI_clamp (show 6 * j + 3 < 2 ^ 31 by omega)]
  refine lv_i2l (v := (xs (6 * j + 3)).toInt64) hx hb dL_law_107 rfl ?_
  refine lv_bipush (v := 32) hx hb dL_law_108 (by decide) ?_
  refine lv_lshl (v := ((xs (6 * j + 3)).toInt64) <<< ((32 : Int32).toInt64 &&& 63)) hx hb dL_law_110 rfl ?_
  refine lv_aload_n hx hb dL_law_111 rfl (lv_at hl 4 rfl) ?_
  refine lv_iload hx hb dL_law_112 (lv_at hl 0 rfl) ?_
  refine lv_iconst (v := 4) hx hb dL_law_114 (by decide) ?_
  refine lv_iadd hx hb dL_law_115 ?_
  refine lv_topi (fun i116 ei116 => ?_)
  have ei116 : i116 = nI (6 * j + 4) := ei116.trans (nI_add (6 * j) 4)
  subst ei116
  refine va_sld hx hb hScr hbl hbA hS (vp_in_nI (show 6 * j + 4 < L by omega) (by omega)) dL_law_116 ?_
  rw [nI_clamp (show 6 * j + 4 < 2 ^ 31 by omega)]
  refine lv_i2l (v := (xs (6 * j + 4)).toInt64) hx hb dL_law_117 rfl ?_
  refine lv_ldc2 (v := 4294967295) hx hb hown (hg _ kw383) dL_law_118 ?_
  refine lv_land hx hb dL_law_121 ?_
  refine lv_lor hx hb dL_law_122 ?_
  refine lv_aload_n hx hb dL_law_123 rfl (lv_at hl 4 rfl) ?_
  refine lv_iload hx hb dL_law_124 (lv_at hl 0 rfl) ?_
  refine lv_iconst (v := 5) hx hb dL_law_126 (by decide) ?_
  refine lv_iadd hx hb dL_law_127 ?_
  refine lv_topi (fun i128 ei128 => ?_)
  have ei128 : i128 = nI (6 * j + 5) := ei128.trans (nI_add (6 * j) 5)
  subst ei128
  refine va_sld hx hb hScr hbl hbA hS (vp_in_nI (show 6 * j + 5 < L by omega) (by omega)) dL_law_128 ?_
  rw [nI_clamp (show 6 * j + 5 < 2 ^ 31 by omega)]
  refine lv_aload_n hx hb dL_law_129 rfl (lv_at hl 1 rfl) ?_
  have hzo : gz Γ ≤ out := by omega
  have hsz : gz Γ ≤ H.size := by have := hS.1; omega
  refine va_calli (vx_runSW (As := [.ref x, .int (xs (6 * j + 1)), .int (xs (6 * j + 2)), .long ((((xs (6 * j + 3)).toInt64) <<< ((32 : Int32).toInt64 &&& 63)) ||| (((xs (6 * j + 4)).toInt64) &&& 4294967295)), .int (xs (6 * j + 5)), .ref out]) (rest := []) ⟨hx, hb, hml, hown, hg⟩ (c_L_put l hnt Γ H (t := (xs (6 * j + 1))) (k := (xs (6 * j + 2))) (v := ((xs (6 * j + 3)).toInt64 <<< ((32 : Int32).toInt64 &&& 63)) ||| ((xs (6 * j + 4)).toInt64 &&& 4294967295)) (st := (xs (6 * j + 5))) hSX hJ z5 z1 z2 hzo (by omega) (by omega) z8 (by omega) (by omega) hbz) (vx_cwSW 6 hg gL_47 rfl rfl rfl (by decide +kernel) ⟨Nat.le_of_ble_eq_true rfl, Nat.le_of_ble_eq_true rfl⟩) (gP_S hW hS) rfl rfl hl.1 rfl (lv_room (Nat.le_of_ble_eq_true rfl)) dL_law_130 ⟨by show 20 + 26 * j + 26 ≤ 657075; omega, by show 6000 + 112 * j + 112 ≤ 7124880; omega⟩) hS (fun q _ h => h.elim (fun h => by rw [h]; exact z1) (fun h => h.elim (fun h => by rw [h]; exact z2) (fun h => by rw [h]; exact hzo))) (fun q h => h.elim (fun h => by rw [h]; exact z1) (fun h => h.elim (fun h => by rw [h]; exact z2) (fun h => h.elim (fun h => by rw [h]; exact hzo) (fun h => Nat.le_trans hsz h)))) (fun r u t9 H1 locs1 ht hvm hp hB hz1 hk1 hS => ?_)
  rw [ht] at hB
  have hP1 := wM_kept hP hD hk1 (fun q hq => fun h => by have := hq.1; have := hq.2; rcases h with h | h | h <;> omega)
  refine lv_istore (lv' := [(5, .int r), (4, .int (nI (6 * j))), (3, .ref out), (2, .ref (A 0)), (1, .ref x), (0, .ref b)]) hx hb dL_law_133 hl (by decide) rfl (fun ls hl => ?_)
  refine lv_aload_n hx hb dL_law_135 rfl (lv_at hl 3 rfl) ?_
  refine lv_aload_n hx hb dL_law_136 rfl (lv_at hl 5 rfl) ?_
  refine lv_iload hx hb dL_law_137 (lv_at hl 1 rfl) ?_
  refine lv_iconst (v := 1) hx hb dL_law_139 (by decide) ?_
  refine lv_iadd hx hb dL_law_140 ?_
  refine lv_topi (fun i141 ei141 => ?_)
  have ei141 : i141 = nI (6 * j + 1) := ei141.trans (nI_add (6 * j) 1)
  subst ei141
  refine va_sld hx hb hScr hbl hbA hS (vp_in_nI (show 6 * j + 1 < L by omega) (by omega)) dL_law_141 ?_
  rw [nI_clamp (show 6 * j + 1 < 2 ^ 31 by omega)]
  refine lv_aload_n hx hb dL_law_142 rfl (lv_at hl 5 rfl) ?_
  refine lv_iload hx hb dL_law_143 (lv_at hl 1 rfl) ?_
  refine lv_iconst (v := 2) hx hb dL_law_145 (by decide) ?_
  refine lv_iadd hx hb dL_law_146 ?_
  refine lv_topi (fun i147 ei147 => ?_)
  have ei147 : i147 = nI (6 * j + 2) := ei147.trans (nI_add (6 * j) 2)
  subst ei147
  refine va_sld hx hb hScr hbl hbA hS (vp_in_nI (show 6 * j + 2 < L by omega) (by omega)) dL_law_147 ?_
  rw [nI_clamp (show 6 * j + 2 < 2 ^ 31 by omega)]
  refine lv_aload_n hx hb dL_law_148 rfl (lv_at hl 5 rfl) ?_
  refine lv_iload hx hb dL_law_149 (lv_at hl 1 rfl) ?_
  refine lv_iconst (v := 3) hx hb dL_law_151 (by decide) ?_
  refine lv_iadd hx hb dL_law_152 ?_
  refine lv_topi (fun i153 ei153 => ?_)
  have ei153 : i153 = nI (6 * j + 3) := ei153.trans (nI_add (6 * j) 3)
  subst ei153
  refine va_sld hx hb hScr hbl hbA hS (vp_in_nI (show 6 * j + 3 < L by omega) (by omega)) dL_law_153 ?_
  rw [nI_clamp (show 6 * j + 3 < 2 ^ 31 by omega)]
  refine lv_i2l (v := (xs (6 * j + 3)).toInt64) hx hb dL_law_154 rfl ?_
  refine lv_bipush (v := 32) hx hb dL_law_155 (by decide) ?_
  refine lv_lshl (v := ((xs (6 * j + 3)).toInt64) <<< ((32 : Int32).toInt64 &&& 63)) hx hb dL_law_157 rfl ?_
  refine lv_aload_n hx hb dL_law_158 rfl (lv_at hl 5 rfl) ?_
  refine lv_iload hx hb dL_law_159 (lv_at hl 1 rfl) ?_
  refine lv_iconst (v := 4) hx hb dL_law_161 (by decide) ?_
  refine lv_iadd hx hb dL_law_162 ?_
  refine lv_topi (fun i163 ei163 => ?_)
  have ei163 : i163 = nI (6 * j + 4) := ei163.trans (nI_add (6 * j) 4)
  subst ei163
  refine va_sld hx hb hScr hbl hbA hS (vp_in_nI (show 6 * j + 4 < L by omega) (by omega)) dL_law_163 ?_
  rw [nI_clamp (show 6 * j + 4 < 2 ^ 31 by omega)]
  refine lv_i2l (v := (xs (6 * j + 4)).toInt64) hx hb dL_law_164 rfl ?_
  refine lv_ldc2 (v := 4294967295) hx hb hown (hg _ kw383) dL_law_165 ?_
  refine lv_land hx hb dL_law_168 ?_
  refine lv_lor hx hb dL_law_169 ?_
  refine lv_aload_n hx hb dL_law_170 rfl (lv_at hl 5 rfl) ?_
  refine lv_iload hx hb dL_law_171 (lv_at hl 1 rfl) ?_
  refine lv_iconst (v := 5) hx hb dL_law_173 (by decide) ?_
  refine lv_iadd hx hb dL_law_174 ?_
  refine lv_topi (fun i175 ei175 => ?_)
  have ei175 : i175 = nI (6 * j + 5) := ei175.trans (nI_add (6 * j) 5)
  subst ei175
  refine va_sld hx hb hScr hbl hbA hS (vp_in_nI (show 6 * j + 5 < L by omega) (by omega)) dL_law_175 ?_
  rw [nI_clamp (show 6 * j + 5 < 2 ^ 31 by omega)]
  have hmz : ∀ q, mA Γ q → gA Γ q := fun q h => by have := h.1; show gz Γ ≤ q; omega
  refine va_calli (va_runV (As := [.int (xs (6 * j + 1)), .int (xs (6 * j + 2)), .long ((((xs (6 * j + 3)).toInt64) <<< ((32 : Int32).toInt64 &&& 63)) ||| (((xs (6 * j + 4)).toInt64) &&& 4294967295)), .int (xs (6 * j + 5))]) (rest := []) ⟨hx, hb, hml, hown, hg⟩ (c_M_put l Γ H1 (t := (xs (6 * j + 1))) (k := (xs (6 * j + 2))) (v := ((xs (6 * j + 3)).toInt64 <<< ((32 : Int32).toInt64 &&& 63)) ||| ((xs (6 * j + 4)).toInt64 &&& 4294967295)) (st := (xs (6 * j + 5))) hP1 hD (by omega) hmd) (cwV 4 hg gL_52 rfl rfl rfl (by decide +kernel) ⟨Nat.le_of_ble_eq_true rfl, Nat.le_of_ble_eq_true rfl⟩) (gP_V hW hS (ci := 2) rfl (hP1 0 _ rfl)) rfl rfl hl.1 rfl (lv_room (Nat.le_of_ble_eq_true rfl)) dL_law_176 ⟨by show 20 + 26 * j + 26 + 0 ≤ 657075; omega, by show 6000 + 112 * j + 112 + 0 ≤ 7124880; omega⟩) hS (fun q _ h => hmz q h) (fun q h => hmz q h) (fun r2 u2 t8 H2 locs2 ht2 hvm2 hp2 hB2 hz2 hk2 hS => ?_)
  rw [ht2] at hB2
  have hX2 : hX (mA Γ) H1 H2 := ⟨hz2, fun q h1 h2 => hk2 q h1 h2⟩
  have hSk : ∀ {rt9 : Nat → Option Nat} {md9 : Nat} {V9 : Nat → Nat → Option Int64} {S9 : Nat → Nat → Int32}, SX Γ H1 x ro md9 rt9 V9 S9 → SX Γ H2 x ro md9 rt9 V9 S9 := fun h => h.kept hX2 (fun h => by have := h.1; omega) (fun h => by have := h.1; omega) (fun q h => by have := h.2; omega)
  have hJk : ∀ {f9 : Nat → Int64}, oJ Γ H1 out 1 f9 → oJ Γ H2 out 1 f9 := fun h => hX2.at h (fun h => by have := h.2; omega)
  have hall : ∃ er2 md2, LI Γ H2 x ro out A er2 md2 ∧ r = er2 ∧ (r = 0 → ∃ fo3, oJ Γ H2 out 1 fo3 ∧ fo3 (0 : Int32).toNatClampNeg = r2.toInt64) := by
    obtain ⟨u1, uj, uk⟩ := u
    rcases hp with ⟨h1, hr1, hbad⟩ | ⟨h1, hr1, hok, hfull⟩ | ⟨h1, hr1, hst, hmd4, htj, etj, hkj, ekj⟩
    · have h1 : u1 = 1 := h1
      subst h1
      obtain ⟨hS1, fo1, hJ1⟩ := hB
      rcases hp2 with ⟨h2, -, -⟩ | ⟨h2, hok, -, -⟩ | ⟨h2, hok, -, -⟩
      · subst h2
        exact ⟨1, md, ⟨fof, fke, fst, fnu, fno, fla, fot, rt, fo1, hSk hS1, hB2, vD_map (by rfl) hD, hMI, hmd1, hJk hJ1⟩, hr1, fun h => by rw [hr1] at h; exact absurd h (by decide)⟩
      · exact absurd hok hbad
      · exact absurd hok hbad
    · have h1 : u1 = 2 := h1
      subst h1
      obtain ⟨hS1, fo1, hJ1⟩ := hB
      rcases hp2 with ⟨h2, hbad, -⟩ | ⟨h2, -, -, -⟩ | ⟨h2, -, hlt, -⟩
      · exact absurd hok hbad
      · subst h2
        exact ⟨2, md, ⟨fof, fke, fst, fnu, fno, fla, fot, rt, fo1, hSk hS1, hB2, vD_map (by rfl) hD, hMI, hmd1, hJk hJ1⟩, hr1, fun h => by rw [hr1] at h; exact absurd h (by decide)⟩
      · exact absurd hlt hfull
    · have h1 : u1 = 0 := h1
      subst h1
      obtain ⟨⟨rt1, hS1⟩, fo1, hJ1, hfo⟩ := hB
      have etj : (xs (6 * j + 1)) = nI uj := etj
      have ekj : (xs (6 * j + 2)) = nI uk := ekj
      have htj : uj < md := htj
      have hkj : uk < 1024 := hkj
      have hok : inT (xs (6 * j + 1)) md ∧ inT (xs (6 * j + 2)) 1024 ∧ okS (xs (6 * j + 5)) := ⟨⟨uj, htj, etj⟩, ⟨uk, hkj, ekj⟩, hst⟩
      rcases hp2 with ⟨h2, hbad, -⟩ | ⟨h2, -, heq, -⟩ | ⟨h2, -, -, hr2⟩
      · exact absurd hok hbad
      · omega
      · subst h2
        have hP9 : va_P Γ.1 gC (wM Γ A 0 (nI (md + 1)) (upd fof md (xs (6 * j + 1))) (upd fke md (xs (6 * j + 2))) (upd fst md (xs (6 * j + 5))) (vp_updL fnu md (((xs (6 * j + 3)).toInt64 <<< ((32 : Int32).toInt64 &&& 63)) ||| ((xs (6 * j + 4)).toInt64 &&& 4294967295))) (upd fno md 0) fla fot) H2 := hB2
        rw [etj, ekj] at hP9
        exact ⟨0, md + 1, LI_new (no := 0) (v := ((xs (6 * j + 3)).toInt64 <<< ((32 : Int32).toInt64 &&& 63)) ||| ((xs (6 * j + 4)).toInt64 &&& 4294967295)) (by simp) hmd4 hmd1 hMI htj hkj hst (Or.inl rfl) (hSk hS1) hP9 hD (hJk hJ1), hr1, fun _ => ⟨fo1, hJk hJ1, by rw [hr2]; exact hfo⟩⟩
  refine lv_istore (lv' := [(6, .int r2), (5, .int r), (4, .int (nI (6 * j))), (3, .ref out), (2, .ref (A 0)), (1, .ref x), (0, .ref b)]) hx hb dL_law_179 hl (by decide) rfl (fun ls hl => ?_)
  refine lv_aload_n hx hb dL_law_181 rfl (lv_at hl 4 rfl) ?_
  obtain ⟨er2, md2, hLI, hE, hV⟩ := hall
  obtain ⟨fof2, fke2, fst2, fnu2, fno2, fla2, fot2, rt2, fo2, hSX2, hP2, hD2, hM2, hm2, hJ2⟩ := id hLI
  refine vp_callSi (W.runV (As := []) (rest := []) ⟨hx, hb, hml, hown, hg⟩ (c_M_thrown l Γ H2 hP2) (cwV 0 hg gL_53 rfl rfl rfl (by decide +kernel) ⟨Nat.le_of_ble_eq_true rfl, Nat.le_of_ble_eq_true rfl⟩) (gP_V hW hS (ci := 2) rfl (hP2 0 _ rfl)) rfl rfl hl.1 rfl (lv_room (Nat.le_of_ble_eq_true rfl)) dL_law_182 ⟨by show 20 + 26 * j + 26 + 0 + 0 ≤ 657075; omega, by show 6000 + 112 * j + 112 + 0 + 0 ≤ 7124880; omega⟩) (fun r4 hr4 => ?_)
  subst hr4
  refine lv_iload hx hb dL_law_185 (lv_at hl 1 rfl) ?_
  refine lv_icmp_eq (tgt := 192) hx hb dL_law_187 (by decide) (fun k1 => ?_) (fun k1 => ?_)
  · refine lv_iload hx hb dL_law_192 (lv_at hl 1 rfl) ?_
    refine lv_if_ne (tgt := 209) hx hb dL_law_194 (by decide) (fun k2 => ?_) (fun k2 => ?_)
    · refine lv_goto (tgt := 667) hx hb dL_law_209 (by decide) ?_
      refine W.widen (k := 20 + 26 * j + 26) (n := 6000 + 112 * j + 112) (by omega) (by omega) ?_
      exact hk H2 locs2 ls r4 md2 hLI (by omega) hS (lv_sub hl [2, 3, 4, 5, 6] rfl)
    · obtain ⟨fo3, hJ3, hV3⟩ := hV k2
      refine lv_aload_n hx hb dL_law_197 rfl (lv_at hl 3 rfl) ?_
      refine lv_iconst (v := 0) hx hb dL_law_198 (by decide) ?_
      refine va_lald (D := Γ.1) (cl := gC) (tys := gT Γ) hx hb hW.1 (p1 hJ3) 0 0 rfl rfl (by unfold vp_in; decide) dL_law_199 ?_
      refine lv_iload hx hb dL_law_200 (lv_at hl 0 rfl) ?_
      refine lv_i2l (v := r2.toInt64) hx hb dL_law_202 rfl ?_
      refine W.lcmp hx hb dL_law_203 ?_
      refine lv_if_eq (tgt := 209) hx hb dL_law_204 (by decide) (fun k3 => ?_) (fun k3 => ?_)
      · refine lv_goto (tgt := 667) hx hb dL_law_209 (by decide) ?_
        refine W.widen (k := 20 + 26 * j + 26) (n := 6000 + 112 * j + 112) (by omega) (by omega) ?_
        exact hk H2 locs2 ls r4 md2 hLI (by omega) hS (lv_sub hl [2, 3, 4, 5, 6] rfl)
      · exact absurd ((lg_cmp_eq _ _).mpr hV3) k3
  · exact absurd hE.symm k1
set_option maxHeartbeats 4000000 in
set_option maxRecDepth 100000 in
theorem law_delete {p : Program} {l : Launch} {e : Env} {s : State} {m : MethodId} {below : List Frame} {meth : Method} {c : Code} {b L : Nat} {xs : Nat → Int32} {Γ : gE} {x ro out : Nat} {A : Nat → Nat} (hnt : l.stackTraces = false) (C0 : lw_At p s m meth c b L xs) (hW : PW Γ s) (hgz : gz Γ = s.heap.size) (hZ : ZF Γ x ro out) {j md : Nat} {er : Int32} {H : Heap} {locs : List Loc} {ls : Array Slot} (hL : L ≤ 3072) (hj : 6 * j + 6 ≤ L) (hI : LI Γ H x ro out A er md) (hbz : gb0 Γ ≤ H.size) (hS : va_S (gA Γ) s.heap H locs) (hl : lv_has ls 8 [(4, .int (nI (6 * j))), (3, .ref out), (2, .ref (A 0)), (1, .ref x), (0, .ref b)]) (hk : ∀ (H2 : Heap) (locs2 : List Loc) (ls2 : Array Slot) (er2 : Int32) (md2 : Nat), LI Γ H2 x ro out A er2 md2 → gb0 Γ ≤ H2.size → va_S (gA Γ) s.heap H2 locs2 → lv_has ls2 8 [(4, .int (nI (6 * j))), (3, .ref out), (2, .ref (A 0)), (1, .ref x), (0, .ref b)] → W p l e room_1 s m #[Value.ref b] below meth c H2 locs2 (20 + 26 * j + 26) (6000 + 112 * j + 112) (lw_Z below #[Value.ref b] s) (F0 m 667 ls2 [])) : W p l e room_1 s m #[Value.ref b] below meth c H locs (20 + 26 * j) (6000 + 112 * j) (lw_Z below #[Value.ref b] s) (F0 m 212 ls []) := by
  obtain ⟨hx, hb, hr, hml, hown, hts, hScr, hbl, hlocks, hgv⟩ := C0
  have hown : s.vm.findClass RL = some m.cls := hown
  have hg : ∀ w ∈ gW, w.before #[Value.ref b] s = true := fun w h => hts w (gW_tbl h)
  have hbA : ¬ gA Γ b := by unfold gA; omega
  obtain ⟨fof, fke, fst, fnu, fno, fla, fot, rt, fo, hSX, hP, hD, hMI, hmd1, hJ⟩ := hI
  obtain ⟨z1, z2, z3, z4, z5, z6, z7, z8⟩ := hZ
  have hmd : md ≤ 400 := hSX.2.2.1
  refine lv_aload_n hx hb dL_law_212 rfl (lv_at hl 3 rfl) ?_
  refine lv_aload_n hx hb dL_law_213 rfl (lv_at hl 4 rfl) ?_
  refine lv_iload hx hb dL_law_214 (lv_at hl 0 rfl) ?_
  refine lv_iconst (v := 1) hx hb dL_law_216 (by decide) ?_
  refine lv_iadd hx hb dL_law_217 ?_
  refine lv_topi (fun i218 ei218 => ?_)
  have ei218 : i218 = nI (6 * j + 1) := ei218.trans (nI_add (6 * j) 1)
  subst ei218
  refine va_sld hx hb hScr hbl hbA hS (vp_in_nI (show 6 * j + 1 < L by omega) (by omega)) dL_law_218 ?_
  rw [nI_clamp (show 6 * j + 1 < 2 ^ 31 by omega)]
  refine lv_aload_n hx hb dL_law_219 rfl (lv_at hl 4 rfl) ?_
  refine lv_iload hx hb dL_law_220 (lv_at hl 0 rfl) ?_
  refine lv_iconst (v := 2) hx hb dL_law_222 (by decide) ?_
  refine lv_iadd hx hb dL_law_223 ?_
  refine lv_topi (fun i224 ei224 => ?_)
  have ei224 : i224 = nI (6 * j + 2) := ei224.trans (nI_add (6 * j) 2)
  subst ei224
  refine va_sld hx hb hScr hbl hbA hS (vp_in_nI (show 6 * j + 2 < L by omega) (by omega)) dL_law_224 ?_
  rw [nI_clamp (show 6 * j + 2 < 2 ^ 31 by omega)]
  refine lv_aload_n hx hb dL_law_225 rfl (lv_at hl 4 rfl) ?_
  refine lv_iload hx hb dL_law_226 (lv_at hl 0 rfl) ?_
  refine lv_iconst (v := 3) hx hb dL_law_228 (by decide) ?_
  refine lv_iadd hx hb dL_law_229 ?_
  refine lv_topi (fun i230 ei230 => ?_)
  have ei230 : i230 = nI (6 * j + 3) := ei230.trans (nI_add (6 * j) 3)
  subst ei230
  refine va_sld hx hb hScr hbl hbA hS (vp_in_nI (show 6 * j + 3 < L by omega) (by omega)) dL_law_230 ?_
  rw [nI_clamp (show 6 * j + 3 < 2 ^ 31 by omega)]
  refine lv_aload_n hx hb dL_law_231 rfl (lv_at hl 1 rfl) ?_
  have hzo : gz Γ ≤ out := by omega
  have hsz : gz Γ ≤ H.size := by have := hS.1; omega
  refine va_calli (vx_runSW (As := [.ref x, .int (xs (6 * j + 1)), .int (xs (6 * j + 2)), .int (xs (6 * j + 3)), .ref out]) (rest := []) ⟨hx, hb, hml, hown, hg⟩ (c_L_delete l hnt Γ H (t := (xs (6 * j + 1))) (k := (xs (6 * j + 2))) (st := (xs (6 * j + 3))) hSX hJ z5 z1 z2 hzo (by omega) (by omega) z8 (by omega) (by omega) hbz) (vx_cwSW 5 hg gL_57 rfl rfl rfl (by decide +kernel) ⟨Nat.le_of_ble_eq_true rfl, Nat.le_of_ble_eq_true rfl⟩) (gP_S hW hS) rfl rfl hl.1 rfl (lv_room (Nat.le_of_ble_eq_true rfl)) dL_law_232 ⟨by show 20 + 26 * j + 26 ≤ 657075; omega, by show 6000 + 112 * j + 112 ≤ 7124880; omega⟩) hS (fun q _ h => h.elim (fun h => by rw [h]; exact z1) (fun h => h.elim (fun h => by rw [h]; exact z2) (fun h => by rw [h]; exact hzo))) (fun q h => h.elim (fun h => by rw [h]; exact z1) (fun h => h.elim (fun h => by rw [h]; exact z2) (fun h => h.elim (fun h => by rw [h]; exact hzo) (fun h => Nat.le_trans hsz h)))) (fun r u t9 H1 locs1 ht hvm hp hB hz1 hk1 hS => ?_)
  rw [ht] at hB
  have hP1 := wM_kept hP hD hk1 (fun q hq => fun h => by have := hq.1; have := hq.2; rcases h with h | h | h <;> omega)
  refine lv_istore (lv' := [(5, .int r), (4, .int (nI (6 * j))), (3, .ref out), (2, .ref (A 0)), (1, .ref x), (0, .ref b)]) hx hb dL_law_235 hl (by decide) rfl (fun ls hl => ?_)
  refine lv_aload_n hx hb dL_law_237 rfl (lv_at hl 3 rfl) ?_
  refine lv_aload_n hx hb dL_law_238 rfl (lv_at hl 5 rfl) ?_
  refine lv_iload hx hb dL_law_239 (lv_at hl 1 rfl) ?_
  refine lv_iconst (v := 1) hx hb dL_law_241 (by decide) ?_
  refine lv_iadd hx hb dL_law_242 ?_
  refine lv_topi (fun i243 ei243 => ?_)
  have ei243 : i243 = nI (6 * j + 1) := ei243.trans (nI_add (6 * j) 1)
  subst ei243
  refine va_sld hx hb hScr hbl hbA hS (vp_in_nI (show 6 * j + 1 < L by omega) (by omega)) dL_law_243 ?_
  rw [nI_clamp (show 6 * j + 1 < 2 ^ 31 by omega)]
  refine lv_aload_n hx hb dL_law_244 rfl (lv_at hl 5 rfl) ?_
  refine lv_iload hx hb dL_law_245 (lv_at hl 1 rfl) ?_
  refine lv_iconst (v := 2) hx hb dL_law_247 (by decide) ?_
  refine lv_iadd hx hb dL_law_248 ?_
  refine lv_topi (fun i249 ei249 => ?_)
  have ei249 : i249 = nI (6 * j + 2) := ei249.trans (nI_add (6 * j) 2)
  subst ei249
  refine va_sld hx hb hScr hbl hbA hS (vp_in_nI (show 6 * j + 2 < L by omega) (by omega)) dL_law_249 ?_
  rw [nI_clamp (show 6 * j + 2 < 2 ^ 31 by omega)]
  refine lv_aload_n hx hb dL_law_250 rfl (lv_at hl 5 rfl) ?_
  refine lv_iload hx hb dL_law_251 (lv_at hl 1 rfl) ?_
  refine lv_iconst (v := 3) hx hb dL_law_253 (by decide) ?_
  refine lv_iadd hx hb dL_law_254 ?_
  refine lv_topi (fun i255 ei255 => ?_)
  have ei255 : i255 = nI (6 * j + 3) := ei255.trans (nI_add (6 * j) 3)
  subst ei255
  refine va_sld hx hb hScr hbl hbA hS (vp_in_nI (show 6 * j + 3 < L by omega) (by omega)) dL_law_255 ?_
  rw [nI_clamp (show 6 * j + 3 < 2 ^ 31 by omega)]
  have hmz : ∀ q, mA Γ q → gA Γ q := fun q h => by have := h.1; show gz Γ ≤ q; omega
  refine va_calli (va_runV (As := [.int (xs (6 * j + 1)), .int (xs (6 * j + 2)), .int (xs (6 * j + 3))]) (rest := []) ⟨hx, hb, hml, hown, hg⟩ (c_M_delete l Γ H1 (t := (xs (6 * j + 1))) (k := (xs (6 * j + 2))) (st := (xs (6 * j + 3))) hP1 hD (by omega) hmd) (cwV 3 hg gL_60 rfl rfl rfl (by decide +kernel) ⟨Nat.le_of_ble_eq_true rfl, Nat.le_of_ble_eq_true rfl⟩) (gP_V hW hS (ci := 2) rfl (hP1 0 _ rfl)) rfl rfl hl.1 rfl (lv_room (Nat.le_of_ble_eq_true rfl)) dL_law_256 ⟨by show 20 + 26 * j + 26 + 0 ≤ 657075; omega, by show 6000 + 112 * j + 112 + 0 ≤ 7124880; omega⟩) hS (fun q _ h => hmz q h) (fun q h => hmz q h) (fun r2 u2 t8 H2 locs2 ht2 hvm2 hp2 hB2 hz2 hk2 hS => ?_)
  rw [ht2] at hB2
  have hX2 : hX (mA Γ) H1 H2 := ⟨hz2, fun q h1 h2 => hk2 q h1 h2⟩
  have hSk : ∀ {rt9 : Nat → Option Nat} {md9 : Nat} {V9 : Nat → Nat → Option Int64} {S9 : Nat → Nat → Int32}, SX Γ H1 x ro md9 rt9 V9 S9 → SX Γ H2 x ro md9 rt9 V9 S9 := fun h => h.kept hX2 (fun h => by have := h.1; omega) (fun h => by have := h.1; omega) (fun q h => by have := h.2; omega)
  have hJk : ∀ {f9 : Nat → Int64}, oJ Γ H1 out 1 f9 → oJ Γ H2 out 1 f9 := fun h => hX2.at h (fun h => by have := h.2; omega)
  have hall : ∃ er2 md2, LI Γ H2 x ro out A er2 md2 ∧ r = er2 ∧ (r = 0 → ∃ fo3, oJ Γ H2 out 1 fo3 ∧ fo3 (0 : Int32).toNatClampNeg = r2.toInt64) := by
    obtain ⟨u1, uj, uk⟩ := u
    rcases hp with ⟨h1, hr1, hbad⟩ | ⟨h1, hr1, hok, hfull⟩ | ⟨h1, hr1, hst, hmd4, htj, etj, hkj, ekj⟩
    · have h1 : u1 = 1 := h1
      subst h1
      obtain ⟨hS1, fo1, hJ1⟩ := hB
      rcases hp2 with ⟨h2, -, -⟩ | ⟨h2, hok, -, -⟩ | ⟨h2, hok, -, -⟩
      · subst h2
        exact ⟨1, md, ⟨fof, fke, fst, fnu, fno, fla, fot, rt, fo1, hSk hS1, hB2, vD_map (by rfl) hD, hMI, hmd1, hJk hJ1⟩, hr1, fun h => by rw [hr1] at h; exact absurd h (by decide)⟩
      · exact absurd hok hbad
      · exact absurd hok hbad
    · have h1 : u1 = 2 := h1
      subst h1
      obtain ⟨hS1, fo1, hJ1⟩ := hB
      rcases hp2 with ⟨h2, hbad, -⟩ | ⟨h2, -, -, -⟩ | ⟨h2, -, hlt, -⟩
      · exact absurd hok hbad
      · subst h2
        exact ⟨2, md, ⟨fof, fke, fst, fnu, fno, fla, fot, rt, fo1, hSk hS1, hB2, vD_map (by rfl) hD, hMI, hmd1, hJk hJ1⟩, hr1, fun h => by rw [hr1] at h; exact absurd h (by decide)⟩
      · exact absurd hlt hfull
    · have h1 : u1 = 0 := h1
      subst h1
      obtain ⟨⟨rt1, hS1⟩, fo1, hJ1, hfo⟩ := hB
      have etj : (xs (6 * j + 1)) = nI uj := etj
      have ekj : (xs (6 * j + 2)) = nI uk := ekj
      have htj : uj < md := htj
      have hkj : uk < 1024 := hkj
      have hok : inT (xs (6 * j + 1)) md ∧ inT (xs (6 * j + 2)) 1024 ∧ okS (xs (6 * j + 3)) := ⟨⟨uj, htj, etj⟩, ⟨uk, hkj, ekj⟩, hst⟩
      rcases hp2 with ⟨h2, hbad, -⟩ | ⟨h2, -, heq, -⟩ | ⟨h2, -, -, hr2⟩
      · exact absurd hok hbad
      · omega
      · subst h2
        have hP9 : va_P Γ.1 gC (wM Γ A 0 (nI (md + 1)) (upd fof md (xs (6 * j + 1))) (upd fke md (xs (6 * j + 2))) (upd fst md (xs (6 * j + 3))) (vp_updL fnu md (0)) (upd fno md 1) fla fot) H2 := hB2
        rw [etj, ekj] at hP9
        exact ⟨0, md + 1, LI_new (no := 1) (v := 0) (by decide) hmd4 hmd1 hMI htj hkj hst (Or.inr rfl) (hSk hS1) hP9 hD (hJk hJ1), hr1, fun _ => ⟨fo1, hJk hJ1, by rw [hr2]; exact hfo⟩⟩
  refine lv_istore (lv' := [(6, .int r2), (5, .int r), (4, .int (nI (6 * j))), (3, .ref out), (2, .ref (A 0)), (1, .ref x), (0, .ref b)]) hx hb dL_law_259 hl (by decide) rfl (fun ls hl => ?_)
  refine lv_aload_n hx hb dL_law_261 rfl (lv_at hl 4 rfl) ?_
  obtain ⟨er2, md2, hLI, hE, hV⟩ := hall
  obtain ⟨fof2, fke2, fst2, fnu2, fno2, fla2, fot2, rt2, fo2, hSX2, hP2, hD2, hM2, hm2, hJ2⟩ := id hLI
  refine vp_callSi (W.runV (As := []) (rest := []) ⟨hx, hb, hml, hown, hg⟩ (c_M_thrown l Γ H2 hP2) (cwV 0 hg gL_53 rfl rfl rfl (by decide +kernel) ⟨Nat.le_of_ble_eq_true rfl, Nat.le_of_ble_eq_true rfl⟩) (gP_V hW hS (ci := 2) rfl (hP2 0 _ rfl)) rfl rfl hl.1 rfl (lv_room (Nat.le_of_ble_eq_true rfl)) dL_law_262 ⟨by show 20 + 26 * j + 26 + 0 + 0 ≤ 657075; omega, by show 6000 + 112 * j + 112 + 0 + 0 ≤ 7124880; omega⟩) (fun r4 hr4 => ?_)
  subst hr4
  refine lv_iload hx hb dL_law_265 (lv_at hl 1 rfl) ?_
  refine lv_icmp_eq (tgt := 272) hx hb dL_law_267 (by decide) (fun k1 => ?_) (fun k1 => ?_)
  · refine lv_iload hx hb dL_law_272 (lv_at hl 1 rfl) ?_
    refine lv_if_ne (tgt := 289) hx hb dL_law_274 (by decide) (fun k2 => ?_) (fun k2 => ?_)
    · refine lv_goto (tgt := 667) hx hb dL_law_289 (by decide) ?_
      refine W.widen (k := 20 + 26 * j + 26) (n := 6000 + 112 * j + 112) (by omega) (by omega) ?_
      exact hk H2 locs2 ls r4 md2 hLI (by omega) hS (lv_sub hl [2, 3, 4, 5, 6] rfl)
    · obtain ⟨fo3, hJ3, hV3⟩ := hV k2
      refine lv_aload_n hx hb dL_law_277 rfl (lv_at hl 3 rfl) ?_
      refine lv_iconst (v := 0) hx hb dL_law_278 (by decide) ?_
      refine va_lald (D := Γ.1) (cl := gC) (tys := gT Γ) hx hb hW.1 (p1 hJ3) 0 0 rfl rfl (by unfold vp_in; decide) dL_law_279 ?_
      refine lv_iload hx hb dL_law_280 (lv_at hl 0 rfl) ?_
      refine lv_i2l (v := r2.toInt64) hx hb dL_law_282 rfl ?_
      refine W.lcmp hx hb dL_law_283 ?_
      refine lv_if_eq (tgt := 289) hx hb dL_law_284 (by decide) (fun k3 => ?_) (fun k3 => ?_)
      · refine lv_goto (tgt := 667) hx hb dL_law_289 (by decide) ?_
        refine W.widen (k := 20 + 26 * j + 26) (n := 6000 + 112 * j + 112) (by omega) (by omega) ?_
        exact hk H2 locs2 ls r4 md2 hLI (by omega) hS (lv_sub hl [2, 3, 4, 5, 6] rfl)
      · exact absurd ((lg_cmp_eq _ _).mpr hV3) k3
  · exact absurd hE.symm k1
