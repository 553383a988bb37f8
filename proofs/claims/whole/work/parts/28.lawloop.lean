/-! the law's loop -/
theorem sub6 {L i : Nat} (hL : L ≤ 3072) (hi : i ≤ 3072) : (Int32.ofNat L - 6 < nI i) ↔ L < i + 6 := by
  have h1 := pk_sub_toInt (a := L) (b := 6) (by omega) (by omega)
  have h2 : (Int32.ofNat L - 6).toInt = (L : Int) - 6 := h1
  rw [Int32.lt_iff_toInt_lt, h2, nI_toInt (by omega)]
  omega
set_option maxHeartbeats 4000000 in
set_option maxRecDepth 100000 in
theorem law_loop {p : Program} {l : Launch} {e : Env} {s : State} {m : MethodId} {below : List Frame} {meth : Method} {c : Code} {b L : Nat} {xs : Nat → Int32} {Γ : gE} {x ro out : Nat} {A : Nat → Nat} (hnt : l.stackTraces = false) (C0 : lw_At p s m meth c b L xs) (hW : PW Γ s) (hgz : gz Γ = s.heap.size) (hZ : ZF Γ x ro out) (hL : L ≤ 3072) : ∀ (n j md : Nat) (er : Int32) (H : Heap) (locs : List Loc) (ls : Array Slot), 6 * j ≤ L → L + 1 ≤ 6 * j + 6 * n → LI Γ H x ro out A er md → gb0 Γ ≤ H.size → va_S (gA Γ) s.heap H locs → lv_has ls 8 [(4, .int (nI (6 * j))), (3, .ref out), (2, .ref (A 0)), (1, .ref x), (0, .ref b)] → W p l e room_1 s m #[Value.ref b] below meth c H locs (20 + 26 * j) (6000 + 112 * j) (lw_Z below #[Value.ref b] s) (F0 m 23 ls []) := by
  obtain ⟨hx, hb, hr, hml, hown0, hts, hScr, hbl, hlocks, hgv⟩ := id C0
  have hown : s.vm.findClass RL = some m.cls := hown0
  have hg : ∀ w ∈ gW, w.before #[Value.ref b] s = true := fun w h => hts w (gW_tbl h)
  have hbA : ¬ gA Γ b := by unfold gA; omega
  intro n
  induction n with
  | zero =>
    intro j md er H locs ls h1 h2
    omega
  | succ n ih =>
    intro j md er H locs ls h1 h2 hI hbz hS hl
    refine lv_iload hx hb dL_law_23 (lv_at hl 0 rfl) ?_
    refine lv_aload_n hx hb dL_law_25 rfl (lv_at hl 4 rfl) ?_
    refine va_slen hx hb hScr hbl hbA hS dL_law_26 ?_
    refine lv_bipush (v := 6) hx hb dL_law_27 (by decide) ?_
    refine lv_isub hx hb dL_law_29 ?_
    refine lv_icmp_gt (tgt := 673) hx hb dL_law_30 (by decide) (fun c1 => ?_) (fun c1 => ?_)
    · refine lv_iconst (v := 1) hx hb dL_law_673 (by decide) ?_
      refine va_forget (fun q hq => by have := hS.2.2 q hq; unfold gA at this; omega) ?_
      refine W.widen (k := 657075) (n := 7124880) (by omega) (by omega) ?_
      exact lw_ret hx hb hr hlocks dL_law_674
    · have hj : 6 * j + 6 ≤ L := by
        rcases Nat.lt_or_ge L (6 * j + 6) with h | h
        · exact absurd ((sub6 hL (by omega)).mpr h) c1
        · exact h
      have hk : ∀ (H2 : Heap) (locs2 : List Loc) (ls2 : Array Slot) (er2 : Int32) (md2 : Nat), LI Γ H2 x ro out A er2 md2 → gb0 Γ ≤ H2.size → va_S (gA Γ) s.heap H2 locs2 → lv_has ls2 8 [(4, .int (nI (6 * j))), (3, .ref out), (2, .ref (A 0)), (1, .ref x), (0, .ref b)] → W p l e room_1 s m #[Value.ref b] below meth c H2 locs2 (20 + 26 * j + 26) (6000 + 112 * j + 112) (lw_Z below #[Value.ref b] s) (F0 m 667 ls2 []) := by
        intro H2 locs2 ls2 er2 md2 hI2 hz2 hS2 hl
        rw [show 20 + 26 * j + 26 = 20 + 26 * (j + 1) by omega, show 6000 + 112 * j + 112 = 6000 + 112 * (j + 1) by omega]
        refine lv_iinc (v := nI (6 * (j + 1))) (lv' := [(4, .int (nI (6 * (j + 1)))), (3, .ref out), (2, .ref (A 0)), (1, .ref x), (0, .ref b)]) hx hb dL_law_667 hl (k := 0) rfl (by rw [show 6 * (j + 1) = 6 * j + 6 by omega]; exact nI_add (6 * j) 6) (by decide) rfl (fun ls hl => ?_)
        refine lv_goto (tgt := 23) hx hb dL_law_670 (by decide) ?_
        exact ih (j + 1) md2 er2 H2 locs2 ls (by omega) (by omega) hI2 hz2 hS2 (lv_sub hl [0, 1, 2, 3, 4] rfl)
      refine lv_aload_n hx hb dL_law_33 rfl (lv_at hl 4 rfl) ?_
      refine lv_iload hx hb dL_law_34 (lv_at hl 0 rfl) ?_
      refine va_sld hx hb hScr hbl hbA hS (vp_in_nI (show 6 * j < L by omega) (by omega)) dL_law_36 ?_
      rw [nI_clamp (show 6 * j < 2 ^ 31 by omega)]
      refine lv_bipush (v := 7) hx hb dL_law_37 (by decide) ?_
      refine lv_iand hx hb dL_law_39 ?_
      obtain ⟨wj, hwj, ewj⟩ := pk_andE (xs (6 * j)) (m := 7) 3 (by decide)
      have hwj : wj < 8 := hwj
      refine lv_topi (fun sv esv => ?_)
      have esv : sv = nI wj := esv.trans (ewj)
      subst esv
      rcases (show wj = 0 ∨ wj = 1 ∨ wj = 2 ∨ wj = 3 ∨ wj = 4 ∨ wj = 5 ∨ wj = 6 ∨ wj = 7 by omega) with rfl | rfl | rfl | rfl | rfl | rfl | rfl | rfl
      · refine lv_tableIn (off := 48) (tgt := 88) hx hb dL_law_40 (by decide) (by decide) (by decide) (by decide) ?_
        exact law_put hnt C0 hW hgz hZ hL hj hI hbz hS hl hk
      · refine lv_tableIn (off := 172) (tgt := 212) hx hb dL_law_40 (by decide) (by decide) (by decide) (by decide) ?_
        exact law_delete hnt C0 hW hgz hZ hL hj hI hbz hS hl hk
      · refine lv_tableIn (off := 252) (tgt := 292) hx hb dL_law_40 (by decide) (by decide) (by decide) (by decide) ?_
        exact law_get hnt C0 hW hgz hZ hL hj hI hbz hS hl hk
      · refine lv_tableIn (off := 319) (tgt := 359) hx hb dL_law_40 (by decide) (by decide) (by decide) (by decide) ?_
        exact law_stamp hnt C0 hW hgz hZ hL hj hI hbz hS hl hk
      · refine lv_tableIn (off := 387) (tgt := 427) hx hb dL_law_40 (by decide) (by decide) (by decide) (by decide) ?_
        exact law_part hnt C0 hW hgz hZ hL hj hI hbz hS hl hk
      · refine lv_tableIn (off := 478) (tgt := 518) hx hb dL_law_40 (by decide) (by decide) (by decide) (by decide) ?_
        exact law_at hnt C0 hW hgz hZ hL hj hI hbz hS hl hk
      · refine lv_tableIn (off := 546) (tgt := 586) hx hb dL_law_40 (by decide) (by decide) (by decide) (by decide) ?_
        exact law_differ hnt C0 hW hgz hZ hL hj hI hbz hS hl hk
      · refine lv_tableIn (off := 614) (tgt := 654) hx hb dL_law_40 (by decide) (by decide) (by decide) (by decide) ?_
        exact law_tables hnt C0 hW hgz hZ hL hj hI hbz hS hl hk
