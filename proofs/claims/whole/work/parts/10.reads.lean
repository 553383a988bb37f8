/-! reads of a tree -/
theorem half_eq (k L : Nat) : k / 2 ^ L * 2 ^ L = k / 2 ^ (L + 1) * 2 ^ (L + 1) + (if k / 2 ^ L % 2 = 1 then 2 ^ L else 0) := by
  have h1 : k / 2 ^ (L + 1) = k / 2 ^ L / 2 := by rw [Nat.pow_succ, Nat.div_div_eq_div_mul]
  rw [h1]
  generalize k / 2 ^ L = q
  have h2 : q / 2 * 2 ^ (L + 1) = (2 * (q / 2)) * 2 ^ L := by rw [Nat.pow_succ, Nat.mul_comm (2 ^ L) 2, ← Nat.mul_assoc, Nat.mul_comm (q / 2) 2]
  rw [h2]
  by_cases h : q % 2 = 1
  · rw [if_pos h, show q = 2 * (q / 2) + 1 by omega, Nat.add_mul]
    have : (2 * (q / 2) + 1) / 2 = q / 2 := by omega
    rw [this, Nat.one_mul]
  · rw [if_neg h]
    have : q = 2 * (q / 2) := by omega
    rw [← this]; rfl
set_option maxHeartbeats 4000000 in
set_option maxRecDepth 100000 in
theorem c_S_leafOf (l : Launch) (Γ : gE) (H : Heap) {V : Nat → Option Int64} {S : Nat → Int32} {r : Option Nat} {k : Nat} (hT : TR Γ H V S 10 0 r) (hk : k < 1024) : Met l yS_leafOf wS_leafOf ({ frames := 2, cells := 0, slots := 0, locals := 200 }) (gP Γ H [va_rf r, .int (nI k)]) (va_Sq (fun x => TR Γ H V S 0 k x)) 0 0 (fun _ => False) := by
  refine Met.ofW (cc := cS_leafOf) (maxL := 4) (ret := (some (.object "StampTables$Block"))) (by decide) rfl ?_
  intro p e s m args below meth c s₁ B hml hv
  obtain ⟨rfl, rfl, hW⟩ := hv
  have hx := B.exec
  have hb := B.bytes
  have hr := B.returns
  have hg : ∀ w ∈ gW, w.before _ s = true := fun w h => atoms_spec (ws := wS_leafOf) B.pre w (List.mem_cons_of_mem _ h)
  have hown : s.vm.findClass RS = some m.cls := findClass_of_methodNamed B.named
  have hlocks := B.notSynchronized
  have hS : va_S (gA Γ) s.heap s.heap [] := va_S.rf
  have hl := lv_entry ([va_rf r, .int (nI k)]) (n := 4) (by cases r <;> exact Nat.le_of_ble_eq_true rfl)
  rw [lg_entry_eq]
  generalize (lg_sl ([va_rf r, .int (nI k)]) ++ List.replicate (4 - (lg_sl ([va_rf r, .int (nI k)])).length) Slot.unset).toArray = ls at hl ⊢
  have hl : lv_has ls 4 [(0, va_rf r), (1, .int (nI k))] := by cases r <;> exact hl
  have key : ∀ (L : Nat) (q : Option Nat) (ls : Array Slot), L ≤ 10 → TR Γ s.heap V S L (k / 2 ^ L * 2 ^ L) q → lv_has ls 4 [(3, .int (nI L)), (2, va_rf q), (0, va_rf r), (1, .int (nI k))] → W p l e (headSpec wS_leafOf ({ frames := 2, cells := 0, slots := 0, locals := 200 })).room s m [va_rf r, .int (nI k)].toArray below meth c s.heap [] 0 0 (MQ below (va_Sq (fun x => TR Γ s.heap V S 0 k x)) [va_rf r, .int (nI k)].toArray s 0 0 (fun _ => False)) (F0 m 5 ls []) := by
    intro L
    induction L with
    | zero =>
      intro q ls hL hT hl
      refine lv_iload_n hx hb dS_leafOf_5 rfl (lv_at hl 0 rfl) ?_
      refine lv_if_le (tgt := 35) hx hb dS_leafOf_6 (by decide) (fun c1 => ?_) (fun c1 => ?_)
      · refine q_aload_n hx hb dS_leafOf_35 rfl (lv_at hl 1 rfl) ?_
        exact W.aret (v := va_rf q) hx hb hr (Or.inl ⟨_, rfl⟩) (va_rf_or _) (fun t ht hW9 => ⟨q, rfl, by simpa using hT, ht⟩) (fun _ h => nomatch h) dS_leafOf_36
      · exact absurd (by decide) c1
    | succ L ih =>
      intro q ls hL hT hl
      obtain ⟨-, lo, up, hbl, hlo, hup⟩ := hT
      refine lv_iload_n hx hb dS_leafOf_5 rfl (lv_at hl 0 rfl) ?_
      refine lv_if_le (tgt := 35) hx hb dS_leafOf_6 (by decide) (fun c1 => ?_) (fun c1 => ?_)
      · exact absurd c1 (nI_nle (by omega) (by omega))
      · refine lv_iload_n hx hb dS_leafOf_9 rfl (lv_at hl 3 rfl) ?_
        refine lv_iload_n hx hb dS_leafOf_10 rfl (lv_at hl 0 rfl) ?_
        refine vp_callSi (W.runS (As := [.int (nI k), .int (nI (L + 1))]) (rest := []) ⟨hx, hb, hml, hown, hg⟩ (c_S_isInUpperHalf l Γ s.heap (k := k) (L := L) hk (by omega)) (va_cwS 2 hg gS_101 rfl rfl rfl (by decide +kernel) ⟨Nat.le_of_ble_eq_true rfl, Nat.le_of_ble_eq_true rfl⟩) (gP_S hW hS) rfl rfl hl.1 rfl (lv_room (Nat.le_of_ble_eq_true rfl)) dS_leafOf_11 ⟨Nat.le_of_ble_eq_true rfl, Nat.le_of_ble_eq_true rfl⟩) (fun r1 hr1 => ?_)
        refine lv_if_eq (tgt := 24) hx hb dS_leafOf_14 (by decide) (fun c2 => ?_) (fun c2 => ?_)
        · have h1 : ¬ k / 2 ^ L % 2 = 1 := fun h => by rw [hr1, if_pos h] at c2; exact absurd c2 (by decide)
          have e1 := half_eq k L
          rw [if_neg h1, Nat.add_zero] at e1
          refine q_aload_n hx hb dS_leafOf_24 rfl (lv_at hl 1 rfl) ?_
          refine va_csq (W.runS (As := [va_rf q]) (rest := []) ⟨hx, hb, hml, hown, hg⟩ (c_S_lowerOf l Γ s.heap hbl) (va_cwS 1 hg gS_94 rfl rfl rfl (by decide +kernel) ⟨Nat.le_of_ble_eq_true rfl, Nat.le_of_ble_eq_true rfl⟩) (gP_S hW hS) rfl rfl hl.1 rfl (lv_room (Nat.le_of_ble_eq_true rfl)) dS_leafOf_25 ⟨Nat.le_of_ble_eq_true rfl, Nat.le_of_ble_eq_true rfl⟩) (fun x hx9 => ?_)
          subst hx9
          refine q_astore_n (lv' := [(2, va_rf x), (3, .int (nI (L + 1))), (0, va_rf r), (1, .int (nI k))]) hx hb dS_leafOf_28 rfl hl (by decide) rfl (fun ls hl => ?_)
          refine lv_iinc (v := nI L) (lv' := [(3, .int (nI L)), (2, va_rf x), (0, va_rf r), (1, .int (nI k))]) hx hb dS_leafOf_29 hl (k := 1) rfl (pk_m1 L) (by decide) (by cases x <;> rfl) (fun ls hl => ?_)
          refine lv_goto (tgt := 5) hx hb dS_leafOf_32 (by decide) ?_
          exact ih x ls (by omega) (by rw [e1]; exact hlo) (lv_sub hl [0, 1, 2, 3] rfl)
        · have h1 : k / 2 ^ L % 2 = 1 := by
            by_cases h : k / 2 ^ L % 2 = 1
            · exact h
            · rw [hr1, if_neg h] at c2
              exact absurd rfl c2
          have e1 := half_eq k L
          rw [if_pos h1] at e1
          refine q_aload_n hx hb dS_leafOf_17 rfl (lv_at hl 1 rfl) ?_
          refine va_csq (W.runS (As := [va_rf q]) (rest := []) ⟨hx, hb, hml, hown, hg⟩ (c_S_upperOf l Γ s.heap hbl) (va_cwS 1 hg gS_98 rfl rfl rfl (by decide +kernel) ⟨Nat.le_of_ble_eq_true rfl, Nat.le_of_ble_eq_true rfl⟩) (gP_S hW hS) rfl rfl hl.1 rfl (lv_room (Nat.le_of_ble_eq_true rfl)) dS_leafOf_18 ⟨Nat.le_of_ble_eq_true rfl, Nat.le_of_ble_eq_true rfl⟩) (fun x hx9 => ?_)
          subst hx9
          refine lv_goto (tgt := 28) hx hb dS_leafOf_21 (by decide) ?_
          refine q_astore_n (lv' := [(2, va_rf x), (3, .int (nI (L + 1))), (0, va_rf r), (1, .int (nI k))]) hx hb dS_leafOf_28 rfl hl (by decide) rfl (fun ls hl => ?_)
          refine lv_iinc (v := nI L) (lv' := [(3, .int (nI L)), (2, va_rf x), (0, va_rf r), (1, .int (nI k))]) hx hb dS_leafOf_29 hl (k := 1) rfl (pk_m1 L) (by decide) (by cases x <;> rfl) (fun ls hl => ?_)
          refine lv_goto (tgt := 5) hx hb dS_leafOf_32 (by decide) ?_
          exact ih x ls (by omega) (by rw [e1]; exact hup) (lv_sub hl [0, 1, 2, 3] rfl)
  refine q_aload_n hx hb dS_leafOf_0 rfl (lv_at hl 0 rfl) ?_
  refine q_astore_n (lv' := [(2, va_rf r), (0, va_rf r), (1, .int (nI k))]) hx hb dS_leafOf_1 rfl hl (by decide) rfl (fun ls hl => ?_)
  refine lv_bipush (v := 10) hx hb dS_leafOf_2 (by decide) ?_
  refine lv_istore_n (lv' := [(3, .int 10), (2, va_rf r), (0, va_rf r), (1, .int (nI k))]) hx hb dS_leafOf_4 rfl hl (by decide) (by cases r <;> rfl) (fun ls hl => ?_)
  exact key 10 r ls (Nat.le_refl _) (by rw [show k / 2 ^ 10 * 2 ^ 10 = 0 by omega]; exact hT) (lv_sub hl [0, 1, 2, 3] rfl)
set_option maxHeartbeats 4000000 in
set_option maxRecDepth 100000 in
theorem c_S_haveSameNumber (l : Launch) (Γ : gE) (H : Heap) {r q : Option Nat} {f f2 : Nat → Int64} (hf : bT Γ H r f) (hf2 : bT Γ H q f2) : Met l yS_haveSameNumber wS_haveSameNumber ({ frames := 2, cells := 0, slots := 0, locals := 200 }) (gP Γ H [va_rf r, va_rf q]) (vp_Si (fun x => x = if f 0 = f2 0 ∧ f 1 = f2 1 then 1 else 0)) 0 0 (fun _ => False) := by
  refine Met.ofW (cc := cS_haveSameNumber) (maxL := 2) (ret := (some .boolean)) (by decide) rfl ?_
  intro p e s m args below meth c s₁ B hml hv
  obtain ⟨rfl, rfl, hW⟩ := hv
  have hx := B.exec
  have hb := B.bytes
  have hr := B.returns
  have hg : ∀ w ∈ gW, w.before _ s = true := fun w h => atoms_spec (ws := wS_haveSameNumber) B.pre w (List.mem_cons_of_mem _ h)
  have hown : s.vm.findClass RS = some m.cls := findClass_of_methodNamed B.named
  have hlocks := B.notSynchronized
  have hS : va_S (gA Γ) s.heap s.heap [] := va_S.rf
  have hl := lv_entry ([va_rf r, va_rf q]) (n := 2) (by cases r <;> cases q <;> exact Nat.le_of_ble_eq_true rfl)
  rw [lg_entry_eq]
  generalize (lg_sl ([va_rf r, va_rf q]) ++ List.replicate (2 - (lg_sl ([va_rf r, va_rf q])).length) Slot.unset).toArray = ls at hl ⊢
  have hl : lv_has ls 2 [(0, va_rf r), (1, va_rf q)] := by cases r <;> cases q <;> exact hl
  refine q_aload_n hx hb dS_haveSameNumber_0 rfl (lv_at hl 0 rfl) ?_
  refine lv_iconst (v := 0) hx hb dS_haveSameNumber_1 (by decide) ?_
  refine vp_callSl (W.runS (As := [va_rf r, .int 0]) (rest := []) ⟨hx, hb, hml, hown, hg⟩ (c_S_takenOf l Γ s.heap (w := 0) (by omega) hf) (va_cwS 2 hg gS_46 rfl rfl rfl (by decide +kernel) ⟨Nat.le_of_ble_eq_true rfl, Nat.le_of_ble_eq_true rfl⟩) (gP_S hW hS) rfl rfl hl.1 rfl (lv_room (Nat.le_of_ble_eq_true rfl)) dS_haveSameNumber_2 ⟨Nat.le_of_ble_eq_true rfl, Nat.le_of_ble_eq_true rfl⟩) (fun x0 hx0 => ?_)
  refine q_aload_n hx hb dS_haveSameNumber_5 rfl (lv_at hl 1 rfl) ?_
  refine lv_iconst (v := 0) hx hb dS_haveSameNumber_6 (by decide) ?_
  refine vp_callSl (W.runS (As := [va_rf q, .int 0]) (rest := [.long x0]) ⟨hx, hb, hml, hown, hg⟩ (c_S_takenOf l Γ s.heap (w := 0) (by omega) hf2) (va_cwS 2 hg gS_46 rfl rfl rfl (by decide +kernel) ⟨Nat.le_of_ble_eq_true rfl, Nat.le_of_ble_eq_true rfl⟩) (gP_S hW hS) rfl rfl hl.1 rfl (lv_room (Nat.le_of_ble_eq_true rfl)) dS_haveSameNumber_7 ⟨Nat.le_of_ble_eq_true rfl, Nat.le_of_ble_eq_true rfl⟩) (fun y0 hy0 => ?_)
  refine W.lcmp hx hb dS_haveSameNumber_10 ?_
  refine lv_if_ne (tgt := 32) hx hb dS_haveSameNumber_11 (by decide) (fun c1 => ?_) (fun c1 => ?_)
  · have h1 : ¬ f 0 = f2 0 := fun h => c1 ((lg_cmp_eq _ _).mpr (by rw [hx0, hy0]; exact h))
    refine lv_iconst (v := 0) hx hb dS_haveSameNumber_32 (by decide) ?_
    exact W.zret (v := 0) hx hb hr (by decide) (fun t ht hW9 => ⟨_, rfl, by simp [h1], ht⟩) (fun _ h => nomatch h) dS_haveSameNumber_33
  · have h1 : f 0 = f2 0 := by rw [← hx0, ← hy0]; exact (lg_cmp_eq _ _).mp c1
    refine q_aload_n hx hb dS_haveSameNumber_14 rfl (lv_at hl 0 rfl) ?_
    refine lv_iconst (v := 1) hx hb dS_haveSameNumber_15 (by decide) ?_
    refine vp_callSl (W.runS (As := [va_rf r, .int 1]) (rest := []) ⟨hx, hb, hml, hown, hg⟩ (c_S_takenOf l Γ s.heap (w := 1) (by omega) hf) (va_cwS 2 hg gS_46 rfl rfl rfl (by decide +kernel) ⟨Nat.le_of_ble_eq_true rfl, Nat.le_of_ble_eq_true rfl⟩) (gP_S hW hS) rfl rfl hl.1 rfl (lv_room (Nat.le_of_ble_eq_true rfl)) dS_haveSameNumber_16 ⟨Nat.le_of_ble_eq_true rfl, Nat.le_of_ble_eq_true rfl⟩) (fun x1 hx1 => ?_)
    refine q_aload_n hx hb dS_haveSameNumber_19 rfl (lv_at hl 1 rfl) ?_
    refine lv_iconst (v := 1) hx hb dS_haveSameNumber_20 (by decide) ?_
    refine vp_callSl (W.runS (As := [va_rf q, .int 1]) (rest := [.long x1]) ⟨hx, hb, hml, hown, hg⟩ (c_S_takenOf l Γ s.heap (w := 1) (by omega) hf2) (va_cwS 2 hg gS_46 rfl rfl rfl (by decide +kernel) ⟨Nat.le_of_ble_eq_true rfl, Nat.le_of_ble_eq_true rfl⟩) (gP_S hW hS) rfl rfl hl.1 rfl (lv_room (Nat.le_of_ble_eq_true rfl)) dS_haveSameNumber_21 ⟨Nat.le_of_ble_eq_true rfl, Nat.le_of_ble_eq_true rfl⟩) (fun y1 hy1 => ?_)
    refine W.lcmp hx hb dS_haveSameNumber_24 ?_
    refine lv_if_ne (tgt := 32) hx hb dS_haveSameNumber_25 (by decide) (fun c2 => ?_) (fun c2 => ?_)
    · have h2 : ¬ f 1 = f2 1 := fun h => c2 ((lg_cmp_eq _ _).mpr (by rw [hx1, hy1]; exact h))
      refine lv_iconst (v := 0) hx hb dS_haveSameNumber_32 (by decide) ?_
      exact W.zret (v := 0) hx hb hr (by decide) (fun t ht hW9 => ⟨_, rfl, by simp [h2], ht⟩) (fun _ h => nomatch h) dS_haveSameNumber_33
    · have h2 : f 1 = f2 1 := by rw [← hx1, ← hy1]; exact (lg_cmp_eq _ _).mp c2
      refine lv_iconst (v := 1) hx hb dS_haveSameNumber_28 (by decide) ?_
      refine lv_goto (tgt := 33) hx hb dS_haveSameNumber_29 (by decide) ?_
      exact W.zret (v := 1) hx hb hr (by decide) (fun t ht hW9 => ⟨_, rfl, by simp [h1, h2], ht⟩) (fun _ h => nomatch h) dS_haveSameNumber_33
