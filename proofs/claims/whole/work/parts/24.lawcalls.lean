/-! the law's own calls: what was thrown is caught, the answer goes into out[0] -/
section JL
variable {p : Program} {l : Launch} {e : Env} {R : Room} {s : State} {m : MethodId} {args : Array Value} {below : List Frame} {meth : Method} {c : Code} {H : Heap} {locs : List Loc} {cells slots : Nat} {Q : State → Prop}
variable {cc : ByteArray} {pc : Nat} {ls : Array Slot} {rest : List Value}
theorem j_last {Γ : gE} {a n : Nat} {f : Nat → Int64} {A : Nat → Prop} {H0 : Heap} (hexec : p.tables.exec = Jvm.exec) (hb : c.code = cc) (hK : va_K Γ.1 gC (gT Γ) s) (ha : oJ Γ H a n f) (hS : va_S A H0 H locs) (hA : A a) {i : Int32} {x : Int64} (hin : vp_in i n) (hdg : decode cc pc = .ok (.lastore, 1))
    (kk : ∀ (H1 : Heap) (locs1 : List Loc), oJ Γ H1 a n (vp_updL f i.toNatClampNeg x) → H1.size = H.size → (∀ q : Nat, q ≠ a → H1[q]? = H[q]?) → va_S A H0 H1 locs1 → W p l e R s m args below meth c H1 locs1 cells slots Q (F0 m (pc + 1) ls rest)) : W p l e R s m args below meth c H locs cells slots Q (F0 m pc ls (.long x :: .int i :: .ref a :: rest)) := by
  refine W.last hexec hb ha ((hK.2 0 _ rfl).1 n (fun j => .long (f j))) (fun q => by cases q) (by show ¬ (i < 0 ∨ (arrV _ _ _).slots.size ≤ _); rw [arrV_size]; exact hin) rfl rfl hdg fun H1 e z oq => ?_
  refine kk H1 _ ?_ z oq (hS.put z oq hA)
  show H1[a]? = some (vp_cell _ _)
  rw [e]
  rw [vp_cell_l, vp_cell_l, arrV_store]
  congr 2
  funext q
  by_cases hq : q = i.toNatClampNeg
  · subst hq
    simp [updV, vp_updL]
  · simp [updV, vp_updL, hq]
end JL
theorem SX.kept {Γ : gE} {H H1 : Heap} {A : Nat → Prop} {x ro md : Nat} {rt : Nat → Option Nat} {Vs : Nat → Nat → Option Int64} {Ss : Nat → Nat → Int32} (h : SX Γ H x ro md rt Vs Ss) (hk : hX A H H1) (hx : ¬ A x) (hr : ¬ A ro) (hA : ∀ q, A q → q < gb0 Γ) : SX Γ H1 x ro md rt Vs Ss :=
  ⟨hk.at h.1 hx, hk.at h.2.1 hr, h.2.2.1, fun t ht => ⟨(h.2.2.2 t ht).1, (h.2.2.2 t ht).2.kept (hk.mono (fun q _ hq => hA q hq))⟩⟩
theorem SX.new {Γ : gE} {H H1 : Heap} {x ro md y : Nat} {rt : Nat → Option Nat} {Vs : Nat → Nat → Option Int64} {Ss : Nat → Nat → Int32} {V' : Nat → Option Int64} {S' : Nat → Int32} (h : SX Γ H x ro md rt Vs Ss) (hk : hX (fun q => q = x ∨ q = ro) H H1) (hx : x < gb0 Γ) (hr : ro < gb0 Γ) (hmd : md < 400) (hO : oS Γ H1 x ro (nI (md + 1))) (hR : oO Γ H1 ro 400 (va_up rt md (some y))) (hT : TR Γ H1 V' S' 10 0 (some y)) (hwf : wfS S') : SX Γ H1 x ro (md + 1) (va_up rt md (some y)) (va_up Vs md V') (va_up Ss md S') := by
  refine ⟨hO, hR, by omega, fun t ht => ?_⟩
  by_cases e : t = md
  · subst e
    rw [va_up_self, va_up_self, va_up_self]
    exact ⟨hwf, hT⟩
  · rw [va_up_ne _ _ e, va_up_ne _ _ e, va_up_ne _ _ e]
    exact ⟨(h.2.2.2 t (by omega)).1, (h.2.2.2 t (by omega)).2.kept (hk.mono (fun q _ hq => hq.elim (fun h => by rw [h]; exact hx) (fun h => by rw [h]; exact hr)))⟩
set_option maxHeartbeats 4000000 in
set_option maxRecDepth 100000 in
theorem c_L_put (l : Launch) (hnt : l.stackTraces = false) (Γ : gE) (H : Heap) {x ro md out : Nat} {rt : Nat → Option Nat} {Vs : Nat → Nat → Option Int64} {Ss : Nat → Nat → Int32} {fo : Nat → Int64} {t k st : Int32} {v : Int64} (hX0 : SX Γ H x ro md rt Vs Ss) (hJ : oJ Γ H out 1 fo) (hxro : x ≠ ro) (hzx : gz Γ ≤ x) (hzr : gz Γ ≤ ro) (hzo : gz Γ ≤ out) (hx0 : x < gb0 Γ) (hr0 : ro < gb0 Γ) (ho0 : out < gb0 Γ) (hxo : x ≠ out) (hro : ro ≠ out) (hz : gb0 Γ ≤ H.size) : Met l yL_put wL_put ({ frames := 60, cells := 26, slots := 112, locals := 8000 }) (gP Γ H [.ref x, .int t, .int k, .long v, .int st, .ref out]) (va_Qi (fun r (u : Nat × Nat × Nat) => (u.1 = 1 ∧ r = 1 ∧ ¬ (inT t md ∧ inT k 1024 ∧ okS st)) ∨ (u.1 = 2 ∧ r = 2 ∧ (inT t md ∧ inT k 1024 ∧ okS st) ∧ ¬ md < 400) ∨ (u.1 = 0 ∧ r = 0 ∧ okS st ∧ md < 400 ∧ u.2.1 < md ∧ t = nI u.2.1 ∧ u.2.2 < 1024 ∧ k = nI u.2.2)) (fun u t' => match u.1 with | 0 => (∃ rt', SX Γ t'.heap x ro (md + 1) rt' (va_up Vs md (va_up (Vs u.2.1) u.2.2 (some v))) (va_up Ss md (va_up (Ss u.2.1) u.2.2 st))) ∧ ∃ fo', oJ Γ t'.heap out 1 fo' ∧ fo' 0 = (nI md).toInt64 | _ => SX Γ t'.heap x ro md rt Vs Ss ∧ ∃ fo', oJ Γ t'.heap out 1 fo') (fun q => q = x ∨ q = ro ∨ q = out)) 26 112 (fun q => q = x ∨ q = ro ∨ q = out ∨ H.size ≤ q) := by
  refine va_MetW (cc := cL_put) (maxL := 8) (ret := (some .int)) (hh := [(0, 14, 17, 13), (0, 14, 21, 15)]) (by decide) rfl ?_
  intro p e s m args below meth c s₁ B hml hv
  obtain ⟨rfl, rfl, hW⟩ := hv
  have hx := B.exec
  have hb := B.bytes
  have hr := B.returns
  have hg : ∀ w ∈ gW, w.before _ s = true := fun w h => atoms_spec (ws := wL_put) B.pre w (List.mem_cons_of_mem _ h)
  have hown : s.vm.findClass RL = some m.cls := findClass_of_methodNamed B.named
  have hlocks := B.notSynchronized
  have hS : va_S (gA Γ) s.heap s.heap [] := va_S.rf
  have hl := lv_entry ([.ref x, .int t, .int k, .long v, .int st, .ref out]) (n := 8) (Nat.le_of_ble_eq_true rfl)
  rw [lg_entry_eq]
  generalize (lg_sl ([.ref x, .int t, .int k, .long v, .int st, .ref out]) ++ List.replicate (8 - (lg_sl ([.ref x, .int t, .int k, .long v, .int st, .ref out])).length) Slot.unset).toArray = ls at hl ⊢
  have hl : lv_has ls 8 [(0, .ref x), (1, .int t), (2, .int k), (3, .long v), (5, .int st), (6, .ref out)] := hl
  have htab : c.exceptionTable.toList = [⟨0, 14, 17, 13⟩, ⟨0, 14, 21, 15⟩] := vx_table (x := yL_put) B (atoms_spec (ws := wL_put) B.pre _ List.mem_cons_self)
  have hS : va_S (fun q => q = x ∨ q = ro ∨ q = out ∨ s.heap.size ≤ q) s.heap s.heap [] := va_S.rf
  have hSG : va_S (gA Γ) s.heap s.heap [] := va_S.rf
  refine lv_aload hx hb dL_put_0 (lv_at hl 5 rfl) ?_
  refine lv_iconst (v := 0) hx hb dL_put_2 (by decide) ?_
  refine lv_aload_n hx hb dL_put_3 rfl (lv_at hl 0 rfl) ?_
  refine lv_iload_n hx hb dL_put_4 rfl (lv_at hl 1 rfl) ?_
  refine lv_iload_n hx hb dL_put_5 rfl (lv_at hl 2 rfl) ?_
  refine lv_lload_n hx hb dL_put_6 rfl (lv_at hl 3 rfl) ?_
  refine lv_iload hx hb dL_put_7 (lv_at hl 4 rfl) ?_
  refine vx_calli (vx_runV (As := [.int t, .int k, .long v, .int st]) (rest := [.int 0, .ref out]) ⟨hx, hb, hml, hown, hg⟩ (c_S_put l hnt Γ s.heap (t := t) (k := k) (v := v) (st := st) hX0 hxro hzx hzr hx0 hr0 hz) (cwV 4 hg gL_7 rfl rfl rfl (by decide +kernel) ⟨Nat.le_of_ble_eq_true rfl, Nat.le_of_ble_eq_true rfl⟩) (gP_V hW hSG (ci := 1) rfl hX0.1) rfl rfl hl.1 rfl (lv_room (Nat.le_of_ble_eq_true rfl)) dL_put_9 ⟨Nat.le_of_ble_eq_true rfl, Nat.le_of_ble_eq_true rfl⟩) hS (fun q _ h => h.elim Or.inl (fun h => Or.inr (Or.inl h))) (fun q h => h.elim Or.inl (fun h => h.elim (fun h => Or.inr (Or.inl h)) (fun h => Or.inr (Or.inr (Or.inr h))))) (fun q _ h => h.elim) (fun E ce q9 u tx H1 locs1 ht hvm hpx hBX hz1 hk1 hS hcell hcv hcl => ?_) (fun r u t9 H1 locs1 ht hvm hp hB hz1 hk1 hS => ?_)
  · have hXX : hX (fun _ => False) s.heap H1 := ⟨hz1, fun q h1 h2 => hk1 q h1 h2⟩
    have hSX := hX0.kept hXX (fun h => h) (fun h => h) (fun q h => h.elim)
    have hJ1 : oJ Γ H1 out 1 fo := hXX.at hJ (fun h => h)
    rcases hBX with ⟨rfl, hbad⟩ | ⟨rfl, hbad⟩
    · refine vx_catch (own := RL) (name := xIA) (E := xIA) hown [] ⟨0, 14, 17, 13⟩ [⟨0, 14, 21, 15⟩] htab (fun z hz => nomatch hz) (by decide) (by decide) (hg _ kw45) ((hW.2.1.1 _ (List.mem_of_getElem? (i := 4) rfl)).use rfl) hcell hcv hcl ?_
      refine lv_astore (lv' := [(7, .ref q9), (0, .ref x), (1, .int t), (2, .int k), (3, .long v), (5, .int st), (6, .ref out)]) hx hb dL_put_17 hl (by decide) rfl (fun ls hl => ?_)
      refine lv_iconst (v := 1) hx hb dL_put_19 (by decide) ?_
      exact W.iret (v := 1) hx hb hr (fun t8 ht8 hW9 => ⟨⟨1, (1, 0, 0), rfl, Or.inl ⟨rfl, rfl, hbad⟩, by subst ht8; exact ⟨hSX, fo, hJ1⟩⟩, ⟨by rw [ht8]; exact hS.1, fun q h1 h2 => by rw [ht8]; exact hk1 q h1 id⟩⟩) (fun q hq => hS.2.2 q hq) dL_put_20
    · refine vx_catch (own := RL) (name := xIO) (E := xIO) hown [⟨0, 14, 17, 13⟩] ⟨0, 14, 21, 15⟩ [] htab (fun z hz => by rw [List.mem_singleton.mp hz]; exact Or.inr ⟨by decide, xIA, hg _ kw45, hW.2.1.2.2.1 (xIO, xIA) (List.mem_of_getElem? (i := 0) rfl)⟩) (by decide) (by decide) (hg _ kw46) ((hW.2.1.1 _ (List.mem_of_getElem? (i := 5) rfl)).use rfl) hcell hcv hcl ?_
      refine lv_astore (lv' := [(7, .ref q9), (0, .ref x), (1, .int t), (2, .int k), (3, .long v), (5, .int st), (6, .ref out)]) hx hb dL_put_21 hl (by decide) rfl (fun ls hl => ?_)
      refine lv_iconst (v := 2) hx hb dL_put_23 (by decide) ?_
      exact W.iret (v := 2) hx hb hr (fun t8 ht8 hW9 => ⟨⟨2, (2, 0, 0), rfl, Or.inr (Or.inl ⟨rfl, rfl, hbad⟩), by subst ht8; exact ⟨hSX, fo, hJ1⟩⟩, ⟨by rw [ht8]; exact hS.1, fun q h1 h2 => by rw [ht8]; exact hk1 q h1 id⟩⟩) (fun q hq => hS.2.2 q hq) dL_put_24
  obtain ⟨tj, kj, y3⟩ := u
  obtain ⟨htj, rfl, hkj, rfl, hst, hmd4, rfl⟩ := hp
  rw [ht] at hB
  obtain ⟨hO3, hR3, hT3⟩ := hB
  have hSX := hX0.new ⟨hz1, fun q h1 h2 => hk1 q h1 h2⟩ hx0 hr0 hmd4 hO3 hR3 hT3 (wfS_up (hX0.2.2.2 tj htj).1 hst)
  have hJ1 : oJ Γ H1 out 1 fo := hJ.kept (hk1 out hJ.lt (fun h => h.elim (fun h => hxo h.symm) (fun h => hro h.symm)))
  refine lv_i2l (v := (nI md).toInt64) hx hb dL_put_12 rfl ?_
  refine j_last (A := fun q => q = x ∨ q = ro ∨ q = out ∨ s.heap.size ≤ q) hx hb hW.1 hJ1 hS (Or.inr (Or.inr (Or.inl rfl))) (by unfold vp_in; decide) dL_put_13 (fun H2 locs2 hJ2 hz2 hk2 hS => ?_)
  refine lv_goto (tgt := 25) hx hb dL_put_14 (by decide) ?_
  refine lv_iconst (v := 0) hx hb dL_put_25 (by decide) ?_
  have hXo : hX (fun q => q = out) H1 H2 := ⟨by rw [hz2]; exact Nat.le_refl _, fun q _ h => hk2 q h⟩
  have hSX2 := hSX.kept hXo hxo hro (fun q h => by rw [h]; exact ho0)
  exact W.iret (v := 0) hx hb hr (fun t8 ht8 hW9 => ⟨⟨0, (0, tj, kj), rfl, Or.inr (Or.inr ⟨rfl, rfl, hst, hmd4, htj, rfl, hkj, rfl⟩), by subst ht8; exact ⟨⟨_, hSX2⟩, _, hJ2, rfl⟩⟩, ⟨by rw [ht8]; exact hS.1, fun q h1 h2 => by rw [ht8]; exact hS.2.1 q h1 (fun h => h.elim (fun h => h2 (Or.inl h)) (fun h => h.elim (fun h => h2 (Or.inr (Or.inl h))) (fun h => h.elim (fun h => h2 (Or.inr (Or.inr h))) (fun h => absurd h (Nat.not_le.mpr h1)))))⟩⟩) (fun q hq => hS.2.2 q hq) dL_put_26
set_option maxHeartbeats 4000000 in
set_option maxRecDepth 100000 in
theorem c_L_delete (l : Launch) (hnt : l.stackTraces = false) (Γ : gE) (H : Heap) {x ro md out : Nat} {rt : Nat → Option Nat} {Vs : Nat → Nat → Option Int64} {Ss : Nat → Nat → Int32} {fo : Nat → Int64} {t k st : Int32} (hX0 : SX Γ H x ro md rt Vs Ss) (hJ : oJ Γ H out 1 fo) (hxro : x ≠ ro) (hzx : gz Γ ≤ x) (hzr : gz Γ ≤ ro) (hzo : gz Γ ≤ out) (hx0 : x < gb0 Γ) (hr0 : ro < gb0 Γ) (ho0 : out < gb0 Γ) (hxo : x ≠ out) (hro : ro ≠ out) (hz : gb0 Γ ≤ H.size) : Met l yL_delete wL_delete ({ frames := 60, cells := 26, slots := 112, locals := 8000 }) (gP Γ H [.ref x, .int t, .int k, .int st, .ref out]) (va_Qi (fun r (u : Nat × Nat × Nat) => (u.1 = 1 ∧ r = 1 ∧ ¬ (inT t md ∧ inT k 1024 ∧ okS st)) ∨ (u.1 = 2 ∧ r = 2 ∧ (inT t md ∧ inT k 1024 ∧ okS st) ∧ ¬ md < 400) ∨ (u.1 = 0 ∧ r = 0 ∧ okS st ∧ md < 400 ∧ u.2.1 < md ∧ t = nI u.2.1 ∧ u.2.2 < 1024 ∧ k = nI u.2.2)) (fun u t' => match u.1 with | 0 => (∃ rt', SX Γ t'.heap x ro (md + 1) rt' (va_up Vs md (va_up (Vs u.2.1) u.2.2 (none))) (va_up Ss md (va_up (Ss u.2.1) u.2.2 st))) ∧ ∃ fo', oJ Γ t'.heap out 1 fo' ∧ fo' 0 = (nI md).toInt64 | _ => SX Γ t'.heap x ro md rt Vs Ss ∧ ∃ fo', oJ Γ t'.heap out 1 fo') (fun q => q = x ∨ q = ro ∨ q = out)) 26 112 (fun q => q = x ∨ q = ro ∨ q = out ∨ H.size ≤ q) := by
  refine va_MetW (cc := cL_delete) (maxL := 6) (ret := (some .int)) (hh := [(0, 12, 15, 13), (0, 12, 19, 15)]) (by decide) rfl ?_
  intro p e s m args below meth c s₁ B hml hv
  obtain ⟨rfl, rfl, hW⟩ := hv
  have hx := B.exec
  have hb := B.bytes
  have hr := B.returns
  have hg : ∀ w ∈ gW, w.before _ s = true := fun w h => atoms_spec (ws := wL_delete) B.pre w (List.mem_cons_of_mem _ h)
  have hown : s.vm.findClass RL = some m.cls := findClass_of_methodNamed B.named
  have hlocks := B.notSynchronized
  have hS : va_S (gA Γ) s.heap s.heap [] := va_S.rf
  have hl := lv_entry ([.ref x, .int t, .int k, .int st, .ref out]) (n := 6) (Nat.le_of_ble_eq_true rfl)
  rw [lg_entry_eq]
  generalize (lg_sl ([.ref x, .int t, .int k, .int st, .ref out]) ++ List.replicate (6 - (lg_sl ([.ref x, .int t, .int k, .int st, .ref out])).length) Slot.unset).toArray = ls at hl ⊢
  have hl : lv_has ls 6 [(0, .ref x), (1, .int t), (2, .int k), (3, .int st), (4, .ref out)] := hl
  have htab : c.exceptionTable.toList = [⟨0, 12, 15, 13⟩, ⟨0, 12, 19, 15⟩] := vx_table (x := yL_delete) B (atoms_spec (ws := wL_delete) B.pre _ List.mem_cons_self)
  have hS : va_S (fun q => q = x ∨ q = ro ∨ q = out ∨ s.heap.size ≤ q) s.heap s.heap [] := va_S.rf
  have hSG : va_S (gA Γ) s.heap s.heap [] := va_S.rf
  refine lv_aload hx hb dL_delete_0 (lv_at hl 4 rfl) ?_
  refine lv_iconst (v := 0) hx hb dL_delete_2 (by decide) ?_
  refine lv_aload_n hx hb dL_delete_3 rfl (lv_at hl 0 rfl) ?_
  refine lv_iload_n hx hb dL_delete_4 rfl (lv_at hl 1 rfl) ?_
  refine lv_iload_n hx hb dL_delete_5 rfl (lv_at hl 2 rfl) ?_
  refine lv_iload_n hx hb dL_delete_6 rfl (lv_at hl 3 rfl) ?_
  refine vx_calli (vx_runV (As := [.int t, .int k, .int st]) (rest := [.int 0, .ref out]) ⟨hx, hb, hml, hown, hg⟩ (c_S_delete l hnt Γ s.heap (t := t) (k := k) (st := st) hX0 hxro hzx hzr hx0 hr0 hz) (cwV 3 hg gL_17 rfl rfl rfl (by decide +kernel) ⟨Nat.le_of_ble_eq_true rfl, Nat.le_of_ble_eq_true rfl⟩) (gP_V hW hSG (ci := 1) rfl hX0.1) rfl rfl hl.1 rfl (lv_room (Nat.le_of_ble_eq_true rfl)) dL_delete_7 ⟨Nat.le_of_ble_eq_true rfl, Nat.le_of_ble_eq_true rfl⟩) hS (fun q _ h => h.elim Or.inl (fun h => Or.inr (Or.inl h))) (fun q h => h.elim Or.inl (fun h => h.elim (fun h => Or.inr (Or.inl h)) (fun h => Or.inr (Or.inr (Or.inr h))))) (fun q _ h => h.elim) (fun E ce q9 u tx H1 locs1 ht hvm hpx hBX hz1 hk1 hS hcell hcv hcl => ?_) (fun r u t9 H1 locs1 ht hvm hp hB hz1 hk1 hS => ?_)
  · have hXX : hX (fun _ => False) s.heap H1 := ⟨hz1, fun q h1 h2 => hk1 q h1 h2⟩
    have hSX := hX0.kept hXX (fun h => h) (fun h => h) (fun q h => h.elim)
    have hJ1 : oJ Γ H1 out 1 fo := hXX.at hJ (fun h => h)
    rcases hBX with ⟨rfl, hbad⟩ | ⟨rfl, hbad⟩
    · refine vx_catch (own := RL) (name := xIA) (E := xIA) hown [] ⟨0, 12, 15, 13⟩ [⟨0, 12, 19, 15⟩] htab (fun z hz => nomatch hz) (by decide) (by decide) (hg _ kw45) ((hW.2.1.1 _ (List.mem_of_getElem? (i := 4) rfl)).use rfl) hcell hcv hcl ?_
      refine lv_astore (lv' := [(5, .ref q9), (0, .ref x), (1, .int t), (2, .int k), (3, .int st), (4, .ref out)]) hx hb dL_delete_15 hl (by decide) rfl (fun ls hl => ?_)
      refine lv_iconst (v := 1) hx hb dL_delete_17 (by decide) ?_
      exact W.iret (v := 1) hx hb hr (fun t8 ht8 hW9 => ⟨⟨1, (1, 0, 0), rfl, Or.inl ⟨rfl, rfl, hbad⟩, by subst ht8; exact ⟨hSX, fo, hJ1⟩⟩, ⟨by rw [ht8]; exact hS.1, fun q h1 h2 => by rw [ht8]; exact hk1 q h1 id⟩⟩) (fun q hq => hS.2.2 q hq) dL_delete_18
    · refine vx_catch (own := RL) (name := xIO) (E := xIO) hown [⟨0, 12, 15, 13⟩] ⟨0, 12, 19, 15⟩ [] htab (fun z hz => by rw [List.mem_singleton.mp hz]; exact Or.inr ⟨by decide, xIA, hg _ kw45, hW.2.1.2.2.1 (xIO, xIA) (List.mem_of_getElem? (i := 0) rfl)⟩) (by decide) (by decide) (hg _ kw46) ((hW.2.1.1 _ (List.mem_of_getElem? (i := 5) rfl)).use rfl) hcell hcv hcl ?_
      refine lv_astore (lv' := [(5, .ref q9), (0, .ref x), (1, .int t), (2, .int k), (3, .int st), (4, .ref out)]) hx hb dL_delete_19 hl (by decide) rfl (fun ls hl => ?_)
      refine lv_iconst (v := 2) hx hb dL_delete_21 (by decide) ?_
      exact W.iret (v := 2) hx hb hr (fun t8 ht8 hW9 => ⟨⟨2, (2, 0, 0), rfl, Or.inr (Or.inl ⟨rfl, rfl, hbad⟩), by subst ht8; exact ⟨hSX, fo, hJ1⟩⟩, ⟨by rw [ht8]; exact hS.1, fun q h1 h2 => by rw [ht8]; exact hk1 q h1 id⟩⟩) (fun q hq => hS.2.2 q hq) dL_delete_22
  obtain ⟨tj, kj, y3⟩ := u
  obtain ⟨htj, rfl, hkj, rfl, hst, hmd4, rfl⟩ := hp
  rw [ht] at hB
  obtain ⟨hO3, hR3, hT3⟩ := hB
  have hSX := hX0.new ⟨hz1, fun q h1 h2 => hk1 q h1 h2⟩ hx0 hr0 hmd4 hO3 hR3 hT3 (wfS_up (hX0.2.2.2 tj htj).1 hst)
  have hJ1 : oJ Γ H1 out 1 fo := hJ.kept (hk1 out hJ.lt (fun h => h.elim (fun h => hxo h.symm) (fun h => hro h.symm)))
  refine lv_i2l (v := (nI md).toInt64) hx hb dL_delete_10 rfl ?_
  refine j_last (A := fun q => q = x ∨ q = ro ∨ q = out ∨ s.heap.size ≤ q) hx hb hW.1 hJ1 hS (Or.inr (Or.inr (Or.inl rfl))) (by unfold vp_in; decide) dL_delete_11 (fun H2 locs2 hJ2 hz2 hk2 hS => ?_)
  refine lv_goto (tgt := 23) hx hb dL_delete_12 (by decide) ?_
  refine lv_iconst (v := 0) hx hb dL_delete_23 (by decide) ?_
  have hXo : hX (fun q => q = out) H1 H2 := ⟨by rw [hz2]; exact Nat.le_refl _, fun q _ h => hk2 q h⟩
  have hSX2 := hSX.kept hXo hxo hro (fun q h => by rw [h]; exact ho0)
  exact W.iret (v := 0) hx hb hr (fun t8 ht8 hW9 => ⟨⟨0, (0, tj, kj), rfl, Or.inr (Or.inr ⟨rfl, rfl, hst, hmd4, htj, rfl, hkj, rfl⟩), by subst ht8; exact ⟨⟨_, hSX2⟩, _, hJ2, rfl⟩⟩, ⟨by rw [ht8]; exact hS.1, fun q h1 h2 => by rw [ht8]; exact hS.2.1 q h1 (fun h => h.elim (fun h => h2 (Or.inl h)) (fun h => h.elim (fun h => h2 (Or.inr (Or.inl h))) (fun h => h.elim (fun h => h2 (Or.inr (Or.inr h))) (fun h => absurd h (Nat.not_le.mpr h1)))))⟩⟩) (fun q hq => hS.2.2 q hq) dL_delete_24
set_option maxHeartbeats 4000000 in
set_option maxRecDepth 100000 in
theorem c_L_get (l : Launch) (hnt : l.stackTraces = false) (Γ : gE) (H : Heap) {x ro md out : Nat} {rt : Nat → Option Nat} {Vs : Nat → Nat → Option Int64} {Ss : Nat → Nat → Int32} {fo : Nat → Int64} {t k : Int32} (hX0 : SX Γ H x ro md rt Vs Ss) (hJ : oJ Γ H out 1 fo) (hxro : x ≠ ro) (hzx : gz Γ ≤ x) (hzr : gz Γ ≤ ro) (hzo : gz Γ ≤ out) (hx0 : x < gb0 Γ) (hr0 : ro < gb0 Γ) (ho0 : out < gb0 Γ) (hxo : x ≠ out) (hro : ro ≠ out) (hz : gb0 Γ ≤ H.size) : Met l yL_get wL_get ({ frames := 60, cells := 3, slots := 18, locals := 8000 }) (gP Γ H [.ref x, .int t, .int k, .ref out]) (va_Qi (fun r (u : Nat × Int64) => (u.1 = 1 ∧ r = 1 ∧ ¬ (inT t md ∧ inT k 1024)) ∨ (u.1 = 2 ∧ r = 2 ∧ (∃ tj kj, tj < md ∧ t = nI tj ∧ kj < 1024 ∧ k = nI kj ∧ Vs tj kj = none)) ∨ (u.1 = 0 ∧ r = 0 ∧ (∃ tj kj, tj < md ∧ t = nI tj ∧ kj < 1024 ∧ k = nI kj ∧ Vs tj kj = some u.2))) (fun u t' => SX Γ t'.heap x ro md rt Vs Ss ∧ ∃ fo', oJ Γ t'.heap out 1 fo' ∧ (u.1 = 0 → fo' 0 = u.2)) (fun q => q = out)) 3 18 (fun q => q = out ∨ H.size ≤ q) := by
  refine va_MetW (cc := cL_get) (maxL := 5) (ret := (some .int)) (hh := [(0, 9, 12, 13), (0, 9, 16, 25)]) (by decide) rfl ?_
  intro p e s m args below meth c s₁ B hml hv
  obtain ⟨rfl, rfl, hW⟩ := hv
  have hx := B.exec
  have hb := B.bytes
  have hr := B.returns
  have hg : ∀ w ∈ gW, w.before _ s = true := fun w h => atoms_spec (ws := wL_get) B.pre w (List.mem_cons_of_mem _ h)
  have hown : s.vm.findClass RL = some m.cls := findClass_of_methodNamed B.named
  have hlocks := B.notSynchronized
  have hS : va_S (gA Γ) s.heap s.heap [] := va_S.rf
  have hl := lv_entry ([.ref x, .int t, .int k, .ref out]) (n := 5) (Nat.le_of_ble_eq_true rfl)
  rw [lg_entry_eq]
  generalize (lg_sl ([.ref x, .int t, .int k, .ref out]) ++ List.replicate (5 - (lg_sl ([.ref x, .int t, .int k, .ref out])).length) Slot.unset).toArray = ls at hl ⊢
  have hl : lv_has ls 5 [(0, .ref x), (1, .int t), (2, .int k), (3, .ref out)] := hl
  have htab : c.exceptionTable.toList = [⟨0, 9, 12, 13⟩, ⟨0, 9, 16, 25⟩] := vx_table (x := yL_get) B (atoms_spec (ws := wL_get) B.pre _ List.mem_cons_self)
  have hS : va_S (fun q => q = out ∨ s.heap.size ≤ q) s.heap s.heap [] := va_S.rf
  have hSG : va_S (gA Γ) s.heap s.heap [] := va_S.rf
  refine lv_aload_n hx hb dL_get_0 rfl (lv_at hl 3 rfl) ?_
  refine lv_iconst (v := 0) hx hb dL_get_1 (by decide) ?_
  refine lv_aload_n hx hb dL_get_2 rfl (lv_at hl 0 rfl) ?_
  refine lv_iload_n hx hb dL_get_3 rfl (lv_at hl 1 rfl) ?_
  refine lv_iload_n hx hb dL_get_4 rfl (lv_at hl 2 rfl) ?_
  refine vx_calll (vx_runV (As := [.int t, .int k]) (rest := [.int 0, .ref out]) ⟨hx, hb, hml, hown, hg⟩ (c_S_get l hnt Γ s.heap (t := t) (k := k) hX0) (cwV 2 hg gL_21 rfl rfl rfl (by decide +kernel) ⟨Nat.le_of_ble_eq_true rfl, Nat.le_of_ble_eq_true rfl⟩) (gP_V hW hSG (ci := 1) rfl hX0.1) rfl rfl hl.1 rfl (lv_room (Nat.le_of_ble_eq_true rfl)) dL_get_5 ⟨Nat.le_of_ble_eq_true rfl, Nat.le_of_ble_eq_true rfl⟩) hS (fun q _ h => h.elim) (fun q h => Or.inr h) (fun q _ h => h.elim) (fun E ce q9 u tx H1 locs1 ht hvm hpx hBX hz1 hk1 hS hcell hcv hcl => ?_) (fun r u t9 H1 locs1 ht hvm hp hB hz1 hk1 hS => ?_)
  · have hXX : hX (fun _ => False) s.heap H1 := ⟨hz1, fun q h1 h2 => hk1 q h1 h2⟩
    have hSX := hX0.kept hXX (fun h => h) (fun h => h) (fun q h => h.elim)
    have hJ1 : oJ Γ H1 out 1 fo := hXX.at hJ (fun h => h)
    rcases hBX with ⟨rfl, hbad⟩ | ⟨rfl, hbad⟩
    · refine vx_catch (own := RL) (name := xIA) (E := xIA) hown [] ⟨0, 9, 12, 13⟩ [⟨0, 9, 16, 25⟩] htab (fun z hz => nomatch hz) (by decide) (by decide) (hg _ kw45) ((hW.2.1.1 _ (List.mem_of_getElem? (i := 4) rfl)).use rfl) hcell hcv hcl ?_
      refine lv_astore (lv' := [(4, .ref q9), (0, .ref x), (1, .int t), (2, .int k), (3, .ref out)]) hx hb dL_get_12 hl (by decide) rfl (fun ls hl => ?_)
      refine lv_iconst (v := 1) hx hb dL_get_14 (by decide) ?_
      exact W.iret (v := 1) hx hb hr (fun t8 ht8 hW9 => ⟨⟨1, (1, 0), rfl, Or.inl ⟨rfl, rfl, hbad⟩, by subst ht8; exact ⟨hSX, fo, hJ1, fun h => absurd h (by decide)⟩⟩, ⟨by rw [ht8]; exact hS.1, fun q h1 h2 => by rw [ht8]; exact hk1 q h1 id⟩⟩) (fun q hq => hS.2.2 q hq) dL_get_15
    · refine vx_catch (own := RL) (name := xUO) (E := xUO) hown [⟨0, 9, 12, 13⟩] ⟨0, 9, 16, 25⟩ [] htab (fun z hz => by rw [List.mem_singleton.mp hz]; exact Or.inr ⟨by decide, xIA, hg _ kw45, hW.2.1.2.2.1 (xUO, xIA) (List.mem_of_getElem? (i := 1) rfl)⟩) (by decide) (by decide) (hg _ kw216) ((hW.2.1.1 _ (List.mem_of_getElem? (i := 6) rfl)).use rfl) hcell hcv hcl ?_
      refine lv_astore (lv' := [(4, .ref q9), (0, .ref x), (1, .int t), (2, .int k), (3, .ref out)]) hx hb dL_get_16 hl (by decide) rfl (fun ls hl => ?_)
      refine lv_iconst (v := 2) hx hb dL_get_18 (by decide) ?_
      exact W.iret (v := 2) hx hb hr (fun t8 ht8 hW9 => ⟨⟨2, (2, 0), rfl, Or.inr (Or.inl ⟨rfl, rfl, hbad⟩), by subst ht8; exact ⟨hSX, fo, hJ1, fun h => absurd h (by decide)⟩⟩, ⟨by rw [ht8]; exact hS.1, fun q h1 h2 => by rw [ht8]; exact hk1 q h1 id⟩⟩) (fun q hq => hS.2.2 q hq) dL_get_19
  have hHH : H1 = s.heap := ht.symm.trans hB
  subst hHH
  have hJ1 := hJ
  have hSX := hX0
  refine j_last (A := fun q => q = out ∨ s.heap.size ≤ q) hx hb hW.1 hJ1 hS (Or.inl rfl) (by unfold vp_in; decide) dL_get_8 (fun H2 locs2 hJ2 hz2 hk2 hS => ?_)
  refine lv_goto (tgt := 20) hx hb dL_get_9 (by decide) ?_
  refine lv_iconst (v := 0) hx hb dL_get_20 (by decide) ?_
  have hXo : hX (fun q => q = out) s.heap H2 := ⟨by rw [hz2]; exact Nat.le_refl _, fun q _ h => hk2 q h⟩
  have hSX2 := hSX.kept hXo hxo hro (fun q h => by rw [h]; exact ho0)
  exact W.iret (v := 0) hx hb hr (fun t8 ht8 hW9 => ⟨⟨0, (0, r), rfl, Or.inr (Or.inr ⟨rfl, rfl, ⟨u.1, u.2, hp.1, hp.2.1, hp.2.2.1, hp.2.2.2.1, hp.2.2.2.2⟩⟩), by subst ht8; exact ⟨hSX2, _, hJ2, fun _ => rfl⟩⟩, ⟨by rw [ht8]; exact hS.1, fun q h1 h2 => by rw [ht8]; exact hS.2.1 q h1 (fun h => h.elim h2 (fun h => absurd h (Nat.not_le.mpr h1)))⟩⟩) (fun q hq => hS.2.2 q hq) dL_get_21
set_option maxHeartbeats 4000000 in
set_option maxRecDepth 100000 in
theorem c_L_stamp (l : Launch) (hnt : l.stackTraces = false) (Γ : gE) (H : Heap) {x ro md out : Nat} {rt : Nat → Option Nat} {Vs : Nat → Nat → Option Int64} {Ss : Nat → Nat → Int32} {fo : Nat → Int64} {t k : Int32} (hX0 : SX Γ H x ro md rt Vs Ss) (hJ : oJ Γ H out 1 fo) (hxro : x ≠ ro) (hzx : gz Γ ≤ x) (hzr : gz Γ ≤ ro) (hzo : gz Γ ≤ out) (hx0 : x < gb0 Γ) (hr0 : ro < gb0 Γ) (ho0 : out < gb0 Γ) (hxo : x ≠ out) (hro : ro ≠ out) (hz : gb0 Γ ≤ H.size) : Met l yL_stamp wL_stamp ({ frames := 60, cells := 3, slots := 18, locals := 8000 }) (gP Γ H [.ref x, .int t, .int k, .ref out]) (va_Qi (fun r (u : Nat × Int64) => (u.1 = 1 ∧ r = 1 ∧ ¬ (inT t md ∧ inT k 1024)) ∨ (u.1 = 2 ∧ r = 2 ∧ False) ∨ (u.1 = 0 ∧ r = 0 ∧ (∃ tj kj, tj < md ∧ t = nI tj ∧ kj < 1024 ∧ k = nI kj ∧ u.2 = (Ss tj kj).toInt64))) (fun u t' => SX Γ t'.heap x ro md rt Vs Ss ∧ ∃ fo', oJ Γ t'.heap out 1 fo' ∧ (u.1 = 0 → fo' 0 = u.2)) (fun q => q = out)) 3 18 (fun q => q = out ∨ H.size ≤ q) := by
  refine va_MetW (cc := cL_stamp) (maxL := 5) (ret := (some .int)) (hh := [(0, 10, 13, 13)]) (by decide) rfl ?_
  intro p e s m args below meth c s₁ B hml hv
  obtain ⟨rfl, rfl, hW⟩ := hv
  have hx := B.exec
  have hb := B.bytes
  have hr := B.returns
  have hg : ∀ w ∈ gW, w.before _ s = true := fun w h => atoms_spec (ws := wL_stamp) B.pre w (List.mem_cons_of_mem _ h)
  have hown : s.vm.findClass RL = some m.cls := findClass_of_methodNamed B.named
  have hlocks := B.notSynchronized
  have hS : va_S (gA Γ) s.heap s.heap [] := va_S.rf
  have hl := lv_entry ([.ref x, .int t, .int k, .ref out]) (n := 5) (Nat.le_of_ble_eq_true rfl)
  rw [lg_entry_eq]
  generalize (lg_sl ([.ref x, .int t, .int k, .ref out]) ++ List.replicate (5 - (lg_sl ([.ref x, .int t, .int k, .ref out])).length) Slot.unset).toArray = ls at hl ⊢
  have hl : lv_has ls 5 [(0, .ref x), (1, .int t), (2, .int k), (3, .ref out)] := hl
  have htab : c.exceptionTable.toList = [⟨0, 10, 13, 13⟩] := vx_table (x := yL_stamp) B (atoms_spec (ws := wL_stamp) B.pre _ List.mem_cons_self)
  have hS : va_S (fun q => q = out ∨ s.heap.size ≤ q) s.heap s.heap [] := va_S.rf
  have hSG : va_S (gA Γ) s.heap s.heap [] := va_S.rf
  refine lv_aload_n hx hb dL_stamp_0 rfl (lv_at hl 3 rfl) ?_
  refine lv_iconst (v := 0) hx hb dL_stamp_1 (by decide) ?_
  refine lv_aload_n hx hb dL_stamp_2 rfl (lv_at hl 0 rfl) ?_
  refine lv_iload_n hx hb dL_stamp_3 rfl (lv_at hl 1 rfl) ?_
  refine lv_iload_n hx hb dL_stamp_4 rfl (lv_at hl 2 rfl) ?_
  refine vx_calli (vx_runV (As := [.int t, .int k]) (rest := [.int 0, .ref out]) ⟨hx, hb, hml, hown, hg⟩ (c_S_stamp l hnt Γ s.heap (t := t) (k := k) hX0) (cwV 2 hg gL_27 rfl rfl rfl (by decide +kernel) ⟨Nat.le_of_ble_eq_true rfl, Nat.le_of_ble_eq_true rfl⟩) (gP_V hW hSG (ci := 1) rfl hX0.1) rfl rfl hl.1 rfl (lv_room (Nat.le_of_ble_eq_true rfl)) dL_stamp_5 ⟨Nat.le_of_ble_eq_true rfl, Nat.le_of_ble_eq_true rfl⟩) hS (fun q _ h => h.elim) (fun q h => Or.inr h) (fun q _ h => h.elim) (fun E ce q9 u tx H1 locs1 ht hvm hpx hBX hz1 hk1 hS hcell hcv hcl => ?_) (fun r u t9 H1 locs1 ht hvm hp hB hz1 hk1 hS => ?_)
  · have hXX : hX (fun _ => False) s.heap H1 := ⟨hz1, fun q h1 h2 => hk1 q h1 h2⟩
    have hSX := hX0.kept hXX (fun h => h) (fun h => h) (fun q h => h.elim)
    have hJ1 : oJ Γ H1 out 1 fo := hXX.at hJ (fun h => h)
    obtain ⟨rfl, hbad⟩ := hBX
    refine vx_catch (own := RL) (name := xIA) (E := xIA) hown [] ⟨0, 10, 13, 13⟩ [] htab (fun z hz => nomatch hz) (by decide) (by decide) (hg _ kw45) ((hW.2.1.1 _ (List.mem_of_getElem? (i := 4) rfl)).use rfl) hcell hcv hcl ?_
    refine lv_astore (lv' := [(4, .ref q9), (0, .ref x), (1, .int t), (2, .int k), (3, .ref out)]) hx hb dL_stamp_13 hl (by decide) rfl (fun ls hl => ?_)
    refine lv_iconst (v := 1) hx hb dL_stamp_15 (by decide) ?_
    exact W.iret (v := 1) hx hb hr (fun t8 ht8 hW9 => ⟨⟨1, (1, 0), rfl, Or.inl ⟨rfl, rfl, hbad⟩, by subst ht8; exact ⟨hSX, fo, hJ1, fun h => absurd h (by decide)⟩⟩, ⟨by rw [ht8]; exact hS.1, fun q h1 h2 => by rw [ht8]; exact hk1 q h1 id⟩⟩) (fun q hq => hS.2.2 q hq) dL_stamp_16
  have hHH : H1 = s.heap := ht.symm.trans hB
  subst hHH
  have hJ1 := hJ
  have hSX := hX0
  refine lv_i2l (v := r.toInt64) hx hb dL_stamp_8 rfl ?_
  refine j_last (A := fun q => q = out ∨ s.heap.size ≤ q) hx hb hW.1 hJ1 hS (Or.inl rfl) (by unfold vp_in; decide) dL_stamp_9 (fun H2 locs2 hJ2 hz2 hk2 hS => ?_)
  refine lv_goto (tgt := 17) hx hb dL_stamp_10 (by decide) ?_
  refine lv_iconst (v := 0) hx hb dL_stamp_17 (by decide) ?_
  have hXo : hX (fun q => q = out) s.heap H2 := ⟨by rw [hz2]; exact Nat.le_refl _, fun q _ h => hk2 q h⟩
  have hSX2 := hSX.kept hXo hxo hro (fun q h => by rw [h]; exact ho0)
  exact W.iret (v := 0) hx hb hr (fun t8 ht8 hW9 => ⟨⟨0, (0, r.toInt64), rfl, Or.inr (Or.inr ⟨rfl, rfl, ⟨u.1, u.2, hp.1, hp.2.1, hp.2.2.1, hp.2.2.2.1, by rw [hp.2.2.2.2]⟩⟩), by subst ht8; exact ⟨hSX2, _, hJ2, fun _ => rfl⟩⟩, ⟨by rw [ht8]; exact hS.1, fun q h1 h2 => by rw [ht8]; exact hS.2.1 q h1 (fun h => h.elim h2 (fun h => absurd h (Nat.not_le.mpr h1)))⟩⟩) (fun q hq => hS.2.2 q hq) dL_stamp_18
set_option maxHeartbeats 4000000 in
set_option maxRecDepth 100000 in
theorem c_L_part (l : Launch) (hnt : l.stackTraces = false) (Γ : gE) (H : Heap) {x ro md out : Nat} {rt : Nat → Option Nat} {Vs : Nat → Nat → Option Int64} {Ss : Nat → Nat → Int32} {fo : Nat → Int64} {t lo hi wh : Int32} (hX0 : SX Γ H x ro md rt Vs Ss) (hJ : oJ Γ H out 1 fo) (hxro : x ≠ ro) (hzx : gz Γ ≤ x) (hzr : gz Γ ≤ ro) (hzo : gz Γ ≤ out) (hx0 : x < gb0 Γ) (hr0 : ro < gb0 Γ) (ho0 : out < gb0 Γ) (hxo : x ≠ out) (hro : ro ≠ out) (hz : gb0 Γ ≤ H.size) : Met l yL_part wL_part ({ frames := 60, cells := 4, slots := 24, locals := 8000 }) (gP Γ H [.ref x, .int t, .int lo, .int hi, .int wh, .ref out]) (va_Qi (fun r (u : Nat × Int64) => (u.1 = 1 ∧ r = 1 ∧ ¬ (inT t md ∧ inT lo 1024 ∧ inT hi 1024 ∧ lo ≤ hi ∧ inT wh 5)) ∨ (u.1 = 2 ∧ r = 2 ∧ False) ∨ (u.1 = 0 ∧ r = 0 ∧ (∃ tj lj hj wj, tj < md ∧ t = nI tj ∧ lj < 1024 ∧ lo = nI lj ∧ hj < 1024 ∧ hi = nI hj ∧ wj < 5 ∧ wh = nI wj ∧ lj ≤ hj ∧ u.2 = ag (Vs tj) (Ss tj) wj lj (hj + 1 - lj)))) (fun u t' => SX Γ t'.heap x ro md rt Vs Ss ∧ ∃ fo', oJ Γ t'.heap out 1 fo' ∧ (u.1 = 0 → fo' 0 = u.2)) (fun q => q = out)) 4 24 (fun q => q = out ∨ H.size ≤ q) := by
  refine va_MetW (cc := cL_part) (maxL := 7) (ret := (some .int)) (hh := [(0, 13, 16, 13)]) (by decide) rfl ?_
  intro p e s m args below meth c s₁ B hml hv
  obtain ⟨rfl, rfl, hW⟩ := hv
  have hx := B.exec
  have hb := B.bytes
  have hr := B.returns
  have hg : ∀ w ∈ gW, w.before _ s = true := fun w h => atoms_spec (ws := wL_part) B.pre w (List.mem_cons_of_mem _ h)
  have hown : s.vm.findClass RL = some m.cls := findClass_of_methodNamed B.named
  have hlocks := B.notSynchronized
  have hS : va_S (gA Γ) s.heap s.heap [] := va_S.rf
  have hl := lv_entry ([.ref x, .int t, .int lo, .int hi, .int wh, .ref out]) (n := 7) (Nat.le_of_ble_eq_true rfl)
  rw [lg_entry_eq]
  generalize (lg_sl ([.ref x, .int t, .int lo, .int hi, .int wh, .ref out]) ++ List.replicate (7 - (lg_sl ([.ref x, .int t, .int lo, .int hi, .int wh, .ref out])).length) Slot.unset).toArray = ls at hl ⊢
  have hl : lv_has ls 7 [(0, .ref x), (1, .int t), (2, .int lo), (3, .int hi), (4, .int wh), (5, .ref out)] := hl
  have htab : c.exceptionTable.toList = [⟨0, 13, 16, 13⟩] := vx_table (x := yL_part) B (atoms_spec (ws := wL_part) B.pre _ List.mem_cons_self)
  have hS : va_S (fun q => q = out ∨ s.heap.size ≤ q) s.heap s.heap [] := va_S.rf
  have hSG : va_S (gA Γ) s.heap s.heap [] := va_S.rf
  refine lv_aload hx hb dL_part_0 (lv_at hl 5 rfl) ?_
  refine lv_iconst (v := 0) hx hb dL_part_2 (by decide) ?_
  refine lv_aload_n hx hb dL_part_3 rfl (lv_at hl 0 rfl) ?_
  refine lv_iload_n hx hb dL_part_4 rfl (lv_at hl 1 rfl) ?_
  refine lv_iload_n hx hb dL_part_5 rfl (lv_at hl 2 rfl) ?_
  refine lv_iload_n hx hb dL_part_6 rfl (lv_at hl 3 rfl) ?_
  refine lv_iload hx hb dL_part_7 (lv_at hl 4 rfl) ?_
  refine vx_calll (vx_runV (As := [.int t, .int lo, .int hi, .int wh]) (rest := [.int 0, .ref out]) ⟨hx, hb, hml, hown, hg⟩ (c_S_part l hnt Γ s.heap (t := t) (lo := lo) (hi := hi) (wh := wh) hX0) (cwV 4 hg gL_31 rfl rfl rfl (by decide +kernel) ⟨Nat.le_of_ble_eq_true rfl, Nat.le_of_ble_eq_true rfl⟩) (gP_V hW hSG (ci := 1) rfl hX0.1) rfl rfl hl.1 rfl (lv_room (Nat.le_of_ble_eq_true rfl)) dL_part_9 ⟨Nat.le_of_ble_eq_true rfl, Nat.le_of_ble_eq_true rfl⟩) hS (fun q _ h => h.elim) (fun q h => Or.inr h) (fun q _ h => h.elim) (fun E ce q9 u tx H1 locs1 ht hvm hpx hBX hz1 hk1 hS hcell hcv hcl => ?_) (fun r u t9 H1 locs1 ht hvm hp hB hz1 hk1 hS => ?_)
  · have hXX : hX (fun _ => False) s.heap H1 := ⟨hz1, fun q h1 h2 => hk1 q h1 h2⟩
    have hSX := hX0.kept hXX (fun h => h) (fun h => h) (fun q h => h.elim)
    have hJ1 : oJ Γ H1 out 1 fo := hXX.at hJ (fun h => h)
    obtain ⟨rfl, hbad⟩ := hBX
    refine vx_catch (own := RL) (name := xIA) (E := xIA) hown [] ⟨0, 13, 16, 13⟩ [] htab (fun z hz => nomatch hz) (by decide) (by decide) (hg _ kw45) ((hW.2.1.1 _ (List.mem_of_getElem? (i := 4) rfl)).use rfl) hcell hcv hcl ?_
    refine lv_astore (lv' := [(6, .ref q9), (0, .ref x), (1, .int t), (2, .int lo), (3, .int hi), (4, .int wh), (5, .ref out)]) hx hb dL_part_16 hl (by decide) rfl (fun ls hl => ?_)
    refine lv_iconst (v := 1) hx hb dL_part_18 (by decide) ?_
    exact W.iret (v := 1) hx hb hr (fun t8 ht8 hW9 => ⟨⟨1, (1, 0), rfl, Or.inl ⟨rfl, rfl, hbad⟩, by subst ht8; exact ⟨hSX, fo, hJ1, fun h => absurd h (by decide)⟩⟩, ⟨by rw [ht8]; exact hS.1, fun q h1 h2 => by rw [ht8]; exact hk1 q h1 id⟩⟩) (fun q hq => hS.2.2 q hq) dL_part_19
  have hHH : H1 = s.heap := ht.symm.trans hB
  subst hHH
  have hJ1 := hJ
  have hSX := hX0
  refine j_last (A := fun q => q = out ∨ s.heap.size ≤ q) hx hb hW.1 hJ1 hS (Or.inl rfl) (by unfold vp_in; decide) dL_part_12 (fun H2 locs2 hJ2 hz2 hk2 hS => ?_)
  refine lv_goto (tgt := 20) hx hb dL_part_13 (by decide) ?_
  refine lv_iconst (v := 0) hx hb dL_part_20 (by decide) ?_
  have hXo : hX (fun q => q = out) s.heap H2 := ⟨by rw [hz2]; exact Nat.le_refl _, fun q _ h => hk2 q h⟩
  have hSX2 := hSX.kept hXo hxo hro (fun q h => by rw [h]; exact ho0)
  exact W.iret (v := 0) hx hb hr (fun t8 ht8 hW9 => ⟨⟨0, (0, r), rfl, Or.inr (Or.inr ⟨rfl, rfl, ⟨u.1, u.2.1, u.2.2.1, u.2.2.2, hp⟩⟩), by subst ht8; exact ⟨hSX2, _, hJ2, fun _ => rfl⟩⟩, ⟨by rw [ht8]; exact hS.1, fun q h1 h2 => by rw [ht8]; exact hS.2.1 q h1 (fun h => h.elim h2 (fun h => absurd h (Nat.not_le.mpr h1)))⟩⟩) (fun q hq => hS.2.2 q hq) dL_part_21
set_option maxHeartbeats 4000000 in
set_option maxRecDepth 100000 in
theorem c_L_at (l : Launch) (hnt : l.stackTraces = false) (Γ : gE) (H : Heap) {x ro md out : Nat} {rt : Nat → Option Nat} {Vs : Nat → Nat → Option Int64} {Ss : Nat → Nat → Int32} {fo : Nat → Int64} {t k : Int32} (hX0 : SX Γ H x ro md rt Vs Ss) (hJ : oJ Γ H out 1 fo) (hxro : x ≠ ro) (hzx : gz Γ ≤ x) (hzr : gz Γ ≤ ro) (hzo : gz Γ ≤ out) (hx0 : x < gb0 Γ) (hr0 : ro < gb0 Γ) (ho0 : out < gb0 Γ) (hxo : x ≠ out) (hro : ro ≠ out) (hz : gb0 Γ ≤ H.size) : Met l yL_at wL_at ({ frames := 60, cells := 2, slots := 12, locals := 8000 }) (gP Γ H [.ref x, .int t, .int k, .ref out]) (va_Qi (fun r (u : Nat × Int64) => (u.1 = 1 ∧ r = 1 ∧ ¬ inT t md) ∨ (u.1 = 2 ∧ r = 2 ∧ (∃ tj, tj < md ∧ t = nI tj ∧ ¬ inT k (cnt (Vs tj) 0 1024))) ∨ (u.1 = 0 ∧ r = 0 ∧ (∃ tj K, tj < md ∧ t = nI tj ∧ K < 1024 ∧ u.2 = (nI K).toInt64 ∧ (Vs tj K).isSome = true ∧ k = nI (cnt (Vs tj) 0 K)))) (fun u t' => SX Γ t'.heap x ro md rt Vs Ss ∧ ∃ fo', oJ Γ t'.heap out 1 fo' ∧ (u.1 = 0 → fo' 0 = u.2)) (fun q => q = out)) 2 12 (fun q => q = out ∨ H.size ≤ q) := by
  refine va_MetW (cc := cL_at) (maxL := 5) (ret := (some .int)) (hh := [(0, 10, 13, 13), (0, 10, 17, 15)]) (by decide) rfl ?_
  intro p e s m args below meth c s₁ B hml hv
  obtain ⟨rfl, rfl, hW⟩ := hv
  have hx := B.exec
  have hb := B.bytes
  have hr := B.returns
  have hg : ∀ w ∈ gW, w.before _ s = true := fun w h => atoms_spec (ws := wL_at) B.pre w (List.mem_cons_of_mem _ h)
  have hown : s.vm.findClass RL = some m.cls := findClass_of_methodNamed B.named
  have hlocks := B.notSynchronized
  have hS : va_S (gA Γ) s.heap s.heap [] := va_S.rf
  have hl := lv_entry ([.ref x, .int t, .int k, .ref out]) (n := 5) (Nat.le_of_ble_eq_true rfl)
  rw [lg_entry_eq]
  generalize (lg_sl ([.ref x, .int t, .int k, .ref out]) ++ List.replicate (5 - (lg_sl ([.ref x, .int t, .int k, .ref out])).length) Slot.unset).toArray = ls at hl ⊢
  have hl : lv_has ls 5 [(0, .ref x), (1, .int t), (2, .int k), (3, .ref out)] := hl
  have htab : c.exceptionTable.toList = [⟨0, 10, 13, 13⟩, ⟨0, 10, 17, 15⟩] := vx_table (x := yL_at) B (atoms_spec (ws := wL_at) B.pre _ List.mem_cons_self)
  have hS : va_S (fun q => q = out ∨ s.heap.size ≤ q) s.heap s.heap [] := va_S.rf
  have hSG : va_S (gA Γ) s.heap s.heap [] := va_S.rf
  refine lv_aload_n hx hb dL_at_0 rfl (lv_at hl 3 rfl) ?_
  refine lv_iconst (v := 0) hx hb dL_at_1 (by decide) ?_
  refine lv_aload_n hx hb dL_at_2 rfl (lv_at hl 0 rfl) ?_
  refine lv_iload_n hx hb dL_at_3 rfl (lv_at hl 1 rfl) ?_
  refine lv_iload_n hx hb dL_at_4 rfl (lv_at hl 2 rfl) ?_
  refine vx_calli (vx_runV (As := [.int t, .int k]) (rest := [.int 0, .ref out]) ⟨hx, hb, hml, hown, hg⟩ (c_S_at l hnt Γ s.heap (t := t) (k := k) hX0) (cwV 2 hg gL_35 rfl rfl rfl (by decide +kernel) ⟨Nat.le_of_ble_eq_true rfl, Nat.le_of_ble_eq_true rfl⟩) (gP_V hW hSG (ci := 1) rfl hX0.1) rfl rfl hl.1 rfl (lv_room (Nat.le_of_ble_eq_true rfl)) dL_at_5 ⟨Nat.le_of_ble_eq_true rfl, Nat.le_of_ble_eq_true rfl⟩) hS (fun q _ h => h.elim) (fun q h => Or.inr h) (fun q _ h => h.elim) (fun E ce q9 u tx H1 locs1 ht hvm hpx hBX hz1 hk1 hS hcell hcv hcl => ?_) (fun r u t9 H1 locs1 ht hvm hp hB hz1 hk1 hS => ?_)
  · have hXX : hX (fun _ => False) s.heap H1 := ⟨hz1, fun q h1 h2 => hk1 q h1 h2⟩
    have hSX := hX0.kept hXX (fun h => h) (fun h => h) (fun q h => h.elim)
    have hJ1 : oJ Γ H1 out 1 fo := hXX.at hJ (fun h => h)
    rcases hBX with ⟨rfl, hbad⟩ | ⟨rfl, hbad⟩
    · refine vx_catch (own := RL) (name := xIA) (E := xIA) hown [] ⟨0, 10, 13, 13⟩ [⟨0, 10, 17, 15⟩] htab (fun z hz => nomatch hz) (by decide) (by decide) (hg _ kw45) ((hW.2.1.1 _ (List.mem_of_getElem? (i := 4) rfl)).use rfl) hcell hcv hcl ?_
      refine lv_astore (lv' := [(4, .ref q9), (0, .ref x), (1, .int t), (2, .int k), (3, .ref out)]) hx hb dL_at_13 hl (by decide) rfl (fun ls hl => ?_)
      refine lv_iconst (v := 1) hx hb dL_at_15 (by decide) ?_
      exact W.iret (v := 1) hx hb hr (fun t8 ht8 hW9 => ⟨⟨1, (1, 0), rfl, Or.inl ⟨rfl, rfl, hbad⟩, by subst ht8; exact ⟨hSX, fo, hJ1, fun h => absurd h (by decide)⟩⟩, ⟨by rw [ht8]; exact hS.1, fun q h1 h2 => by rw [ht8]; exact hk1 q h1 id⟩⟩) (fun q hq => hS.2.2 q hq) dL_at_16
    · refine vx_catch (own := RL) (name := xIO) (E := xIO) hown [⟨0, 10, 13, 13⟩] ⟨0, 10, 17, 15⟩ [] htab (fun z hz => by rw [List.mem_singleton.mp hz]; exact Or.inr ⟨by decide, xIA, hg _ kw45, hW.2.1.2.2.1 (xIO, xIA) (List.mem_of_getElem? (i := 0) rfl)⟩) (by decide) (by decide) (hg _ kw46) ((hW.2.1.1 _ (List.mem_of_getElem? (i := 5) rfl)).use rfl) hcell hcv hcl ?_
      refine lv_astore (lv' := [(4, .ref q9), (0, .ref x), (1, .int t), (2, .int k), (3, .ref out)]) hx hb dL_at_17 hl (by decide) rfl (fun ls hl => ?_)
      refine lv_iconst (v := 2) hx hb dL_at_19 (by decide) ?_
      exact W.iret (v := 2) hx hb hr (fun t8 ht8 hW9 => ⟨⟨2, (2, 0), rfl, Or.inr (Or.inl ⟨rfl, rfl, hbad⟩), by subst ht8; exact ⟨hSX, fo, hJ1, fun h => absurd h (by decide)⟩⟩, ⟨by rw [ht8]; exact hS.1, fun q h1 h2 => by rw [ht8]; exact hk1 q h1 id⟩⟩) (fun q hq => hS.2.2 q hq) dL_at_20
  have hHH : H1 = s.heap := ht.symm.trans hB
  subst hHH
  have hJ1 := hJ
  have hSX := hX0
  refine lv_i2l (v := r.toInt64) hx hb dL_at_8 rfl ?_
  refine j_last (A := fun q => q = out ∨ s.heap.size ≤ q) hx hb hW.1 hJ1 hS (Or.inl rfl) (by unfold vp_in; decide) dL_at_9 (fun H2 locs2 hJ2 hz2 hk2 hS => ?_)
  refine lv_goto (tgt := 21) hx hb dL_at_10 (by decide) ?_
  refine lv_iconst (v := 0) hx hb dL_at_21 (by decide) ?_
  have hXo : hX (fun q => q = out) s.heap H2 := ⟨by rw [hz2]; exact Nat.le_refl _, fun q _ h => hk2 q h⟩
  have hSX2 := hSX.kept hXo hxo hro (fun q h => by rw [h]; exact ho0)
  exact W.iret (v := 0) hx hb hr (fun t8 ht8 hW9 => ⟨⟨0, (0, r.toInt64), rfl, Or.inr (Or.inr ⟨rfl, rfl, ⟨u.1, u.2, hp.1, hp.2.1, hp.2.2.1, by rw [hp.2.2.2.1], hp.2.2.2.2.1, hp.2.2.2.2.2⟩⟩), by subst ht8; exact ⟨hSX2, _, hJ2, fun _ => rfl⟩⟩, ⟨by rw [ht8]; exact hS.1, fun q h1 h2 => by rw [ht8]; exact hS.2.1 q h1 (fun h => h.elim h2 (fun h => absurd h (Nat.not_le.mpr h1)))⟩⟩) (fun q hq => hS.2.2 q hq) dL_at_22
set_option maxHeartbeats 4000000 in
set_option maxRecDepth 100000 in
theorem c_L_differ (l : Launch) (hnt : l.stackTraces = false) (Γ : gE) (H : Heap) {x ro md out : Nat} {rt : Nat → Option Nat} {Vs : Nat → Nat → Option Int64} {Ss : Nat → Nat → Int32} {fo : Nat → Int64} {a b : Int32} (hX0 : SX Γ H x ro md rt Vs Ss) (hJ : oJ Γ H out 1 fo) (hxro : x ≠ ro) (hzx : gz Γ ≤ x) (hzr : gz Γ ≤ ro) (hzo : gz Γ ≤ out) (hx0 : x < gb0 Γ) (hr0 : ro < gb0 Γ) (ho0 : out < gb0 Γ) (hxo : x ≠ out) (hro : ro ≠ out) (hz : gb0 Γ ≤ H.size) : Met l yL_differ wL_differ ({ frames := 60, cells := 2, slots := 12, locals := 8000 }) (gP Γ H [.ref x, .int a, .int b, .ref out]) (va_Qi (fun r (u : Nat × Int64) => (u.1 = 1 ∧ r = 1 ∧ ¬ (inT a md ∧ inT b md)) ∨ (u.1 = 2 ∧ r = 2 ∧ False) ∨ (u.1 = 0 ∧ r = 0 ∧ (∃ aj bj, aj < md ∧ a = nI aj ∧ bj < md ∧ b = nI bj ∧ u.2 = (nI (dcn (Vs aj) (Vs bj) 0 1024)).toInt64))) (fun u t' => SX Γ t'.heap x ro md rt Vs Ss ∧ ∃ fo', oJ Γ t'.heap out 1 fo' ∧ (u.1 = 0 → fo' 0 = u.2)) (fun q => q = out)) 2 12 (fun q => q = out ∨ H.size ≤ q) := by
  refine va_MetW (cc := cL_differ) (maxL := 5) (ret := (some .int)) (hh := [(0, 10, 13, 13)]) (by decide) rfl ?_
  intro p e s m args below meth c s₁ B hml hv
  obtain ⟨rfl, rfl, hW⟩ := hv
  have hx := B.exec
  have hb := B.bytes
  have hr := B.returns
  have hg : ∀ w ∈ gW, w.before _ s = true := fun w h => atoms_spec (ws := wL_differ) B.pre w (List.mem_cons_of_mem _ h)
  have hown : s.vm.findClass RL = some m.cls := findClass_of_methodNamed B.named
  have hlocks := B.notSynchronized
  have hS : va_S (gA Γ) s.heap s.heap [] := va_S.rf
  have hl := lv_entry ([.ref x, .int a, .int b, .ref out]) (n := 5) (Nat.le_of_ble_eq_true rfl)
  rw [lg_entry_eq]
  generalize (lg_sl ([.ref x, .int a, .int b, .ref out]) ++ List.replicate (5 - (lg_sl ([.ref x, .int a, .int b, .ref out])).length) Slot.unset).toArray = ls at hl ⊢
  have hl : lv_has ls 5 [(0, .ref x), (1, .int a), (2, .int b), (3, .ref out)] := hl
  have htab : c.exceptionTable.toList = [⟨0, 10, 13, 13⟩] := vx_table (x := yL_differ) B (atoms_spec (ws := wL_differ) B.pre _ List.mem_cons_self)
  have hS : va_S (fun q => q = out ∨ s.heap.size ≤ q) s.heap s.heap [] := va_S.rf
  have hSG : va_S (gA Γ) s.heap s.heap [] := va_S.rf
  refine lv_aload_n hx hb dL_differ_0 rfl (lv_at hl 3 rfl) ?_
  refine lv_iconst (v := 0) hx hb dL_differ_1 (by decide) ?_
  refine lv_aload_n hx hb dL_differ_2 rfl (lv_at hl 0 rfl) ?_
  refine lv_iload_n hx hb dL_differ_3 rfl (lv_at hl 1 rfl) ?_
  refine lv_iload_n hx hb dL_differ_4 rfl (lv_at hl 2 rfl) ?_
  refine vx_calli (vx_runV (As := [.int a, .int b]) (rest := [.int 0, .ref out]) ⟨hx, hb, hml, hown, hg⟩ (c_S_differ l hnt Γ s.heap (a := a) (b := b) hX0) (cwV 2 hg gL_38 rfl rfl rfl (by decide +kernel) ⟨Nat.le_of_ble_eq_true rfl, Nat.le_of_ble_eq_true rfl⟩) (gP_V hW hSG (ci := 1) rfl hX0.1) rfl rfl hl.1 rfl (lv_room (Nat.le_of_ble_eq_true rfl)) dL_differ_5 ⟨Nat.le_of_ble_eq_true rfl, Nat.le_of_ble_eq_true rfl⟩) hS (fun q _ h => h.elim) (fun q h => Or.inr h) (fun q _ h => h.elim) (fun E ce q9 u tx H1 locs1 ht hvm hpx hBX hz1 hk1 hS hcell hcv hcl => ?_) (fun r u t9 H1 locs1 ht hvm hp hB hz1 hk1 hS => ?_)
  · have hXX : hX (fun _ => False) s.heap H1 := ⟨hz1, fun q h1 h2 => hk1 q h1 h2⟩
    have hSX := hX0.kept hXX (fun h => h) (fun h => h) (fun q h => h.elim)
    have hJ1 : oJ Γ H1 out 1 fo := hXX.at hJ (fun h => h)
    obtain ⟨rfl, hbad⟩ := hBX
    refine vx_catch (own := RL) (name := xIA) (E := xIA) hown [] ⟨0, 10, 13, 13⟩ [] htab (fun z hz => nomatch hz) (by decide) (by decide) (hg _ kw45) ((hW.2.1.1 _ (List.mem_of_getElem? (i := 4) rfl)).use rfl) hcell hcv hcl ?_
    refine lv_astore (lv' := [(4, .ref q9), (0, .ref x), (1, .int a), (2, .int b), (3, .ref out)]) hx hb dL_differ_13 hl (by decide) rfl (fun ls hl => ?_)
    refine lv_iconst (v := 1) hx hb dL_differ_15 (by decide) ?_
    exact W.iret (v := 1) hx hb hr (fun t8 ht8 hW9 => ⟨⟨1, (1, 0), rfl, Or.inl ⟨rfl, rfl, hbad⟩, by subst ht8; exact ⟨hSX, fo, hJ1, fun h => absurd h (by decide)⟩⟩, ⟨by rw [ht8]; exact hS.1, fun q h1 h2 => by rw [ht8]; exact hk1 q h1 id⟩⟩) (fun q hq => hS.2.2 q hq) dL_differ_16
  have hHH : H1 = s.heap := ht.symm.trans hB
  subst hHH
  have hJ1 := hJ
  have hSX := hX0
  refine lv_i2l (v := r.toInt64) hx hb dL_differ_8 rfl ?_
  refine j_last (A := fun q => q = out ∨ s.heap.size ≤ q) hx hb hW.1 hJ1 hS (Or.inl rfl) (by unfold vp_in; decide) dL_differ_9 (fun H2 locs2 hJ2 hz2 hk2 hS => ?_)
  refine lv_goto (tgt := 17) hx hb dL_differ_10 (by decide) ?_
  refine lv_iconst (v := 0) hx hb dL_differ_17 (by decide) ?_
  have hXo : hX (fun q => q = out) s.heap H2 := ⟨by rw [hz2]; exact Nat.le_refl _, fun q _ h => hk2 q h⟩
  have hSX2 := hSX.kept hXo hxo hro (fun q h => by rw [h]; exact ho0)
  exact W.iret (v := 0) hx hb hr (fun t8 ht8 hW9 => ⟨⟨0, (0, r.toInt64), rfl, Or.inr (Or.inr ⟨rfl, rfl, ⟨u.1, u.2, hp.1, hp.2.1, hp.2.2.1, hp.2.2.2.1, by rw [hp.2.2.2.2]⟩⟩), by subst ht8; exact ⟨hSX2, _, hJ2, fun _ => rfl⟩⟩, ⟨by rw [ht8]; exact hS.1, fun q h1 h2 => by rw [ht8]; exact hS.2.1 q h1 (fun h => h.elim h2 (fun h => absurd h (Nat.not_le.mpr h1)))⟩⟩) (fun q hq => hS.2.2 q hq) dL_differ_18
