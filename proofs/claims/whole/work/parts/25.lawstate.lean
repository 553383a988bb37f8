/-! the law's state between two calls -/
def R_law : String := "StampTablesLaw"
def lw_P (b : Addr) (xs : List Int32) (args : Array Value) (s : State) : Prop := args = #[.ref b] ∧ s.IntsAt b xs ∧ xs.length ≤ 3072 ∧ (Jvm.Cond.and given_1 narrow_1).before args s = true
def lw_Q (_ : Array Value) (s : State) (o : Outcome) (t : State) : Prop := o = .returned (some (.int 1)) ∧ Framed s o t [] 657075 7124880
def lw_Z (below : List Frame) (a : Array Value) (s : State) : State → Prop := fun t => ∃ o, t.status = .running ∧ Ended t below o ∧ lw_Q a s o t
/-- the law's own end, with 1 on the stack, nothing written that was there before, its room as the claim has it -/
theorem lw_ret {p : Program} {l : Launch} {e : Env} {s : State} {m : MethodId} {below : List Frame} {meth : Method} {c : Code} {b : Nat} (hx : p.tables.exec = Jvm.exec) (hb : c.code = code) (hr : meth.sig.returnType = ret) (hlocks : meth.locks = false) {pc : Nat} {H : Heap} {ls : Array Slot} (hdg : decode code pc = .ok (.ireturn, 1)) : W p l e room_1 s m #[Value.ref b] below meth c H [] 657075 7124880 (lw_Z below #[Value.ref b] s) (F0 m pc ls [.int 1]) := by
  intro T hT X
  obtain ⟨fs, hret, hrun, hended, hW, hframe⟩ := X.leave (v := some (.int 1)) (hlocks := hlocks) (fun h => by rw [hr] at h; cases h)
  have hmeth' : T.vm.method? m = some meth := X.method'
  refine ⟨T.setFrames fs, ?_, .returned (some (.int 1)), hrun, hended, rfl, ⟨_, rfl⟩, hW, hframe⟩
  jvm_step X.here [X.here.top, hx, hb, hdg, hmeth', hr, ret, narrow_b1]
  (try refine ⟨rfl, ?_⟩); (try refine ⟨rfl, ?_⟩)
  first | (intro acts; rw [hret _ acts rfl rfl rfl]) | rw [hret _ _ rfl rfl rfl]
  exact Steps.refl _
/-- what holds at the law's entry: the machine, the code, the tables' words (any of lw_tbl by 'hts w (by decide +kernel)'), the script of L ints xs at the cell b, what the Statement gives of the start (any of its parts by flat_of_before) -/
def lw_At (p : Program) (s : State) (m : MethodId) (meth : Method) (c : Code) (b L : Nat) (xs : Nat → Int32) : Prop :=
  p.tables.exec = Jvm.exec ∧ c.code = code ∧ meth.sig.returnType = ret ∧ c.maxLocals = 8 ∧ s.vm.findClass R_law = some m.cls ∧ (∀ w ∈ lw_tbl, w.before #[Value.ref b] s = true) ∧ va_X b L xs s s.heap ∧ b < s.heap.size ∧ meth.locks = false ∧ (Jvm.Cond.and given_1 narrow_1).before #[Value.ref b] s = true
/-- where things lie: the object and its roots, the reference's cells, out, the blocks -/
def ZF (Γ : gE) (x ro out : Nat) : Prop := gz Γ ≤ x ∧ gz Γ ≤ ro ∧ x < gm0 Γ ∧ ro < gm0 Γ ∧ x ≠ ro ∧ gm0 Γ ≤ gm1 Γ ∧ gm1 Γ ≤ out ∧ out < gb0 Γ
/-- class and reference hold the same tables -/
def LI (Γ : gE) (H : Heap) (x ro out : Nat) (A : Nat → Nat) (er : Int32) (md : Nat) : Prop := ∃ (fof fke fst : Nat → Int32) (fnu : Nat → Int64) (fno fla fot : Nat → Int32) (rt : Nat → Option Nat) (fo : Nat → Int64),
  SX Γ H x ro md rt (mV fof fke fnu fno) (mSt fof fke fst) ∧ va_P Γ.1 gC (wM Γ A er (nI md) fof fke fst fnu fno fla fot) H ∧ va_D (mA Γ) (wM Γ A er (nI md) fof fke fst fnu fno fla fot) ∧ MI md fof fke fst fno ∧ 1 ≤ md ∧ oJ Γ H out 1 fo
theorem SX.congr {Γ : gE} {H : Heap} {x ro md : Nat} {rt : Nat → Option Nat} {Vs Vs' : Nat → Nat → Option Int64} {Ss Ss' : Nat → Nat → Int32} (h : SX Γ H x ro md rt Vs Ss) (hw : ∀ t, t < md → wfS (Ss' t)) (he : ∀ t, t < md → ∀ k, k < 1024 → Vs t k = Vs' t k ∧ Ss t k = Ss' t k) : SX Γ H x ro md rt Vs' Ss' :=
  ⟨h.1, h.2.1, h.2.2.1, fun t ht => ⟨hw t ht, (h.2.2.2 t ht).2.congr (fun k _ hk => he t ht k (by simpa using hk))⟩⟩
theorem nI_inj {t : Int32} {a b : Nat} (h1 : t = nI a) (h2 : t = nI b) (ha : a < 1024) (hb : b < 1024) : a = b := (nI_eq (by omega) (by omega)).mp (h1.symm.trans h2)
/-- the reference's cells stay where only the class's and out change -/
theorem wM_kept {Γ : gE} {H H1 : Heap} {B : Nat → Prop} {ws : va_W} (hP : va_P Γ.1 gC ws H) (hD : va_D (mA Γ) ws) (hk : ∀ q : Nat, q < H.size → ¬ B q → H1[q]? = H[q]?) (hB : ∀ q, mA Γ q → ¬ B q) : va_P Γ.1 gC ws H1 :=
  hP.kept (fun k q hq => hk q.1 (hP k q hq).lt (hB q.1 (hD.2 k q hq)))
/-- the new table, both sides -/
theorem LI_new {Γ : gE} {H2 : Heap} {x ro out : Nat} {A : Nat → Nat} {md tj kj : Nat} {fof fke fst fno fla fot : Nat → Int32} {fnu fo : Nat → Int64} {rt' : Nat → Option Nat} {v : Int64} {ov : Option Int64} {no st : Int32} (hov : ov = if no = 0 then some v else none) (hmd : md < 400) (h1 : 1 ≤ md) (hMI : MI md fof fke fst fno) (htj : tj < md) (hkj : kj < 1024) (hst : okS st) (hno : no = 0 ∨ no = 1)
    (hSX : SX Γ H2 x ro (md + 1) rt' (va_up (mV fof fke fnu fno) md (va_up (mV fof fke fnu fno tj) kj ov)) (va_up (mSt fof fke fst) md (va_up (mSt fof fke fst tj) kj st)))
    (hP : va_P Γ.1 gC (wM Γ A 0 (nI (md + 1)) (upd fof md (nI tj)) (upd fke md (nI kj)) (upd fst md st) (vp_updL fnu md v) (upd fno md no) fla fot) H2) {er : Int32} (hD : va_D (mA Γ) (wM Γ A er (nI md) fof fke fst fnu fno fla fot)) (hJ : oJ Γ H2 out 1 fo) : LI Γ H2 x ro out A 0 (md + 1) := by
  have hM := new_MI hMI htj hkj hst hno
  subst hov
  refine ⟨_, _, _, _, _, _, _, rt', fo, hSX.congr (fun t ht => mSt_wf (by omega) hM ht) (fun t ht k hk => ?_), hP, vD_map (by rfl) hD, hM, by omega, hJ⟩
  have hV := new_V (fnu := fnu) (v := v) (no := no) hmd h1 hMI htj hkj k hk
  have hSt := new_S (st := st) hmd h1 hMI htj hkj k hk
  by_cases e : t = md
  · subst e
    rw [va_up_self, va_up_self]
    exact ⟨hV.2.symm, hSt.2.symm⟩
  · rw [va_up_ne _ _ e, va_up_ne _ _ e]
    exact ⟨(hV.1 t (by omega)).symm, (hSt.1 t (by omega)).symm⟩
theorem cnt_mono (V : Nat → Option Int64) {a b : Nat} (h : a ≤ b) : cnt V 0 a ≤ cnt V 0 b := by
  have := cnt_split V 0 a (b - a)
  rw [show a + (b - a) = b by omega] at this
  omega
theorem cnt_s {V : Nat → Option Int64} {K : Nat} (h : (V K).isSome = true) : cnt V 0 (K + 1) = cnt V 0 K + 1 := by simp [cnt, h]
theorem cnt_lt {V : Nat → Option Int64} {K : Nat} (hK : K < 1024) (h : (V K).isSome = true) : cnt V 0 K < cnt V 0 1024 := by
  have h1 := cnt_mono V (show K + 1 ≤ 1024 by omega)
  rw [cnt_s h] at h1
  omega
theorem cnt_inj {V : Nat → Option Int64} {K K' : Nat} (h : (V K).isSome = true) (h' : (V K').isSome = true) (he : cnt V 0 K = cnt V 0 K') : K = K' := by
  rcases Nat.lt_trichotomy K K' with h1 | h1 | h1
  · have h2 := cnt_mono V (show K + 1 ≤ K' by omega)
    rw [cnt_s h] at h2
    omega
  · exact h1
  · have h2 := cnt_mono V (show K' + 1 ≤ K by omega)
    rw [cnt_s h'] at h2
    omega
