section
-- ===== PART A: goes FIRST, ahead of the names: the tables' words, and 'selects' of the private methods out of them =====
/-- a private method of a class that the tables say can be made, by its rows of tables_1 -/
def lw_okq (q : MethodName × Nat) : Prop := (q.1.cls ≠ "java/lang/invoke/MethodHandle" ∧ q.1.cls ≠ "java/lang/invoke/VarHandle") ∧ Cond.instantiable q.1.cls q.2 ∈ tables_1 ∧ Cond.privateMethod q.1 ∈ tables_1 ∧ Cond.instanceMethod q.1 ∈ tables_1
theorem lw_p0 : lw_okq (⟨"StampTables", "checkChange", "(III)V"⟩, 2) := ⟨⟨by decide +kernel, by decide +kernel⟩, List.mem_of_getElem? (i := 12) (by decide +kernel), List.mem_of_getElem? (i := 42) (by decide +kernel), List.mem_of_getElem? (i := 43) (by decide +kernel)⟩
theorem lw_p1 : lw_okq (⟨"StampTables", "checkTable", "(I)V"⟩, 2) := ⟨⟨by decide +kernel, by decide +kernel⟩, List.mem_of_getElem? (i := 12) (by decide +kernel), List.mem_of_getElem? (i := 46) (by decide +kernel), List.mem_of_getElem? (i := 47) (by decide +kernel)⟩
theorem lw_p2 : lw_okq (⟨"java/lang/Throwable", "fillInStackTrace", "(I)Ljava/lang/Throwable;"⟩, 6) := ⟨⟨by decide +kernel, by decide +kernel⟩, List.mem_of_getElem? (i := 88) (by decide +kernel), List.mem_of_getElem? (i := 86) (by decide +kernel), List.mem_of_getElem? (i := 87) (by decide +kernel)⟩
theorem lw_p3 : lw_okq (⟨"StampTables", "addTable", "(IILStampTables$Block;)I"⟩, 2) := ⟨⟨by decide +kernel, by decide +kernel⟩, List.mem_of_getElem? (i := 12) (by decide +kernel), List.mem_of_getElem? (i := 162) (by decide +kernel), List.mem_of_getElem? (i := 163) (by decide +kernel)⟩
theorem lw_p4 : lw_okq (⟨"StampTablesModel", "change", "(IIJIZ)I"⟩, 9) := ⟨⟨by decide +kernel, by decide +kernel⟩, List.mem_of_getElem? (i := 274) (by decide +kernel), List.mem_of_getElem? (i := 318) (by decide +kernel), List.mem_of_getElem? (i := 319) (by decide +kernel)⟩
theorem lw_p5 : lw_okq (⟨"StampTablesModel", "noTable", "(I)Z"⟩, 9) := ⟨⟨by decide +kernel, by decide +kernel⟩, List.mem_of_getElem? (i := 274) (by decide +kernel), List.mem_of_getElem? (i := 322) (by decide +kernel), List.mem_of_getElem? (i := 323) (by decide +kernel)⟩
theorem lw_p6 : lw_okq (⟨"StampTablesModel", "fails", "(ZI)Z"⟩, 9) := ⟨⟨by decide +kernel, by decide +kernel⟩, List.mem_of_getElem? (i := 274) (by decide +kernel), List.mem_of_getElem? (i := 330) (by decide +kernel), List.mem_of_getElem? (i := 331) (by decide +kernel)⟩
theorem lw_p7 : lw_okq (⟨"StampTablesModel", "wrote", "(II)I"⟩, 9) := ⟨⟨by decide +kernel, by decide +kernel⟩, List.mem_of_getElem? (i := 274) (by decide +kernel), List.mem_of_getElem? (i := 342) (by decide +kernel), List.mem_of_getElem? (i := 343) (by decide +kernel)⟩
theorem lw_p8 : lw_okq (⟨"StampTablesModel", "whole", "(I[I)V"⟩, 9) := ⟨⟨by decide +kernel, by decide +kernel⟩, List.mem_of_getElem? (i := 274) (by decide +kernel), List.mem_of_getElem? (i := 354) (by decide +kernel), List.mem_of_getElem? (i := 355) (by decide +kernel)⟩
theorem lw_p9 : lw_okq (⟨"StampTablesModel", "has", "(I)Z"⟩, 9) := ⟨⟨by decide +kernel, by decide +kernel⟩, List.mem_of_getElem? (i := 274) (by decide +kernel), List.mem_of_getElem? (i := 358) (by decide +kernel), List.mem_of_getElem? (i := 359) (by decide +kernel)⟩
def lw_privs_1 : List (MethodName × Nat) := [(⟨"StampTables", "checkChange", "(III)V"⟩, 2), (⟨"StampTables", "checkTable", "(I)V"⟩, 2), (⟨"java/lang/Throwable", "fillInStackTrace", "(I)Ljava/lang/Throwable;"⟩, 6), (⟨"StampTables", "addTable", "(IILStampTables$Block;)I"⟩, 2), (⟨"StampTablesModel", "change", "(IIJIZ)I"⟩, 9), (⟨"StampTablesModel", "noTable", "(I)Z"⟩, 9), (⟨"StampTablesModel", "fails", "(ZI)Z"⟩, 9), (⟨"StampTablesModel", "wrote", "(II)I"⟩, 9), (⟨"StampTablesModel", "whole", "(I[I)V"⟩, 9), (⟨"StampTablesModel", "has", "(I)Z"⟩, 9)]
theorem lw_r1 : ∀ q ∈ lw_privs_1, lw_okq q := List.forall_mem_cons.mpr ⟨lw_p0, List.forall_mem_cons.mpr ⟨lw_p1, List.forall_mem_cons.mpr ⟨lw_p2, List.forall_mem_cons.mpr ⟨lw_p3, List.forall_mem_cons.mpr ⟨lw_p4, List.forall_mem_cons.mpr ⟨lw_p5, List.forall_mem_cons.mpr ⟨lw_p6, List.forall_mem_cons.mpr ⟨lw_p7, List.forall_mem_cons.mpr ⟨lw_p8, List.forall_mem_cons.mpr ⟨lw_p9, fun _ h => absurd h List.not_mem_nil⟩⟩⟩⟩⟩⟩⟩⟩⟩⟩
def lw_privs : List (MethodName × Nat) := lw_privs_1
def lw_tbl : List Cond := k2_sels lw_privs ++ tables_1
theorem lw_privs_ok : ∀ q ∈ lw_privs, lw_okq q := lw_r1

/-! the search of a handler, rows that are passed and the row that catches (the rounds' library has no such row) -/
def cx_rowP (pl : Platform) (s₀ : State) (d : ClassId) (pc : Nat) (thrown : ClassId) (y : ExceptionTableEntry) : Prop :=
  covers y pc = false ∨ (y.catchType ≠ 0 ∧ ∃ c, s₀.vm.ClassLinks pl d y.catchType c ∧ s₀.vm.assignable thrown c = false)
def cx_rowC (pl : Platform) (s₀ : State) (d : ClassId) (thrown : ClassId) (x : ExceptionTableEntry) : Prop :=
  x.catchType ≠ 0 ∧ ∃ c, s₀.vm.ClassLinks pl d x.catchType c ∧ s₀.vm.assignable thrown c = true
theorem cx_link {Q : Handler → Pre} {E : CtlPost} {e : Env} {d : Bool} {acts : List Action} {s : State} {f : JFrame} {a : Addr} {x : ExceptionTableEntry} {t : List ExceptionTableEntry} {c : ClassId} {cell : Cell} (hx : covers x f.pc = true) (h0 : x.catchType ≠ 0)
    (hl : s.vm.ClassLinks e.platform f.method.cls x.catchType c) (hcell : s.heap[a]? = some cell) (hobj : ∀ k, cell.vm ≠ .statics k) (hk : ∃ k, s.vm.classes[cell.cls]? = some k) (hc : ∃ k, s.vm.classes[c]? = some k) :
    (s.vm.assignable cell.cls c = true → (wp (findHandler.go f a (x :: t)) Q E e d acts s ↔ Q (.found x.handlerPc) d acts (s.setVm (s.vm.noted f.method.cls x.catchType (.cls c))))) ∧
    (s.vm.assignable cell.cls c = false → (wp (findHandler.go f a (x :: t)) Q E e d acts s ↔ wp (findHandler.go f a t) Q E e d acts (s.setVm (s.vm.noted f.method.cls x.catchType (.cls c))))) := by
  simp only [covers] at hx
  obtain ⟨ha, ht⟩ := (resolveClass_links e.toSetting hl).op (op := VmOp.resolveClass f.method.cls x.catchType) rfl
  have hal : s.vm.Alike (s.vm.noted f.method.cls x.catchType (.cls c)) := (Vm.Alike.refl s.vm).noted _ _ _
  obtain ⟨k1, hk1⟩ := hk
  obtain ⟨k2, hk2⟩ := hc
  obtain ⟨k1', hk1', -⟩ := hal.2.2 _ _ hk1
  obtain ⟨k2', hk2', -⟩ := hal.2.2 _ _ hk2
  constructor <;> intro hfit
  · have hfit' : (s.vm.noted f.method.cls x.catchType (.cls c)).assignable cell.cls c = true := by rw [hal.assignable]; exact hfit
    simp [findHandler.go, hx, h0, ha, ht, hcell, hobj, hk1', hk2', hfit', VmOp.dirties, VmOp.acts]
  · have hfit' : (s.vm.noted f.method.cls x.catchType (.cls c)).assignable cell.cls c = false := by rw [hal.assignable]; exact hfit
    simp [findHandler.go, hx, h0, ha, ht, hcell, hobj, hk1', hk2', hfit', VmOp.dirties, VmOp.acts]
theorem cx_go {e : Env} {s₀ : State} {f : JFrame} {a : Addr} {cell : Cell} (hobj : ∀ k, cell.vm ≠ .statics k) (hk0 : ∃ k, s₀.vm.classes[cell.cls]? = some k)
    (x : ExceptionTableEntry) (rest : List ExceptionTableEntry) (hx : covers x f.pc = true) (hend : cx_rowC e.platform s₀ f.method.cls cell.cls x) :
    ∀ (pre : List ExceptionTableEntry) (S : State), s₀.WarmedH S.vm → S.heap[a]? = some cell → (∀ y ∈ pre, cx_rowP e.platform s₀ f.method.cls f.pc cell.cls y) →
      ∃ vm', s₀.WarmedH vm' ∧ ∀ (Q : Handler → Pre) (E : CtlPost) (d : Bool) (acts : List Action), wp (findHandler.go f a (pre ++ x :: rest)) Q E e d acts S ↔ Q (.found x.handlerPc) d acts (S.setVm vm') := by
  obtain ⟨k0, hk0⟩ := hk0
  intro pre
  induction pre with
  | nil =>
    intro S hW hcell _
    obtain ⟨k0', hk0', -⟩ := hW.alike.2.2 _ _ hk0
    obtain ⟨h0, c, hl, hfit⟩ := hend
    obtain ⟨dk, _, _, kt, hd, _, _, _, _, hkt, _, hopen⟩ := hl.here
    obtain ⟨kt', hkt', -⟩ := hW.alike.2.2 _ _ hkt
    exact ⟨_, hW.noted hd hopen (State.rightAt_cls hl), fun Q E d acts => by
      rw [List.nil_append]
      exact (cx_link hx h0 (hW.classLinks hl) hcell hobj ⟨k0', hk0'⟩ ⟨kt', hkt'⟩).1 (by rw [hW.alike.assignable]; exact hfit)⟩
  | cons y ys ih =>
    intro S hW hcell hpass
    obtain ⟨k0', hk0', -⟩ := hW.alike.2.2 _ _ hk0
    have hrest : ∀ z ∈ ys, cx_rowP e.platform s₀ f.method.cls f.pc cell.cls z := fun z hz => hpass z (List.mem_cons_of_mem _ hz)
    by_cases hcov : covers y f.pc = true
    · rcases hpass y (List.mem_cons_self ..) with h | ⟨h0, c, hl, hno⟩
      · rw [h] at hcov; cases hcov
      · obtain ⟨dk, _, _, kt, hd, _, _, _, _, hkt, _, hopen⟩ := hl.here
        obtain ⟨kt', hkt', -⟩ := hW.alike.2.2 _ _ hkt
        obtain ⟨vm', hW', hq⟩ := ih (S.setVm (S.vm.noted f.method.cls y.catchType (.cls c))) (hW.noted hd hopen (State.rightAt_cls hl)) hcell hrest
        exact ⟨vm', hW', fun Q E d acts => by
          rw [List.cons_append, (cx_link hcov h0 (hW.classLinks hl) hcell hobj ⟨k0', hk0'⟩ ⟨kt', hkt'⟩).2 (by rw [hW.alike.assignable]; exact hno)]
          exact hq Q E d acts⟩
    · obtain ⟨vm', hW', hq⟩ := ih S hW hcell hrest
      exact ⟨vm', hW', fun Q E d acts => by
        rw [List.cons_append, W.findHandler_go_skip (by simpa using hcov)]
        exact hq Q E d acts⟩
theorem cx_step {e : Env} {s : State} {a : Addr} {f : JFrame} {r : List Frame} {pc : Nat} {vm' : Vm} (hfind : ∀ (Q : Handler → Pre) (E : CtlPost) (d : Bool) (acts : List Action), wp (findHandler f a) Q E e d acts s ↔ Q (.found pc) d acts (s.setVm vm')) :
    (stepThrowing e s a (.java f :: r)).Is ((s.setVm vm').setFrames (.java { f with pc := pc, stack := [.ref a] } :: r)) [] := by
  simp only [stepThrowing, searchFrame, vmDo]
  generalize hr : Sem.go _ e false [] s = res
  obtain ⟨as, rfl, ha⟩ := Sem.eq_ok_of hr (a := Handler.found pc) (s' := s.setVm vm') (acts' := []) (by simp [hfind _ _ _ _])
  exact ⟨rfl, ha⟩
theorem cx_frames (u : State) (vm' : Vm) (F G : List Frame) : ((u.setFrames F).setVm vm').setFrames G = (u.setVm vm').setFrames G := by
  have h1 : (u.setFrames F).setVm vm' = (u.setVm vm').setFrames F := rfl
  rw [h1, State.setFrames_setFrames]
theorem cx_to {tb : Tables} {e : Env} {s target : State} {g : JFrame} {c : Code} {below : List Frame} {a : Addr} (h : At s g.method c below) {pc : Nat} {vm' : Vm}
    (hfind : ∀ (Q : Handler → Pre) (E : CtlPost) (d : Bool) (acts : List Action), wp (findHandler g a) Q E e d acts ((s.setTop g).pushFrame (.throwing a)) ↔ Q (.found pc) d acts (((s.setTop g).pushFrame (.throwing a)).setVm vm')) (hrest : Steps tb e below ((s.setVm vm').setTop { g with pc := pc, stack := [.ref a] }) target) :
    Steps tb e below ((s.setTop g).pushFrame (.throwing a)) target := by
  obtain ⟨hgo, hw⟩ := h.throwing a
  refine Steps.head hgo hw ?_
  rw [stepThread_throwing (frames_entered h.top _), (cx_step (s := (s.setTop g).pushFrame (.throwing a)) hfind).1]
  obtain ⟨g₀, hg⟩ := Option.isSome_iff_exists.mp h.top
  obtain ⟨r, hr⟩ := State.topJava?_eq_some.mp hg
  have hr' : (s.setVm vm').frames = .java g₀ :: r := hr
  rw [State.setTop_of_frames _ hr'] at hrest
  rw [hr, List.tail_cons, State.pushFrame, cx_frames, State.setTop_of_frames _ hr, cx_frames]
  exact hrest
theorem cx_caught {p : Program} {l : Launch} {e : Env} {R : Room} {s : State} {m₀ : MethodId} {args : Array Value} {below : List Frame} {meth : Method} {c : Code} {T : State} {locs : List Loc} {cells slots : Nat} (X : Stand p l e R s m₀ args below meth c T locs cells slots) (a : Addr) {g : JFrame} (hg : g.method = m₀)
    {cell : Cell} (hcell : T.heap[a]? = some cell) (hobj : cell.vm.isStatics = false) (hk0 : ∃ k, s.vm.classes[cell.cls]? = some k)
    (pre : List ExceptionTableEntry) (x : ExceptionTableEntry) (rest : List ExceptionTableEntry) (hsplit : c.exceptionTable.toList = pre ++ x :: rest)
    (hpass : ∀ y ∈ pre, cx_rowP e.platform s m₀.cls g.pc cell.cls y) (hx : covers x g.pc = true) (hend : cx_rowC e.platform s m₀.cls cell.cls x) :
    ∃ vm', Stand p l e R s m₀ args below meth c (T.setVm vm') locs cells slots ∧ ∀ target, Steps p.tables e below ((T.setVm vm').setTop { g with pc := x.handlerPc, stack := [.ref a] }) target → Steps p.tables e below ((T.setTop g).pushFrame (.throwing a)) target := by
  subst hg
  obtain ⟨vm', hW', hq⟩ := cx_go (e := e) (VmData.ne_statics_of hobj) hk0 x rest hx hend pre ((T.setTop g).pushFrame (.throwing a)) X.warmed hcell hpass
  refine ⟨vm', X.noted hW', fun target hrest => ?_⟩
  exact cx_to X.here (fun Q E d acts => by rw [W.findHandler_eq (s := (T.setTop g).pushFrame (.throwing a)) (meth := meth) (code := c) X.method' X.code, hsplit]; exact hq Q E d acts) hrest
/-! ===== BEGIN words of one list among another's, by their places ===== -/
theorem goodIn_r {big : List Cond} (ws : List Cond) (ps : List Nat) (hp : ws = ps.filterMap (fun i => big[i]?)) (h : ws.all goodWord = true) : GoodIn big ws := by
  intro w hw
  have h1 := List.all_eq_true.mp h w hw
  rw [hp] at hw
  obtain ⟨i, -, hi⟩ := List.mem_filterMap.mp hw
  have hm : w ∈ big := by first | exact List.mem_of_getElem? hi | exact List.getElem?_mem hi
  exact ⟨hm, good_of_word h1⟩
theorem goodIn_app {big a b : List Cond} (ha : GoodIn big a) (hb : GoodIn big b) : GoodIn big (a ++ b) := fun w h => (List.mem_append.mp h).elim (ha w) (hb w)
theorem goodIn_ca {big a b : List Cond} {c : Cond} (ha : GoodIn big (c :: a)) (hb : GoodIn big b) : GoodIn big (c :: (a ++ b)) := fun w h => (List.mem_cons.mp h).elim (fun e => ha w (List.mem_cons.mpr (Or.inl e))) (fun h => (List.mem_append.mp h).elim (fun h => ha w (List.mem_cons.mpr (Or.inr h))) (hb w))
theorem goodIn_sub {big ws : List Cond} (hm : ∀ w ∈ ws, w ∈ big) (h : ws.all goodWord = true) : GoodIn big ws := fun w hw => ⟨hm w hw, good_of_word (List.all_eq_true.mp h w hw)⟩
/-! ===== END ===== -/

/-! ===== BEGIN exceptions that leave a method, and their catching by the caller (launches without stack traces) ===== -/
section VXA
/-! The laws vx_back, vx_callV, vx_callS, vx_callSW, vx_throw0, vx_throwS follow proofs of the library, with one case more: JvmDerived/Free/Laws.lean (Back.of_free), Shelf42/LK1.lean (callV, callS), Shelf/KitTraced.lean (throwNew0V, throwNewS). -/
/-- where a method has thrown q: the class by its name, the cell, what was written, the world -/
def vx_T (XC : String → State → State → Prop) (st : State) (q : Addr) (t : State) (mc ms : Nat) (free : Addr → Prop) : Prop :=
  ∃ (E : String) (ce : Cell) (L : List Loc), XC E st t ∧ t.heap[q]? = some ce ∧ ce.vm = .none ∧ st.vm.findClass E = some ce.cls ∧ st.WarmedH t.vm ∧ st.sameButNew ({ t with vm := st.vm } : State) L mc ms ∧ ∀ z ∈ L, free z.base
def vx_Q (Qc : Array Value → State → Outcome → State → Prop) (XC : String → State → State → Prop) (mc ms : Nat) (free : Addr → Prop) : Array Value → State → Outcome → State → Prop := fun a st o t =>
  (Qc a st o t ∧ ∃ L, FrameEnd st o t L mc ms ∧ ∀ q ∈ L, free q.base) ∨ ∃ q, o = .threw q ∧ vx_T XC st q t mc ms free
/-- a callee that returns or throws -/
def vx_Met (l : Launch) (y : MethodName) (ws : List Cond) (rm : Room) (Pc : Array Value → State → Prop) (Qc : Array Value → State → Outcome → State → Prop) (XC : String → State → State → Prop) (mc ms : Nat) (free : Addr → Prop) : Prop :=
  MetFree l y (headSpec ws rm) Pc (fun _ _ _ _ _ => True) (vx_Q Qc XC mc ms free)
def vx_Post (XC : String → State → State → Prop) (mc ms : Nat) (free : Addr → Prop) : Pt → Array Value → Addr → Pt → Prop := fun A a q B =>
  ∃ (g : JFrame) (mk : MethodId) (t : State) (L : List Loc) (E : String) (ce : Cell), B.U.heap = t.heap ∧ B.U.vm = t.vm ∧ XC E (A.U.calling g mk a) t ∧ t.heap[q]? = some ce ∧ ce.vm = .none ∧ A.U.vm.findClass E = some ce.cls ∧ B.locs = A.locs ++ L ∧ (∀ z ∈ L, free z.base) ∧ B.cells = A.cells + mc ∧ B.slots = A.slots + ms
def vx_Back (l : Launch) (R : Room) (p : Program) (e : Env) (below : List Frame) (s : State) (sargs : Array Value) (y : MethodName) (len W9 : Nat)
    (Pre : Pt → Array Value → Prop) (Post : Pt → Array Value → Option Value → Pt → Prop) (PostX : Pt → Array Value → Addr → Pt → Prop) : Prop :=
  ∀ (m : MethodId) (meth : Method) (c : Code) (A : Pt) (g : JFrame) (ig : Instr) (mk : MethodId) (a : Array Value),
    Stand p l e R s m sargs below meth c A.U A.locs A.cells A.slots → g.method = m → g.locals.size = c.maxLocals → decode c.code g.pc = .ok (ig, len) →
    2 * g.monitorRoom + (g.stack.map fun v => v.category).sum ≤ W9 → A.U.methodNamed? y = some mk → Pre A a →
    (∃ (v : Option Value) (B : Pt), Stand p l e R s m sargs below meth c B.U B.locs B.cells B.slots ∧ Post A a v B ∧
      Steps p.tables e below (doInvoke e (A.U.setTop g) [] mk a).1 (B.U.setTop { g with pc := g.pc + len, stack := v.toList ++ g.stack })) ∨
    (∃ (q : Addr) (B : Pt), Stand p l e R s m sargs below meth c B.U B.locs B.cells B.slots ∧ PostX A a q B ∧
      Steps p.tables e below (doInvoke e (A.U.setTop g) [] mk a).1 ((B.U.setTop g).pushFrame (.throwing q)))
section Payer
variable {l : Launch} {R : Room} {p : Program} {e : Env} {below : List Frame} {s : State} {sargs : Array Value} {y : MethodName} {len W9 : Nat}
theorem vx_back {ws : List Cond} {rm : Room} {Pc : Array Value → State → Prop} {Qc : Array Value → State → Outcome → State → Prop} {XC : String → State → State → Prop} {mc ms : Nat} {free : Addr → Prop} {bytes : ByteArray} {maxL : Nat} {ret : Option FieldType}
    (hM : vx_Met l y ws rm Pc Qc XC mc ms free) (hblind : FrameBlind Pc) (hrc : rm.cells = mc) (hrs : rm.slots = ms)
    (hframes : rm.frames + 1 ≤ R.frames) (hlocals : W9 + (maxL + 11) + rm.locals ≤ R.locals)
    (hws : ∀ w ∈ ws, ∀ a' U, s.WarmedH U.vm → w.before a' U = true) (hcode : Cond.code y bytes maxL ret ∈ ws) (hinit : ∀ a' U, s.WarmedH U.vm → (Cond.initialized y.cls).before a' U = true) :
    vx_Back l R p e below s sargs y len W9 (PreOf R mc ms Pc) (PostOf Qc mc ms free) (vx_Post XC mc ms free) := by
  intro m meth c A g ig mk a X hg hsize hdg hW hn hp
  have h1 : (headSpec ws rm).pre.before a A.U = true := atoms_intro fun w hw => hws w hw _ _ X.warmed
  have h2 : (Cond.code y bytes maxL ret).before a A.U = true := hws _ hcode _ _ X.warmed
  have h3 : (Cond.initialized y.cls).before a A.U = true := hinit _ _ X.warmed
  have h4 : A.cells + (headSpec ws rm).room.cells ≤ R.cells := by rw [show (headSpec ws rm).room.cells = mc from hrc]; exact hp.1
  have h5 : A.slots + (headSpec ws rm).room.slots ≤ R.slots := by rw [show (headSpec ws rm).room.slots = ms from hrs]; exact hp.2.1
  have hPc : Pc a (A.U.calling g mk a) := hblind _ _ _ _ hp.2.2
  obtain ⟨U, Ls, c0, s0⟩ := A
  dsimp only [Pt.U, Pt.locs, Pt.cells, Pt.slots] at h1 h2 h3 h4 h5 X hn hPc ⊢
  obtain ⟨methY, cY, hmY, hcY, -, hlY, -, -, -, -⟩ := Cond.code_spec hn h2
  obtain ⟨kY, hkY, -⟩ := className_of_methodNamed hn
  have hinitY : kY.init = .initialized := Cond.initialized_spec (findClass_of_methodNamed hn) hkY h3
  have h : At U g.method c below := by rw [hg]; exact X.here
  have hlocals9 : W9 + (maxL + 11) + (headSpec ws rm).room.locals ≤ R.locals := hlocals
  have happ : (headSpec ws rm).appliesLoose y e.platform (U.calling g mk a) = true :=
    Spec.appliesLoose_calling (g := g) h hdg hn hkY hinitY
      (X.room_calling (g := g) (R' := (headSpec ws rm).room) hsize hmY hcY hframes (by rw [hlY]; omega) h4 h5) h1
  obtain ⟨mid, hmid⟩ := h.above
  have hfr : (U.setTop g).frames = (.java g :: mid) ++ below := by rw [State.frames_setTop' g h.top, hmid]; rfl
  obtain ⟨o, s₂, hsteps, -, hend, hq⟩ := Steps.callFree hM p X.admits X.cas X.clock (acts := []) hfr happ hPc trivial
  have hq' : vx_Q Qc XC mc ms free a (U.calling g mk a) o s₂ := hq
  rw [State.frames_setTop' g h.top] at hend
  obtain ⟨g₀, hg0⟩ := Option.isSome_iff_exists.mp h.top
  obtain ⟨r, hr⟩ := State.topJava?_eq_some.mp hg0
  have hr' : (({ U with heap := s₂.heap, slotsUsed := s₂.slotsUsed } : State).setVm s₂.vm).frames = .java g₀ :: r := hr
  rcases hq' with ⟨hqc, L, hfe, hL⟩ | ⟨q, rfl, E, ce, L, hx, hce, hcv, hcl, hW₂, hsm, hL⟩
  · obtain ⟨⟨v, rfl⟩, hW₂, e2, q2, q3, q4, q5, q6⟩ := id hfe
    have e3 : s₂ = ({ (U.calling g mk a).setFrames s₂.frames with heap := s₂.heap, slotsUsed := s₂.slotsUsed } : State).setVm s₂.vm := by
      have : s₂ = ({ s₂ with vm := (U.calling g mk a).vm } : State).setVm s₂.vm := rfl
      rw [e2] at this
      exact this
    obtain ⟨c₂, i₂, len₂, hc₂, hd₂, hf₂⟩ := hend
    have hW' : U.WarmedH s₂.vm := hW₂
    have hcc : c₂ = c := by
      have h1 : s₂.code? g.method = U.code? g.method := by
        rw [State.code?_eq, State.code?_eq, hW'.alike.method?]
      exact Option.some.inj (hc₂.symm.trans (h1.trans h.code))
    subst hcc
    have hlen : len₂ = len := by rw [hdg] at hd₂; cases hd₂; rfl
    subst hlen
    have hs₂ : s₂ = (({ U with heap := s₂.heap, slotsUsed := s₂.slotsUsed } : State).setVm s₂.vm).setTop { g with pc := g.pc + len₂, stack := v.toList ++ g.stack } := by
      refine e3.trans ?_
      rw [hf₂, State.calling_eq h.top, State.setFrames_setFrames, State.setTop_of_frames _ hr', hr]
      rfl
    have hsame : U.sameButNew ({ U with heap := s₂.heap, slotsUsed := s₂.slotsUsed } : State) L mc ms := by
      refine ⟨?_, q2, q3, q4, q5, q6⟩
      obtain ⟨t, ht, -⟩ := State.frames_cons hr
      show ({ U with heap := s₂.heap, slotsUsed := s₂.slotsUsed } : State) = { U.setFrames U.frames with heap := s₂.heap, slotsUsed := s₂.slotsUsed }
      rw [State.setFrames_self ht]
    subst hg
    refine Or.inl ⟨v, ⟨(({ U with heap := s₂.heap, slotsUsed := s₂.slotsUsed } : State).setVm s₂.vm), Ls ++ L, c0 + mc, s0 + ms⟩,
      ⟨X.admits, X.cas, X.clock, X.frames, X.room, X.hears, X.method, X.code, (X.here.setHeapUsed s₂.heap s₂.slotsUsed).setVm hW'.alike, X.tail, State.WarmedH.trans X.warmed hW', X.limits, X.bytes, X.same.trans (hsame.setVm s.vm)⟩,
      ⟨g, mk, s₂, L, rfl, rfl, hqc, rfl, hL, rfl, rfl⟩, ?_⟩
    show Steps p.tables e below _ ((({ U with heap := s₂.heap, slotsUsed := s₂.slotsUsed } : State).setVm s₂.vm).setTop { g with pc := g.pc + len₂, stack := v.toList ++ g.stack })
    rw [← hs₂]
    exact hsteps
  · obtain ⟨e2, q2, q3, q4, q5, q6⟩ := id hsm
    have e3 : s₂ = ({ (U.calling g mk a).setFrames s₂.frames with heap := s₂.heap, slotsUsed := s₂.slotsUsed } : State).setVm s₂.vm := by
      have : s₂ = ({ s₂ with vm := (U.calling g mk a).vm } : State).setVm s₂.vm := rfl
      rw [e2] at this
      exact this
    have hf₂ : s₂.frames = .throwing q :: .java g :: U.frames.tail := hend
    have hW' : U.WarmedH s₂.vm := hW₂
    have hs₂ : s₂ = ((({ U with heap := s₂.heap, slotsUsed := s₂.slotsUsed } : State).setVm s₂.vm).setTop g).pushFrame (.throwing q) := by
      refine e3.trans ?_
      rw [hf₂, State.calling_eq h.top, State.setFrames_setFrames, State.pushFrame, State.frames_setTop _ hr', State.setTop_of_frames _ hr', State.setFrames_setFrames, hr]
      rfl
    have hsame : U.sameButNew ({ U with heap := s₂.heap, slotsUsed := s₂.slotsUsed } : State) L mc ms := by
      refine ⟨?_, q2, q3, q4, q5, q6⟩
      obtain ⟨t, ht, -⟩ := State.frames_cons hr
      show ({ U with heap := s₂.heap, slotsUsed := s₂.slotsUsed } : State) = { U.setFrames U.frames with heap := s₂.heap, slotsUsed := s₂.slotsUsed }
      rw [State.setFrames_self ht]
    subst hg
    refine Or.inr ⟨q, ⟨(({ U with heap := s₂.heap, slotsUsed := s₂.slotsUsed } : State).setVm s₂.vm), Ls ++ L, c0 + mc, s0 + ms⟩,
      ⟨X.admits, X.cas, X.clock, X.frames, X.room, X.hears, X.method, X.code, (X.here.setHeapUsed s₂.heap s₂.slotsUsed).setVm hW'.alike, X.tail, State.WarmedH.trans X.warmed hW', X.limits, X.bytes, X.same.trans (hsame.setVm s.vm)⟩,
      ⟨g, mk, s₂, L, E, ce, rfl, rfl, hx, hce, hcv, hcl, rfl, hL, rfl, rfl⟩, ?_⟩
    show Steps p.tables e below _ (((({ U with heap := s₂.heap, slotsUsed := s₂.slotsUsed } : State).setVm s₂.vm).setTop g).pushFrame (.throwing q))
    rw [← hs₂]
    exact hsteps
end Payer
section Calls
variable {p : Program} {l : Launch} {e : Env} {R : Room} {s : State} {m : MethodId} {args : Array Value} {below : List Frame} {meth : Method} {c : Code} {T : State} {locs : List Loc} {cells slots : Nat}
theorem vx_callV (X : Stand p l e R s m args below meth c T locs cells slots) (hexec : p.tables.exec = Jvm.exec) {own C : String} {index : Nat} {y : MethodName} {bytes : ByteArray} {maxL : Nat} {ret : Option FieldType}
    (hown : s.vm.findClass own = some m.cls) (hlink : (Cond.methodLink own index y).before args s = true) (hinst : (Cond.instanceMethod y).before args s = true) (hsel : (Cond.selects C y y).before args s = true)
    (hcode : (Cond.code y bytes maxL ret).before args s = true) (hy : y.cls ≠ "java/lang/invoke/MethodHandle" ∧ y.cls ≠ "java/lang/invoke/VarHandle")
    {W9 : Nat} {Pre : Pt → Array Value → Prop} {Post : Pt → Array Value → Option Value → Pt → Prop} {PostX : Pt → Array Value → Addr → Pt → Prop} (hK : vx_Back l R p e below s args y 3 W9 Pre Post PostX)
    {b : Addr} {cellB : Cell} (hcell : T.heap[b]? = some cellB) (hobj : cellB.vm.isStatics = false) (hcls : s.vm.findClass C = some cellB.cls)
    {g : JFrame} (hg : g.method = m) (hsize : g.locals.size = c.maxLocals) {argsL rest : List Value} (hlen : ∀ sig, parseMethodDescriptor y.desc = some sig → argsL.length = sig.parameters.length)
    (hstack : g.stack = argsL.reverse ++ .ref b :: rest) (hW : 2 * g.monitorRoom + (rest.map fun v => v.category).sum ≤ W9) (hdg : decode c.code g.pc = .ok (.invokevirtual index, 3))
    (hpre : ∀ vm₁, s.WarmedH vm₁ → Pre ⟨T.setVm vm₁, locs, cells, slots⟩ (Value.ref b :: argsL).toArray) :
    (∃ (v : Option Value) (vm₁ : Vm) (B : Pt), s.WarmedH vm₁ ∧ Stand p l e R s m args below meth c B.U B.locs B.cells B.slots ∧ Post ⟨T.setVm vm₁, locs, cells, slots⟩ (Value.ref b :: argsL).toArray v B ∧
      ∀ target, Steps p.tables e below (B.U.setTop { g with pc := g.pc + 3, stack := v.toList ++ rest }) target → Steps p.tables e below (T.setTop g) target) ∨
    (∃ (q : Addr) (vm₁ : Vm) (B : Pt), s.WarmedH vm₁ ∧ Stand p l e R s m args below meth c B.U B.locs B.cells B.slots ∧ PostX ⟨T.setVm vm₁, locs, cells, slots⟩ (Value.ref b :: argsL).toArray q B ∧
      Steps p.tables e below (T.setTop g) ((B.U.setTop { g with stack := rest }).pushFrame (.throwing q))) := by
  obtain ⟨mk, methM, hnamed, hmethM, hstM, habM⟩ := Cond.instanceMethod_spec hinst
  obtain ⟨methM', cM, hmethM', -, -, -, -, -, -, hsigM⟩ := Cond.code_spec hnamed hcode
  cases hmethM.symm.trans hmethM'
  obtain ⟨c2, r2, m2, q1, q2, q3, q4, kP, hkP, hkPi⟩ := Cond.selects_spec hsel
  cases hcls.symm.trans q1
  cases (State.methodFound?_of_named hnamed hy).symm.trans q2
  cases hnamed.symm.trans q3
  have hselP : selectMethod e.platform s.vm cellB.cls mk = .method mk := by rw [Launch.admits_selectMethod X.admits]; exact q4
  obtain ⟨vm₁, X₁, hstep₁⟩ := X.invokevirtual hexec hown hlink hnamed hmethM hstM hkP hkPi hy (a := b) (cell := cellB) hcell
    (fun z h => by rw [h] at hobj; cases hobj) hselP hmethM habM hkP hkPi (g := g) hg (argsL := argsL) (rest := rest) (hlen _ hsigM) hstack hdg
  rcases hK m meth c ⟨T.setVm vm₁, locs, cells, slots⟩ { g with stack := rest } (.invokevirtual index) mk (Value.ref b :: argsL).toArray X₁ hg hsize hdg hW (X₁.named hnamed) (hpre vm₁ X₁.warmed) with ⟨v, B, X', hpost, hsteps⟩ | ⟨q, B, X', hpost, hsteps⟩
  · exact Or.inl ⟨v, vm₁, B, X₁.warmed, X', hpost, fun target h => hstep₁ _ fun acts => by rw [doInvoke_state]; exact hsteps.trans h⟩
  · exact Or.inr ⟨q, vm₁, B, X₁.warmed, X', hpost, hstep₁ _ fun acts => by rw [doInvoke_state]; exact hsteps⟩
theorem vx_callS (X : Stand p l e R s m args below meth c T locs cells slots) (hexec : p.tables.exec = Jvm.exec) {own : String} {index : Nat} {y : MethodName} {bytes : ByteArray} {maxL : Nat} {ret : Option FieldType}
    (hown : s.vm.findClass own = some m.cls) (hlink : (Cond.methodLink own index y).before args s = true) (hstat : (Cond.static y).before args s = true) (hinit : (Cond.initialized y.cls).before args s = true)
    (hcode : (Cond.code y bytes maxL ret).before args s = true) (hy : y.cls ≠ "java/lang/invoke/MethodHandle" ∧ y.cls ≠ "java/lang/invoke/VarHandle")
    {W9 : Nat} {Pre : Pt → Array Value → Prop} {Post : Pt → Array Value → Option Value → Pt → Prop} {PostX : Pt → Array Value → Addr → Pt → Prop} (hK : vx_Back l R p e below s args y 3 W9 Pre Post PostX)
    {g : JFrame} (hg : g.method = m) (hsize : g.locals.size = c.maxLocals) {argsL rest : List Value} (hlen : ∀ sig, parseMethodDescriptor y.desc = some sig → argsL.length = sig.parameters.length)
    (hstack : g.stack = argsL.reverse ++ rest) (hW : 2 * g.monitorRoom + (rest.map fun v => v.category).sum ≤ W9) (hdg : decode c.code g.pc = .ok (.invokestatic index, 3))
    (hpre : ∀ vm₁, s.WarmedH vm₁ → Pre ⟨T.setVm vm₁, locs, cells, slots⟩ argsL.toArray) :
    (∃ (v : Option Value) (vm₁ : Vm) (B : Pt), s.WarmedH vm₁ ∧ Stand p l e R s m args below meth c B.U B.locs B.cells B.slots ∧ Post ⟨T.setVm vm₁, locs, cells, slots⟩ argsL.toArray v B ∧
      ∀ target, Steps p.tables e below (B.U.setTop { g with pc := g.pc + 3, stack := v.toList ++ rest }) target → Steps p.tables e below (T.setTop g) target) ∨
    (∃ (q : Addr) (vm₁ : Vm) (B : Pt), s.WarmedH vm₁ ∧ Stand p l e R s m args below meth c B.U B.locs B.cells B.slots ∧ PostX ⟨T.setVm vm₁, locs, cells, slots⟩ argsL.toArray q B ∧
      Steps p.tables e below (T.setTop g) ((B.U.setTop { g with stack := rest }).pushFrame (.throwing q))) := by
  obtain ⟨mk, hnamed⟩ := Cond.code_named hcode
  obtain ⟨methM, cM, hmethM, -, -, -, -, -, -, hsigM⟩ := Cond.code_spec hnamed hcode
  have hstatic : methM.isStatic = true := Cond.static_spec hnamed hmethM hstat
  obtain ⟨kP, hkP, -⟩ := className_of_methodNamed hnamed
  have hinitP : kP.init = .initialized := Cond.initialized_spec (findClass_of_methodNamed hnamed) hkP hinit
  obtain ⟨vm₁, X₁, hstep₁⟩ := X.invokestatic hexec hown hlink hnamed hmethM hstatic hkP hinitP hy (g := g) hg (argsL := argsL) (rest := rest) (hlen _ hsigM) hstack hdg
  rcases hK m meth c ⟨T.setVm vm₁, locs, cells, slots⟩ { g with stack := rest } (.invokestatic index) mk argsL.toArray X₁ hg hsize hdg hW (X₁.named hnamed) (hpre vm₁ X₁.warmed) with ⟨v, B, X', hpost, hsteps⟩ | ⟨q, B, X', hpost, hsteps⟩
  · exact Or.inl ⟨v, vm₁, B, X₁.warmed, X', hpost, fun target h => hstep₁ _ fun acts => by rw [doInvoke_state]; exact hsteps.trans h⟩
  · exact Or.inr ⟨q, vm₁, B, X₁.warmed, X', hpost, hstep₁ _ fun acts => by rw [doInvoke_state]; exact hsteps⟩
end Calls
theorem vx_cls {s : State} {T : State} {vm₁ : Vm} {E : String} {k : ClassId} (hW : s.WarmedH vm₁) (h : (T.setVm vm₁).vm.findClass E = some k) : s.vm.findClass E = some k := by
  have h1 : vm₁.findClass E = some k := h
  rw [hW.alike.findClass] at h1
  exact h1
/-- the method's frame g, with q thrown over it -/
def vx_W (p : Program) (l : Launch) (e : Env) (R : Room) (s : State) (m : MethodId) (args : Array Value) (below : List Frame) (meth : Method) (c : Code) (H : Heap) (locs : List Loc) (cells slots : Nat) (Q : State → Prop) (g : JFrame) (q : Addr) : Prop :=
  ∀ T : State, T.heap = H → Stand p l e R s m args below meth c T locs cells slots → ∃ t, Steps p.tables e below ((T.setTop g).pushFrame (.throwing q)) t ∧ Q t
def vx_Run (p : Program) (l : Launch) (e : Env) (R : Room) (s : State) (m : MethodId) (args : Array Value) (below : List Frame) (meth : Method) (c : Code) (H : Heap) (locs : List Loc) (cells slots mc ms : Nat) (g : JFrame) (rest : List Value) (Qa : State → Outcome → State → Prop) (XC : String → State → State → Prop) (free : Addr → Prop) : Prop :=
  ∀ T : State, T.heap = H → Stand p l e R s m args below meth c T locs cells slots →
    (∃ (v : Option Value) (st₀ t T' : State) (L : List Loc), st₀.heap = H ∧ Stand p l e R s m args below meth c T' (locs ++ L) (cells + mc) (slots + ms) ∧ (∀ q ∈ L, free q.base) ∧ T'.heap = t.heap ∧ T'.vm = t.vm ∧ Qa st₀ (.returned v) t ∧
      Goes p e below T g T' { g with pc := g.pc + 3, stack := v.toList ++ rest }) ∨
    (∃ (q : Addr) (st₀ t T' : State) (L : List Loc) (E : String) (ce : Cell), st₀.heap = H ∧ Stand p l e R s m args below meth c T' (locs ++ L) (cells + mc) (slots + ms) ∧ (∀ z ∈ L, free z.base) ∧ T'.heap = t.heap ∧ T'.vm = t.vm ∧ XC E st₀ t ∧ t.heap[q]? = some ce ∧ ce.vm = .none ∧ s.vm.findClass E = some ce.cls ∧
      Steps p.tables e below (T.setTop g) ((T'.setTop { g with stack := rest }).pushFrame (.throwing q)))
def vx_X {S : Type} (px : S → Prop) (B : String → S → State → Prop) (A : Nat → Prop) : String → State → State → Prop := fun E st t => ∃ u : S, px u ∧ B E u t ∧ va_F A st t
section Runs
variable {p : Program} {l : Launch} {e : Env} {R : Room} {s : State} {m : MethodId} {args : Array Value} {below : List Frame} {meth : Method} {c : Code} {H : Heap} {locs : List Loc} {cells slots : Nat}
variable {y : MethodName} {bytes cc : ByteArray} {maxL nL mc ms n index : Nat} {ret : Option FieldType} {ws : List Cond} {rm : Room} {Pc : Array Value → State → Prop} {Qc : Array Value → State → Outcome → State → Prop} {XC : String → State → State → Prop} {free : Addr → Prop} {Ts : List Cond} {own C : String} {b : Addr} {As rest : List Value} {g : JFrame}
theorem vx_callBack (cb : CallB R s args own index y bytes maxL ret ws rm mc ms n) (hM : vx_Met l y ws rm Pc Qc XC mc ms free) (hbl : FrameBlind Pc) : vx_Back l R p e below s args y 3 8 (PreOf R mc ms Pc) (PostOf Qc mc ms free) (vx_Post XC mc ms free) := by
  obtain ⟨hrc, hrs, hfr, hlo, hws, hcw, -, hini, -⟩ := cb
  exact vx_back (bytes := bytes) (maxL := maxL) (ret := ret) hM hbl hrc hrs hfr hlo hws hcw (fun a' U hW => word_at hW (Or.inl (by first | rfl | simp [Cond.onTables, Cond.keeps, Cond.steady])) hini)
theorem vx_runV (S : CallFix p m c cc nL s args Ts own) (hM : vx_Met l y ws rm Pc Qc XC mc ms free) (cw : CallW R s args own C index y bytes maxL ret ws rm mc ms n) (hp : PreV s H C b Pc As)
    (hg : g.method = m) (hn : As.length = n) (hsize : g.locals.size = nL) (hstack : g.stack = As.reverse ++ .ref b :: rest) (hW : 2 * g.monitorRoom + (rest.map fun v => v.category).sum ≤ 8) (hdg : decode cc g.pc = .ok (.invokevirtual index, 3)) (hf : cells + mc ≤ R.cells ∧ slots + ms ≤ R.slots) :
    vx_Run p l e R s m args below meth c H locs cells slots mc ms g rest (Qc (Value.ref b :: As).toArray) XC free := by
  have hK : vx_Back l R p e below s args y 3 8 (PreOf R mc ms Pc) (PostOf Qc mc ms free) (vx_Post XC mc ms free) := vx_callBack cw.1 hM hp.1
  obtain ⟨⟨-, -, -, -, -, -, hcode, -, hy, hlen, hl⟩, hin, hse⟩ := cw
  obtain ⟨hx, hb, hml, ho, -⟩ := S
  obtain ⟨-, ⟨cellB, hcB, hoB, hclB⟩, hPc⟩ := hp
  intro T hT X
  rcases vx_callV X hx (C := C) (bytes := bytes) (maxL := maxL) (ret := ret) ho hl hin hse hcode hy hK (by rw [hT]; exact hcB) hoB hclB hg (hsize.trans hml.symm) (argsL := As) (rest := rest) (fun sig h => hn.trans (hlen sig h)) hstack hW (by rw [hb]; exact hdg)
    (fun vm₁ hW₁ => ⟨hf.1, hf.2, hPc (T.setVm vm₁) hT hW₁⟩) with ⟨v, vm₁, ⟨U', l2, c2, s2⟩, hW₁, X', ⟨g', mk, t, L, e1, e2, hq, h1, hL, h2, h3⟩, st⟩ | ⟨q, vm₁, ⟨U', l2, c2, s2⟩, hW₁, X', ⟨g', mk, t, L, E, ce, e1, e2, hq, hce, hcv, hcl, h1, hL, h2, h3⟩, st⟩
  · dsimp only [Pt.U, Pt.locs, Pt.cells, Pt.slots] at X' e1 e2 h1 h2 h3 st
    subst h1; subst h2; subst h3
    exact Or.inl ⟨v, (T.setVm vm₁).calling g' mk (Value.ref b :: As).toArray, t, U', L, hT, X', hL, e1, e2, hq, st⟩
  · dsimp only [Pt.U, Pt.locs, Pt.cells, Pt.slots] at X' e1 e2 h1 h2 h3 st hcl
    subst h1; subst h2; subst h3
    exact Or.inr ⟨q, (T.setVm vm₁).calling g' mk (Value.ref b :: As).toArray, t, U', L, E, ce, hT, X', hL, e1, e2, hq, hce, hcv, vx_cls hW₁ hcl, st⟩
theorem vx_runS (S : CallFix p m c cc nL s args Ts own) (hM : vx_Met l y ws rm Pc Qc XC mc ms free) (cw : CallB R s args own index y bytes maxL ret ws rm mc ms n ∧ (Cond.static y).before args s = true) (hp : PreS s H Pc As)
    (hg : g.method = m) (hn : As.length = n) (hsize : g.locals.size = nL) (hstack : g.stack = As.reverse ++ rest) (hW : 2 * g.monitorRoom + (rest.map fun v => v.category).sum ≤ 8) (hdg : decode cc g.pc = .ok (.invokestatic index, 3)) (hf : cells + mc ≤ R.cells ∧ slots + ms ≤ R.slots) :
    vx_Run p l e R s m args below meth c H locs cells slots mc ms g rest (Qc As.toArray) XC free := by
  have hK : vx_Back l R p e below s args y 3 8 (PreOf R mc ms Pc) (PostOf Qc mc ms free) (vx_Post XC mc ms free) := vx_callBack cw.1 hM hp.1
  obtain ⟨⟨-, -, -, -, -, -, hcode, hini, hy, hlen, hl⟩, hstt⟩ := cw
  obtain ⟨hx, hb, hml, ho, -⟩ := S
  intro T hT X
  rcases vx_callS X hx (bytes := bytes) (maxL := maxL) (ret := ret) ho hl hstt hini hcode hy hK hg (hsize.trans hml.symm) (argsL := As) (rest := rest) (fun sig h => hn.trans (hlen sig h)) hstack hW (by rw [hb]; exact hdg)
    (fun vm₁ hW₁ => ⟨hf.1, hf.2, hp.2 (T.setVm vm₁) hT hW₁⟩) with ⟨v, vm₁, ⟨U', l2, c2, s2⟩, hW₁, X', ⟨g', mk, t, L, e1, e2, hq, h1, hL, h2, h3⟩, st⟩ | ⟨q, vm₁, ⟨U', l2, c2, s2⟩, hW₁, X', ⟨g', mk, t, L, E, ce, e1, e2, hq, hce, hcv, hcl, h1, hL, h2, h3⟩, st⟩
  · dsimp only [Pt.U, Pt.locs, Pt.cells, Pt.slots] at X' e1 e2 h1 h2 h3 st
    subst h1; subst h2; subst h3
    exact Or.inl ⟨v, (T.setVm vm₁).calling g' mk As.toArray, t, U', L, hT, X', hL, e1, e2, hq, st⟩
  · dsimp only [Pt.U, Pt.locs, Pt.cells, Pt.slots] at X' e1 e2 h1 h2 h3 st hcl
    subst h1; subst h2; subst h3
    exact Or.inr ⟨q, (T.setVm vm₁).calling g' mk As.toArray, t, U', L, E, ce, hT, X', hL, e1, e2, hq, hce, hcv, vx_cls hW₁ hcl, st⟩
end Runs
section Rows
variable {p : Program} {l : Launch} {e : Env} {R : Room} {s : State} {m : MethodId} {args : Array Value} {below : List Frame} {meth : Method} {c : Code} {H : Heap} {locs : List Loc} {cells slots : Nat} {Q : State → Prop}
variable {mc ms : Nat} {free : Addr → Prop} {A0 A1 : Nat → Prop} {H0 : Heap} {a : Array Value} {pc : Nat} {ls : Array Slot} {st0 rest : List Value}
theorem vx_keep {st₀ t T' : State} {L : List Loc} (h0 : st₀.heap = H) (e1 : T'.heap = t.heap) (hS : va_S A0 H0 H locs) (hA : ∀ q, q < H.size → A1 q → A0 q) (hf : ∀ q, free q → A0 q) (hL : ∀ q ∈ L, free q.base) (hF : va_F A1 st₀ t) :
    H.size ≤ T'.heap.size ∧ (∀ q : Nat, q < H.size → ¬ A1 q → T'.heap[q]? = H[q]?) ∧ va_S A0 H0 T'.heap (locs ++ L) := by
  obtain ⟨hz, hk⟩ := hF
  rw [h0] at hz hk
  exact ⟨by rw [e1]; exact hz, fun q h1 h2 => by rw [e1]; exact hk q h1 h2,
    ⟨Nat.le_trans hS.1 (by rw [e1]; exact hz), fun q h1 h2 => by rw [e1, hk q (Nat.lt_of_lt_of_le h1 hS.1) (fun z => h2 (hA q (Nat.lt_of_lt_of_le h1 hS.1) z))]; exact hS.2.1 q h1 h2, fun q hq => by
      rcases List.mem_append.mp hq with h | h
      · exact hS.2.2 q h
      · exact hf _ (hL q h)⟩⟩
theorem vx_calli {S SX : Type} {post : Int32 → S → Prop} {px : SX → Prop} {B : S → State → Prop} {BX : String → SX → State → Prop} {AX : Nat → Prop} (hr : vx_Run p l e R s m args below meth c H locs cells slots mc ms (F0 m pc ls st0) rest (va_Qi post B A1 a) (vx_X px BX AX) free) (hS : va_S A0 H0 H locs) (hA : ∀ q, q < H.size → A1 q → A0 q) (hf : ∀ q, free q → A0 q) (hAX : ∀ q, q < H.size → AX q → A0 q)
    (kx : ∀ (E : String) (ce : Cell) (q9 : Addr) (u : SX) (t : State) (H1 : Heap) (locs1 : List Loc), t.heap = H1 → s.vm.Alike t.vm → px u → BX E u t → H.size ≤ H1.size → (∀ q : Nat, q < H.size → ¬ AX q → H1[q]? = H[q]?) → va_S A0 H0 H1 locs1 → H1[q9]? = some ce → ce.vm = .none → s.vm.findClass E = some ce.cls → vx_W p l e R s m args below meth c H1 locs1 (cells + mc) (slots + ms) Q (F0 m pc ls rest) q9)
    (kk : ∀ (r : Int32) (u : S) (t : State) (H1 : Heap) (locs1 : List Loc), t.heap = H1 → s.vm.Alike t.vm → post r u → B u t → H.size ≤ H1.size → (∀ q : Nat, q < H.size → ¬ A1 q → H1[q]? = H[q]?) → va_S A0 H0 H1 locs1 → W p l e R s m args below meth c H1 locs1 (cells + mc) (slots + ms) Q (F0 m (pc + 3) ls (.int r :: rest))) : W p l e R s m args below meth c H locs cells slots Q (F0 m pc ls st0) := by
  intro T hT X
  rcases hr T hT X with ⟨v, st₀, t, T', L, h0, X', hL, e1, e2, ⟨⟨r, u, hv, hp, hb⟩, hF⟩, st⟩ | ⟨q, st₀, t, T', L, E, ce, h0, X', hL, e1, e2, ⟨u, hp, hb, hF⟩, hce, hcv, hcl, st⟩
  · cases hv
    obtain ⟨k1, k2, k3⟩ := vx_keep h0 e1 hS hA hf hL hF
    obtain ⟨t2, a1, b1⟩ := kk r u t T'.heap (locs ++ L) e1.symm (by rw [← e2]; exact X'.warmed.alike) hp hb k1 k2 k3 T' rfl X'
    exact ⟨t2, st t2 a1, b1⟩
  · obtain ⟨k1, k2, k3⟩ := vx_keep h0 e1 hS hAX hf hL hF
    obtain ⟨t2, a1, b1⟩ := kx E ce q u t T'.heap (locs ++ L) e1.symm (by rw [← e2]; exact X'.warmed.alike) hp hb k1 k2 k3 (by rw [e1]; exact hce) hcv hcl T' rfl X'
    exact ⟨t2, st.trans a1, b1⟩
theorem vx_calll {S SX : Type} {post : Int64 → S → Prop} {px : SX → Prop} {B : S → State → Prop} {BX : String → SX → State → Prop} {AX : Nat → Prop} (hr : vx_Run p l e R s m args below meth c H locs cells slots mc ms (F0 m pc ls st0) rest (va_Ql post B A1 a) (vx_X px BX AX) free) (hS : va_S A0 H0 H locs) (hA : ∀ q, q < H.size → A1 q → A0 q) (hf : ∀ q, free q → A0 q) (hAX : ∀ q, q < H.size → AX q → A0 q)
    (kx : ∀ (E : String) (ce : Cell) (q9 : Addr) (u : SX) (t : State) (H1 : Heap) (locs1 : List Loc), t.heap = H1 → s.vm.Alike t.vm → px u → BX E u t → H.size ≤ H1.size → (∀ q : Nat, q < H.size → ¬ AX q → H1[q]? = H[q]?) → va_S A0 H0 H1 locs1 → H1[q9]? = some ce → ce.vm = .none → s.vm.findClass E = some ce.cls → vx_W p l e R s m args below meth c H1 locs1 (cells + mc) (slots + ms) Q (F0 m pc ls rest) q9)
    (kk : ∀ (r : Int64) (u : S) (t : State) (H1 : Heap) (locs1 : List Loc), t.heap = H1 → s.vm.Alike t.vm → post r u → B u t → H.size ≤ H1.size → (∀ q : Nat, q < H.size → ¬ A1 q → H1[q]? = H[q]?) → va_S A0 H0 H1 locs1 → W p l e R s m args below meth c H1 locs1 (cells + mc) (slots + ms) Q (F0 m (pc + 3) ls (.long r :: rest))) : W p l e R s m args below meth c H locs cells slots Q (F0 m pc ls st0) := by
  intro T hT X
  rcases hr T hT X with ⟨v, st₀, t, T', L, h0, X', hL, e1, e2, ⟨⟨r, u, hv, hp, hb⟩, hF⟩, st⟩ | ⟨q, st₀, t, T', L, E, ce, h0, X', hL, e1, e2, ⟨u, hp, hb, hF⟩, hce, hcv, hcl, st⟩
  · cases hv
    obtain ⟨k1, k2, k3⟩ := vx_keep h0 e1 hS hA hf hL hF
    obtain ⟨t2, a1, b1⟩ := kk r u t T'.heap (locs ++ L) e1.symm (by rw [← e2]; exact X'.warmed.alike) hp hb k1 k2 k3 T' rfl X'
    exact ⟨t2, st t2 a1, b1⟩
  · obtain ⟨k1, k2, k3⟩ := vx_keep h0 e1 hS hAX hf hL hF
    obtain ⟨t2, a1, b1⟩ := kx E ce q u t T'.heap (locs ++ L) e1.symm (by rw [← e2]; exact X'.warmed.alike) hp hb k1 k2 k3 (by rw [e1]; exact hce) hcv hcl T' rfl X'
    exact ⟨t2, st.trans a1, b1⟩
theorem vx_callf {S SX : Type} {post : UInt32 → S → Prop} {px : SX → Prop} {B : S → State → Prop} {BX : String → SX → State → Prop} {AX : Nat → Prop} (hr : vx_Run p l e R s m args below meth c H locs cells slots mc ms (F0 m pc ls st0) rest (va_Qf post B A1 a) (vx_X px BX AX) free) (hS : va_S A0 H0 H locs) (hA : ∀ q, q < H.size → A1 q → A0 q) (hf : ∀ q, free q → A0 q) (hAX : ∀ q, q < H.size → AX q → A0 q)
    (kx : ∀ (E : String) (ce : Cell) (q9 : Addr) (u : SX) (t : State) (H1 : Heap) (locs1 : List Loc), t.heap = H1 → s.vm.Alike t.vm → px u → BX E u t → H.size ≤ H1.size → (∀ q : Nat, q < H.size → ¬ AX q → H1[q]? = H[q]?) → va_S A0 H0 H1 locs1 → H1[q9]? = some ce → ce.vm = .none → s.vm.findClass E = some ce.cls → vx_W p l e R s m args below meth c H1 locs1 (cells + mc) (slots + ms) Q (F0 m pc ls rest) q9)
    (kk : ∀ (r : UInt32) (u : S) (t : State) (H1 : Heap) (locs1 : List Loc), t.heap = H1 → s.vm.Alike t.vm → post r u → B u t → H.size ≤ H1.size → (∀ q : Nat, q < H.size → ¬ A1 q → H1[q]? = H[q]?) → va_S A0 H0 H1 locs1 → W p l e R s m args below meth c H1 locs1 (cells + mc) (slots + ms) Q (F0 m (pc + 3) ls (.float r :: rest))) : W p l e R s m args below meth c H locs cells slots Q (F0 m pc ls st0) := by
  intro T hT X
  rcases hr T hT X with ⟨v, st₀, t, T', L, h0, X', hL, e1, e2, ⟨⟨r, u, hv, hp, hb⟩, hF⟩, st⟩ | ⟨q, st₀, t, T', L, E, ce, h0, X', hL, e1, e2, ⟨u, hp, hb, hF⟩, hce, hcv, hcl, st⟩
  · cases hv
    obtain ⟨k1, k2, k3⟩ := vx_keep h0 e1 hS hA hf hL hF
    obtain ⟨t2, a1, b1⟩ := kk r u t T'.heap (locs ++ L) e1.symm (by rw [← e2]; exact X'.warmed.alike) hp hb k1 k2 k3 T' rfl X'
    exact ⟨t2, st t2 a1, b1⟩
  · obtain ⟨k1, k2, k3⟩ := vx_keep h0 e1 hS hAX hf hL hF
    obtain ⟨t2, a1, b1⟩ := kx E ce q u t T'.heap (locs ++ L) e1.symm (by rw [← e2]; exact X'.warmed.alike) hp hb k1 k2 k3 (by rw [e1]; exact hce) hcv hcl T' rfl X'
    exact ⟨t2, st.trans a1, b1⟩
theorem vx_calld {S SX : Type} {post : UInt64 → S → Prop} {px : SX → Prop} {B : S → State → Prop} {BX : String → SX → State → Prop} {AX : Nat → Prop} (hr : vx_Run p l e R s m args below meth c H locs cells slots mc ms (F0 m pc ls st0) rest (va_Qd post B A1 a) (vx_X px BX AX) free) (hS : va_S A0 H0 H locs) (hA : ∀ q, q < H.size → A1 q → A0 q) (hf : ∀ q, free q → A0 q) (hAX : ∀ q, q < H.size → AX q → A0 q)
    (kx : ∀ (E : String) (ce : Cell) (q9 : Addr) (u : SX) (t : State) (H1 : Heap) (locs1 : List Loc), t.heap = H1 → s.vm.Alike t.vm → px u → BX E u t → H.size ≤ H1.size → (∀ q : Nat, q < H.size → ¬ AX q → H1[q]? = H[q]?) → va_S A0 H0 H1 locs1 → H1[q9]? = some ce → ce.vm = .none → s.vm.findClass E = some ce.cls → vx_W p l e R s m args below meth c H1 locs1 (cells + mc) (slots + ms) Q (F0 m pc ls rest) q9)
    (kk : ∀ (r : UInt64) (u : S) (t : State) (H1 : Heap) (locs1 : List Loc), t.heap = H1 → s.vm.Alike t.vm → post r u → B u t → H.size ≤ H1.size → (∀ q : Nat, q < H.size → ¬ A1 q → H1[q]? = H[q]?) → va_S A0 H0 H1 locs1 → W p l e R s m args below meth c H1 locs1 (cells + mc) (slots + ms) Q (F0 m (pc + 3) ls (.double r :: rest))) : W p l e R s m args below meth c H locs cells slots Q (F0 m pc ls st0) := by
  intro T hT X
  rcases hr T hT X with ⟨v, st₀, t, T', L, h0, X', hL, e1, e2, ⟨⟨r, u, hv, hp, hb⟩, hF⟩, st⟩ | ⟨q, st₀, t, T', L, E, ce, h0, X', hL, e1, e2, ⟨u, hp, hb, hF⟩, hce, hcv, hcl, st⟩
  · cases hv
    obtain ⟨k1, k2, k3⟩ := vx_keep h0 e1 hS hA hf hL hF
    obtain ⟨t2, a1, b1⟩ := kk r u t T'.heap (locs ++ L) e1.symm (by rw [← e2]; exact X'.warmed.alike) hp hb k1 k2 k3 T' rfl X'
    exact ⟨t2, st t2 a1, b1⟩
  · obtain ⟨k1, k2, k3⟩ := vx_keep h0 e1 hS hAX hf hL hF
    obtain ⟨t2, a1, b1⟩ := kx E ce q u t T'.heap (locs ++ L) e1.symm (by rw [← e2]; exact X'.warmed.alike) hp hb k1 k2 k3 (by rw [e1]; exact hce) hcv hcl T' rfl X'
    exact ⟨t2, st.trans a1, b1⟩
theorem vx_callv {S SX : Type} {post : S → Prop} {px : SX → Prop} {B : S → State → Prop} {BX : String → SX → State → Prop} {AX : Nat → Prop} (hr : vx_Run p l e R s m args below meth c H locs cells slots mc ms (F0 m pc ls st0) rest (va_Qv post B A1 a) (vx_X px BX AX) free) (hS : va_S A0 H0 H locs) (hA : ∀ q, q < H.size → A1 q → A0 q) (hf : ∀ q, free q → A0 q) (hAX : ∀ q, q < H.size → AX q → A0 q)
    (kx : ∀ (E : String) (ce : Cell) (q9 : Addr) (u : SX) (t : State) (H1 : Heap) (locs1 : List Loc), t.heap = H1 → s.vm.Alike t.vm → px u → BX E u t → H.size ≤ H1.size → (∀ q : Nat, q < H.size → ¬ AX q → H1[q]? = H[q]?) → va_S A0 H0 H1 locs1 → H1[q9]? = some ce → ce.vm = .none → s.vm.findClass E = some ce.cls → vx_W p l e R s m args below meth c H1 locs1 (cells + mc) (slots + ms) Q (F0 m pc ls rest) q9)
    (kk : ∀ (u : S) (t : State) (H1 : Heap) (locs1 : List Loc), t.heap = H1 → s.vm.Alike t.vm → post u → B u t → H.size ≤ H1.size → (∀ q : Nat, q < H.size → ¬ A1 q → H1[q]? = H[q]?) → va_S A0 H0 H1 locs1 → W p l e R s m args below meth c H1 locs1 (cells + mc) (slots + ms) Q (F0 m (pc + 3) ls (rest))) : W p l e R s m args below meth c H locs cells slots Q (F0 m pc ls st0) := by
  intro T hT X
  rcases hr T hT X with ⟨v, st₀, t, T', L, h0, X', hL, e1, e2, ⟨⟨u, hv, hp, hb⟩, hF⟩, st⟩ | ⟨q, st₀, t, T', L, E, ce, h0, X', hL, e1, e2, ⟨u, hp, hb, hF⟩, hce, hcv, hcl, st⟩
  · cases hv
    obtain ⟨k1, k2, k3⟩ := vx_keep h0 e1 hS hA hf hL hF
    obtain ⟨t2, a1, b1⟩ := kk u t T'.heap (locs ++ L) e1.symm (by rw [← e2]; exact X'.warmed.alike) hp hb k1 k2 k3 T' rfl X'
    exact ⟨t2, st t2 a1, b1⟩
  · obtain ⟨k1, k2, k3⟩ := vx_keep h0 e1 hS hAX hf hL hF
    obtain ⟨t2, a1, b1⟩ := kx E ce q u t T'.heap (locs ++ L) e1.symm (by rw [← e2]; exact X'.warmed.alike) hp hb k1 k2 k3 (by rw [e1]; exact hce) hcv hcl T' rfl X'
    exact ⟨t2, st.trans a1, b1⟩
/-- caught by the row x of this method's table; the rows ahead don't take it -/
theorem vx_catch {own name : String} {E : String} {ce : Cell} {q : Addr} (hown : s.vm.findClass own = some m.cls) (pre : List ExceptionTableEntry) (x : ExceptionTableEntry) (suf : List ExceptionTableEntry) (hsplit : c.exceptionTable.toList = pre ++ x :: suf)
    (hpass : ∀ z ∈ pre, covers z pc = false ∨ (z.catchType ≠ 0 ∧ ∃ nm : String, (Cond.classLink own z.catchType nm).before args s = true ∧ va_Nc E nm s)) (hx : covers x pc = true) (h0 : x.catchType ≠ 0)
    (hlink : (Cond.classLink own x.catchType name).before args s = true) (hcast : (Cond.castable E name).before args s = true) (hcell : H[q]? = some ce) (hv : ce.vm = .none) (hcl : s.vm.findClass E = some ce.cls)
    (kk : W p l e R s m args below meth c H locs cells slots Q (F0 m x.handlerPc ls [.ref q])) : vx_W p l e R s m args below meth c H locs cells slots Q (F0 m pc ls rest) q := by
  intro T hT X
  have hpl : e.platform.magicAccessors = ({} : Platform).magicAccessors := by rw [X.admits.platform]
  obtain ⟨c3, c4, hc3, hc4, hasg⟩ := Cond.castable_spec hcast
  cases Option.some.inj (hc3.symm.trans hcl)
  obtain ⟨c5, hc5, hcl5⟩ := Cond.classLink_spec hown hlink e.platform hpl
  cases Option.some.inj (hc4.symm.trans hc5)
  obtain ⟨vm', X', st⟩ := cx_caught X q (g := F0 m pc ls rest) rfl (by rw [hT]; exact hcell) (by rw [hv]; rfl) (by obtain ⟨k9, h9, -⟩ := Vm.findClass_spec hcl; exact ⟨k9, h9⟩) pre x suf hsplit
    (fun z hz => by
      rcases hpass z hz with h | ⟨hz0, nm, hl1, hn1⟩
      · exact Or.inl h
      · obtain ⟨c6, hc6, hcl6⟩ := Cond.classLink_spec hown hl1 e.platform hpl
        obtain ⟨a8, b8, h1, h2, h3⟩ := hn1
        cases Option.some.inj (h1.symm.trans hcl)
        cases Option.some.inj (h2.symm.trans hc6)
        exact Or.inr ⟨hz0, _, hcl6, h3⟩) hx ⟨h0, c4, hcl5, hasg⟩
  obtain ⟨t, a1, b1⟩ := kk (T.setVm vm') hT X'
  exact ⟨t, st t a1, b1⟩
end Rows
section Ends
variable {p : Program} {l : Launch} {e : Env} {R : Room} {s : State} {m : MethodId} {args : Array Value} {below : List Frame} {meth : Method} {c : Code} {H : Heap} {locs : List Loc} {cells slots : Nat} {Q : State → Prop}
variable {mc ms : Nat} {free : Addr → Prop} {A0 A1 : Nat → Prop} {H0 : Heap} {a : Array Value} {ls : Array Slot} {st0 rest : List Value}
variable {Qc : Array Value → State → Outcome → State → Prop} {XC : String → State → State → Prop}
/-- what a body that may throw owes at its end -/
def vx_MQ (below : List Frame) (Qc : Array Value → State → Outcome → State → Prop) (XC : String → State → State → Prop) (a : Array Value) (s : State) (mc ms : Nat) (free : Addr → Prop) : State → Prop := fun t =>
  ∃ o, t.status = .running ∧ Ended t below o ∧ vx_Q Qc XC mc ms free a s o t
theorem vx_ret {g : JFrame} {mc ms : Nat} (k : W p l e R s m args below meth c H locs cells slots (MQ below Qc args s mc ms free) g) : W p l e R s m args below meth c H locs cells slots (vx_MQ below Qc XC args s mc ms free) g := by
  intro T hT X
  obtain ⟨t, a1, o, b1, b2, b3, b4⟩ := k T hT X
  exact ⟨t, a1, o, b1, b2, Or.inl ⟨b3, b4⟩⟩
/-- not caught here: it goes on to the caller -/
theorem vx_widen {g : JFrame} {q : Addr} {k n : Nat} (h1 : cells ≤ k) (h2 : slots ≤ n) (kk : vx_W p l e R s m args below meth c H locs k n Q g q) : vx_W p l e R s m args below meth c H locs cells slots Q g q := fun T hT X => kk T hT (stand_widen X h1 h2)
theorem vx_out {pc : Nat} {E : String} {ce : Cell} {q : Addr} {mc ms : Nat} (hout : ∀ x ∈ c.exceptionTable.toList, covers x pc = false) (hlocks : meth.locks = false) (hcell : H[q]? = some ce) (hv : ce.vm = .none) (hcl : s.vm.findClass E = some ce.cls)
    (hx : ∀ t : State, t.heap = H → s.vm.Alike t.vm → XC E s t) (hf : ∀ z ∈ locs, free z.base) (hc : cells ≤ mc) (hs : slots ≤ ms) :
    vx_W p l e R s m args below meth c H locs cells slots (vx_MQ below Qc XC args s mc ms free) (F0 m pc ls rest) q := by
  intro T hT X
  obtain ⟨st1, hrun, hend, hW, hsm⟩ := X.leaveThrown q (g := F0 m pc ls rest) rfl rfl rfl hout hlocks
  have hcell9 : (T.setFrames (.throwing q :: below)).heap[q]? = some ce := by
    show T.heap[q]? = some ce
    rw [hT]; exact hcell
  exact ⟨_, st1, .threw q, hrun, hend, Or.inr ⟨q, rfl, E, ce, locs, hx _ hT hW.alike, hcell9, hv, hcl, hW, hsm.mono hc hs, hf⟩⟩
theorem vx_frame {U : State} {k n : Nat} (h : s.sameButNew ({ U with vm := s.vm } : State) locs k n) : s.heap.size ≤ U.heap.size ∧ ∀ q : Nat, q < s.heap.size → (∀ z ∈ locs, z.base ≠ q) → U.heap[q]? = s.heap[q]? := by
  obtain ⟨-, h2, -, -, -, h6⟩ := h
  refine ⟨h2, fun q hq hz => ?_⟩
  obtain ⟨c9, e1, e2, e3, e4⟩ := h6 q _ (Array.getElem?_eq_getElem hq)
  have hs : c9.slots = (s.heap[q]).slots := Array.ext_getElem? fun i => e4 i fun hm => hz _ hm rfl
  have h9 : c9 = s.heap[q] := by
    rw [hs] at e2
    exact e2
  have e5 : U.heap[q]? = some c9 := e1
  rw [e5, h9, Array.getElem?_eq_getElem hq]
/-- the words of a throw but the four that speak of the heap -/
def vx_no (w : Cond) : Bool := decide (w ≠ .isRef (.static Bundle.tN "UNASSIGNED_STACK" Bundle.steD)) && decide (w ≠ .isRef (.static Bundle.tN "SUPPRESSED_SENTINEL" Bundle.listD)) && decide (w ≠ .laysStatic Bundle.tN "UNASSIGNED_STACK" Bundle.steD) && decide (w ≠ .laysStatic Bundle.tN "SUPPRESSED_SENTINEL" Bundle.listD)
def vx_at0 (own : String) (ic : Nat) (X : String) (names : List String) : List Cond := (Bundle.ownAtoms0 own ic X names).filter vx_no
def vx_atS (own : String) (ic : Nat) (X : String) (names : List String) : List Cond := (Bundle.ownAtoms own ic X names).filter vx_no
/-- a word that the tables alone decide, or a good one -/
def vx_ot (w : Cond) : Bool := w.onTables || goodWord w
theorem vx_ot_at {args a' : Array Value} {s U : State} {w : Cond} (hW : s.WarmedH U.vm) (hvm : s.vm = U.vm) (hg : vx_ot w = true) (h : w.before args s = true) : w.before a' U = true := by
  simp only [vx_ot, Bool.or_eq_true] at hg
  rcases hg with hg | hg
  · exact va_tabs hg hvm h
  · exact word_at hW (good_of_word hg) h
/-- a list's words: the good ones out of the method's own list, the others by premises of their own -/
theorem vx_hat {args : Array Value} {s : State} {L B : List Cond} (h1 : ∀ w ∈ L.filter goodWord, w.before args s = true) (h2 : ∀ w ∈ L.filter (fun w => !goodWord w), w ∈ B) (h3 : ∀ w ∈ B, w.before args s = true) : ∀ w ∈ L, w.before args s = true := by
  intro w hw
  by_cases g : goodWord w = true
  · exact h1 w (List.mem_filter.mpr ⟨hw, g⟩)
  · refine h3 w (h2 w (List.mem_filter.mpr ⟨hw, ?_⟩))
    show (!goodWord w) = true
    cases hgw : goodWord w
    · rfl
    · exact absurd hgw g
theorem vx_c {args : Array Value} {s : State} {w : Cond} {B : List Cond} (h : w.before args s = true) (t : ∀ w ∈ B, w.before args s = true) : ∀ w' ∈ w :: B, w'.before args s = true := fun w' h' => (List.mem_cons.mp h').elim (fun e => by rw [e]; exact h) (t w')
theorem vx_n {args : Array Value} {s : State} : ∀ w ∈ ([] : List Cond), w.before args s = true := fun _ h => nomatch h
theorem vx_own {args : Array Value} {s : State} {L : List Cond} (h1 : ∀ w ∈ L.filter vx_no, w.before args s = true)
    (hU : (Cond.isRef (.static Bundle.tN "UNASSIGNED_STACK" Bundle.steD)).before args s = true) (hN : (Cond.isRef (.static Bundle.tN "SUPPRESSED_SENTINEL" Bundle.listD)).before args s = true)
    (lU : (Cond.laysStatic Bundle.tN "UNASSIGNED_STACK" Bundle.steD).before args s = true) (lN : (Cond.laysStatic Bundle.tN "SUPPRESSED_SENTINEL" Bundle.listD).before args s = true) : ∀ w ∈ L, w.before args s = true := by
  intro w hw
  by_cases e1 : w = .isRef (.static Bundle.tN "UNASSIGNED_STACK" Bundle.steD)
  · rw [e1]; exact hU
  · by_cases e2 : w = .isRef (.static Bundle.tN "SUPPRESSED_SENTINEL" Bundle.listD)
    · rw [e2]; exact hN
    · by_cases e3 : w = .laysStatic Bundle.tN "UNASSIGNED_STACK" Bundle.steD
      · rw [e3]; exact lU
      · by_cases e4 : w = .laysStatic Bundle.tN "SUPPRESSED_SENTINEL" Bundle.listD
        · rw [e4]; exact lN
        · exact h1 w (List.mem_filter.mpr ⟨hw, by unfold vx_no; rw [decide_eq_true e1, decide_eq_true e2, decide_eq_true e3, decide_eq_true e4]; rfl⟩)
/-- where a static field lies, its class's statics cell in H -/
def vx_L (C n d : String) (A : Nat → Prop) (U : State) (H : Heap) : Prop := ∃ (c : ClassId) (k : Class) (i : Nat) (f : Field) (a : Nat) (cell : Cell), U.vm.findClass C = some c ∧ U.fieldFound? C n d = some (c, k, i, f) ∧ f.isStatic = true ∧ k.statics = some a ∧ H[a]? = some cell ∧ cell.vm.isStatics = true ∧ cell.cls = c ∧ f.slot < cell.slots.size ∧ k.staticTypes[f.slot]? = some f.type ∧ ¬ A a
theorem vx_L.moved {C n d : String} {A : Nat → Prop} {u U : State} {H : Heap} (hvm : u.vm.Alike U.vm) (h : vx_L C n d A u H) : vx_L C n d A U H := by
  obtain ⟨c, k, i, f, a, cell, h1, h2, h3, h4, h5, h6, h7, h8, h9, h10⟩ := h
  obtain ⟨k', hi', he⟩ := State.fieldFound?_setVm hvm h2
  exact ⟨c, k', i, f, a, cell, by rw [hvm.findClass]; exact h1, hi', h3, by rw [he]; exact h4, h5, h6, h7, h8, by rw [he]; exact h9, h10⟩
theorem vx_L.kept {C n d : String} {A : Nat → Prop} {U : State} {H H1 : Heap} (h : vx_L C n d A U H) (hq : ∀ a : Nat, a < H.size → ¬ A a → H1[a]? = H[a]?) : vx_L C n d A U H1 := by
  obtain ⟨c, k, i, f, a, cell, h1, h2, h3, h4, h5, h6, h7, h8, h9, h10⟩ := h
  exact ⟨c, k, i, f, a, cell, h1, h2, h3, h4, by rw [hq a (Array.getElem?_eq_some_iff.mp h5).1 h10]; exact h5, h6, h7, h8, h9, h10⟩
theorem vx_L.narrow {C n d : String} {A B : Nat → Prop} {U : State} {H : Heap} (h : vx_L C n d A U H) (hAB : ∀ q, B q → A q) : vx_L C n d B U H := by
  obtain ⟨c, k, i, f, a, cell, h1, h2, h3, h4, h5, h6, h7, h8, h9, h10⟩ := h
  exact ⟨c, k, i, f, a, cell, h1, h2, h3, h4, h5, h6, h7, h8, h9, fun z => h10 (hAB _ z)⟩
theorem vx_L.word {C n d : String} {A : Nat → Prop} {s : State} {args : Array Value} (h : vx_L C n d A s s.heap) : (Cond.laysStatic C n d).before args s = true := by
  obtain ⟨c, k, i, f, a, cell, h1, h2, h3, h4, h5, h6, h7, h8, h9, -⟩ := h
  show (Cond.laysStatic C n d).holds args s none s [] = true
  exact Cond.laysStatic_of h1 h2 h3 h4 h5 h6 h7 h8 h9
/-- .. and what it holds: null or some reference -/
def vx_Zq (C n d : String) (A : Nat → Prop) (U : State) (H : Heap) : Prop := va_Zq C n d A U H ∧ vx_L C n d A U H
theorem vx_Zq.moved {C n d : String} {A : Nat → Prop} {u U : State} {H : Heap} (hvm : u.vm.Alike U.vm) (h : vx_Zq C n d A u H) : vx_Zq C n d A U H := ⟨va_Zq.moved hvm h.1, vx_L.moved hvm h.2⟩
theorem vx_Zq.kept {C n d : String} {A : Nat → Prop} {U : State} {H H1 : Heap} (h : vx_Zq C n d A U H) (hq : ∀ a : Nat, a < H.size → ¬ A a → H1[a]? = H[a]?) : vx_Zq C n d A U H1 := ⟨va_Zq.kept h.1 hq, vx_L.kept h.2 hq⟩
theorem vx_Zq.narrow {C n d : String} {A B : Nat → Prop} {U : State} {H : Heap} (h : vx_Zq C n d A U H) (hAB : ∀ q, B q → A q) : vx_Zq C n d B U H := ⟨va_Zq.narrow h.1 hAB, vx_L.narrow h.2 hAB⟩
theorem vx_Zqof {args : Array Value} {s : State} {C n d : String} {A : Nat → Prop} (hl : (Cond.laysStatic C n d).before args s = true) (hini : (Cond.initialized C).before args s = true) (h : (Cond.isRef (.static C n d)).before args s = true) (hA : ∀ a : Nat, a < s.heap.size → ¬ A a) : vx_Zq C n d A s s.heap := by
  refine ⟨va_Zqof hl hini h hA, ?_⟩
  obtain ⟨c, k, i, f, a, cell, h1, h2, h3, h4, h5, h6, h7, h8, h9⟩ := Cond.laysStatic_spec hl
  exact ⟨c, k, i, f, a, cell, h1, h2, h3, h4, h5, h6, h7, h8, h9, hA a (Array.getElem?_eq_some_iff.mp h5).1⟩
theorem vx_isRef {C n d : String} {v : Value} {A : Nat → Prop} {s : State} {args : Array Value} (h : va_Z C n d v A s s.heap) (hv : v.isRef = true) : (Cond.isRef (.static C n d)).before args s = true := by
  obtain ⟨cf, kf, fi, f, a, cell, h1, h2, h3, h4, h5, h6, h7, -⟩ := h
  have he : (Term.static C n d).eval args s none [] s = some v := by
    simp [Term.eval, State.fieldNamed?, h1, h2, h4, h5, h6, h7]
  simp only [Cond.before, Cond.holds, Cond.value, he]
  cases v <;> simp_all [Value.isRef]
theorem vx_isRefq {C n d : String} {A : Nat → Prop} {s : State} {args : Array Value} (h : va_Zq C n d A s s.heap) : (Cond.isRef (.static C n d)).before args s = true := by
  rcases h with h | ⟨t, h⟩
  · exact vx_isRef h rfl
  · exact vx_isRef h rfl
/-- the same frame, seen from here: as if the method were called anew in this heap -/
theorem vx_rebase {T : State} (X : Stand p l e R s m args below meth c T locs cells slots) {R' : Room} (hf : R'.frames ≤ R.frames) (hl : R'.locals ≤ R.locals) (hc : cells + R'.cells ≤ R.cells) (hs : slots + R'.slots ≤ R.slots) :
    Stand p l e R' ((T.setVm s.vm).setFrames (.invoking m args :: below)) m args below meth c T [] 0 0 := by
  have htop : (T.setVm s.vm).topJava?.isSome := X.here.top
  have hF : ((T.setVm s.vm).setFrames (.invoking m args :: below)).frames = .invoking m args :: below := State.frames_setFrames _ (State.cur_lt_of_top htop)
  obtain ⟨g₀, hg0⟩ := Option.isSome_iff_exists.mp htop
  obtain ⟨r, hr⟩ := State.topJava?_eq_some.mp hg0
  have hl9 : e.platform.stackLimits (T.setVm s.vm).me = e.platform.stackLimits s.me := X.limits
  have hb9 : (T.setVm s.vm).me.stackBytes = s.me.stackBytes := X.bytes
  refine ⟨X.admits, X.cas, X.clock, hF, ?_, X.hears, X.method, X.code, X.here, X.tail, X.warmed, ?_, ?_, ?_⟩
  · have h := X.room
    have hU : ((T.setVm s.vm).setFrames (.invoking m args :: below)).localsInUse = s.localsInUse := by
      rw [State.localsInUse_invoking hF (meth := meth) (c := c) X.method X.code, State.localsInUse_invoking X.frames X.method X.code]
    simp only [State.hasRoom, Bool.and_eq_true, decide_eq_true_eq] at h ⊢
    obtain ⟨⟨⟨⟨h1, h2, h3, h4, h5, h6⟩, h7⟩, h8⟩, h9⟩ := h
    rw [X.frames, List.length_cons] at h2 h3
    have q1 := X.heapSize
    have q2 := X.used
    simp only [hF, hU, List.length_cons, State.stackLimits_setFrames, State.stackBytes_setFrames, hl9, hb9]
    refine ⟨⟨⟨⟨by omega, by omega, by omega, by omega, by omega, h6⟩, ?_⟩, ?_⟩, X.book⟩
    · show T.heap.size + R'.cells ≤ e.platform.maxCells
      omega
    · show T.slotsUsed + R'.slots ≤ e.platform.maxSlots
      omega
  · rw [State.stackLimits_setFrames]; rfl
  · rw [State.stackBytes_setFrames]; rfl
  · refine ⟨?_, Nat.le_refl _, Nat.le_refl _, ?_, ?_, fun a c9 h9 => ⟨c9, h9, rfl, rfl, fun _ _ => rfl⟩⟩
    · obtain ⟨t, ht, -⟩ := State.frames_cons hr
      show T.setVm s.vm = { ((T.setVm s.vm).setFrames (.invoking m args :: below)).setFrames (T.setVm s.vm).frames with heap := T.heap, slotsUsed := T.slotsUsed }
      rw [State.setFrames_setFrames, State.setFrames_self ht]
      rfl
    · show T.slotsUsed = T.slotsUsed + ((T.heap.toList.drop T.heap.size).map (·.slots.size)).sum
      rw [List.drop_eq_nil_of_le (Nat.le_of_eq Array.length_toList)]
      rfl
    · show ((T.heap.toList.drop T.heap.size).map (·.slots.size)).sum ≤ 0
      rw [List.drop_eq_nil_of_le (Nat.le_of_eq Array.length_toList)]
      exact Nat.le_refl _
/-- 'throw new E()': new; dup; invokespecial; athrow -/
theorem vx_throw0 {cc : ByteArray} {pc : Nat} (hexec : p.tables.exec = Jvm.exec) (hb : c.code = cc) (hl : l.stackTraces = false) {own cls : String} {names : List String} {ik ic mc ms : Nat} {A : Nat → Prop}
    (hown : s.vm.findClass own = some m.cls) (hcls : Bundle.fit cls = true) (hnames : ∀ n ∈ names, Bundle.fit n = true)
    (hk : (Cond.classLink own ik cls).before args s = true) (hini : (Cond.initialized cls).before args s = true) (hat : ∀ w ∈ vx_at0 own ic cls names, w.before args s = true)
    (hgood : ∀ w ∈ Cond.classLink own ik cls :: Cond.initialized cls :: vx_at0 own ic cls names, vx_ot w = true)
    (hU : vx_Zq Bundle.tN "UNASSIGNED_STACK" Bundle.steD A s s.heap) (hN : vx_Zq Bundle.tN "SUPPRESSED_SENTINEL" Bundle.listD A s s.heap) (hS : va_S A s.heap H locs) (hsize : ls.size = c.maxLocals)
    (d0 : decode cc pc = .ok (.new ik, 3)) (d3 : decode cc (pc + 3) = .ok (.dup, 1)) (d4 : decode cc (pc + 4) = .ok (.invokespecial ic, 3)) (d7 : decode cc (pc + 7) = .ok (.athrow, 1))
    (hout : ∀ x ∈ c.exceptionTable.toList, covers x (pc + 7) = false)
    (hRframes : names.length + 3 < R.frames) (hRlocals : (rest.map fun v => v.category).sum + (13 * (names.length + 1) + 42) ≤ R.locals) (hRcells : cells + 1 ≤ R.cells) (hRslots : slots + 6 ≤ R.slots) (hlocks : meth.locks = false)
    (hx : ∀ t : State, s.vm.Alike t.vm → H.size ≤ t.heap.size → (∀ q : Nat, q < H.size → t.heap[q]? = H[q]?) → XC cls s t)
    (hf : ∀ z ∈ locs, free z.base) (hc : cells + 1 ≤ mc) (hs : slots + 6 ≤ ms) :
    W p l e R s m args below meth c H locs cells slots (vx_MQ below Qc XC args s mc ms free) (F0 m pc ls rest) := by
  intro T hT X
  have htr : e.platform.stackTraces = false := (show e.platform.stackTraces = l.stackTraces by rw [X.admits.platform]).trans hl
  have Y := vx_rebase X (R' := { frames := R.frames, locals := R.locals, cells := 1, slots := 6 }) (Nat.le_refl _) (Nat.le_refl _) hRcells hRslots
  obtain ⟨s', hA⟩ : ∃ z, z = (T.setVm s.vm).setFrames (.invoking m args :: below) := ⟨_, rfl⟩
  rw [← hA] at Y
  have hvm : s'.vm = s.vm := by rw [hA]; rfl
  have hhp : s'.heap = H := by rw [hA]; exact hT
  have hW0 : s.WarmedH s'.vm := by rw [hvm]; exact State.WarmedH.refl s
  have hat' : ∀ w ∈ vx_at0 own ic cls names, w.before args s' = true := fun w hw => vx_ot_at hW0 hvm.symm (hgood w (List.mem_cons_of_mem _ (List.mem_cons_of_mem _ hw))) (hat w hw)
  have hk' : (Cond.classLink own ik cls).before args s' = true := vx_ot_at hW0 hvm.symm (hgood _ List.mem_cons_self) hk
  have hini' : (Cond.initialized cls).before args s' = true := vx_ot_at hW0 hvm.symm (hgood _ (List.mem_cons_of_mem _ List.mem_cons_self)) hini
  have hU' : vx_Zq Bundle.tN "UNASSIGNED_STACK" Bundle.steD A s' s'.heap := by rw [hhp]; exact vx_Zq.moved hW0.alike (hU.kept hS.2.1)
  have hN' : vx_Zq Bundle.tN "SUPPRESSED_SENTINEL" Bundle.listD A s' s'.heap := by rw [hhp]; exact vx_Zq.moved hW0.alike (hN.kept hS.2.1)
  have h : ∀ w ∈ Bundle.ownAtoms0 own ic cls names, w.before args s' = true := vx_own hat' (vx_isRefq hU'.1) (vx_isRefq hN'.1) hU'.2.word hN'.2.word
  have hown' : s'.vm.findClass own = some m.cls := by rw [hvm]; exact hown
  have hins : (Cond.instantiable cls 6).before args s' = true := h _ (by simp [Bundle.ownAtoms0])
  obtain ⟨vm₁, cX, kX, hfX, hkX, -, -, X₁, st1⟩ := Y.newCold hexec (own := own) (C := cls) (index := ik) (n := 6) hown' hk' hins hini'
    (g := F0 m pc ls rest) rfl (by rw [hb]; exact d0) (Nat.le_refl _) (Nat.le_refl _)
  generalize hT1 : (T.setVm vm₁).pushCell { cls := cX, slots := kX.instanceTypes.map defaultValue, vm := .none } = T1 at X₁ st1
  have hcat : (Value.ref T.heap.size).category = 1 := rfl
  have hcellA : T1.heap[T.heap.size]? = some (freshCell cX kX) := by rw [← hT1]; exact State.heap_pushCell_size _ _
  have d3' : decode c.code (pc + 3) = .ok (.dup, 1) := by rw [hb]; exact d3
  obtain ⟨U, hsteps, hrun, hend, hW, hsame, ce, hce, hO⟩ := X₁.ctorThrow0 hexec htr (own := own) (cls := cls) (names := names) (ic := ic) hown' hcls hnames h (fun x hx => nomatch hx) hfX hkX hcellA (by rw [hhp, hT]; exact Nat.le_refl _)
    (g := { method := m, pc := pc + 4, locals := ls, stack := .ref T.heap.size :: .ref T.heap.size :: rest, locked := none }) rfl hsize rfl rfl (rest := rest) rfl
    (by rw [hb]; exact d4) (by rw [hb]; exact d7) hout hRframes (by simp only [List.map_cons, List.sum_cons, hcat]; omega) hlocks
  obtain ⟨f1, f2⟩ := vx_frame hsame
  rw [hhp] at f1 f2
  have hWs : s.WarmedH U.vm := State.WarmedH.trans hW0 hW
  have hcl : s.vm.findClass cls = some ce.cls := by
    have h9 := hO.cls
    rw [hvm] at h9
    exact h9
  have hall : s.sameButNew ({ U with vm := s.vm } : State) locs mc ms := by
    subst hA
    obtain ⟨e1, e2⟩ := hsame
    rw [State.setFrames_setFrames] at e1
    have h2 : (T.setVm s.vm).sameButNew ({ U with vm := s.vm } : State) [] (0 + 1) (0 + 6) := ⟨e1, e2⟩
    have h3 := X.same.trans h2
    rw [List.append_nil] at h3
    exact h3.mono hc hs
  refine ⟨U, ?_, .threw T.heap.size, hrun, hend, Or.inr ⟨T.heap.size, rfl, cls, ce, locs, hx U hWs.alike f1 (fun q hq => f2 q hq (fun z hz => nomatch hz)), hce, hO.vm, hcl, hWs, hall, hf⟩⟩
  refine st1 _ ?_
  show Steps p.tables e below (T1.setTop { method := m, pc := pc + 3, locals := ls, stack := .ref T.heap.size :: rest, locked := none }) _
  jvm_step X₁.here [X₁.here.top, hexec, d3', Value.category]
  exact hsteps
/-- 'throw new E("text")': new; dup; ldc; invokespecial; athrow -/
theorem vx_throwS {cc : ByteArray} {pc : Nat} (hexec : p.tables.exec = Jvm.exec) (hb : c.code = cc) (hl : l.stackTraces = false) {own cls text : String} {names : List String} {ik is ic mc ms sa : Nat} {A : Nat → Prop}
    (hown : s.vm.findClass own = some m.cls) (hcls : Bundle.fit cls = true) (hnames : ∀ n ∈ names, Bundle.fit n = true)
    (hk : (Cond.classLink own ik cls).before args s = true) (hini : (Cond.initialized cls).before args s = true) (hstr : vk_R own is text sa s) (hat : ∀ w ∈ vx_atS own ic cls names, w.before args s = true)
    (hgood : ∀ w ∈ Cond.classLink own ik cls :: Cond.initialized cls :: vx_atS own ic cls names, vx_ot w = true)
    (hU : vx_Zq Bundle.tN "UNASSIGNED_STACK" Bundle.steD A s s.heap) (hN : vx_Zq Bundle.tN "SUPPRESSED_SENTINEL" Bundle.listD A s s.heap) (hS : va_S A s.heap H locs) (hsize : ls.size = c.maxLocals)
    (d0 : decode cc pc = .ok (.new ik, 3)) (d3 : decode cc (pc + 3) = .ok (.dup, 1)) (d4 : decode cc (pc + 4) = .ok (.ldc is, 2)) (d6 : decode cc (pc + 6) = .ok (.invokespecial ic, 3)) (d9 : decode cc (pc + 9) = .ok (.athrow, 1))
    (hout : ∀ x ∈ c.exceptionTable.toList, covers x (pc + 9) = false)
    (hRframes : names.length + 3 < R.frames) (hRlocals : (rest.map fun v => v.category).sum + (13 * (names.length + 1) + 43) ≤ R.locals) (hRcells : cells + 1 ≤ R.cells) (hRslots : slots + 6 ≤ R.slots) (hlocks : meth.locks = false)
    (hx : ∀ t : State, s.vm.Alike t.vm → H.size ≤ t.heap.size → (∀ q : Nat, q < H.size → t.heap[q]? = H[q]?) → XC cls s t)
    (hf : ∀ z ∈ locs, free z.base) (hc : cells + 1 ≤ mc) (hs : slots + 6 ≤ ms) :
    W p l e R s m args below meth c H locs cells slots (vx_MQ below Qc XC args s mc ms free) (F0 m pc ls rest) := by
  intro T hT X
  have htr : e.platform.stackTraces = false := (show e.platform.stackTraces = l.stackTraces by rw [X.admits.platform]).trans hl
  have Y := vx_rebase X (R' := { frames := R.frames, locals := R.locals, cells := 1, slots := 6 }) (Nat.le_refl _) (Nat.le_refl _) hRcells hRslots
  obtain ⟨s', hA⟩ : ∃ z, z = (T.setVm s.vm).setFrames (.invoking m args :: below) := ⟨_, rfl⟩
  rw [← hA] at Y
  have hvm : s'.vm = s.vm := by rw [hA]; rfl
  have hhp : s'.heap = H := by rw [hA]; exact hT
  have hW0 : s.WarmedH s'.vm := by rw [hvm]; exact State.WarmedH.refl s
  have hat' : ∀ w ∈ vx_atS own ic cls names, w.before args s' = true := fun w hw => vx_ot_at hW0 hvm.symm (hgood w (List.mem_cons_of_mem _ (List.mem_cons_of_mem _ hw))) (hat w hw)
  have hk' : (Cond.classLink own ik cls).before args s' = true := vx_ot_at hW0 hvm.symm (hgood _ List.mem_cons_self) hk
  have hini' : (Cond.initialized cls).before args s' = true := vx_ot_at hW0 hvm.symm (hgood _ (List.mem_cons_of_mem _ List.mem_cons_self)) hini
  have hU' : vx_Zq Bundle.tN "UNASSIGNED_STACK" Bundle.steD A s' s'.heap := by rw [hhp]; exact vx_Zq.moved hW0.alike (hU.kept hS.2.1)
  have hN' : vx_Zq Bundle.tN "SUPPRESSED_SENTINEL" Bundle.listD A s' s'.heap := by rw [hhp]; exact vx_Zq.moved hW0.alike (hN.kept hS.2.1)
  have h : ∀ w ∈ Bundle.ownAtoms own ic cls names, w.before args s' = true := vx_own hat' (vx_isRefq hU'.1) (vx_isRefq hN'.1) hU'.2.word hN'.2.word
  have hown' : s'.vm.findClass own = some m.cls := by rw [hvm]; exact hown
  have hins : (Cond.instantiable cls 6).before args s' = true := h _ (by simp [Bundle.ownAtoms])
  obtain ⟨vm₁, cX, kX, hfX, hkX, -, -, X₁, st1⟩ := Y.newCold hexec (own := own) (C := cls) (index := ik) (n := 6) hown' hk' hins hini'
    (g := F0 m pc ls rest) rfl (by rw [hb]; exact d0) (Nat.le_refl _) (Nat.le_refl _)
  generalize hT1 : (T.setVm vm₁).pushCell { cls := cX, slots := kX.instanceTypes.map defaultValue, vm := .none } = T1 at X₁ st1
  have hcat : (Value.ref T.heap.size).category = 1 := rfl
  have hcellA : T1.heap[T.heap.size]? = some (freshCell cX kX) := by rw [← hT1]; exact State.heap_pushCell_size _ _
  have d3' : decode c.code (pc + 3) = .ok (.dup, 1) := by rw [hb]; exact d3
  have d4' : decode c.code (pc + 4) = .ok (.ldc is, 2) := by rw [hb]; exact d4
  have hstr' : vk_R own is text sa s' := vk_R.warm hW0 hstr
  obtain ⟨U, hsteps, hrun, hend, hW, hsame, ce, hce, hO⟩ := X₁.ctorThrowS hexec htr (own := own) (cls := cls) (names := names) (ic := ic) hown' hcls hnames h (fun x hx => nomatch hx) hfX hkX hcellA (by rw [hhp, hT]; exact Nat.le_refl _) (msg := .ref sa) rfl
    (g := { method := m, pc := pc + 6, locals := ls, stack := .ref sa :: .ref T.heap.size :: .ref T.heap.size :: rest, locked := none }) rfl hsize rfl rfl (rest := rest) rfl
    (by rw [hb]; exact d6) (by rw [hb]; exact d9) hout hRframes (by simp only [List.map_cons, List.sum_cons, hcat]; omega) hlocks
  obtain ⟨f1, f2⟩ := vx_frame hsame
  rw [hhp] at f1 f2
  have hWs : s.WarmedH U.vm := State.WarmedH.trans hW0 hW
  have hcl : s.vm.findClass cls = some ce.cls := by
    have h9 := hO.cls
    rw [hvm] at h9
    exact h9
  have hall : s.sameButNew ({ U with vm := s.vm } : State) locs mc ms := by
    subst hA
    obtain ⟨e1, e2⟩ := hsame
    rw [State.setFrames_setFrames] at e1
    have h2 : (T.setVm s.vm).sameButNew ({ U with vm := s.vm } : State) [] (0 + 1) (0 + 6) := ⟨e1, e2⟩
    have h3 := X.same.trans h2
    rw [List.append_nil] at h3
    exact h3.mono hc hs
  refine ⟨U, ?_, .threw T.heap.size, hrun, hend, Or.inr ⟨T.heap.size, rfl, cls, ce, locs, hx U hWs.alike f1 (fun q hq => f2 q hq (fun z hz => nomatch hz)), hce, hO.vm, hcl, hWs, hall, hf⟩⟩
  refine st1 _ ?_
  show Steps p.tables e below (T1.setTop { method := m, pc := pc + 3, locals := ls, stack := .ref T.heap.size :: rest, locked := none }) _
  jvm_step X₁.here [X₁.here.top, hexec, d3', Value.category]
  exact X₁.ldcString hexec (own := own) (text := text) (index := is) (a := sa) hown' hstr'.1 hstr'.2
    (g := { method := m, pc := pc + 4, locals := ls, stack := .ref T.heap.size :: .ref T.heap.size :: rest, locked := none }) rfl d4' _ hsteps
/-- 'throw new E("text")', the text by a wide index -/
theorem vx_throwSW {cc : ByteArray} {pc : Nat} (hexec : p.tables.exec = Jvm.exec) (hb : c.code = cc) (hl : l.stackTraces = false) {own cls text : String} {names : List String} {ik is ic mc ms sa : Nat} {A : Nat → Prop}
    (hown : s.vm.findClass own = some m.cls) (hcls : Bundle.fit cls = true) (hnames : ∀ n ∈ names, Bundle.fit n = true)
    (hk : (Cond.classLink own ik cls).before args s = true) (hini : (Cond.initialized cls).before args s = true) (hstr : vk_R own is text sa s) (hat : ∀ w ∈ vx_atS own ic cls names, w.before args s = true)
    (hgood : ∀ w ∈ Cond.classLink own ik cls :: Cond.initialized cls :: vx_atS own ic cls names, vx_ot w = true)
    (hU : vx_Zq Bundle.tN "UNASSIGNED_STACK" Bundle.steD A s s.heap) (hN : vx_Zq Bundle.tN "SUPPRESSED_SENTINEL" Bundle.listD A s s.heap) (hS : va_S A s.heap H locs) (hsize : ls.size = c.maxLocals)
    (d0 : decode cc pc = .ok (.new ik, 3)) (d3 : decode cc (pc + 3) = .ok (.dup, 1)) (d4 : decode cc (pc + 4) = .ok (.ldc_w is, 3)) (d7 : decode cc (pc + 7) = .ok (.invokespecial ic, 3)) (d10 : decode cc (pc + 10) = .ok (.athrow, 1))
    (hout : ∀ x ∈ c.exceptionTable.toList, covers x (pc + 10) = false)
    (hRframes : names.length + 3 < R.frames) (hRlocals : (rest.map fun v => v.category).sum + (13 * (names.length + 1) + 43) ≤ R.locals) (hRcells : cells + 1 ≤ R.cells) (hRslots : slots + 6 ≤ R.slots) (hlocks : meth.locks = false)
    (hx : ∀ t : State, s.vm.Alike t.vm → H.size ≤ t.heap.size → (∀ q : Nat, q < H.size → t.heap[q]? = H[q]?) → XC cls s t)
    (hf : ∀ z ∈ locs, free z.base) (hc : cells + 1 ≤ mc) (hs : slots + 6 ≤ ms) :
    W p l e R s m args below meth c H locs cells slots (vx_MQ below Qc XC args s mc ms free) (F0 m pc ls rest) := by
  intro T hT X
  have htr : e.platform.stackTraces = false := (show e.platform.stackTraces = l.stackTraces by rw [X.admits.platform]).trans hl
  have Y := vx_rebase X (R' := { frames := R.frames, locals := R.locals, cells := 1, slots := 6 }) (Nat.le_refl _) (Nat.le_refl _) hRcells hRslots
  obtain ⟨s', hA⟩ : ∃ z, z = (T.setVm s.vm).setFrames (.invoking m args :: below) := ⟨_, rfl⟩
  rw [← hA] at Y
  have hvm : s'.vm = s.vm := by rw [hA]; rfl
  have hhp : s'.heap = H := by rw [hA]; exact hT
  have hW0 : s.WarmedH s'.vm := by rw [hvm]; exact State.WarmedH.refl s
  have hat' : ∀ w ∈ vx_atS own ic cls names, w.before args s' = true := fun w hw => vx_ot_at hW0 hvm.symm (hgood w (List.mem_cons_of_mem _ (List.mem_cons_of_mem _ hw))) (hat w hw)
  have hk' : (Cond.classLink own ik cls).before args s' = true := vx_ot_at hW0 hvm.symm (hgood _ List.mem_cons_self) hk
  have hini' : (Cond.initialized cls).before args s' = true := vx_ot_at hW0 hvm.symm (hgood _ (List.mem_cons_of_mem _ List.mem_cons_self)) hini
  have hU' : vx_Zq Bundle.tN "UNASSIGNED_STACK" Bundle.steD A s' s'.heap := by rw [hhp]; exact vx_Zq.moved hW0.alike (hU.kept hS.2.1)
  have hN' : vx_Zq Bundle.tN "SUPPRESSED_SENTINEL" Bundle.listD A s' s'.heap := by rw [hhp]; exact vx_Zq.moved hW0.alike (hN.kept hS.2.1)
  have h : ∀ w ∈ Bundle.ownAtoms own ic cls names, w.before args s' = true := vx_own hat' (vx_isRefq hU'.1) (vx_isRefq hN'.1) hU'.2.word hN'.2.word
  have hown' : s'.vm.findClass own = some m.cls := by rw [hvm]; exact hown
  have hins : (Cond.instantiable cls 6).before args s' = true := h _ (by simp [Bundle.ownAtoms])
  obtain ⟨vm₁, cX, kX, hfX, hkX, -, -, X₁, st1⟩ := Y.newCold hexec (own := own) (C := cls) (index := ik) (n := 6) hown' hk' hins hini'
    (g := F0 m pc ls rest) rfl (by rw [hb]; exact d0) (Nat.le_refl _) (Nat.le_refl _)
  generalize hT1 : (T.setVm vm₁).pushCell { cls := cX, slots := kX.instanceTypes.map defaultValue, vm := .none } = T1 at X₁ st1
  have hcat : (Value.ref T.heap.size).category = 1 := rfl
  have hcellA : T1.heap[T.heap.size]? = some (freshCell cX kX) := by rw [← hT1]; exact State.heap_pushCell_size _ _
  have d3' : decode c.code (pc + 3) = .ok (.dup, 1) := by rw [hb]; exact d3
  have d4' : decode c.code (pc + 4) = .ok (.ldc_w is, 3) := by rw [hb]; exact d4
  have hstr' : vk_R own is text sa s' := vk_R.warm hW0 hstr
  obtain ⟨U, hsteps, hrun, hend, hW, hsame, ce, hce, hO⟩ := X₁.ctorThrowS hexec htr (own := own) (cls := cls) (names := names) (ic := ic) hown' hcls hnames h (fun x hx => nomatch hx) hfX hkX hcellA (by rw [hhp, hT]; exact Nat.le_refl _) (msg := .ref sa) rfl
    (g := { method := m, pc := pc + 7, locals := ls, stack := .ref sa :: .ref T.heap.size :: .ref T.heap.size :: rest, locked := none }) rfl hsize rfl rfl (rest := rest) rfl
    (by rw [hb]; exact d7) (by rw [hb]; exact d10) hout hRframes (by simp only [List.map_cons, List.sum_cons, hcat]; omega) hlocks
  obtain ⟨f1, f2⟩ := vx_frame hsame
  rw [hhp] at f1 f2
  have hWs : s.WarmedH U.vm := State.WarmedH.trans hW0 hW
  have hcl : s.vm.findClass cls = some ce.cls := by
    have h9 := hO.cls
    rw [hvm] at h9
    exact h9
  have hall : s.sameButNew ({ U with vm := s.vm } : State) locs mc ms := by
    subst hA
    obtain ⟨e1, e2⟩ := hsame
    rw [State.setFrames_setFrames] at e1
    have h2 : (T.setVm s.vm).sameButNew ({ U with vm := s.vm } : State) [] (0 + 1) (0 + 6) := ⟨e1, e2⟩
    have h3 := X.same.trans h2
    rw [List.append_nil] at h3
    exact h3.mono hc hs
  refine ⟨U, ?_, .threw T.heap.size, hrun, hend, Or.inr ⟨T.heap.size, rfl, cls, ce, locs, hx U hWs.alike f1 (fun q hq => f2 q hq (fun z hz => nomatch hz)), hce, hO.vm, hcl, hWs, hall, hf⟩⟩
  refine st1 _ ?_
  show Steps p.tables e below (T1.setTop { method := m, pc := pc + 3, locals := ls, stack := .ref T.heap.size :: rest, locked := none }) _
  jvm_step X₁.here [X₁.here.top, hexec, d3', Value.category]
  exact X₁.ldcStringW hexec (own := own) (text := text) (index := is) (a := sa) hown' hstr'.1 hstr'.2
    (g := { method := m, pc := pc + 4, locals := ls, stack := .ref T.heap.size :: .ref T.heap.size :: rest, locked := none }) rfl d4' _ hsteps
end Ends
section Bodies
variable {l : Launch}
theorem vx_ofW {y : MethodName} {ws ws' : List Cond} {rm : Room} {Pc : Array Value → State → Prop} {Qc : Array Value → State → Outcome → State → Prop} {XC : String → State → State → Prop} {mc ms : Nat} {free : Addr → Prop} {cc : ByteArray} {maxL : Nat} {ret : Option FieldType}
    (hy : plainName y.cls = true) (hw : ws = Cond.code y cc maxL ret :: ws')
    (body : ∀ p e s m args below meth c s₁, BodyLoose p l y (headSpec ws rm) cc maxL ret e s m args below meth c s₁ → c.maxLocals = maxL → (∀ x ∈ c.exceptionTable.toList, False) → Pc args s →
      W p l e (headSpec ws rm).room s m args below meth c s.heap [] 0 0 (vx_MQ below Qc XC args s mc ms free) (entryFrame m args maxL)) : vx_Met l y ws rm Pc Qc XC mc ms free := by
  refine MetFree.of_bodyS (code := cc) (maxLocals := maxL) (ret := ret) hy ?_ ?_
  · intro args s m h hn
    obtain ⟨meth, c, h1, h2, h3, h4, h5, h6, -, -⟩ := Cond.code_spec hn (atoms_spec (ws := ws) h _ (by rw [hw]; exact List.mem_cons_self))
    exact ⟨meth, c, h1, h2, h3, h4, h5, h6⟩
  · intro p e s m args below meth c s₁ B hml hP _
    have hh0 : s₁.heap = s.heap := by rw [B.state]; rfl
    have ht : ∀ x ∈ c.exceptionTable.toList, False := by
      obtain ⟨meth9, c9, h1, h2, -, -, -, -, h7, -⟩ := Cond.code_spec B.named (atoms_spec (ws := ws) B.pre _ (by rw [hw]; exact List.mem_cons_self))
      cases Option.some.inj (h1.symm.trans B.method)
      cases Option.some.inj (h2.symm.trans (Stand.of_body B).code)
      intro x hx
      rw [Array.isEmpty_iff.mp h7] at hx
      cases hx
    obtain ⟨t, a1, o, b1, b2, b3⟩ := body p e s m args below meth c s₁ B hml ht hP s₁ hh0 (Stand.of_body B)
    exact ⟨t, o, a1, b1, b2, b3⟩
/-- the table of a body with handlers -/
theorem vx_table {p : Program} {x y : MethodName} {S : Spec} {cc bytes : ByteArray} {maxL maxL' : Nat} {ret ret' : Option FieldType} {e : Env} {s s₁ : State} {m : MethodId} {args : Array Value} {below : List Frame} {meth : Method} {c : Code} {hh : List (Nat × Nat × Nat × Nat)}
    (B : BodyLoose p l y S cc maxL ret e s m args below meth c s₁) (h : (Cond.codeWith y bytes maxL' ret' hh).before args s = true) : c.exceptionTable.toList = tableOf hh := by
  obtain ⟨m9, meth9, c9, hn9, h1, h2, -, -, h6, -⟩ := Cond.codeWith_spec h
  cases Option.some.inj (hn9.symm.trans B.named)
  cases Option.some.inj (h1.symm.trans B.method)
  cases Option.some.inj (h2.symm.trans (Stand.of_body B).code)
  rw [← h6, table_eq]
end Bodies
end VXA
/-! ===== END ===== -/
/-! ===== BEGIN a static call of a method with an exception table ===== -/
section VXS
variable {p : Program} {l : Launch} {e : Env} {R : Room} {s : State} {m : MethodId} {args : Array Value} {below : List Frame} {meth : Method} {c : Code} {T : State} {H : Heap} {locs : List Loc} {cells slots : Nat}
abbrev vx_CSW (R : Room) (s : State) (args : Array Value) (own : String) (index : Nat) (y : MethodName) (bytes : ByteArray) (maxL : Nat) (ret : Option FieldType) (hh : List (Nat × Nat × Nat × Nat)) (ws : List Cond) (rm : Room) (mc ms n : Nat) : Prop :=
  (rm.cells = mc ∧ rm.slots = ms ∧ rm.frames + 1 ≤ R.frames ∧ 8 + (maxL + 11) + rm.locals ≤ R.locals ∧ (∀ w ∈ ws, ∀ (a' : Array Value) (U : State), s.WarmedH U.vm → w.before a' U = true) ∧ Cond.codeWith y bytes maxL ret hh ∈ ws) ∧
  (Cond.codeWith y bytes maxL ret hh).before args s = true ∧ (Cond.initialized y.cls).before args s = true ∧ (y.cls ≠ "java/lang/invoke/MethodHandle" ∧ y.cls ≠ "java/lang/invoke/VarHandle") ∧
  (∀ sig, parseMethodDescriptor y.desc = some sig → n = sig.parameters.length) ∧ (Cond.methodLink own index y).before args s = true ∧ (Cond.static y).before args s = true
theorem vx_cwSW {own : String} {index maxL mc ms : Nat} {y : MethodName} {bytes : ByteArray} {ret : Option FieldType} {hh : List (Nat × Nat × Nat × Nat)} {Ts ws ws' : List Cond} {rm : Room} (n : Nat) (ht : ∀ w ∈ Ts, w.before args s = true) (hT : GoodIn Ts (va_wsS own index y ws)) (hw : ws = Cond.codeWith y bytes maxL ret hh :: ws') (hrc : rm.cells = mc) (hrs : rm.slots = ms)
    (hd : y.cls ≠ "java/lang/invoke/MethodHandle" ∧ y.cls ≠ "java/lang/invoke/VarHandle" ∧ (parseMethodDescriptor y.desc).map (fun d => d.parameters.length) = some n) (hR : rm.frames + 1 ≤ R.frames ∧ 8 + (maxL + 11) + rm.locals ≤ R.locals) :
    vx_CSW R s args own index y bytes maxL ret hh ws rm mc ms n := by
  have ok : ∀ w ∈ va_wsS own index y ws, w.before args s = true := fun w h => ht w (hT w h).1
  have hG : GoodIn Ts ws := fun w h => hT w (by unfold va_wsS; exact List.mem_append_right _ h)
  have hc : Cond.codeWith y bytes maxL ret hh ∈ ws := by rw [hw]; exact List.mem_cons_self
  refine ⟨⟨hrc, hrs, hR.1, hR.2, pay_in ht hG, hc⟩, ht _ (hG _ hc).1, ok _ (by simp [va_wsS]), ⟨hd.1, hd.2.1⟩, fun sig h => ?_, ok _ (by simp [va_wsS]), ok _ (by simp [va_wsS])⟩
  have h2 := hd.2.2
  rw [h] at h2
  exact (Option.some.inj h2).symm
theorem vx_callSW (X : Stand p l e R s m args below meth c T locs cells slots) (hexec : p.tables.exec = Jvm.exec) {own : String} {index : Nat} {y : MethodName} {bytes : ByteArray} {maxL : Nat} {ret : Option FieldType} {hh : List (Nat × Nat × Nat × Nat)}
    (hown : s.vm.findClass own = some m.cls) (hlink : (Cond.methodLink own index y).before args s = true) (hstat : (Cond.static y).before args s = true) (hinit : (Cond.initialized y.cls).before args s = true)
    (hcode : (Cond.codeWith y bytes maxL ret hh).before args s = true) (hy : y.cls ≠ "java/lang/invoke/MethodHandle" ∧ y.cls ≠ "java/lang/invoke/VarHandle")
    {W9 : Nat} {Pre : Pt → Array Value → Prop} {Post : Pt → Array Value → Option Value → Pt → Prop} (hK : Back l R p e below s args y 3 W9 Pre Post)
    {g : JFrame} (hg : g.method = m) (hsize : g.locals.size = c.maxLocals) {argsL rest : List Value} (hlen : ∀ sig, parseMethodDescriptor y.desc = some sig → argsL.length = sig.parameters.length)
    (hstack : g.stack = argsL.reverse ++ rest) (hW : 2 * g.monitorRoom + (rest.map fun v => v.category).sum ≤ W9) (hdg : decode c.code g.pc = .ok (.invokestatic index, 3))
    (hpre : ∀ vm₁, s.WarmedH vm₁ → Pre ⟨T.setVm vm₁, locs, cells, slots⟩ argsL.toArray) :
    ∃ (v : Option Value) (vm₁ : Vm) (B : Pt), s.WarmedH vm₁ ∧ Stand p l e R s m args below meth c B.U B.locs B.cells B.slots ∧ Post ⟨T.setVm vm₁, locs, cells, slots⟩ argsL.toArray v B ∧
      ∀ target, Steps p.tables e below (B.U.setTop { g with pc := g.pc + 3, stack := v.toList ++ rest }) target → Steps p.tables e below (T.setTop g) target := by
  obtain ⟨mk, methM, cM, hnamed, hmethM, -, -, -, -, -, -, hsigM⟩ := Cond.codeWith_spec hcode
  have hstatic : methM.isStatic = true := Cond.static_spec hnamed hmethM hstat
  obtain ⟨kP, hkP, -⟩ := className_of_methodNamed hnamed
  have hinitP : kP.init = .initialized := Cond.initialized_spec (findClass_of_methodNamed hnamed) hkP hinit
  obtain ⟨vm₁, X₁, hstep₁⟩ := X.invokestatic hexec hown hlink hnamed hmethM hstatic hkP hinitP hy (g := g) hg (argsL := argsL) (rest := rest) (hlen _ hsigM) hstack hdg
  obtain ⟨v, B, X', hpost, hsteps⟩ := hK m meth c ⟨T.setVm vm₁, locs, cells, slots⟩ { g with stack := rest } (.invokestatic index) mk argsL.toArray X₁ hg hsize hdg hW (X₁.named hnamed) (hpre vm₁ X₁.warmed)
  exact ⟨v, vm₁, B, X₁.warmed, X', hpost, fun target h => hstep₁ _ fun acts => by rw [doInvoke_state]; exact hsteps.trans h⟩
theorem vx_runSW {y : MethodName} {bytes cc : ByteArray} {maxL nL mc ms n index : Nat} {ret : Option FieldType} {hh : List (Nat × Nat × Nat × Nat)} {ws : List Cond} {rm : Room} {Pc : Array Value → State → Prop} {Qc : Array Value → State → Outcome → State → Prop} {free : Addr → Prop} {Ts : List Cond} {own : String} {As rest : List Value} {g : JFrame}
    (S : CallFix p m c cc nL s args Ts own) (hM : Met l y ws rm Pc Qc mc ms free) (cw : vx_CSW R s args own index y bytes maxL ret hh ws rm mc ms n) (hp : PreS s H Pc As)
    (hg : g.method = m) (hn : As.length = n) (hsize : g.locals.size = nL) (hstack : g.stack = As.reverse ++ rest) (hW : 2 * g.monitorRoom + (rest.map fun v => v.category).sum ≤ 8) (hdg : decode cc g.pc = .ok (.invokestatic index, 3)) (hf : cells + mc ≤ R.cells ∧ slots + ms ≤ R.slots) :
    va_Run p l e R s m args below meth c H locs cells slots mc ms g rest (Qc As.toArray) (free) := by
  obtain ⟨⟨hrc, hrs, hfr, hlo, hws, hcw⟩, hcode, hini, hy, hlen, hl, hstt⟩ := cw
  have hK : Back l R p e below s args y 3 8 (PreOf R mc ms Pc) (PostOf Qc mc ms free) := va_backW (hh := hh) (bytes := bytes) (maxL := maxL) (ret := ret) hM hp.1 hrc hrs hfr hlo hws hcw (fun a' U hW => word_at hW (Or.inl (by first | rfl | simp [Cond.onTables, Cond.keeps, Cond.steady])) hini)
  obtain ⟨hx, hb, hml, ho, -⟩ := S
  intro T hT X
  obtain ⟨v, vm₁, ⟨U', l2, c2, s2⟩, hW₁, X', ⟨g', mk, t, L, e1, e2, hq, h1, hL, h2, h3⟩, st⟩ := vx_callSW X hx (hh := hh) (bytes := bytes) (maxL := maxL) (ret := ret) ho hl hstt hini hcode hy hK hg (hsize.trans hml.symm) (argsL := As) (rest := rest) (fun sig h => hn.trans (hlen sig h)) hstack hW (by rw [hb]; exact hdg)
    (fun vm₁ hW₁ => ⟨hf.1, hf.2, hp.2 (T.setVm vm₁) hT hW₁⟩)
  dsimp only [Pt.U, Pt.locs, Pt.cells, Pt.slots] at X' e1 e2 h1 h2 h3 st
  subst h1; subst h2; subst h3
  exact ⟨v, (T.setVm vm₁).calling g' mk As.toArray, t, U', L, hT, X', hL, e1, e2, hq, st⟩
/-- a thing of a world lies in the heap -/
theorem vx_lt {D : va_G} {cl : List vw_C} {ws : va_W} {H1 : Heap} (h : va_P D cl ws H1) {k : Nat} {q : Nat × va_E} (hk : ws[k]? = some q) : q.1 < H1.size := (h k q hk).lt
end VXS
/-! ===== END ===== -/
/-! ===== BEGIN methods with a table of their own: called by a name, returning or throwing ===== -/
section VXH
/-! vx_backW, vx_callVX, vx_callSX, vx_callVW, vx_runVW, vx_runVX, vx_runSX, vx_ofWH follow the same proofs as their sisters above (Free/Laws.lean, Shelf42/LK1.lean); vx_outP calls Shelf42/NT130.lean (outThrough). -/
section
variable {l : Launch} {R : Room} {p : Program} {e : Env} {below : List Frame} {s : State} {sargs : Array Value} {y : MethodName} {len W9 : Nat}
theorem vx_backW {ws : List Cond} {rm : Room} {Pc : Array Value → State → Prop} {Qc : Array Value → State → Outcome → State → Prop} {XC : String → State → State → Prop} {mc ms : Nat} {free : Addr → Prop} {bytes : ByteArray} {maxL : Nat} {ret : Option FieldType} {hh : List (Nat × Nat × Nat × Nat)}
    (hM : vx_Met l y ws rm Pc Qc XC mc ms free) (hblind : FrameBlind Pc) (hrc : rm.cells = mc) (hrs : rm.slots = ms)
    (hframes : rm.frames + 1 ≤ R.frames) (hlocals : W9 + (maxL + 11) + rm.locals ≤ R.locals)
    (hws : ∀ w ∈ ws, ∀ a' U, s.WarmedH U.vm → w.before a' U = true) (hcode : Cond.codeWith y bytes maxL ret hh ∈ ws) (hinit : ∀ a' U, s.WarmedH U.vm → (Cond.initialized y.cls).before a' U = true) :
    vx_Back l R p e below s sargs y len W9 (PreOf R mc ms Pc) (PostOf Qc mc ms free) (vx_Post XC mc ms free) := by
  intro m meth c A g ig mk a X hg hsize hdg hW hn hp
  have h1 : (headSpec ws rm).pre.before a A.U = true := atoms_intro fun w hw => hws w hw _ _ X.warmed
  have h2 : (Cond.codeWith y bytes maxL ret hh).before a A.U = true := hws _ hcode _ _ X.warmed
  have h3 : (Cond.initialized y.cls).before a A.U = true := hinit _ _ X.warmed
  have h4 : A.cells + (headSpec ws rm).room.cells ≤ R.cells := by rw [show (headSpec ws rm).room.cells = mc from hrc]; exact hp.1
  have h5 : A.slots + (headSpec ws rm).room.slots ≤ R.slots := by rw [show (headSpec ws rm).room.slots = ms from hrs]; exact hp.2.1
  have hPc : Pc a (A.U.calling g mk a) := hblind _ _ _ _ hp.2.2
  obtain ⟨U, Ls, c0, s0⟩ := A
  dsimp only [Pt.U, Pt.locs, Pt.cells, Pt.slots] at h1 h2 h3 h4 h5 X hn hPc ⊢
  obtain ⟨m9, methY, cY, hn9, hmY, hcY, -, hlY, -⟩ := Cond.codeWith_spec h2
  cases Option.some.inj (hn9.symm.trans hn)
  obtain ⟨kY, hkY, -⟩ := className_of_methodNamed hn
  have hinitY : kY.init = .initialized := Cond.initialized_spec (findClass_of_methodNamed hn) hkY h3
  have h : At U g.method c below := by rw [hg]; exact X.here
  have hlocals9 : W9 + (maxL + 11) + (headSpec ws rm).room.locals ≤ R.locals := hlocals
  have happ : (headSpec ws rm).appliesLoose y e.platform (U.calling g mk a) = true :=
    Spec.appliesLoose_calling (g := g) h hdg hn hkY hinitY
      (X.room_calling (g := g) (R' := (headSpec ws rm).room) hsize hmY hcY hframes (by rw [hlY]; omega) h4 h5) h1
  obtain ⟨mid, hmid⟩ := h.above
  have hfr : (U.setTop g).frames = (.java g :: mid) ++ below := by rw [State.frames_setTop' g h.top, hmid]; rfl
  obtain ⟨o, s₂, hsteps, -, hend, hq⟩ := Steps.callFree hM p X.admits X.cas X.clock (acts := []) hfr happ hPc trivial
  have hq' : vx_Q Qc XC mc ms free a (U.calling g mk a) o s₂ := hq
  rw [State.frames_setTop' g h.top] at hend
  obtain ⟨g₀, hg0⟩ := Option.isSome_iff_exists.mp h.top
  obtain ⟨r, hr⟩ := State.topJava?_eq_some.mp hg0
  have hr' : (({ U with heap := s₂.heap, slotsUsed := s₂.slotsUsed } : State).setVm s₂.vm).frames = .java g₀ :: r := hr
  rcases hq' with ⟨hqc, L, hfe, hL⟩ | ⟨q, rfl, E, ce, L, hx, hce, hcv, hcl, hW₂, hsm, hL⟩
  · obtain ⟨⟨v, rfl⟩, hW₂, e2, q2, q3, q4, q5, q6⟩ := id hfe
    have e3 : s₂ = ({ (U.calling g mk a).setFrames s₂.frames with heap := s₂.heap, slotsUsed := s₂.slotsUsed } : State).setVm s₂.vm := by
      have : s₂ = ({ s₂ with vm := (U.calling g mk a).vm } : State).setVm s₂.vm := rfl
      rw [e2] at this
      exact this
    obtain ⟨c₂, i₂, len₂, hc₂, hd₂, hf₂⟩ := hend
    have hW' : U.WarmedH s₂.vm := hW₂
    have hcc : c₂ = c := by
      have h1 : s₂.code? g.method = U.code? g.method := by
        rw [State.code?_eq, State.code?_eq, hW'.alike.method?]
      exact Option.some.inj (hc₂.symm.trans (h1.trans h.code))
    subst hcc
    have hlen : len₂ = len := by rw [hdg] at hd₂; cases hd₂; rfl
    subst hlen
    have hs₂ : s₂ = (({ U with heap := s₂.heap, slotsUsed := s₂.slotsUsed } : State).setVm s₂.vm).setTop { g with pc := g.pc + len₂, stack := v.toList ++ g.stack } := by
      refine e3.trans ?_
      rw [hf₂, State.calling_eq h.top, State.setFrames_setFrames, State.setTop_of_frames _ hr', hr]
      rfl
    have hsame : U.sameButNew ({ U with heap := s₂.heap, slotsUsed := s₂.slotsUsed } : State) L mc ms := by
      refine ⟨?_, q2, q3, q4, q5, q6⟩
      obtain ⟨t, ht, -⟩ := State.frames_cons hr
      show ({ U with heap := s₂.heap, slotsUsed := s₂.slotsUsed } : State) = { U.setFrames U.frames with heap := s₂.heap, slotsUsed := s₂.slotsUsed }
      rw [State.setFrames_self ht]
    subst hg
    refine Or.inl ⟨v, ⟨(({ U with heap := s₂.heap, slotsUsed := s₂.slotsUsed } : State).setVm s₂.vm), Ls ++ L, c0 + mc, s0 + ms⟩,
      ⟨X.admits, X.cas, X.clock, X.frames, X.room, X.hears, X.method, X.code, (X.here.setHeapUsed s₂.heap s₂.slotsUsed).setVm hW'.alike, X.tail, State.WarmedH.trans X.warmed hW', X.limits, X.bytes, X.same.trans (hsame.setVm s.vm)⟩,
      ⟨g, mk, s₂, L, rfl, rfl, hqc, rfl, hL, rfl, rfl⟩, ?_⟩
    show Steps p.tables e below _ ((({ U with heap := s₂.heap, slotsUsed := s₂.slotsUsed } : State).setVm s₂.vm).setTop { g with pc := g.pc + len₂, stack := v.toList ++ g.stack })
    rw [← hs₂]
    exact hsteps
  · obtain ⟨e2, q2, q3, q4, q5, q6⟩ := id hsm
    have e3 : s₂ = ({ (U.calling g mk a).setFrames s₂.frames with heap := s₂.heap, slotsUsed := s₂.slotsUsed } : State).setVm s₂.vm := by
      have : s₂ = ({ s₂ with vm := (U.calling g mk a).vm } : State).setVm s₂.vm := rfl
      rw [e2] at this
      exact this
    have hf₂ : s₂.frames = .throwing q :: .java g :: U.frames.tail := hend
    have hW' : U.WarmedH s₂.vm := hW₂
    have hs₂ : s₂ = ((({ U with heap := s₂.heap, slotsUsed := s₂.slotsUsed } : State).setVm s₂.vm).setTop g).pushFrame (.throwing q) := by
      refine e3.trans ?_
      rw [hf₂, State.calling_eq h.top, State.setFrames_setFrames, State.pushFrame, State.frames_setTop _ hr', State.setTop_of_frames _ hr', State.setFrames_setFrames, hr]
      rfl
    have hsame : U.sameButNew ({ U with heap := s₂.heap, slotsUsed := s₂.slotsUsed } : State) L mc ms := by
      refine ⟨?_, q2, q3, q4, q5, q6⟩
      obtain ⟨t, ht, -⟩ := State.frames_cons hr
      show ({ U with heap := s₂.heap, slotsUsed := s₂.slotsUsed } : State) = { U.setFrames U.frames with heap := s₂.heap, slotsUsed := s₂.slotsUsed }
      rw [State.setFrames_self ht]
    subst hg
    refine Or.inr ⟨q, ⟨(({ U with heap := s₂.heap, slotsUsed := s₂.slotsUsed } : State).setVm s₂.vm), Ls ++ L, c0 + mc, s0 + ms⟩,
      ⟨X.admits, X.cas, X.clock, X.frames, X.room, X.hears, X.method, X.code, (X.here.setHeapUsed s₂.heap s₂.slotsUsed).setVm hW'.alike, X.tail, State.WarmedH.trans X.warmed hW', X.limits, X.bytes, X.same.trans (hsame.setVm s.vm)⟩,
      ⟨g, mk, s₂, L, E, ce, rfl, rfl, hx, hce, hcv, hcl, rfl, hL, rfl, rfl⟩, ?_⟩
    show Steps p.tables e below _ (((({ U with heap := s₂.heap, slotsUsed := s₂.slotsUsed } : State).setVm s₂.vm).setTop g).pushFrame (.throwing q))
    rw [← hs₂]
    exact hsteps
end
variable {p : Program} {l : Launch} {e : Env} {R : Room} {s : State} {m : MethodId} {args : Array Value} {below : List Frame} {meth : Method} {c : Code} {T : State} {H : Heap} {locs : List Loc} {cells slots : Nat}
theorem vx_callVX (X : Stand p l e R s m args below meth c T locs cells slots) (hexec : p.tables.exec = Jvm.exec) {own C : String} {index : Nat} {y : MethodName} {bytes : ByteArray} {maxL : Nat} {ret : Option FieldType} {hh : List (Nat × Nat × Nat × Nat)}
    (hown : s.vm.findClass own = some m.cls) (hlink : (Cond.methodLink own index y).before args s = true) (hinst : (Cond.instanceMethod y).before args s = true) (hsel : (Cond.selects C y y).before args s = true)
    (hcode : (Cond.codeWith y bytes maxL ret hh).before args s = true) (hy : y.cls ≠ "java/lang/invoke/MethodHandle" ∧ y.cls ≠ "java/lang/invoke/VarHandle")
    {W9 : Nat} {Pre : Pt → Array Value → Prop} {Post : Pt → Array Value → Option Value → Pt → Prop} {PostX : Pt → Array Value → Addr → Pt → Prop} (hK : vx_Back l R p e below s args y 3 W9 Pre Post PostX)
    {b : Addr} {cellB : Cell} (hcell : T.heap[b]? = some cellB) (hobj : cellB.vm.isStatics = false) (hcls : s.vm.findClass C = some cellB.cls)
    {g : JFrame} (hg : g.method = m) (hsize : g.locals.size = c.maxLocals) {argsL rest : List Value} (hlen : ∀ sig, parseMethodDescriptor y.desc = some sig → argsL.length = sig.parameters.length)
    (hstack : g.stack = argsL.reverse ++ .ref b :: rest) (hW : 2 * g.monitorRoom + (rest.map fun v => v.category).sum ≤ W9) (hdg : decode c.code g.pc = .ok (.invokevirtual index, 3))
    (hpre : ∀ vm₁, s.WarmedH vm₁ → Pre ⟨T.setVm vm₁, locs, cells, slots⟩ (Value.ref b :: argsL).toArray) :
    (∃ (v : Option Value) (vm₁ : Vm) (B : Pt), s.WarmedH vm₁ ∧ Stand p l e R s m args below meth c B.U B.locs B.cells B.slots ∧ Post ⟨T.setVm vm₁, locs, cells, slots⟩ (Value.ref b :: argsL).toArray v B ∧
      ∀ target, Steps p.tables e below (B.U.setTop { g with pc := g.pc + 3, stack := v.toList ++ rest }) target → Steps p.tables e below (T.setTop g) target) ∨
    (∃ (q : Addr) (vm₁ : Vm) (B : Pt), s.WarmedH vm₁ ∧ Stand p l e R s m args below meth c B.U B.locs B.cells B.slots ∧ PostX ⟨T.setVm vm₁, locs, cells, slots⟩ (Value.ref b :: argsL).toArray q B ∧
      Steps p.tables e below (T.setTop g) ((B.U.setTop { g with stack := rest }).pushFrame (.throwing q))) := by
  obtain ⟨mk, methM, hnamed, hmethM, hstM, habM⟩ := Cond.instanceMethod_spec hinst
  obtain ⟨m8, methM', cM, hn8, hmethM', -, -, -, -, -, -, hsigM⟩ := Cond.codeWith_spec hcode
  cases Option.some.inj (hn8.symm.trans hnamed)
  cases hmethM.symm.trans hmethM'
  obtain ⟨c2, r2, m2, q1, q2, q3, q4, kP, hkP, hkPi⟩ := Cond.selects_spec hsel
  cases hcls.symm.trans q1
  cases (State.methodFound?_of_named hnamed hy).symm.trans q2
  cases hnamed.symm.trans q3
  have hselP : selectMethod e.platform s.vm cellB.cls mk = .method mk := by rw [Launch.admits_selectMethod X.admits]; exact q4
  obtain ⟨vm₁, X₁, hstep₁⟩ := X.invokevirtual hexec hown hlink hnamed hmethM hstM hkP hkPi hy (a := b) (cell := cellB) hcell
    (fun z h => by rw [h] at hobj; cases hobj) hselP hmethM habM hkP hkPi (g := g) hg (argsL := argsL) (rest := rest) (hlen _ hsigM) hstack hdg
  rcases hK m meth c ⟨T.setVm vm₁, locs, cells, slots⟩ { g with stack := rest } (.invokevirtual index) mk (Value.ref b :: argsL).toArray X₁ hg hsize hdg hW (X₁.named hnamed) (hpre vm₁ X₁.warmed) with ⟨v, B, X', hpost, hsteps⟩ | ⟨q, B, X', hpost, hsteps⟩
  · exact Or.inl ⟨v, vm₁, B, X₁.warmed, X', hpost, fun target h => hstep₁ _ fun acts => by rw [doInvoke_state]; exact hsteps.trans h⟩
  · exact Or.inr ⟨q, vm₁, B, X₁.warmed, X', hpost, hstep₁ _ fun acts => by rw [doInvoke_state]; exact hsteps⟩
theorem vx_callSX (X : Stand p l e R s m args below meth c T locs cells slots) (hexec : p.tables.exec = Jvm.exec) {own : String} {index : Nat} {y : MethodName} {bytes : ByteArray} {maxL : Nat} {ret : Option FieldType} {hh : List (Nat × Nat × Nat × Nat)}
    (hown : s.vm.findClass own = some m.cls) (hlink : (Cond.methodLink own index y).before args s = true) (hstat : (Cond.static y).before args s = true) (hinit : (Cond.initialized y.cls).before args s = true)
    (hcode : (Cond.codeWith y bytes maxL ret hh).before args s = true) (hy : y.cls ≠ "java/lang/invoke/MethodHandle" ∧ y.cls ≠ "java/lang/invoke/VarHandle")
    {W9 : Nat} {Pre : Pt → Array Value → Prop} {Post : Pt → Array Value → Option Value → Pt → Prop} {PostX : Pt → Array Value → Addr → Pt → Prop} (hK : vx_Back l R p e below s args y 3 W9 Pre Post PostX)
    {g : JFrame} (hg : g.method = m) (hsize : g.locals.size = c.maxLocals) {argsL rest : List Value} (hlen : ∀ sig, parseMethodDescriptor y.desc = some sig → argsL.length = sig.parameters.length)
    (hstack : g.stack = argsL.reverse ++ rest) (hW : 2 * g.monitorRoom + (rest.map fun v => v.category).sum ≤ W9) (hdg : decode c.code g.pc = .ok (.invokestatic index, 3))
    (hpre : ∀ vm₁, s.WarmedH vm₁ → Pre ⟨T.setVm vm₁, locs, cells, slots⟩ argsL.toArray) :
    (∃ (v : Option Value) (vm₁ : Vm) (B : Pt), s.WarmedH vm₁ ∧ Stand p l e R s m args below meth c B.U B.locs B.cells B.slots ∧ Post ⟨T.setVm vm₁, locs, cells, slots⟩ argsL.toArray v B ∧
      ∀ target, Steps p.tables e below (B.U.setTop { g with pc := g.pc + 3, stack := v.toList ++ rest }) target → Steps p.tables e below (T.setTop g) target) ∨
    (∃ (q : Addr) (vm₁ : Vm) (B : Pt), s.WarmedH vm₁ ∧ Stand p l e R s m args below meth c B.U B.locs B.cells B.slots ∧ PostX ⟨T.setVm vm₁, locs, cells, slots⟩ argsL.toArray q B ∧
      Steps p.tables e below (T.setTop g) ((B.U.setTop { g with stack := rest }).pushFrame (.throwing q))) := by
  obtain ⟨mk, methM, cM, hnamed, hmethM, -, -, -, -, -, -, hsigM⟩ := Cond.codeWith_spec hcode
  have hstatic : methM.isStatic = true := Cond.static_spec hnamed hmethM hstat
  obtain ⟨kP, hkP, -⟩ := className_of_methodNamed hnamed
  have hinitP : kP.init = .initialized := Cond.initialized_spec (findClass_of_methodNamed hnamed) hkP hinit
  obtain ⟨vm₁, X₁, hstep₁⟩ := X.invokestatic hexec hown hlink hnamed hmethM hstatic hkP hinitP hy (g := g) hg (argsL := argsL) (rest := rest) (hlen _ hsigM) hstack hdg
  rcases hK m meth c ⟨T.setVm vm₁, locs, cells, slots⟩ { g with stack := rest } (.invokestatic index) mk argsL.toArray X₁ hg hsize hdg hW (X₁.named hnamed) (hpre vm₁ X₁.warmed) with ⟨v, B, X', hpost, hsteps⟩ | ⟨q, B, X', hpost, hsteps⟩
  · exact Or.inl ⟨v, vm₁, B, X₁.warmed, X', hpost, fun target h => hstep₁ _ fun acts => by rw [doInvoke_state]; exact hsteps.trans h⟩
  · exact Or.inr ⟨q, vm₁, B, X₁.warmed, X', hpost, hstep₁ _ fun acts => by rw [doInvoke_state]; exact hsteps⟩
theorem vx_callVW (X : Stand p l e R s m args below meth c T locs cells slots) (hexec : p.tables.exec = Jvm.exec) {own C : String} {index : Nat} {y : MethodName} {bytes : ByteArray} {maxL : Nat} {ret : Option FieldType} {hh : List (Nat × Nat × Nat × Nat)}
    (hown : s.vm.findClass own = some m.cls) (hlink : (Cond.methodLink own index y).before args s = true) (hinst : (Cond.instanceMethod y).before args s = true) (hsel : (Cond.selects C y y).before args s = true)
    (hcode : (Cond.codeWith y bytes maxL ret hh).before args s = true) (hy : y.cls ≠ "java/lang/invoke/MethodHandle" ∧ y.cls ≠ "java/lang/invoke/VarHandle")
    {W9 : Nat} {Pre : Pt → Array Value → Prop} {Post : Pt → Array Value → Option Value → Pt → Prop} (hK : Back l R p e below s args y 3 W9 Pre Post)
    {b : Addr} {cellB : Cell} (hcell : T.heap[b]? = some cellB) (hobj : cellB.vm.isStatics = false) (hcls : s.vm.findClass C = some cellB.cls)
    {g : JFrame} (hg : g.method = m) (hsize : g.locals.size = c.maxLocals) {argsL rest : List Value} (hlen : ∀ sig, parseMethodDescriptor y.desc = some sig → argsL.length = sig.parameters.length)
    (hstack : g.stack = argsL.reverse ++ .ref b :: rest) (hW : 2 * g.monitorRoom + (rest.map fun v => v.category).sum ≤ W9) (hdg : decode c.code g.pc = .ok (.invokevirtual index, 3))
    (hpre : ∀ vm₁, s.WarmedH vm₁ → Pre ⟨T.setVm vm₁, locs, cells, slots⟩ (Value.ref b :: argsL).toArray) :
    ∃ (v : Option Value) (vm₁ : Vm) (B : Pt), s.WarmedH vm₁ ∧ Stand p l e R s m args below meth c B.U B.locs B.cells B.slots ∧ Post ⟨T.setVm vm₁, locs, cells, slots⟩ (Value.ref b :: argsL).toArray v B ∧
      ∀ target, Steps p.tables e below (B.U.setTop { g with pc := g.pc + 3, stack := v.toList ++ rest }) target → Steps p.tables e below (T.setTop g) target := by
  obtain ⟨mk, methM, hnamed, hmethM, hstM, habM⟩ := Cond.instanceMethod_spec hinst
  obtain ⟨m8, methM', cM, hn8, hmethM', -, -, -, -, -, -, hsigM⟩ := Cond.codeWith_spec hcode
  cases Option.some.inj (hn8.symm.trans hnamed)
  cases hmethM.symm.trans hmethM'
  obtain ⟨c2, r2, m2, q1, q2, q3, q4, kP, hkP, hkPi⟩ := Cond.selects_spec hsel
  cases hcls.symm.trans q1
  cases (State.methodFound?_of_named hnamed hy).symm.trans q2
  cases hnamed.symm.trans q3
  have hselP : selectMethod e.platform s.vm cellB.cls mk = .method mk := by rw [Launch.admits_selectMethod X.admits]; exact q4
  obtain ⟨vm₁, X₁, hstep₁⟩ := X.invokevirtual hexec hown hlink hnamed hmethM hstM hkP hkPi hy (a := b) (cell := cellB) hcell
    (fun z h => by rw [h] at hobj; cases hobj) hselP hmethM habM hkP hkPi (g := g) hg (argsL := argsL) (rest := rest) (hlen _ hsigM) hstack hdg
  obtain ⟨v, B, X', hpost, hsteps⟩ := hK m meth c ⟨T.setVm vm₁, locs, cells, slots⟩ { g with stack := rest } (.invokevirtual index) mk (Value.ref b :: argsL).toArray X₁ hg hsize hdg hW (X₁.named hnamed) (hpre vm₁ X₁.warmed)
  exact ⟨v, vm₁, B, X₁.warmed, X', hpost, fun target h => hstep₁ _ fun acts => by rw [doInvoke_state]; exact hsteps.trans h⟩
abbrev vx_CVW (R : Room) (s : State) (args : Array Value) (own C : String) (index : Nat) (y : MethodName) (bytes : ByteArray) (maxL : Nat) (ret : Option FieldType) (hh : List (Nat × Nat × Nat × Nat)) (ws : List Cond) (rm : Room) (mc ms n : Nat) : Prop :=
  (rm.cells = mc ∧ rm.slots = ms ∧ rm.frames + 1 ≤ R.frames ∧ 8 + (maxL + 11) + rm.locals ≤ R.locals ∧ (∀ w ∈ ws, ∀ (a' : Array Value) (U : State), s.WarmedH U.vm → w.before a' U = true) ∧ Cond.codeWith y bytes maxL ret hh ∈ ws) ∧
  (Cond.codeWith y bytes maxL ret hh).before args s = true ∧ (Cond.initialized y.cls).before args s = true ∧ (y.cls ≠ "java/lang/invoke/MethodHandle" ∧ y.cls ≠ "java/lang/invoke/VarHandle") ∧
  (∀ sig, parseMethodDescriptor y.desc = some sig → n = sig.parameters.length) ∧ (Cond.methodLink own index y).before args s = true ∧ (Cond.instanceMethod y).before args s = true ∧ (Cond.selects C y y).before args s = true
theorem vx_cwVW {own C : String} {index maxL mc ms : Nat} {y : MethodName} {bytes : ByteArray} {ret : Option FieldType} {hh : List (Nat × Nat × Nat × Nat)} {Ts ws ws' : List Cond} {rm : Room} (n : Nat) (ht : ∀ w ∈ Ts, w.before args s = true) (hT : GoodIn Ts (wsV own index C y ws)) (hw : ws = Cond.codeWith y bytes maxL ret hh :: ws') (hrc : rm.cells = mc) (hrs : rm.slots = ms)
    (hd : y.cls = C ∧ y.cls ≠ "java/lang/invoke/MethodHandle" ∧ y.cls ≠ "java/lang/invoke/VarHandle" ∧ (parseMethodDescriptor y.desc).map (fun d => d.parameters.length) = some n) (hR : rm.frames + 1 ≤ R.frames ∧ 8 + (maxL + 11) + rm.locals ≤ R.locals) :
    vx_CVW R s args own C index y bytes maxL ret hh ws rm mc ms n := by
  obtain ⟨hC, hd⟩ := hd
  subst hC
  have ok : ∀ w ∈ wsV own index y.cls y ws, w.before args s = true := fun w h => ht w (hT w h).1
  have hG : GoodIn Ts ws := fun w h => hT w (by unfold wsV; exact List.mem_append_right _ h)
  have hc : Cond.codeWith y bytes maxL ret hh ∈ ws := by rw [hw]; exact List.mem_cons_self
  refine ⟨⟨hrc, hrs, hR.1, hR.2, pay_in ht hG, hc⟩, ht _ (hG _ hc).1, ok _ (by simp [wsV]), ⟨hd.1, hd.2.1⟩, fun sig h => ?_, ok _ (by simp [wsV]), ok _ (by simp [wsV]), ok _ (by simp [wsV])⟩
  have h2 := hd.2.2
  rw [h] at h2
  exact (Option.some.inj h2).symm
theorem vx_runVW {y : MethodName} {bytes cc : ByteArray} {maxL nL mc ms n index : Nat} {ret : Option FieldType} {hh : List (Nat × Nat × Nat × Nat)} {ws : List Cond} {rm : Room} {Pc : Array Value → State → Prop} {Qc : Array Value → State → Outcome → State → Prop} {free : Addr → Prop} {Ts : List Cond} {own C : String} {b : Addr} {As rest : List Value} {g : JFrame}
    (S : CallFix p m c cc nL s args Ts own) (hM : Met l y ws rm Pc Qc mc ms free) (cw : vx_CVW R s args own C index y bytes maxL ret hh ws rm mc ms n) (hp : PreV s H C b Pc As)
    (hg : g.method = m) (hn : As.length = n) (hsize : g.locals.size = nL) (hstack : g.stack = As.reverse ++ .ref b :: rest) (hW : 2 * g.monitorRoom + (rest.map fun v => v.category).sum ≤ 8) (hdg : decode cc g.pc = .ok (.invokevirtual index, 3)) (hf : cells + mc ≤ R.cells ∧ slots + ms ≤ R.slots) :
    va_Run p l e R s m args below meth c H locs cells slots mc ms g rest (Qc (Value.ref b :: As).toArray) free := by
  obtain ⟨⟨hrc, hrs, hfr, hlo, hws, hcw⟩, hcode, hini, hy, hlen, hl, hin, hse⟩ := cw
  have hK : Back l R p e below s args y 3 8 (PreOf R mc ms Pc) (PostOf Qc mc ms free) := va_backW (hh := hh) (bytes := bytes) (maxL := maxL) (ret := ret) hM hp.1 hrc hrs hfr hlo hws hcw (fun a' U hW => word_at hW (Or.inl (by first | rfl | simp [Cond.onTables, Cond.keeps, Cond.steady])) hini)
  obtain ⟨hx, hb, hml, ho, -⟩ := S
  obtain ⟨-, ⟨cellB, hcB, hoB, hclB⟩, hPc⟩ := hp
  intro T hT X
  obtain ⟨v, vm₁, ⟨U', l2, c2, s2⟩, hW₁, X', ⟨g', mk, t, L, e1, e2, hq, h1, hL, h2, h3⟩, st⟩ := vx_callVW X hx (C := C) (hh := hh) (bytes := bytes) (maxL := maxL) (ret := ret) ho hl hin hse hcode hy hK (by rw [hT]; exact hcB) hoB hclB hg (hsize.trans hml.symm) (argsL := As) (rest := rest) (fun sig h => hn.trans (hlen sig h)) hstack hW (by rw [hb]; exact hdg)
    (fun vm₁ hW₁ => ⟨hf.1, hf.2, hPc (T.setVm vm₁) hT hW₁⟩)
  dsimp only [Pt.U, Pt.locs, Pt.cells, Pt.slots] at X' e1 e2 h1 h2 h3 st
  subst h1; subst h2; subst h3
  exact ⟨v, (T.setVm vm₁).calling g' mk (Value.ref b :: As).toArray, t, U', L, hT, X', hL, e1, e2, hq, st⟩
section
variable {y : MethodName} {bytes cc : ByteArray} {maxL nL mc ms n index : Nat} {ret : Option FieldType} {ws : List Cond} {rm : Room} {Pc : Array Value → State → Prop} {Qc : Array Value → State → Outcome → State → Prop} {XC : String → State → State → Prop} {free : Addr → Prop} {Ts : List Cond} {own C : String} {b : Addr} {As rest : List Value} {g : JFrame}
theorem vx_runVX {hh : List (Nat × Nat × Nat × Nat)} (S : CallFix p m c cc nL s args Ts own) (hM : vx_Met l y ws rm Pc Qc XC mc ms free) (cw : vx_CVW R s args own C index y bytes maxL ret hh ws rm mc ms n) (hp : PreV s H C b Pc As)
    (hg : g.method = m) (hn : As.length = n) (hsize : g.locals.size = nL) (hstack : g.stack = As.reverse ++ .ref b :: rest) (hW : 2 * g.monitorRoom + (rest.map fun v => v.category).sum ≤ 8) (hdg : decode cc g.pc = .ok (.invokevirtual index, 3)) (hf : cells + mc ≤ R.cells ∧ slots + ms ≤ R.slots) :
    vx_Run p l e R s m args below meth c H locs cells slots mc ms g rest (Qc (Value.ref b :: As).toArray) XC free := by
  obtain ⟨⟨hrc, hrs, hfr, hlo, hws, hcw⟩, hcode, hini, hy, hlen, hl, hin, hse⟩ := cw
  have hK : vx_Back l R p e below s args y 3 8 (PreOf R mc ms Pc) (PostOf Qc mc ms free) (vx_Post XC mc ms free) := vx_backW (hh := hh) (bytes := bytes) (maxL := maxL) (ret := ret) hM hp.1 hrc hrs hfr hlo hws hcw (fun a' U hW => word_at hW (Or.inl (by first | rfl | simp [Cond.onTables, Cond.keeps, Cond.steady])) hini)
  obtain ⟨hx, hb, hml, ho, -⟩ := S
  obtain ⟨-, ⟨cellB, hcB, hoB, hclB⟩, hPc⟩ := hp
  intro T hT X
  rcases vx_callVX X hx (C := C) (hh := hh) (bytes := bytes) (maxL := maxL) (ret := ret) ho hl hin hse hcode hy hK (by rw [hT]; exact hcB) hoB hclB hg (hsize.trans hml.symm) (argsL := As) (rest := rest) (fun sig h => hn.trans (hlen sig h)) hstack hW (by rw [hb]; exact hdg)
    (fun vm₁ hW₁ => ⟨hf.1, hf.2, hPc (T.setVm vm₁) hT hW₁⟩) with ⟨v, vm₁, ⟨U', l2, c2, s2⟩, hW₁, X', ⟨g', mk, t, L, e1, e2, hq, h1, hL, h2, h3⟩, st⟩ | ⟨q, vm₁, ⟨U', l2, c2, s2⟩, hW₁, X', ⟨g', mk, t, L, E, ce, e1, e2, hq, hce, hcv, hcl, h1, hL, h2, h3⟩, st⟩
  · dsimp only [Pt.U, Pt.locs, Pt.cells, Pt.slots] at X' e1 e2 h1 h2 h3 st
    subst h1; subst h2; subst h3
    exact Or.inl ⟨v, (T.setVm vm₁).calling g' mk (Value.ref b :: As).toArray, t, U', L, hT, X', hL, e1, e2, hq, st⟩
  · dsimp only [Pt.U, Pt.locs, Pt.cells, Pt.slots] at X' e1 e2 h1 h2 h3 st hcl
    subst h1; subst h2; subst h3
    exact Or.inr ⟨q, (T.setVm vm₁).calling g' mk (Value.ref b :: As).toArray, t, U', L, E, ce, hT, X', hL, e1, e2, hq, hce, hcv, vx_cls hW₁ hcl, st⟩
theorem vx_runSX {hh : List (Nat × Nat × Nat × Nat)} (S : CallFix p m c cc nL s args Ts own) (hM : vx_Met l y ws rm Pc Qc XC mc ms free) (cw : vx_CSW R s args own index y bytes maxL ret hh ws rm mc ms n) (hp : PreS s H Pc As)
    (hg : g.method = m) (hn : As.length = n) (hsize : g.locals.size = nL) (hstack : g.stack = As.reverse ++ rest) (hW : 2 * g.monitorRoom + (rest.map fun v => v.category).sum ≤ 8) (hdg : decode cc g.pc = .ok (.invokestatic index, 3)) (hf : cells + mc ≤ R.cells ∧ slots + ms ≤ R.slots) :
    vx_Run p l e R s m args below meth c H locs cells slots mc ms g rest (Qc As.toArray) XC free := by
  obtain ⟨⟨hrc, hrs, hfr, hlo, hws, hcw⟩, hcode, hini, hy, hlen, hl, hstt⟩ := cw
  have hK : vx_Back l R p e below s args y 3 8 (PreOf R mc ms Pc) (PostOf Qc mc ms free) (vx_Post XC mc ms free) := vx_backW (hh := hh) (bytes := bytes) (maxL := maxL) (ret := ret) hM hp.1 hrc hrs hfr hlo hws hcw (fun a' U hW => word_at hW (Or.inl (by first | rfl | simp [Cond.onTables, Cond.keeps, Cond.steady])) hini)
  obtain ⟨hx, hb, hml, ho, -⟩ := S
  intro T hT X
  rcases vx_callSX X hx (hh := hh) (bytes := bytes) (maxL := maxL) (ret := ret) ho hl hstt hini hcode hy hK hg (hsize.trans hml.symm) (argsL := As) (rest := rest) (fun sig h => hn.trans (hlen sig h)) hstack hW (by rw [hb]; exact hdg)
    (fun vm₁ hW₁ => ⟨hf.1, hf.2, hp.2 (T.setVm vm₁) hT hW₁⟩) with ⟨v, vm₁, ⟨U', l2, c2, s2⟩, hW₁, X', ⟨g', mk, t, L, e1, e2, hq, h1, hL, h2, h3⟩, st⟩ | ⟨q, vm₁, ⟨U', l2, c2, s2⟩, hW₁, X', ⟨g', mk, t, L, E, ce, e1, e2, hq, hce, hcv, hcl, h1, hL, h2, h3⟩, st⟩
  · dsimp only [Pt.U, Pt.locs, Pt.cells, Pt.slots] at X' e1 e2 h1 h2 h3 st
    subst h1; subst h2; subst h3
    exact Or.inl ⟨v, (T.setVm vm₁).calling g' mk As.toArray, t, U', L, hT, X', hL, e1, e2, hq, st⟩
  · dsimp only [Pt.U, Pt.locs, Pt.cells, Pt.slots] at X' e1 e2 h1 h2 h3 st hcl
    subst h1; subst h2; subst h3
    exact Or.inr ⟨q, (T.setVm vm₁).calling g' mk As.toArray, t, U', L, E, ce, hT, X', hL, e1, e2, hq, hce, hcv, vx_cls hW₁ hcl, st⟩
end
end VXH
theorem vx_ofWH {l : Launch} {y : MethodName} {ws ws' : List Cond} {rm : Room} {Pc : Array Value → State → Prop} {Qc : Array Value → State → Outcome → State → Prop} {XC : String → State → State → Prop} {mc ms : Nat} {free : Addr → Prop} {cc : ByteArray} {maxL : Nat} {ret : Option FieldType} {hh : List (Nat × Nat × Nat × Nat)}
    (hy : plainName y.cls = true) (hw : ws = Cond.codeWith y cc maxL ret hh :: ws')
    (body : ∀ p e s m args below meth c s₁, BodyLoose p l y (headSpec ws rm) cc maxL ret e s m args below meth c s₁ → c.maxLocals = maxL → Pc args s →
      W p l e (headSpec ws rm).room s m args below meth c s.heap [] 0 0 (vx_MQ below Qc XC args s mc ms free) (entryFrame m args maxL)) : vx_Met l y ws rm Pc Qc XC mc ms free := by
  refine MetFree.of_bodyS (code := cc) (maxLocals := maxL) (ret := ret) hy ?_ ?_
  · intro args s m h hn
    obtain ⟨m9, meth, c, hn9, h1, h2, h3, h4, -, h5, h6, -⟩ := Cond.codeWith_spec (atoms_spec (ws := ws) h _ (by rw [hw]; exact List.mem_cons_self))
    cases hn.symm.trans hn9
    exact ⟨meth, c, h1, h2, h3, h4, h5, h6⟩
  · intro p e s m args below meth c s₁ B hml hP _
    have hh0 : s₁.heap = s.heap := by rw [B.state]; rfl
    obtain ⟨t, a1, o, b1, b2, b3⟩ := body p e s m args below meth c s₁ B hml hP s₁ hh0 (Stand.of_body B)
    exact ⟨t, o, a1, b1, b2, b3⟩
/-! ===== END ===== -/
end
section
/-! names: by a program of ours (wip/gen/mk02.py) out of the claim's own texts -/
def RB : String := "StampTables$Block"
def RS : String := "StampTables"
def RM : String := "StampTablesModel"
def RL : String := "StampTablesLaw"
def TB : u_T := fun k => match k with
  | 0 => ("StampTables$Block", "lower", "LStampTables$Block;", true)
  | 1 => ("StampTables$Block", "upper", "LStampTables$Block;", true)
  | _ => ("StampTables$Block", "taken", "[J", true)
def tyB : Nat → FieldType := fun k => match k with
  | 0 => .object "StampTables$Block"
  | 1 => .object "StampTables$Block"
  | _ => .array .long
theorem nmB : ∀ a, a < 3 → ∀ b, b < 3 → a ≠ b → (TB a).2.1 ≠ (TB b).2.1 := by decide +kernel
theorem tyB_ok : ∀ k, k < 3 → parseFieldDescriptor (TB k).2.2.1 = some (tyB k) := by decide +kernel
def TS : u_T := fun k => match k with
  | 0 => ("StampTables", "roots", "[LStampTables$Block;", true)
  | _ => ("StampTables", "made", "I", false)
def tyS : Nat → FieldType := fun k => match k with
  | 0 => .array (.object "StampTables$Block")
  | _ => .int
theorem nmS : ∀ a, a < 2 → ∀ b, b < 2 → a ≠ b → (TS a).2.1 ≠ (TS b).2.1 := by decide +kernel
theorem tyS_ok : ∀ k, k < 2 → parseFieldDescriptor (TS k).2.2.1 = some (tyS k) := by decide +kernel
def TM : u_T := fun k => match k with
  | 0 => ("StampTablesModel", "err", "I", false)
  | 1 => ("StampTablesModel", "of", "[I", true)
  | 2 => ("StampTablesModel", "key", "[I", true)
  | 3 => ("StampTablesModel", "stamps", "[I", true)
  | 4 => ("StampTablesModel", "number", "[J", true)
  | 5 => ("StampTablesModel", "none", "[Z", true)
  | 6 => ("StampTablesModel", "last", "[I", true)
  | 7 => ("StampTablesModel", "other", "[I", true)
  | _ => ("StampTablesModel", "many", "I", false)
def tyM : Nat → FieldType := fun k => match k with
  | 0 => .int
  | 1 => .array .int
  | 2 => .array .int
  | 3 => .array .int
  | 4 => .array .long
  | 5 => .array .boolean
  | 6 => .array .int
  | 7 => .array .int
  | _ => .int
theorem nmM : ∀ a, a < 9 → ∀ b, b < 9 → a ≠ b → (TM a).2.1 ≠ (TM b).2.1 := by decide +kernel
theorem tyM_ok : ∀ k, k < 9 → parseFieldDescriptor (TM k).2.2.1 = some (tyM k) := by decide +kernel
abbrev cS_init : ByteArray := prog_1_method_1_code
def yS_init : MethodName := ⟨RS, "<init>", "()V"⟩
abbrev cS_tables : ByteArray := prog_1_method_9_code
def yS_tables : MethodName := ⟨RS, "tables", "()I"⟩
abbrev cL_put : ByteArray := method_3_code
def yL_put : MethodName := ⟨RL, "put", "(LStampTables;IIJI[J)I"⟩
abbrev cS_put : ByteArray := prog_1_method_2_code
def yS_put : MethodName := ⟨RS, "put", "(IIJI)I"⟩
abbrev cS_checkChange : ByteArray := prog_1_method_12_code
def yS_checkChange : MethodName := ⟨RS, "checkChange", "(III)V"⟩
abbrev cS_checkTable : ByteArray := prog_1_method_10_code
def yS_checkTable : MethodName := ⟨RS, "checkTable", "(I)V"⟩
abbrev cS_checkKey : ByteArray := prog_1_method_11_code
def yS_checkKey : MethodName := ⟨RS, "checkKey", "(I)V"⟩
abbrev cS_leafWithNumber : ByteArray := prog_1_method_21_code
def yS_leafWithNumber : MethodName := ⟨RS, "leafWithNumber", "(IJI)LStampTables$Block;"⟩
abbrev cB_init : ByteArray := prog_2_method_1_code
def yB_init : MethodName := ⟨RB, "<init>", "(LStampTables$Block;LStampTables$Block;[J)V"⟩
abbrev cS_addTable : ByteArray := prog_1_method_13_code
def yS_addTable : MethodName := ⟨RS, "addTable", "(IILStampTables$Block;)I"⟩
abbrev cS_rewritten : ByteArray := prog_1_method_14_code
def yS_rewritten : MethodName := ⟨RS, "rewritten", "(LStampTables$Block;IILStampTables$Block;)LStampTables$Block;"⟩
abbrev cS_lowerOf : ByteArray := prog_1_method_27_code
def yS_lowerOf : MethodName := ⟨RS, "lowerOf", "(LStampTables$Block;)LStampTables$Block;"⟩
abbrev cS_upperOf : ByteArray := prog_1_method_28_code
def yS_upperOf : MethodName := ⟨RS, "upperOf", "(LStampTables$Block;)LStampTables$Block;"⟩
abbrev cS_isInUpperHalf : ByteArray := prog_1_method_20_code
def yS_isInUpperHalf : MethodName := ⟨RS, "isInUpperHalf", "(II)Z"⟩
abbrev cS_joined : ByteArray := prog_1_method_23_code
def yS_joined : MethodName := ⟨RS, "joined", "(LStampTables$Block;LStampTables$Block;)LStampTables$Block;"⟩
abbrev cS_takenOf : ByteArray := prog_1_method_26_code
def yS_takenOf : MethodName := ⟨RS, "takenOf", "(LStampTables$Block;I)J"⟩
abbrev cS_takenOfNothing : ByteArray := prog_1_method_25_code
def yS_takenOfNothing : MethodName := ⟨RS, "takenOfNothing", "(I)J"⟩
abbrev cS_takenTogether : ByteArray := prog_1_method_24_code
def yS_takenTogether : MethodName := ⟨RS, "takenTogether", "(JJI)J"⟩
abbrev cL_delete : ByteArray := method_4_code
def yL_delete : MethodName := ⟨RL, "delete", "(LStampTables;III[J)I"⟩
abbrev cS_delete : ByteArray := prog_1_method_3_code
def yS_delete : MethodName := ⟨RS, "delete", "(III)I"⟩
abbrev cS_leafWithoutNumber : ByteArray := prog_1_method_22_code
def yS_leafWithoutNumber : MethodName := ⟨RS, "leafWithoutNumber", "(I)LStampTables$Block;"⟩
abbrev cL_get : ByteArray := method_5_code
def yL_get : MethodName := ⟨RL, "get", "(LStampTables;II[J)I"⟩
abbrev cS_get : ByteArray := prog_1_method_4_code
def yS_get : MethodName := ⟨RS, "get", "(II)J"⟩
abbrev cS_leafOf : ByteArray := prog_1_method_15_code
def yS_leafOf : MethodName := ⟨RS, "leafOf", "(LStampTables$Block;I)LStampTables$Block;"⟩
abbrev cL_stamp : ByteArray := method_6_code
def yL_stamp : MethodName := ⟨RL, "stamp", "(LStampTables;II[J)I"⟩
abbrev cS_stamp : ByteArray := prog_1_method_5_code
def yS_stamp : MethodName := ⟨RS, "stamp", "(II)I"⟩
abbrev cL_part : ByteArray := method_7_code
def yL_part : MethodName := ⟨RL, "part", "(LStampTables;IIII[J)I"⟩
abbrev cS_part : ByteArray := prog_1_method_6_code
def yS_part : MethodName := ⟨RS, "part", "(IIII)J"⟩
abbrev cS_takenWithin : ByteArray := prog_1_method_16_code
def yS_takenWithin : MethodName := ⟨RS, "takenWithin", "(LStampTables$Block;IIIII)J"⟩
abbrev cL_at : ByteArray := method_8_code
def yL_at : MethodName := ⟨RL, "at", "(LStampTables;II[J)I"⟩
abbrev cS_at : ByteArray := prog_1_method_7_code
def yS_at : MethodName := ⟨RS, "at", "(II)I"⟩
abbrev cS_keyBehind : ByteArray := prog_1_method_17_code
def yS_keyBehind : MethodName := ⟨RS, "keyBehind", "(LStampTables$Block;I)I"⟩
abbrev cL_differ : ByteArray := method_9_code
def yL_differ : MethodName := ⟨RL, "differ", "(LStampTables;II[J)I"⟩
abbrev cS_differ : ByteArray := prog_1_method_8_code
def yS_differ : MethodName := ⟨RS, "differ", "(II)I"⟩
abbrev cS_differences : ByteArray := prog_1_method_18_code
def yS_differences : MethodName := ⟨RS, "differences", "(LStampTables$Block;LStampTables$Block;I)I"⟩
abbrev cS_haveSameNumber : ByteArray := prog_1_method_19_code
def yS_haveSameNumber : MethodName := ⟨RS, "haveSameNumber", "(LStampTables$Block;LStampTables$Block;)Z"⟩
abbrev cM_init : ByteArray := prog_4_method_1_code
def yM_init : MethodName := ⟨RM, "<init>", "()V"⟩
abbrev cM_thrown : ByteArray := prog_4_method_2_code
def yM_thrown : MethodName := ⟨RM, "thrown", "()I"⟩
abbrev cM_put : ByteArray := prog_4_method_7_code
def yM_put : MethodName := ⟨RM, "put", "(IIJI)I"⟩
abbrev cM_change : ByteArray := prog_4_method_6_code
def yM_change : MethodName := ⟨RM, "change", "(IIJIZ)I"⟩
abbrev cM_noTable : ByteArray := prog_4_method_4_code
def yM_noTable : MethodName := ⟨RM, "noTable", "(I)Z"⟩
abbrev cM_noKey : ByteArray := prog_4_method_5_code
def yM_noKey : MethodName := ⟨RM, "noKey", "(I)Z"⟩
abbrev cM_fails : ByteArray := prog_4_method_3_code
def yM_fails : MethodName := ⟨RM, "fails", "(ZI)Z"⟩
abbrev cM_delete : ByteArray := prog_4_method_8_code
def yM_delete : MethodName := ⟨RM, "delete", "(III)I"⟩
abbrev cM_get : ByteArray := prog_4_method_10_code
def yM_get : MethodName := ⟨RM, "get", "(II)J"⟩
abbrev cM_wrote : ByteArray := prog_4_method_9_code
def yM_wrote : MethodName := ⟨RM, "wrote", "(II)I"⟩
abbrev cM_stamp : ByteArray := prog_4_method_11_code
def yM_stamp : MethodName := ⟨RM, "stamp", "(II)I"⟩
abbrev cM_part : ByteArray := prog_4_method_14_code
def yM_part : MethodName := ⟨RM, "part", "(IIII)J"⟩
abbrev cM_whole : ByteArray := prog_4_method_12_code
def yM_whole : MethodName := ⟨RM, "whole", "(I[I)V"⟩
abbrev cM_has : ByteArray := prog_4_method_13_code
def yM_has : MethodName := ⟨RM, "has", "(I)Z"⟩
abbrev cM_at : ByteArray := prog_4_method_15_code
def yM_at : MethodName := ⟨RM, "at", "(II)I"⟩
abbrev cM_differ : ByteArray := prog_4_method_16_code
def yM_differ : MethodName := ⟨RM, "differ", "(II)I"⟩
abbrev cM_tables : ByteArray := prog_4_method_17_code
def yM_tables : MethodName := ⟨RM, "tables", "()I"⟩
abbrev cL_law : ByteArray := code
def yL_law : MethodName := ⟨RL, "law", "([I)Z"⟩
/-- all the good words of the tables -/
def gW : List Cond := lw_tbl.filter goodWord
theorem gW_at {w : Cond} (i : Nat) (h : lw_tbl[i]? = some w) (g : goodWord w = true) : w ∈ gW := List.mem_filter.mpr ⟨List.mem_of_getElem? h, g⟩
theorem gW_ok {w : Cond} (h : w ∈ gW) : w ∈ gW ∧ ((w.onTables && w.keeps) = true ∨ ∃ ty, w = .arrayClass ty) := ⟨h, good_of_word (List.mem_filter.mp h).2⟩
theorem gW_tbl {w : Cond} (h : w ∈ gW) : w ∈ lw_tbl := (List.mem_filter.mp h).1
theorem kw0 : (Cond.selects RS yS_checkChange yS_checkChange : Cond) ∈ gW := gW_at 0 (by decide +kernel) (by decide +kernel)
theorem kw1 : (Cond.selects RS yS_checkTable yS_checkTable : Cond) ∈ gW := gW_at 1 (by decide +kernel) (by decide +kernel)
theorem kw2 : (Cond.selects "java/lang/Throwable" ⟨"java/lang/Throwable", "fillInStackTrace", "(I)Ljava/lang/Throwable;"⟩ ⟨"java/lang/Throwable", "fillInStackTrace", "(I)Ljava/lang/Throwable;"⟩ : Cond) ∈ gW := gW_at 2 (by decide +kernel) (by decide +kernel)
theorem kw3 : (Cond.selects RS yS_addTable yS_addTable : Cond) ∈ gW := gW_at 3 (by decide +kernel) (by decide +kernel)
theorem kw4 : (Cond.selects RM yM_change yM_change : Cond) ∈ gW := gW_at 4 (by decide +kernel) (by decide +kernel)
theorem kw5 : (Cond.selects RM yM_noTable yM_noTable : Cond) ∈ gW := gW_at 5 (by decide +kernel) (by decide +kernel)
theorem kw6 : (Cond.selects RM yM_fails yM_fails : Cond) ∈ gW := gW_at 6 (by decide +kernel) (by decide +kernel)
theorem kw7 : (Cond.selects RM yM_wrote yM_wrote : Cond) ∈ gW := gW_at 7 (by decide +kernel) (by decide +kernel)
theorem kw8 : (Cond.selects RM yM_whole yM_whole : Cond) ∈ gW := gW_at 8 (by decide +kernel) (by decide +kernel)
theorem kw9 : (Cond.selects RM yM_has yM_has : Cond) ∈ gW := gW_at 9 (by decide +kernel) (by decide +kernel)
theorem kw10 : (Cond.initialized RL : Cond) ∈ gW := gW_at 10 (by decide +kernel) (by decide +kernel)
theorem kw11 : (Cond.initialized RS : Cond) ∈ gW := gW_at 11 (by decide +kernel) (by decide +kernel)
theorem kw12 : (Cond.initialized RM : Cond) ∈ gW := gW_at 12 (by decide +kernel) (by decide +kernel)
theorem kw13 : (Cond.initialized "java/lang/Throwable" : Cond) ∈ gW := gW_at 13 (by decide +kernel) (by decide +kernel)
theorem kw14 : (Cond.initialized "java/lang/Exception" : Cond) ∈ gW := gW_at 14 (by decide +kernel) (by decide +kernel)
theorem kw15 : (Cond.initialized "java/lang/RuntimeException" : Cond) ∈ gW := gW_at 15 (by decide +kernel) (by decide +kernel)
theorem kw16 : (Cond.initialized "java/lang/IllegalArgumentException" : Cond) ∈ gW := gW_at 16 (by decide +kernel) (by decide +kernel)
theorem kw17 : (Cond.initialized "java/lang/IndexOutOfBoundsException" : Cond) ∈ gW := gW_at 17 (by decide +kernel) (by decide +kernel)
theorem kw18 : (Cond.initialized RB : Cond) ∈ gW := gW_at 18 (by decide +kernel) (by decide +kernel)
theorem kw19 : (Cond.initialized "java/lang/Math" : Cond) ∈ gW := gW_at 19 (by decide +kernel) (by decide +kernel)
theorem kw20 : (Cond.initialized "java/lang/UnsupportedOperationException" : Cond) ∈ gW := gW_at 20 (by decide +kernel) (by decide +kernel)
theorem kw21 : (Cond.classLink RL 8 RS : Cond) ∈ gW := gW_at 21 (by decide +kernel) (by decide +kernel)
theorem kw22 : (Cond.instantiable RS 2 : Cond) ∈ gW := gW_at 22 (by decide +kernel) (by decide +kernel)
theorem kw23 : (Cond.methodLink RL 41 yS_init : Cond) ∈ gW := gW_at 23 (by decide +kernel) (by decide +kernel)
theorem kw24 : (Cond.instanceMethod yS_init : Cond) ∈ gW := gW_at 24 (by decide +kernel) (by decide +kernel)
theorem kw25 : (Cond.code yS_init cS_init 1 none : Cond) ∈ gW := gW_at 25 (by decide +kernel) (by decide +kernel)
theorem kw26 : (Cond.methodLink RS 3 objectInit : Cond) ∈ gW := gW_at 26 (by decide +kernel) (by decide +kernel)
theorem kw27 : (Cond.instanceMethod objectInit : Cond) ∈ gW := gW_at 27 (by decide +kernel) (by decide +kernel)
theorem kw28 : (Cond.code objectInit ⟨#[0xb1]⟩ 1 none : Cond) ∈ gW := gW_at 28 (by decide +kernel) (by decide +kernel)
theorem kw29 : (Cond.classLink RS 9 RB : Cond) ∈ gW := gW_at 29 (by decide +kernel) (by decide +kernel)
theorem kw31 : (Cond.fieldLink RS 11 "StampTables" "roots" "[LStampTables$Block;" : Cond) ∈ gW := gW_at 31 (by decide +kernel) (by decide +kernel)
theorem kw32 : (Cond.fieldLink RS 15 "StampTables" "made" "I" : Cond) ∈ gW := gW_at 32 (by decide +kernel) (by decide +kernel)
theorem kw38 : (Cond.methodLink RL 78 yS_tables : Cond) ∈ gW := gW_at 38 (by decide +kernel) (by decide +kernel)
theorem kw39 : (Cond.instanceMethod yS_tables : Cond) ∈ gW := gW_at 39 (by decide +kernel) (by decide +kernel)
theorem kw40 : (Cond.selects RS yS_tables yS_tables : Cond) ∈ gW := gW_at 40 (by decide +kernel) (by decide +kernel)
theorem kw41 : (Cond.code yS_tables cS_tables 1 (some .int) : Cond) ∈ gW := gW_at 41 (by decide +kernel) (by decide +kernel)
theorem kw42 : (Cond.methodLink RL 47 yL_put : Cond) ∈ gW := gW_at 42 (by decide +kernel) (by decide +kernel)
theorem kw43 : (Cond.static yL_put : Cond) ∈ gW := gW_at 43 (by decide +kernel) (by decide +kernel)
theorem kw44 : (Cond.codeWith yL_put cL_put 8 (some .int) [(0, 14, 17, 13), (0, 14, 21, 15)] : Cond) ∈ gW := gW_at 44 (by decide +kernel) (by decide +kernel)
theorem kw45 : (Cond.classLink RL 13 "java/lang/IllegalArgumentException" : Cond) ∈ gW := gW_at 45 (by decide +kernel) (by decide +kernel)
theorem kw46 : (Cond.classLink RL 15 "java/lang/IndexOutOfBoundsException" : Cond) ∈ gW := gW_at 46 (by decide +kernel) (by decide +kernel)
theorem kw47 : (Cond.methodLink RL 7 yS_put : Cond) ∈ gW := gW_at 47 (by decide +kernel) (by decide +kernel)
theorem kw48 : (Cond.instanceMethod yS_put : Cond) ∈ gW := gW_at 48 (by decide +kernel) (by decide +kernel)
theorem kw49 : (Cond.selects RS yS_put yS_put : Cond) ∈ gW := gW_at 49 (by decide +kernel) (by decide +kernel)
theorem kw50 : (Cond.code yS_put cS_put 6 (some .int) : Cond) ∈ gW := gW_at 50 (by decide +kernel) (by decide +kernel)
theorem kw51 : (Cond.methodLink RS 19 yS_checkChange : Cond) ∈ gW := gW_at 51 (by decide +kernel) (by decide +kernel)
theorem kw53 : (Cond.instanceMethod yS_checkChange : Cond) ∈ gW := gW_at 53 (by decide +kernel) (by decide +kernel)
theorem kw54 : (Cond.code yS_checkChange cS_checkChange 4 none : Cond) ∈ gW := gW_at 54 (by decide +kernel) (by decide +kernel)
theorem kw55 : (Cond.methodLink RS 35 yS_checkTable : Cond) ∈ gW := gW_at 55 (by decide +kernel) (by decide +kernel)
theorem kw57 : (Cond.instanceMethod yS_checkTable : Cond) ∈ gW := gW_at 57 (by decide +kernel) (by decide +kernel)
theorem kw58 : (Cond.code yS_checkTable cS_checkTable 2 none : Cond) ∈ gW := gW_at 58 (by decide +kernel) (by decide +kernel)
theorem kw59 : (Cond.classLink RS 57 "java/lang/IllegalArgumentException" : Cond) ∈ gW := gW_at 59 (by decide +kernel) (by decide +kernel)
theorem kw60 : (Cond.instantiable "java/lang/IllegalArgumentException" 6 : Cond) ∈ gW := gW_at 60 (by decide +kernel) (by decide +kernel)
theorem kw68 : (Cond.selects "java/lang/IllegalArgumentException" ⟨"java/lang/Throwable", "fillInStackTrace", "(I)Ljava/lang/Throwable;"⟩ ⟨"java/lang/Throwable", "fillInStackTrace", "(I)Ljava/lang/Throwable;"⟩ : Cond) ∈ gW := gW_at 68 (by decide +kernel) (by decide +kernel)
theorem kw69 : (Cond.selects "java/lang/IllegalArgumentException" ⟨"java/lang/Throwable", "fillInStackTrace", "()Ljava/lang/Throwable;"⟩ ⟨"java/lang/Throwable", "fillInStackTrace", "()Ljava/lang/Throwable;"⟩ : Cond) ∈ gW := gW_at 69 (by decide +kernel) (by decide +kernel)
theorem kw80 : (Cond.fieldLink "java/lang/Throwable" 198 "java/lang/Throwable" "backtrace" "Ljava/lang/Object;" : Cond) ∈ gW := gW_at 80 (by decide +kernel) (by decide +kernel)
theorem kw82 : (Cond.instanceMethod ⟨"java/lang/Throwable", "<init>", "()V"⟩ : Cond) ∈ gW := gW_at 82 (by decide +kernel) (by decide +kernel)
theorem kw84 : (Cond.methodLink "java/lang/Throwable" 1 objectInit : Cond) ∈ gW := gW_at 84 (by decide +kernel) (by decide +kernel)
theorem kw85 : (Cond.fieldLink "java/lang/Throwable" 13 "java/lang/Throwable" "UNASSIGNED_STACK" "[Ljava/lang/StackTraceElement;" : Cond) ∈ gW := gW_at 85 (by decide +kernel) (by decide +kernel)
theorem kw87 : (Cond.fieldLink "java/lang/Throwable" 20 "java/lang/Throwable" "SUPPRESSED_SENTINEL" "Ljava/util/List;" : Cond) ∈ gW := gW_at 87 (by decide +kernel) (by decide +kernel)
theorem kw89 : (Cond.methodLink "java/lang/Throwable" 27 ⟨"java/lang/Throwable", "fillInStackTrace", "()Ljava/lang/Throwable;"⟩ : Cond) ∈ gW := gW_at 89 (by decide +kernel) (by decide +kernel)
theorem kw90 : (Cond.instanceMethod ⟨"java/lang/Throwable", "fillInStackTrace", "()Ljava/lang/Throwable;"⟩ : Cond) ∈ gW := gW_at 90 (by decide +kernel) (by decide +kernel)
theorem kw92 : (Cond.selects "java/lang/IndexOutOfBoundsException" ⟨"java/lang/Throwable", "fillInStackTrace", "()Ljava/lang/Throwable;"⟩ ⟨"java/lang/Throwable", "fillInStackTrace", "()Ljava/lang/Throwable;"⟩ : Cond) ∈ gW := gW_at 92 (by decide +kernel) (by decide +kernel)
theorem kw93 : (Cond.selects "java/lang/UnsupportedOperationException" ⟨"java/lang/Throwable", "fillInStackTrace", "()Ljava/lang/Throwable;"⟩ ⟨"java/lang/Throwable", "fillInStackTrace", "()Ljava/lang/Throwable;"⟩ : Cond) ∈ gW := gW_at 93 (by decide +kernel) (by decide +kernel)
theorem kw95 : (Cond.methodLink "java/lang/Throwable" 202 ⟨"java/lang/Throwable", "fillInStackTrace", "(I)Ljava/lang/Throwable;"⟩ : Cond) ∈ gW := gW_at 95 (by decide +kernel) (by decide +kernel)
theorem kw97 : (Cond.instanceMethod ⟨"java/lang/Throwable", "fillInStackTrace", "(I)Ljava/lang/Throwable;"⟩ : Cond) ∈ gW := gW_at 97 (by decide +kernel) (by decide +kernel)
theorem kw98 : (Cond.instantiable "java/lang/Throwable" 6 : Cond) ∈ gW := gW_at 98 (by decide +kernel) (by decide +kernel)
theorem kw101 : (Cond.methodLink RS 61 ⟨"java/lang/IllegalArgumentException", "<init>", "(Ljava/lang/String;)V"⟩ : Cond) ∈ gW := gW_at 101 (by decide +kernel) (by decide +kernel)
theorem kw102 : (Cond.instanceMethod ⟨"java/lang/IllegalArgumentException", "<init>", "(Ljava/lang/String;)V"⟩ : Cond) ∈ gW := gW_at 102 (by decide +kernel) (by decide +kernel)
theorem kw104 : (Cond.methodLink "java/lang/IllegalArgumentException" 7 ⟨"java/lang/RuntimeException", "<init>", "(Ljava/lang/String;)V"⟩ : Cond) ∈ gW := gW_at 104 (by decide +kernel) (by decide +kernel)
theorem kw105 : (Cond.instanceMethod ⟨"java/lang/RuntimeException", "<init>", "(Ljava/lang/String;)V"⟩ : Cond) ∈ gW := gW_at 105 (by decide +kernel) (by decide +kernel)
theorem kw107 : (Cond.methodLink "java/lang/RuntimeException" 7 ⟨"java/lang/Exception", "<init>", "(Ljava/lang/String;)V"⟩ : Cond) ∈ gW := gW_at 107 (by decide +kernel) (by decide +kernel)
theorem kw108 : (Cond.instanceMethod ⟨"java/lang/Exception", "<init>", "(Ljava/lang/String;)V"⟩ : Cond) ∈ gW := gW_at 108 (by decide +kernel) (by decide +kernel)
theorem kw110 : (Cond.methodLink "java/lang/Exception" 7 ⟨"java/lang/Throwable", "<init>", "(Ljava/lang/String;)V"⟩ : Cond) ∈ gW := gW_at 110 (by decide +kernel) (by decide +kernel)
theorem kw111 : (Cond.instanceMethod ⟨"java/lang/Throwable", "<init>", "(Ljava/lang/String;)V"⟩ : Cond) ∈ gW := gW_at 111 (by decide +kernel) (by decide +kernel)
theorem kw113 : (Cond.fieldLink "java/lang/Throwable" 198 "java/lang/Throwable" "backtrace" "Ljava/lang/Object;" : Cond) ∈ gW := gW_at 113 (by decide +kernel) (by decide +kernel)
theorem kw114 : (Cond.fieldLink "java/lang/Throwable" 31 "java/lang/Throwable" "detailMessage" "Ljava/lang/String;" : Cond) ∈ gW := gW_at 114 (by decide +kernel) (by decide +kernel)
theorem kw115 : (Cond.fieldLink "java/lang/Throwable" 7 "java/lang/Throwable" "cause" "Ljava/lang/Throwable;" : Cond) ∈ gW := gW_at 115 (by decide +kernel) (by decide +kernel)
theorem kw116 : (Cond.fieldLink "java/lang/Throwable" 17 "java/lang/Throwable" "stackTrace" "[Ljava/lang/StackTraceElement;" : Cond) ∈ gW := gW_at 116 (by decide +kernel) (by decide +kernel)
theorem kw117 : (Cond.fieldLink "java/lang/Throwable" 24 "java/lang/Throwable" "suppressedExceptions" "Ljava/util/List;" : Cond) ∈ gW := gW_at 117 (by decide +kernel) (by decide +kernel)
theorem kw126 : (Cond.arrayClass .byte : Cond) ∈ gW := gW_at 126 (by decide +kernel) (by decide +kernel)
theorem kw127 : (Cond.methodLink RS 39 yS_checkKey : Cond) ∈ gW := gW_at 127 (by decide +kernel) (by decide +kernel)
theorem kw128 : (Cond.static yS_checkKey : Cond) ∈ gW := gW_at 128 (by decide +kernel) (by decide +kernel)
theorem kw129 : (Cond.code yS_checkKey cS_checkKey 1 none : Cond) ∈ gW := gW_at 129 (by decide +kernel) (by decide +kernel)
theorem kw131 : (Cond.constant RS 85 (1000000000) : Cond) ∈ gW := gW_at 131 (by decide +kernel) (by decide +kernel)
theorem kw133 : (Cond.classLink RS 68 "java/lang/IndexOutOfBoundsException" : Cond) ∈ gW := gW_at 133 (by decide +kernel) (by decide +kernel)
theorem kw134 : (Cond.instantiable "java/lang/IndexOutOfBoundsException" 6 : Cond) ∈ gW := gW_at 134 (by decide +kernel) (by decide +kernel)
theorem kw136 : (Cond.selects "java/lang/IndexOutOfBoundsException" ⟨"java/lang/Throwable", "fillInStackTrace", "(I)Ljava/lang/Throwable;"⟩ ⟨"java/lang/Throwable", "fillInStackTrace", "(I)Ljava/lang/Throwable;"⟩ : Cond) ∈ gW := gW_at 136 (by decide +kernel) (by decide +kernel)
theorem kw143 : (Cond.methodLink RS 72 ⟨"java/lang/IndexOutOfBoundsException", "<init>", "(Ljava/lang/String;)V"⟩ : Cond) ∈ gW := gW_at 143 (by decide +kernel) (by decide +kernel)
theorem kw144 : (Cond.instanceMethod ⟨"java/lang/IndexOutOfBoundsException", "<init>", "(Ljava/lang/String;)V"⟩ : Cond) ∈ gW := gW_at 144 (by decide +kernel) (by decide +kernel)
theorem kw146 : (Cond.methodLink "java/lang/IndexOutOfBoundsException" 7 ⟨"java/lang/RuntimeException", "<init>", "(Ljava/lang/String;)V"⟩ : Cond) ∈ gW := gW_at 146 (by decide +kernel) (by decide +kernel)
theorem kw149 : (Cond.methodLink RS 23 yS_leafWithNumber : Cond) ∈ gW := gW_at 149 (by decide +kernel) (by decide +kernel)
theorem kw150 : (Cond.static yS_leafWithNumber : Cond) ∈ gW := gW_at 150 (by decide +kernel) (by decide +kernel)
theorem kw151 : (Cond.code yS_leafWithNumber cS_leafWithNumber 5 (some (.object "StampTables$Block")) : Cond) ∈ gW := gW_at 151 (by decide +kernel) (by decide +kernel)
theorem kw152 : (Cond.instantiable RB 3 : Cond) ∈ gW := gW_at 152 (by decide +kernel) (by decide +kernel)
theorem kw154 : (Cond.instanceMethod yB_init : Cond) ∈ gW := gW_at 154 (by decide +kernel) (by decide +kernel)
theorem kw155 : (Cond.code yB_init cB_init 4 none : Cond) ∈ gW := gW_at 155 (by decide +kernel) (by decide +kernel)
theorem kw156 : (Cond.methodLink RB 1 objectInit : Cond) ∈ gW := gW_at 156 (by decide +kernel) (by decide +kernel)
theorem kw157 : (Cond.fieldLink RB 7 "StampTables$Block" "lower" "LStampTables$Block;" : Cond) ∈ gW := gW_at 157 (by decide +kernel) (by decide +kernel)
theorem kw159 : (Cond.fieldLink RB 13 "StampTables$Block" "upper" "LStampTables$Block;" : Cond) ∈ gW := gW_at 159 (by decide +kernel) (by decide +kernel)
theorem kw161 : (Cond.fieldLink RB 16 "StampTables$Block" "taken" "[J" : Cond) ∈ gW := gW_at 161 (by decide +kernel) (by decide +kernel)
theorem kw170 : (Cond.arrayClass .long : Cond) ∈ gW := gW_at 170 (by decide +kernel) (by decide +kernel)
theorem kw171 : (Cond.methodLink RS 27 yS_addTable : Cond) ∈ gW := gW_at 171 (by decide +kernel) (by decide +kernel)
theorem kw173 : (Cond.instanceMethod yS_addTable : Cond) ∈ gW := gW_at 173 (by decide +kernel) (by decide +kernel)
theorem kw174 : (Cond.code yS_addTable cS_addTable 5 (some .int) : Cond) ∈ gW := gW_at 174 (by decide +kernel) (by decide +kernel)
theorem kw175 : (Cond.methodLink RS 90 yS_rewritten : Cond) ∈ gW := gW_at 175 (by decide +kernel) (by decide +kernel)
theorem kw176 : (Cond.static yS_rewritten : Cond) ∈ gW := gW_at 176 (by decide +kernel) (by decide +kernel)
theorem kw177 : (Cond.code yS_rewritten cS_rewritten 6 (some (.object "StampTables$Block")) : Cond) ∈ gW := gW_at 177 (by decide +kernel) (by decide +kernel)
theorem kw178 : (Cond.methodLink RS 94 yS_lowerOf : Cond) ∈ gW := gW_at 178 (by decide +kernel) (by decide +kernel)
theorem kw179 : (Cond.static yS_lowerOf : Cond) ∈ gW := gW_at 179 (by decide +kernel) (by decide +kernel)
theorem kw180 : (Cond.code yS_lowerOf cS_lowerOf 1 (some (.object "StampTables$Block")) : Cond) ∈ gW := gW_at 180 (by decide +kernel) (by decide +kernel)
theorem kw181 : (Cond.methodLink RS 98 yS_upperOf : Cond) ∈ gW := gW_at 181 (by decide +kernel) (by decide +kernel)
theorem kw182 : (Cond.static yS_upperOf : Cond) ∈ gW := gW_at 182 (by decide +kernel) (by decide +kernel)
theorem kw183 : (Cond.code yS_upperOf cS_upperOf 1 (some (.object "StampTables$Block")) : Cond) ∈ gW := gW_at 183 (by decide +kernel) (by decide +kernel)
theorem kw184 : (Cond.methodLink RS 101 yS_isInUpperHalf : Cond) ∈ gW := gW_at 184 (by decide +kernel) (by decide +kernel)
theorem kw185 : (Cond.static yS_isInUpperHalf : Cond) ∈ gW := gW_at 185 (by decide +kernel) (by decide +kernel)
theorem kw186 : (Cond.code yS_isInUpperHalf cS_isInUpperHalf 2 (some .boolean) : Cond) ∈ gW := gW_at 186 (by decide +kernel) (by decide +kernel)
theorem kw187 : (Cond.methodLink RS 105 yS_joined : Cond) ∈ gW := gW_at 187 (by decide +kernel) (by decide +kernel)
theorem kw188 : (Cond.static yS_joined : Cond) ∈ gW := gW_at 188 (by decide +kernel) (by decide +kernel)
theorem kw189 : (Cond.code yS_joined cS_joined 4 (some (.object "StampTables$Block")) : Cond) ∈ gW := gW_at 189 (by decide +kernel) (by decide +kernel)
theorem kw190 : (Cond.methodLink RS 46 yS_takenOf : Cond) ∈ gW := gW_at 190 (by decide +kernel) (by decide +kernel)
theorem kw191 : (Cond.static yS_takenOf : Cond) ∈ gW := gW_at 191 (by decide +kernel) (by decide +kernel)
theorem kw192 : (Cond.code yS_takenOf cS_takenOf 2 (some .long) : Cond) ∈ gW := gW_at 192 (by decide +kernel) (by decide +kernel)
theorem kw193 : (Cond.methodLink RS 109 yS_takenOfNothing : Cond) ∈ gW := gW_at 193 (by decide +kernel) (by decide +kernel)
theorem kw194 : (Cond.static yS_takenOfNothing : Cond) ∈ gW := gW_at 194 (by decide +kernel) (by decide +kernel)
theorem kw195 : (Cond.code yS_takenOfNothing cS_takenOfNothing 1 (some .long) : Cond) ∈ gW := gW_at 195 (by decide +kernel) (by decide +kernel)
theorem kw196 : (Cond.constantLong RS 131 (-1) : Cond) ∈ gW := gW_at 196 (by decide +kernel) (by decide +kernel)
theorem kw197 : (Cond.methodLink RS 120 yS_takenTogether : Cond) ∈ gW := gW_at 197 (by decide +kernel) (by decide +kernel)
theorem kw198 : (Cond.static yS_takenTogether : Cond) ∈ gW := gW_at 198 (by decide +kernel) (by decide +kernel)
theorem kw199 : (Cond.code yS_takenTogether cS_takenTogether 5 (some .long) : Cond) ∈ gW := gW_at 199 (by decide +kernel) (by decide +kernel)
theorem kw200 : (Cond.methodLink RS 133 ⟨"java/lang/Math", "max", "(JJ)J"⟩ : Cond) ∈ gW := gW_at 200 (by decide +kernel) (by decide +kernel)
theorem kw201 : (Cond.static ⟨"java/lang/Math", "max", "(JJ)J"⟩ : Cond) ∈ gW := gW_at 201 (by decide +kernel) (by decide +kernel)
theorem kw203 : (Cond.methodLink RL 57 yL_delete : Cond) ∈ gW := gW_at 203 (by decide +kernel) (by decide +kernel)
theorem kw204 : (Cond.static yL_delete : Cond) ∈ gW := gW_at 204 (by decide +kernel) (by decide +kernel)
theorem kw205 : (Cond.codeWith yL_delete cL_delete 6 (some .int) [(0, 12, 15, 13), (0, 12, 19, 15)] : Cond) ∈ gW := gW_at 205 (by decide +kernel) (by decide +kernel)
theorem kw206 : (Cond.methodLink RL 17 yS_delete : Cond) ∈ gW := gW_at 206 (by decide +kernel) (by decide +kernel)
theorem kw207 : (Cond.instanceMethod yS_delete : Cond) ∈ gW := gW_at 207 (by decide +kernel) (by decide +kernel)
theorem kw208 : (Cond.selects RS yS_delete yS_delete : Cond) ∈ gW := gW_at 208 (by decide +kernel) (by decide +kernel)
theorem kw209 : (Cond.code yS_delete cS_delete 4 (some .int) : Cond) ∈ gW := gW_at 209 (by decide +kernel) (by decide +kernel)
theorem kw210 : (Cond.methodLink RS 31 yS_leafWithoutNumber : Cond) ∈ gW := gW_at 210 (by decide +kernel) (by decide +kernel)
theorem kw211 : (Cond.static yS_leafWithoutNumber : Cond) ∈ gW := gW_at 211 (by decide +kernel) (by decide +kernel)
theorem kw212 : (Cond.code yS_leafWithoutNumber cS_leafWithoutNumber 2 (some (.object "StampTables$Block")) : Cond) ∈ gW := gW_at 212 (by decide +kernel) (by decide +kernel)
theorem kw213 : (Cond.methodLink RL 61 yL_get : Cond) ∈ gW := gW_at 213 (by decide +kernel) (by decide +kernel)
theorem kw214 : (Cond.static yL_get : Cond) ∈ gW := gW_at 214 (by decide +kernel) (by decide +kernel)
theorem kw215 : (Cond.codeWith yL_get cL_get 5 (some .int) [(0, 9, 12, 13), (0, 9, 16, 25)] : Cond) ∈ gW := gW_at 215 (by decide +kernel) (by decide +kernel)
theorem kw216 : (Cond.classLink RL 25 "java/lang/UnsupportedOperationException" : Cond) ∈ gW := gW_at 216 (by decide +kernel) (by decide +kernel)
theorem kw217 : (Cond.methodLink RL 21 yS_get : Cond) ∈ gW := gW_at 217 (by decide +kernel) (by decide +kernel)
theorem kw218 : (Cond.instanceMethod yS_get : Cond) ∈ gW := gW_at 218 (by decide +kernel) (by decide +kernel)
theorem kw219 : (Cond.selects RS yS_get yS_get : Cond) ∈ gW := gW_at 219 (by decide +kernel) (by decide +kernel)
theorem kw220 : (Cond.code yS_get cS_get 4 (some .long) : Cond) ∈ gW := gW_at 220 (by decide +kernel) (by decide +kernel)
theorem kw221 : (Cond.methodLink RS 42 yS_leafOf : Cond) ∈ gW := gW_at 221 (by decide +kernel) (by decide +kernel)
theorem kw222 : (Cond.static yS_leafOf : Cond) ∈ gW := gW_at 222 (by decide +kernel) (by decide +kernel)
theorem kw223 : (Cond.code yS_leafOf cS_leafOf 4 (some (.object "StampTables$Block")) : Cond) ∈ gW := gW_at 223 (by decide +kernel) (by decide +kernel)
theorem kw224 : (Cond.classLink RS 50 "java/lang/UnsupportedOperationException" : Cond) ∈ gW := gW_at 224 (by decide +kernel) (by decide +kernel)
theorem kw225 : (Cond.instantiable "java/lang/UnsupportedOperationException" 6 : Cond) ∈ gW := gW_at 225 (by decide +kernel) (by decide +kernel)
theorem kw227 : (Cond.selects "java/lang/UnsupportedOperationException" ⟨"java/lang/Throwable", "fillInStackTrace", "(I)Ljava/lang/Throwable;"⟩ ⟨"java/lang/Throwable", "fillInStackTrace", "(I)Ljava/lang/Throwable;"⟩ : Cond) ∈ gW := gW_at 227 (by decide +kernel) (by decide +kernel)
theorem kw234 : (Cond.methodLink RS 54 ⟨"java/lang/UnsupportedOperationException", "<init>", "(Ljava/lang/String;)V"⟩ : Cond) ∈ gW := gW_at 234 (by decide +kernel) (by decide +kernel)
theorem kw235 : (Cond.instanceMethod ⟨"java/lang/UnsupportedOperationException", "<init>", "(Ljava/lang/String;)V"⟩ : Cond) ∈ gW := gW_at 235 (by decide +kernel) (by decide +kernel)
theorem kw237 : (Cond.methodLink "java/lang/UnsupportedOperationException" 7 ⟨"java/lang/RuntimeException", "<init>", "(Ljava/lang/String;)V"⟩ : Cond) ∈ gW := gW_at 237 (by decide +kernel) (by decide +kernel)
theorem kw240 : (Cond.methodLink RL 65 yL_stamp : Cond) ∈ gW := gW_at 240 (by decide +kernel) (by decide +kernel)
theorem kw241 : (Cond.static yL_stamp : Cond) ∈ gW := gW_at 241 (by decide +kernel) (by decide +kernel)
theorem kw242 : (Cond.codeWith yL_stamp cL_stamp 5 (some .int) [(0, 10, 13, 13)] : Cond) ∈ gW := gW_at 242 (by decide +kernel) (by decide +kernel)
theorem kw243 : (Cond.methodLink RL 27 yS_stamp : Cond) ∈ gW := gW_at 243 (by decide +kernel) (by decide +kernel)
theorem kw244 : (Cond.instanceMethod yS_stamp : Cond) ∈ gW := gW_at 244 (by decide +kernel) (by decide +kernel)
theorem kw245 : (Cond.selects RS yS_stamp yS_stamp : Cond) ∈ gW := gW_at 245 (by decide +kernel) (by decide +kernel)
theorem kw246 : (Cond.code yS_stamp cS_stamp 3 (some .int) : Cond) ∈ gW := gW_at 246 (by decide +kernel) (by decide +kernel)
theorem kw247 : (Cond.methodLink RL 68 yL_part : Cond) ∈ gW := gW_at 247 (by decide +kernel) (by decide +kernel)
theorem kw248 : (Cond.static yL_part : Cond) ∈ gW := gW_at 248 (by decide +kernel) (by decide +kernel)
theorem kw249 : (Cond.codeWith yL_part cL_part 7 (some .int) [(0, 13, 16, 13)] : Cond) ∈ gW := gW_at 249 (by decide +kernel) (by decide +kernel)
theorem kw250 : (Cond.methodLink RL 31 yS_part : Cond) ∈ gW := gW_at 250 (by decide +kernel) (by decide +kernel)
theorem kw251 : (Cond.instanceMethod yS_part : Cond) ∈ gW := gW_at 251 (by decide +kernel) (by decide +kernel)
theorem kw252 : (Cond.selects RS yS_part yS_part : Cond) ∈ gW := gW_at 252 (by decide +kernel) (by decide +kernel)
theorem kw253 : (Cond.code yS_part cS_part 5 (some .long) : Cond) ∈ gW := gW_at 253 (by decide +kernel) (by decide +kernel)
theorem kw256 : (Cond.methodLink RS 64 yS_takenWithin : Cond) ∈ gW := gW_at 256 (by decide +kernel) (by decide +kernel)
theorem kw257 : (Cond.static yS_takenWithin : Cond) ∈ gW := gW_at 257 (by decide +kernel) (by decide +kernel)
theorem kw258 : (Cond.code yS_takenWithin cS_takenWithin 12 (some .long) : Cond) ∈ gW := gW_at 258 (by decide +kernel) (by decide +kernel)
theorem kw259 : (Cond.methodLink RL 72 yL_at : Cond) ∈ gW := gW_at 259 (by decide +kernel) (by decide +kernel)
theorem kw260 : (Cond.static yL_at : Cond) ∈ gW := gW_at 260 (by decide +kernel) (by decide +kernel)
theorem kw261 : (Cond.codeWith yL_at cL_at 5 (some .int) [(0, 10, 13, 13), (0, 10, 17, 15)] : Cond) ∈ gW := gW_at 261 (by decide +kernel) (by decide +kernel)
theorem kw262 : (Cond.methodLink RL 35 yS_at : Cond) ∈ gW := gW_at 262 (by decide +kernel) (by decide +kernel)
theorem kw263 : (Cond.instanceMethod yS_at : Cond) ∈ gW := gW_at 263 (by decide +kernel) (by decide +kernel)
theorem kw264 : (Cond.selects RS yS_at yS_at : Cond) ∈ gW := gW_at 264 (by decide +kernel) (by decide +kernel)
theorem kw265 : (Cond.code yS_at cS_at 4 (some .int) : Cond) ∈ gW := gW_at 265 (by decide +kernel) (by decide +kernel)
theorem kw267 : (Cond.methodLink RS 73 yS_keyBehind : Cond) ∈ gW := gW_at 267 (by decide +kernel) (by decide +kernel)
theorem kw268 : (Cond.static yS_keyBehind : Cond) ∈ gW := gW_at 268 (by decide +kernel) (by decide +kernel)
theorem kw269 : (Cond.code yS_keyBehind cS_keyBehind 8 (some .int) : Cond) ∈ gW := gW_at 269 (by decide +kernel) (by decide +kernel)
theorem kw270 : (Cond.methodLink RL 75 yL_differ : Cond) ∈ gW := gW_at 270 (by decide +kernel) (by decide +kernel)
theorem kw271 : (Cond.static yL_differ : Cond) ∈ gW := gW_at 271 (by decide +kernel) (by decide +kernel)
theorem kw272 : (Cond.codeWith yL_differ cL_differ 5 (some .int) [(0, 10, 13, 13)] : Cond) ∈ gW := gW_at 272 (by decide +kernel) (by decide +kernel)
theorem kw273 : (Cond.methodLink RL 38 yS_differ : Cond) ∈ gW := gW_at 273 (by decide +kernel) (by decide +kernel)
theorem kw274 : (Cond.instanceMethod yS_differ : Cond) ∈ gW := gW_at 274 (by decide +kernel) (by decide +kernel)
theorem kw275 : (Cond.selects RS yS_differ yS_differ : Cond) ∈ gW := gW_at 275 (by decide +kernel) (by decide +kernel)
theorem kw276 : (Cond.code yS_differ cS_differ 3 (some .int) : Cond) ∈ gW := gW_at 276 (by decide +kernel) (by decide +kernel)
theorem kw277 : (Cond.methodLink RS 77 yS_differences : Cond) ∈ gW := gW_at 277 (by decide +kernel) (by decide +kernel)
theorem kw278 : (Cond.static yS_differences : Cond) ∈ gW := gW_at 278 (by decide +kernel) (by decide +kernel)
theorem kw279 : (Cond.code yS_differences cS_differences 3 (some .int) : Cond) ∈ gW := gW_at 279 (by decide +kernel) (by decide +kernel)
theorem kw280 : (Cond.methodLink RS 124 yS_haveSameNumber : Cond) ∈ gW := gW_at 280 (by decide +kernel) (by decide +kernel)
theorem kw281 : (Cond.static yS_haveSameNumber : Cond) ∈ gW := gW_at 281 (by decide +kernel) (by decide +kernel)
theorem kw282 : (Cond.code yS_haveSameNumber cS_haveSameNumber 2 (some .boolean) : Cond) ∈ gW := gW_at 282 (by decide +kernel) (by decide +kernel)
theorem kw283 : (Cond.classLink RL 42 RM : Cond) ∈ gW := gW_at 283 (by decide +kernel) (by decide +kernel)
theorem kw284 : (Cond.instantiable RM 9 : Cond) ∈ gW := gW_at 284 (by decide +kernel) (by decide +kernel)
theorem kw285 : (Cond.methodLink RL 44 yM_init : Cond) ∈ gW := gW_at 285 (by decide +kernel) (by decide +kernel)
theorem kw286 : (Cond.instanceMethod yM_init : Cond) ∈ gW := gW_at 286 (by decide +kernel) (by decide +kernel)
theorem kw287 : (Cond.code yM_init cM_init 1 none : Cond) ∈ gW := gW_at 287 (by decide +kernel) (by decide +kernel)
theorem kw288 : (Cond.methodLink RM 1 objectInit : Cond) ∈ gW := gW_at 288 (by decide +kernel) (by decide +kernel)
theorem kw289 : (Cond.fieldLink RM 37 "StampTablesModel" "err" "I" : Cond) ∈ gW := gW_at 289 (by decide +kernel) (by decide +kernel)
theorem kw290 : (Cond.fieldLink RM 7 "StampTablesModel" "of" "[I" : Cond) ∈ gW := gW_at 290 (by decide +kernel) (by decide +kernel)
theorem kw291 : (Cond.fieldLink RM 13 "StampTablesModel" "key" "[I" : Cond) ∈ gW := gW_at 291 (by decide +kernel) (by decide +kernel)
theorem kw292 : (Cond.fieldLink RM 16 "StampTablesModel" "stamps" "[I" : Cond) ∈ gW := gW_at 292 (by decide +kernel) (by decide +kernel)
theorem kw293 : (Cond.fieldLink RM 19 "StampTablesModel" "number" "[J" : Cond) ∈ gW := gW_at 293 (by decide +kernel) (by decide +kernel)
theorem kw294 : (Cond.fieldLink RM 23 "StampTablesModel" "none" "[Z" : Cond) ∈ gW := gW_at 294 (by decide +kernel) (by decide +kernel)
theorem kw295 : (Cond.fieldLink RM 27 "StampTablesModel" "last" "[I" : Cond) ∈ gW := gW_at 295 (by decide +kernel) (by decide +kernel)
theorem kw296 : (Cond.fieldLink RM 30 "StampTablesModel" "other" "[I" : Cond) ∈ gW := gW_at 296 (by decide +kernel) (by decide +kernel)
theorem kw297 : (Cond.fieldLink RM 33 "StampTablesModel" "many" "I" : Cond) ∈ gW := gW_at 297 (by decide +kernel) (by decide +kernel)
theorem kw317 : (Cond.arrayClass .int : Cond) ∈ gW := gW_at 317 (by decide +kernel) (by decide +kernel)
theorem kw318 : (Cond.arrayClass .boolean : Cond) ∈ gW := gW_at 318 (by decide +kernel) (by decide +kernel)
theorem kw319 : (Cond.methodLink RL 53 yM_thrown : Cond) ∈ gW := gW_at 319 (by decide +kernel) (by decide +kernel)
theorem kw320 : (Cond.instanceMethod yM_thrown : Cond) ∈ gW := gW_at 320 (by decide +kernel) (by decide +kernel)
theorem kw321 : (Cond.selects RM yM_thrown yM_thrown : Cond) ∈ gW := gW_at 321 (by decide +kernel) (by decide +kernel)
theorem kw322 : (Cond.code yM_thrown cM_thrown 1 (some .int) : Cond) ∈ gW := gW_at 322 (by decide +kernel) (by decide +kernel)
theorem kw323 : (Cond.methodLink RL 52 yM_put : Cond) ∈ gW := gW_at 323 (by decide +kernel) (by decide +kernel)
theorem kw324 : (Cond.instanceMethod yM_put : Cond) ∈ gW := gW_at 324 (by decide +kernel) (by decide +kernel)
theorem kw325 : (Cond.selects RM yM_put yM_put : Cond) ∈ gW := gW_at 325 (by decide +kernel) (by decide +kernel)
theorem kw326 : (Cond.code yM_put cM_put 6 (some .int) : Cond) ∈ gW := gW_at 326 (by decide +kernel) (by decide +kernel)
theorem kw327 : (Cond.methodLink RM 52 yM_change : Cond) ∈ gW := gW_at 327 (by decide +kernel) (by decide +kernel)
theorem kw329 : (Cond.instanceMethod yM_change : Cond) ∈ gW := gW_at 329 (by decide +kernel) (by decide +kernel)
theorem kw330 : (Cond.code yM_change cM_change 7 (some .int) : Cond) ∈ gW := gW_at 330 (by decide +kernel) (by decide +kernel)
theorem kw331 : (Cond.methodLink RM 40 yM_noTable : Cond) ∈ gW := gW_at 331 (by decide +kernel) (by decide +kernel)
theorem kw333 : (Cond.instanceMethod yM_noTable : Cond) ∈ gW := gW_at 333 (by decide +kernel) (by decide +kernel)
theorem kw334 : (Cond.code yM_noTable cM_noTable 2 (some .boolean) : Cond) ∈ gW := gW_at 334 (by decide +kernel) (by decide +kernel)
theorem kw335 : (Cond.methodLink RM 44 yM_noKey : Cond) ∈ gW := gW_at 335 (by decide +kernel) (by decide +kernel)
theorem kw336 : (Cond.static yM_noKey : Cond) ∈ gW := gW_at 336 (by decide +kernel) (by decide +kernel)
theorem kw337 : (Cond.code yM_noKey cM_noKey 1 (some .boolean) : Cond) ∈ gW := gW_at 337 (by decide +kernel) (by decide +kernel)
theorem kw338 : (Cond.constant RM 47 (1000000000) : Cond) ∈ gW := gW_at 338 (by decide +kernel) (by decide +kernel)
theorem kw339 : (Cond.methodLink RM 48 yM_fails : Cond) ∈ gW := gW_at 339 (by decide +kernel) (by decide +kernel)
theorem kw341 : (Cond.instanceMethod yM_fails : Cond) ∈ gW := gW_at 341 (by decide +kernel) (by decide +kernel)
theorem kw342 : (Cond.code yM_fails cM_fails 3 (some .boolean) : Cond) ∈ gW := gW_at 342 (by decide +kernel) (by decide +kernel)
theorem kw343 : (Cond.methodLink RL 60 yM_delete : Cond) ∈ gW := gW_at 343 (by decide +kernel) (by decide +kernel)
theorem kw344 : (Cond.instanceMethod yM_delete : Cond) ∈ gW := gW_at 344 (by decide +kernel) (by decide +kernel)
theorem kw345 : (Cond.selects RM yM_delete yM_delete : Cond) ∈ gW := gW_at 345 (by decide +kernel) (by decide +kernel)
theorem kw346 : (Cond.code yM_delete cM_delete 4 (some .int) : Cond) ∈ gW := gW_at 346 (by decide +kernel) (by decide +kernel)
theorem kw347 : (Cond.methodLink RL 64 yM_get : Cond) ∈ gW := gW_at 347 (by decide +kernel) (by decide +kernel)
theorem kw348 : (Cond.instanceMethod yM_get : Cond) ∈ gW := gW_at 348 (by decide +kernel) (by decide +kernel)
theorem kw349 : (Cond.selects RM yM_get yM_get : Cond) ∈ gW := gW_at 349 (by decide +kernel) (by decide +kernel)
theorem kw350 : (Cond.code yM_get cM_get 4 (some .long) : Cond) ∈ gW := gW_at 350 (by decide +kernel) (by decide +kernel)
theorem kw351 : (Cond.methodLink RM 56 yM_wrote : Cond) ∈ gW := gW_at 351 (by decide +kernel) (by decide +kernel)
theorem kw353 : (Cond.instanceMethod yM_wrote : Cond) ∈ gW := gW_at 353 (by decide +kernel) (by decide +kernel)
theorem kw354 : (Cond.code yM_wrote cM_wrote 4 (some .int) : Cond) ∈ gW := gW_at 354 (by decide +kernel) (by decide +kernel)
theorem kw355 : (Cond.methodLink RL 67 yM_stamp : Cond) ∈ gW := gW_at 355 (by decide +kernel) (by decide +kernel)
theorem kw356 : (Cond.instanceMethod yM_stamp : Cond) ∈ gW := gW_at 356 (by decide +kernel) (by decide +kernel)
theorem kw357 : (Cond.selects RM yM_stamp yM_stamp : Cond) ∈ gW := gW_at 357 (by decide +kernel) (by decide +kernel)
theorem kw358 : (Cond.code yM_stamp cM_stamp 4 (some .int) : Cond) ∈ gW := gW_at 358 (by decide +kernel) (by decide +kernel)
theorem kw359 : (Cond.methodLink RL 71 yM_part : Cond) ∈ gW := gW_at 359 (by decide +kernel) (by decide +kernel)
theorem kw360 : (Cond.instanceMethod yM_part : Cond) ∈ gW := gW_at 360 (by decide +kernel) (by decide +kernel)
theorem kw361 : (Cond.selects RM yM_part yM_part : Cond) ∈ gW := gW_at 361 (by decide +kernel) (by decide +kernel)
theorem kw362 : (Cond.code yM_part cM_part 13 (some .long) : Cond) ∈ gW := gW_at 362 (by decide +kernel) (by decide +kernel)
theorem kw363 : (Cond.methodLink RM 60 yM_whole : Cond) ∈ gW := gW_at 363 (by decide +kernel) (by decide +kernel)
theorem kw365 : (Cond.instanceMethod yM_whole : Cond) ∈ gW := gW_at 365 (by decide +kernel) (by decide +kernel)
theorem kw366 : (Cond.code yM_whole cM_whole 4 none : Cond) ∈ gW := gW_at 366 (by decide +kernel) (by decide +kernel)
theorem kw367 : (Cond.methodLink RM 64 yM_has : Cond) ∈ gW := gW_at 367 (by decide +kernel) (by decide +kernel)
theorem kw369 : (Cond.instanceMethod yM_has : Cond) ∈ gW := gW_at 369 (by decide +kernel) (by decide +kernel)
theorem kw370 : (Cond.code yM_has cM_has 2 (some .boolean) : Cond) ∈ gW := gW_at 370 (by decide +kernel) (by decide +kernel)
theorem kw371 : (Cond.methodLink RL 74 yM_at : Cond) ∈ gW := gW_at 371 (by decide +kernel) (by decide +kernel)
theorem kw372 : (Cond.instanceMethod yM_at : Cond) ∈ gW := gW_at 372 (by decide +kernel) (by decide +kernel)
theorem kw373 : (Cond.selects RM yM_at yM_at : Cond) ∈ gW := gW_at 373 (by decide +kernel) (by decide +kernel)
theorem kw374 : (Cond.code yM_at cM_at 5 (some .int) : Cond) ∈ gW := gW_at 374 (by decide +kernel) (by decide +kernel)
theorem kw375 : (Cond.methodLink RL 77 yM_differ : Cond) ∈ gW := gW_at 375 (by decide +kernel) (by decide +kernel)
theorem kw376 : (Cond.instanceMethod yM_differ : Cond) ∈ gW := gW_at 376 (by decide +kernel) (by decide +kernel)
theorem kw377 : (Cond.selects RM yM_differ yM_differ : Cond) ∈ gW := gW_at 377 (by decide +kernel) (by decide +kernel)
theorem kw378 : (Cond.code yM_differ cM_differ 7 (some .int) : Cond) ∈ gW := gW_at 378 (by decide +kernel) (by decide +kernel)
theorem kw379 : (Cond.methodLink RL 81 yM_tables : Cond) ∈ gW := gW_at 379 (by decide +kernel) (by decide +kernel)
theorem kw380 : (Cond.instanceMethod yM_tables : Cond) ∈ gW := gW_at 380 (by decide +kernel) (by decide +kernel)
theorem kw381 : (Cond.selects RM yM_tables yM_tables : Cond) ∈ gW := gW_at 381 (by decide +kernel) (by decide +kernel)
theorem kw382 : (Cond.code yM_tables cM_tables 1 (some .int) : Cond) ∈ gW := gW_at 382 (by decide +kernel) (by decide +kernel)
theorem kw383 : (Cond.constantLong RL 45 (4294967295) : Cond) ∈ gW := gW_at 383 (by decide +kernel) (by decide +kernel)
theorem kwMax : Cond.code Lib.MathLoose.max_long.x Lib.MathLoose.max_long.code 4 (some .long) ∈ gW := gW_at 202 (by decide +kernel) (by decide +kernel)
theorem inB : ∀ w ∈ u_ws RB TB 3, w ∈ gW := by
  intro w hw
  exact List.mem_filter.mpr ⟨(by decide +kernel : ∀ w ∈ u_ws RB TB 3, w ∈ lw_tbl) w hw, (by decide +kernel : ∀ w ∈ u_ws RB TB 3, goodWord w = true) w hw⟩
theorem inS : ∀ w ∈ u_ws RS TS 2, w ∈ gW := by
  intro w hw
  exact List.mem_filter.mpr ⟨(by decide +kernel : ∀ w ∈ u_ws RS TS 2, w ∈ lw_tbl) w hw, (by decide +kernel : ∀ w ∈ u_ws RS TS 2, goodWord w = true) w hw⟩
theorem inM : ∀ w ∈ u_ws RM TM 9, w ∈ gW := by
  intro w hw
  exact List.mem_filter.mpr ⟨(by decide +kernel : ∀ w ∈ u_ws RM TM 9, w ∈ lw_tbl) w hw, (by decide +kernel : ∀ w ∈ u_ws RM TM 9, goodWord w = true) w hw⟩
def wS_init : List Cond := .code yS_init cS_init 1 none :: gW
def wS_tables : List Cond := .code yS_tables cS_tables 1 (some .int) :: gW
def wL_put : List Cond := .codeWith yL_put cL_put 8 (some .int) [(0, 14, 17, 13), (0, 14, 21, 15)] :: gW
def wS_put : List Cond := .code yS_put cS_put 6 (some .int) :: gW
def wS_checkChange : List Cond := .code yS_checkChange cS_checkChange 4 none :: gW
def wS_checkTable : List Cond := .code yS_checkTable cS_checkTable 2 none :: gW
def wS_checkKey : List Cond := .code yS_checkKey cS_checkKey 1 none :: gW
def wS_leafWithNumber : List Cond := .code yS_leafWithNumber cS_leafWithNumber 5 (some (.object "StampTables$Block")) :: gW
def wB_init : List Cond := .code yB_init cB_init 4 none :: gW
def wS_addTable : List Cond := .code yS_addTable cS_addTable 5 (some .int) :: gW
def wS_rewritten : List Cond := .code yS_rewritten cS_rewritten 6 (some (.object "StampTables$Block")) :: gW
def wS_lowerOf : List Cond := .code yS_lowerOf cS_lowerOf 1 (some (.object "StampTables$Block")) :: gW
def wS_upperOf : List Cond := .code yS_upperOf cS_upperOf 1 (some (.object "StampTables$Block")) :: gW
def wS_isInUpperHalf : List Cond := .code yS_isInUpperHalf cS_isInUpperHalf 2 (some .boolean) :: gW
def wS_joined : List Cond := .code yS_joined cS_joined 4 (some (.object "StampTables$Block")) :: gW
def wS_takenOf : List Cond := .code yS_takenOf cS_takenOf 2 (some .long) :: gW
def wS_takenOfNothing : List Cond := .code yS_takenOfNothing cS_takenOfNothing 1 (some .long) :: gW
def wS_takenTogether : List Cond := .code yS_takenTogether cS_takenTogether 5 (some .long) :: gW
def wL_delete : List Cond := .codeWith yL_delete cL_delete 6 (some .int) [(0, 12, 15, 13), (0, 12, 19, 15)] :: gW
def wS_delete : List Cond := .code yS_delete cS_delete 4 (some .int) :: gW
def wS_leafWithoutNumber : List Cond := .code yS_leafWithoutNumber cS_leafWithoutNumber 2 (some (.object "StampTables$Block")) :: gW
def wL_get : List Cond := .codeWith yL_get cL_get 5 (some .int) [(0, 9, 12, 13), (0, 9, 16, 25)] :: gW
def wS_get : List Cond := .code yS_get cS_get 4 (some .long) :: gW
def wS_leafOf : List Cond := .code yS_leafOf cS_leafOf 4 (some (.object "StampTables$Block")) :: gW
def wL_stamp : List Cond := .codeWith yL_stamp cL_stamp 5 (some .int) [(0, 10, 13, 13)] :: gW
def wS_stamp : List Cond := .code yS_stamp cS_stamp 3 (some .int) :: gW
def wL_part : List Cond := .codeWith yL_part cL_part 7 (some .int) [(0, 13, 16, 13)] :: gW
def wS_part : List Cond := .code yS_part cS_part 5 (some .long) :: gW
def wS_takenWithin : List Cond := .code yS_takenWithin cS_takenWithin 12 (some .long) :: gW
def wL_at : List Cond := .codeWith yL_at cL_at 5 (some .int) [(0, 10, 13, 13), (0, 10, 17, 15)] :: gW
def wS_at : List Cond := .code yS_at cS_at 4 (some .int) :: gW
def wS_keyBehind : List Cond := .code yS_keyBehind cS_keyBehind 8 (some .int) :: gW
def wL_differ : List Cond := .codeWith yL_differ cL_differ 5 (some .int) [(0, 10, 13, 13)] :: gW
def wS_differ : List Cond := .code yS_differ cS_differ 3 (some .int) :: gW
def wS_differences : List Cond := .code yS_differences cS_differences 3 (some .int) :: gW
def wS_haveSameNumber : List Cond := .code yS_haveSameNumber cS_haveSameNumber 2 (some .boolean) :: gW
def wM_init : List Cond := .code yM_init cM_init 1 none :: gW
def wM_thrown : List Cond := .code yM_thrown cM_thrown 1 (some .int) :: gW
def wM_put : List Cond := .code yM_put cM_put 6 (some .int) :: gW
def wM_change : List Cond := .code yM_change cM_change 7 (some .int) :: gW
def wM_noTable : List Cond := .code yM_noTable cM_noTable 2 (some .boolean) :: gW
def wM_noKey : List Cond := .code yM_noKey cM_noKey 1 (some .boolean) :: gW
def wM_fails : List Cond := .code yM_fails cM_fails 3 (some .boolean) :: gW
def wM_delete : List Cond := .code yM_delete cM_delete 4 (some .int) :: gW
def wM_get : List Cond := .code yM_get cM_get 4 (some .long) :: gW
def wM_wrote : List Cond := .code yM_wrote cM_wrote 4 (some .int) :: gW
def wM_stamp : List Cond := .code yM_stamp cM_stamp 4 (some .int) :: gW
def wM_part : List Cond := .code yM_part cM_part 13 (some .long) :: gW
def wM_whole : List Cond := .code yM_whole cM_whole 4 none :: gW
def wM_has : List Cond := .code yM_has cM_has 2 (some .boolean) :: gW
def wM_at : List Cond := .code yM_at cM_at 5 (some .int) :: gW
def wM_differ : List Cond := .code yM_differ cM_differ 7 (some .int) :: gW
def wM_tables : List Cond := .code yM_tables cM_tables 1 (some .int) :: gW
theorem gS {own : String} {idx : Nat} {y : MethodName} {w : Cond} (h0 : w ∈ gW) (h1 : Cond.methodLink own idx y ∈ gW) (h2 : Cond.static y ∈ gW) (h3 : Cond.initialized y.cls ∈ gW) : GoodIn gW (va_wsS own idx y (w :: gW)) := by
  intro v hv
  refine gW_ok ?_
  simp only [va_wsS, List.mem_append, List.mem_cons, List.not_mem_nil, or_false] at hv
  rcases hv with (rfl | rfl | rfl) | rfl | hv <;> assumption
theorem gV {own C : String} {idx : Nat} {y : MethodName} {w : Cond} (h0 : w ∈ gW) (h1 : Cond.methodLink own idx y ∈ gW) (h2 : Cond.instanceMethod y ∈ gW) (h3 : Cond.selects C y y ∈ gW) (h4 : Cond.initialized C ∈ gW) : GoodIn gW (wsV own idx C y (w :: gW)) := by
  intro v hv
  refine gW_ok ?_
  simp only [wsV, List.mem_append, List.mem_cons, List.not_mem_nil, or_false] at hv
  rcases hv with (rfl | rfl | rfl | rfl) | rfl | hv <;> assumption
theorem gI {w : Cond} (h0 : w ∈ gW) : GoodIn gW (w :: gW) := by
  intro v hv
  refine gW_ok ?_
  rcases List.mem_cons.mp hv with rfl | hv <;> assumption
theorem gL_78 : GoodIn gW (wsV RL 78 RS yS_tables wS_tables) := gV kw41 kw38 kw39 kw40 kw11
theorem gL_47 : GoodIn gW (va_wsS RL 47 yL_put wL_put) := gS kw44 kw42 kw43 kw10
theorem gL_7 : GoodIn gW (wsV RL 7 RS yS_put wS_put) := gV kw50 kw47 kw48 kw49 kw11
theorem gS_19 : GoodIn gW (wsV RS 19 RS yS_checkChange wS_checkChange) := gV kw54 kw51 kw53 kw0 kw11
theorem gS_35 : GoodIn gW (wsV RS 35 RS yS_checkTable wS_checkTable) := gV kw58 kw55 kw57 kw1 kw11
theorem gS_39 : GoodIn gW (va_wsS RS 39 yS_checkKey wS_checkKey) := gS kw129 kw127 kw128 kw11
theorem gS_23 : GoodIn gW (va_wsS RS 23 yS_leafWithNumber wS_leafWithNumber) := gS kw151 kw149 kw150 kw11
theorem gS_27 : GoodIn gW (wsV RS 27 RS yS_addTable wS_addTable) := gV kw174 kw171 kw173 kw3 kw11
theorem gS_90 : GoodIn gW (va_wsS RS 90 yS_rewritten wS_rewritten) := gS kw177 kw175 kw176 kw11
theorem gS_94 : GoodIn gW (va_wsS RS 94 yS_lowerOf wS_lowerOf) := gS kw180 kw178 kw179 kw11
theorem gS_98 : GoodIn gW (va_wsS RS 98 yS_upperOf wS_upperOf) := gS kw183 kw181 kw182 kw11
theorem gS_101 : GoodIn gW (va_wsS RS 101 yS_isInUpperHalf wS_isInUpperHalf) := gS kw186 kw184 kw185 kw11
theorem gS_105 : GoodIn gW (va_wsS RS 105 yS_joined wS_joined) := gS kw189 kw187 kw188 kw11
theorem gS_46 : GoodIn gW (va_wsS RS 46 yS_takenOf wS_takenOf) := gS kw192 kw190 kw191 kw11
theorem gS_109 : GoodIn gW (va_wsS RS 109 yS_takenOfNothing wS_takenOfNothing) := gS kw195 kw193 kw194 kw11
theorem gS_120 : GoodIn gW (va_wsS RS 120 yS_takenTogether wS_takenTogether) := gS kw199 kw197 kw198 kw11
theorem gL_57 : GoodIn gW (va_wsS RL 57 yL_delete wL_delete) := gS kw205 kw203 kw204 kw10
theorem gL_17 : GoodIn gW (wsV RL 17 RS yS_delete wS_delete) := gV kw209 kw206 kw207 kw208 kw11
theorem gS_31 : GoodIn gW (va_wsS RS 31 yS_leafWithoutNumber wS_leafWithoutNumber) := gS kw212 kw210 kw211 kw11
theorem gL_61 : GoodIn gW (va_wsS RL 61 yL_get wL_get) := gS kw215 kw213 kw214 kw10
theorem gL_21 : GoodIn gW (wsV RL 21 RS yS_get wS_get) := gV kw220 kw217 kw218 kw219 kw11
theorem gS_42 : GoodIn gW (va_wsS RS 42 yS_leafOf wS_leafOf) := gS kw223 kw221 kw222 kw11
theorem gL_65 : GoodIn gW (va_wsS RL 65 yL_stamp wL_stamp) := gS kw242 kw240 kw241 kw10
theorem gL_27 : GoodIn gW (wsV RL 27 RS yS_stamp wS_stamp) := gV kw246 kw243 kw244 kw245 kw11
theorem gL_68 : GoodIn gW (va_wsS RL 68 yL_part wL_part) := gS kw249 kw247 kw248 kw10
theorem gL_31 : GoodIn gW (wsV RL 31 RS yS_part wS_part) := gV kw253 kw250 kw251 kw252 kw11
theorem gS_64 : GoodIn gW (va_wsS RS 64 yS_takenWithin wS_takenWithin) := gS kw258 kw256 kw257 kw11
theorem gL_72 : GoodIn gW (va_wsS RL 72 yL_at wL_at) := gS kw261 kw259 kw260 kw10
theorem gL_35 : GoodIn gW (wsV RL 35 RS yS_at wS_at) := gV kw265 kw262 kw263 kw264 kw11
theorem gS_73 : GoodIn gW (va_wsS RS 73 yS_keyBehind wS_keyBehind) := gS kw269 kw267 kw268 kw11
theorem gL_75 : GoodIn gW (va_wsS RL 75 yL_differ wL_differ) := gS kw272 kw270 kw271 kw10
theorem gL_38 : GoodIn gW (wsV RL 38 RS yS_differ wS_differ) := gV kw276 kw273 kw274 kw275 kw11
theorem gS_77 : GoodIn gW (va_wsS RS 77 yS_differences wS_differences) := gS kw279 kw277 kw278 kw11
theorem gS_124 : GoodIn gW (va_wsS RS 124 yS_haveSameNumber wS_haveSameNumber) := gS kw282 kw280 kw281 kw11
theorem gL_53 : GoodIn gW (wsV RL 53 RM yM_thrown wM_thrown) := gV kw322 kw319 kw320 kw321 kw12
theorem gL_52 : GoodIn gW (wsV RL 52 RM yM_put wM_put) := gV kw326 kw323 kw324 kw325 kw12
theorem gM_52 : GoodIn gW (wsV RM 52 RM yM_change wM_change) := gV kw330 kw327 kw329 kw4 kw12
theorem gM_40 : GoodIn gW (wsV RM 40 RM yM_noTable wM_noTable) := gV kw334 kw331 kw333 kw5 kw12
theorem gM_44 : GoodIn gW (va_wsS RM 44 yM_noKey wM_noKey) := gS kw337 kw335 kw336 kw12
theorem gM_48 : GoodIn gW (wsV RM 48 RM yM_fails wM_fails) := gV kw342 kw339 kw341 kw6 kw12
theorem gL_60 : GoodIn gW (wsV RL 60 RM yM_delete wM_delete) := gV kw346 kw343 kw344 kw345 kw12
theorem gL_64 : GoodIn gW (wsV RL 64 RM yM_get wM_get) := gV kw350 kw347 kw348 kw349 kw12
theorem gM_56 : GoodIn gW (wsV RM 56 RM yM_wrote wM_wrote) := gV kw354 kw351 kw353 kw7 kw12
theorem gL_67 : GoodIn gW (wsV RL 67 RM yM_stamp wM_stamp) := gV kw358 kw355 kw356 kw357 kw12
theorem gL_71 : GoodIn gW (wsV RL 71 RM yM_part wM_part) := gV kw362 kw359 kw360 kw361 kw12
theorem gM_60 : GoodIn gW (wsV RM 60 RM yM_whole wM_whole) := gV kw366 kw363 kw365 kw8 kw12
theorem gM_64 : GoodIn gW (wsV RM 64 RM yM_has wM_has) := gV kw370 kw367 kw369 kw9 kw12
theorem gL_74 : GoodIn gW (wsV RL 74 RM yM_at wM_at) := gV kw374 kw371 kw372 kw373 kw12
theorem gL_77 : GoodIn gW (wsV RL 77 RM yM_differ wM_differ) := gV kw378 kw375 kw376 kw377 kw12
theorem gL_81 : GoodIn gW (wsV RL 81 RM yM_tables wM_tables) := gV kw382 kw379 kw380 kw381 kw12
end
section
theorem dS_init_0 : decode cS_init 0 = .ok (.aload_n 0, 1) := by decide +kernel
theorem dS_init_1 : decode cS_init 1 = .ok (.invokespecial 3, 3) := by decide +kernel
theorem dS_init_4 : decode cS_init 4 = .ok (.aload_n 0, 1) := by decide +kernel
theorem dS_init_5 : decode cS_init 5 = .ok (.sipush 400, 3) := by decide +kernel
theorem dS_init_8 : decode cS_init 8 = .ok (.anewarray 9, 3) := by decide +kernel
theorem dS_init_11 : decode cS_init 11 = .ok (.putfield 11, 3) := by decide +kernel
theorem dS_init_14 : decode cS_init 14 = .ok (.aload_n 0, 1) := by decide +kernel
theorem dS_init_15 : decode cS_init 15 = .ok (.iconst 1, 1) := by decide +kernel
theorem dS_init_16 : decode cS_init 16 = .ok (.putfield 15, 3) := by decide +kernel
theorem dS_init_19 : decode cS_init 19 = .ok (.return_, 1) := by decide +kernel
theorem dS_tables_0 : decode cS_tables 0 = .ok (.aload_n 0, 1) := by decide +kernel
theorem dS_tables_1 : decode cS_tables 1 = .ok (.getfield 15, 3) := by decide +kernel
theorem dS_tables_4 : decode cS_tables 4 = .ok (.ireturn, 1) := by decide +kernel
theorem dS_put_0 : decode cS_put 0 = .ok (.aload_n 0, 1) := by decide +kernel
theorem dS_put_1 : decode cS_put 1 = .ok (.iload_n 1, 1) := by decide +kernel
theorem dS_put_2 : decode cS_put 2 = .ok (.iload_n 2, 1) := by decide +kernel
theorem dS_put_3 : decode cS_put 3 = .ok (.iload 5, 2) := by decide +kernel
theorem dS_put_5 : decode cS_put 5 = .ok (.invokevirtual 19, 3) := by decide +kernel
theorem dS_put_8 : decode cS_put 8 = .ok (.aload_n 0, 1) := by decide +kernel
theorem dS_put_9 : decode cS_put 9 = .ok (.iload_n 1, 1) := by decide +kernel
theorem dS_put_10 : decode cS_put 10 = .ok (.iload_n 2, 1) := by decide +kernel
theorem dS_put_11 : decode cS_put 11 = .ok (.iload_n 2, 1) := by decide +kernel
theorem dS_put_12 : decode cS_put 12 = .ok (.lload_n 3, 1) := by decide +kernel
theorem dS_put_13 : decode cS_put 13 = .ok (.iload 5, 2) := by decide +kernel
theorem dS_put_15 : decode cS_put 15 = .ok (.invokestatic 23, 3) := by decide +kernel
theorem dS_put_18 : decode cS_put 18 = .ok (.invokevirtual 27, 3) := by decide +kernel
theorem dS_put_21 : decode cS_put 21 = .ok (.ireturn, 1) := by decide +kernel
theorem dS_checkChange_0 : decode cS_checkChange 0 = .ok (.aload_n 0, 1) := by decide +kernel
theorem dS_checkChange_1 : decode cS_checkChange 1 = .ok (.iload_n 1, 1) := by decide +kernel
theorem dS_checkChange_2 : decode cS_checkChange 2 = .ok (.invokevirtual 35, 3) := by decide +kernel
theorem dS_checkChange_5 : decode cS_checkChange 5 = .ok (.iload_n 2, 1) := by decide +kernel
theorem dS_checkChange_6 : decode cS_checkChange 6 = .ok (.invokestatic 39, 3) := by decide +kernel
theorem dS_checkChange_9 : decode cS_checkChange 9 = .ok (.iload_n 3, 1) := by decide +kernel
theorem dS_checkChange_10 : decode cS_checkChange 10 = .ok (.ifCond .lt 9, 3) := by decide +kernel
theorem dS_checkChange_13 : decode cS_checkChange 13 = .ok (.iload_n 3, 1) := by decide +kernel
theorem dS_checkChange_14 : decode cS_checkChange 14 = .ok (.ldc 85, 2) := by decide +kernel
theorem dS_checkChange_16 : decode cS_checkChange 16 = .ok (.if_icmp .le 13, 3) := by decide +kernel
theorem dS_checkChange_19 : decode cS_checkChange 19 = .ok (.new 57, 3) := by decide +kernel
theorem dS_checkChange_22 : decode cS_checkChange 22 = .ok (.dup, 1) := by decide +kernel
theorem dS_checkChange_23 : decode cS_checkChange 23 = .ok (.ldc 86, 2) := by decide +kernel
theorem dS_checkChange_25 : decode cS_checkChange 25 = .ok (.invokespecial 61, 3) := by decide +kernel
theorem dS_checkChange_28 : decode cS_checkChange 28 = .ok (.athrow, 1) := by decide +kernel
theorem dS_checkChange_29 : decode cS_checkChange 29 = .ok (.aload_n 0, 1) := by decide +kernel
theorem dS_checkChange_30 : decode cS_checkChange 30 = .ok (.getfield 15, 3) := by decide +kernel
theorem dS_checkChange_33 : decode cS_checkChange 33 = .ok (.sipush 400, 3) := by decide +kernel
theorem dS_checkChange_36 : decode cS_checkChange 36 = .ok (.if_icmp .lt 13, 3) := by decide +kernel
theorem dS_checkChange_39 : decode cS_checkChange 39 = .ok (.new 68, 3) := by decide +kernel
theorem dS_checkChange_42 : decode cS_checkChange 42 = .ok (.dup, 1) := by decide +kernel
theorem dS_checkChange_43 : decode cS_checkChange 43 = .ok (.ldc 88, 2) := by decide +kernel
theorem dS_checkChange_45 : decode cS_checkChange 45 = .ok (.invokespecial 72, 3) := by decide +kernel
theorem dS_checkChange_48 : decode cS_checkChange 48 = .ok (.athrow, 1) := by decide +kernel
theorem dS_checkChange_49 : decode cS_checkChange 49 = .ok (.return_, 1) := by decide +kernel
theorem dS_checkTable_0 : decode cS_checkTable 0 = .ok (.iload_n 1, 1) := by decide +kernel
theorem dS_checkTable_1 : decode cS_checkTable 1 = .ok (.ifCond .lt 11, 3) := by decide +kernel
theorem dS_checkTable_4 : decode cS_checkTable 4 = .ok (.iload_n 1, 1) := by decide +kernel
theorem dS_checkTable_5 : decode cS_checkTable 5 = .ok (.aload_n 0, 1) := by decide +kernel
theorem dS_checkTable_6 : decode cS_checkTable 6 = .ok (.getfield 15, 3) := by decide +kernel
theorem dS_checkTable_9 : decode cS_checkTable 9 = .ok (.if_icmp .lt 13, 3) := by decide +kernel
theorem dS_checkTable_12 : decode cS_checkTable 12 = .ok (.new 57, 3) := by decide +kernel
theorem dS_checkTable_15 : decode cS_checkTable 15 = .ok (.dup, 1) := by decide +kernel
theorem dS_checkTable_16 : decode cS_checkTable 16 = .ok (.ldc 81, 2) := by decide +kernel
theorem dS_checkTable_18 : decode cS_checkTable 18 = .ok (.invokespecial 61, 3) := by decide +kernel
theorem dS_checkTable_21 : decode cS_checkTable 21 = .ok (.athrow, 1) := by decide +kernel
theorem dS_checkTable_22 : decode cS_checkTable 22 = .ok (.return_, 1) := by decide +kernel
theorem dS_checkKey_0 : decode cS_checkKey 0 = .ok (.iload_n 0, 1) := by decide +kernel
theorem dS_checkKey_1 : decode cS_checkKey 1 = .ok (.ifCond .lt 10, 3) := by decide +kernel
theorem dS_checkKey_4 : decode cS_checkKey 4 = .ok (.iload_n 0, 1) := by decide +kernel
theorem dS_checkKey_5 : decode cS_checkKey 5 = .ok (.sipush 1023, 3) := by decide +kernel
theorem dS_checkKey_8 : decode cS_checkKey 8 = .ok (.if_icmp .le 13, 3) := by decide +kernel
theorem dS_checkKey_11 : decode cS_checkKey 11 = .ok (.new 57, 3) := by decide +kernel
theorem dS_checkKey_14 : decode cS_checkKey 14 = .ok (.dup, 1) := by decide +kernel
theorem dS_checkKey_15 : decode cS_checkKey 15 = .ok (.ldc 83, 2) := by decide +kernel
theorem dS_checkKey_17 : decode cS_checkKey 17 = .ok (.invokespecial 61, 3) := by decide +kernel
theorem dS_checkKey_20 : decode cS_checkKey 20 = .ok (.athrow, 1) := by decide +kernel
theorem dS_checkKey_21 : decode cS_checkKey 21 = .ok (.return_, 1) := by decide +kernel
theorem dS_leafWithNumber_0 : decode cS_leafWithNumber 0 = .ok (.iconst 5, 1) := by decide +kernel
theorem dS_leafWithNumber_1 : decode cS_leafWithNumber 1 = .ok (.newarray .long, 2) := by decide +kernel
theorem dS_leafWithNumber_3 : decode cS_leafWithNumber 3 = .ok (.dup, 1) := by decide +kernel
theorem dS_leafWithNumber_4 : decode cS_leafWithNumber 4 = .ok (.iconst 0, 1) := by decide +kernel
theorem dS_leafWithNumber_5 : decode cS_leafWithNumber 5 = .ok (.lconst 1, 1) := by decide +kernel
theorem dS_leafWithNumber_6 : decode cS_leafWithNumber 6 = .ok (.lastore, 1) := by decide +kernel
theorem dS_leafWithNumber_7 : decode cS_leafWithNumber 7 = .ok (.dup, 1) := by decide +kernel
theorem dS_leafWithNumber_8 : decode cS_leafWithNumber 8 = .ok (.iconst 1, 1) := by decide +kernel
theorem dS_leafWithNumber_9 : decode cS_leafWithNumber 9 = .ok (.lload_n 1, 1) := by decide +kernel
theorem dS_leafWithNumber_10 : decode cS_leafWithNumber 10 = .ok (.lastore, 1) := by decide +kernel
theorem dS_leafWithNumber_11 : decode cS_leafWithNumber 11 = .ok (.dup, 1) := by decide +kernel
theorem dS_leafWithNumber_12 : decode cS_leafWithNumber 12 = .ok (.iconst 2, 1) := by decide +kernel
theorem dS_leafWithNumber_13 : decode cS_leafWithNumber 13 = .ok (.iload_n 0, 1) := by decide +kernel
theorem dS_leafWithNumber_14 : decode cS_leafWithNumber 14 = .ok (.i2l, 1) := by decide +kernel
theorem dS_leafWithNumber_15 : decode cS_leafWithNumber 15 = .ok (.lastore, 1) := by decide +kernel
theorem dS_leafWithNumber_16 : decode cS_leafWithNumber 16 = .ok (.dup, 1) := by decide +kernel
theorem dS_leafWithNumber_17 : decode cS_leafWithNumber 17 = .ok (.iconst 3, 1) := by decide +kernel
theorem dS_leafWithNumber_18 : decode cS_leafWithNumber 18 = .ok (.iload_n 0, 1) := by decide +kernel
theorem dS_leafWithNumber_19 : decode cS_leafWithNumber 19 = .ok (.i2l, 1) := by decide +kernel
theorem dS_leafWithNumber_20 : decode cS_leafWithNumber 20 = .ok (.lastore, 1) := by decide +kernel
theorem dS_leafWithNumber_21 : decode cS_leafWithNumber 21 = .ok (.dup, 1) := by decide +kernel
theorem dS_leafWithNumber_22 : decode cS_leafWithNumber 22 = .ok (.iconst 4, 1) := by decide +kernel
theorem dS_leafWithNumber_23 : decode cS_leafWithNumber 23 = .ok (.iload_n 3, 1) := by decide +kernel
theorem dS_leafWithNumber_24 : decode cS_leafWithNumber 24 = .ok (.i2l, 1) := by decide +kernel
theorem dS_leafWithNumber_25 : decode cS_leafWithNumber 25 = .ok (.lastore, 1) := by decide +kernel
theorem dS_leafWithNumber_26 : decode cS_leafWithNumber 26 = .ok (.astore 4, 2) := by decide +kernel
theorem dS_leafWithNumber_28 : decode cS_leafWithNumber 28 = .ok (.new 9, 3) := by decide +kernel
theorem dS_leafWithNumber_31 : decode cS_leafWithNumber 31 = .ok (.dup, 1) := by decide +kernel
theorem dS_leafWithNumber_32 : decode cS_leafWithNumber 32 = .ok (.aconst_null, 1) := by decide +kernel
theorem dS_leafWithNumber_33 : decode cS_leafWithNumber 33 = .ok (.aconst_null, 1) := by decide +kernel
theorem dS_leafWithNumber_34 : decode cS_leafWithNumber 34 = .ok (.aload 4, 2) := by decide +kernel
theorem dS_leafWithNumber_36 : decode cS_leafWithNumber 36 = .ok (.invokespecial 128, 3) := by decide +kernel
theorem dS_leafWithNumber_39 : decode cS_leafWithNumber 39 = .ok (.areturn, 1) := by decide +kernel
theorem dB_init_0 : decode cB_init 0 = .ok (.aload_n 0, 1) := by decide +kernel
theorem dB_init_1 : decode cB_init 1 = .ok (.invokespecial 1, 3) := by decide +kernel
theorem dB_init_4 : decode cB_init 4 = .ok (.aload_n 0, 1) := by decide +kernel
theorem dB_init_5 : decode cB_init 5 = .ok (.aload_n 1, 1) := by decide +kernel
theorem dB_init_6 : decode cB_init 6 = .ok (.putfield 7, 3) := by decide +kernel
theorem dB_init_9 : decode cB_init 9 = .ok (.aload_n 0, 1) := by decide +kernel
theorem dB_init_10 : decode cB_init 10 = .ok (.aload_n 2, 1) := by decide +kernel
theorem dB_init_11 : decode cB_init 11 = .ok (.putfield 13, 3) := by decide +kernel
theorem dB_init_14 : decode cB_init 14 = .ok (.aload_n 0, 1) := by decide +kernel
theorem dB_init_15 : decode cB_init 15 = .ok (.aload_n 3, 1) := by decide +kernel
theorem dB_init_16 : decode cB_init 16 = .ok (.putfield 16, 3) := by decide +kernel
theorem dB_init_19 : decode cB_init 19 = .ok (.return_, 1) := by decide +kernel
theorem dS_addTable_0 : decode cS_addTable 0 = .ok (.aload_n 0, 1) := by decide +kernel
theorem dS_addTable_1 : decode cS_addTable 1 = .ok (.getfield 15, 3) := by decide +kernel
theorem dS_addTable_4 : decode cS_addTable 4 = .ok (.istore 4, 2) := by decide +kernel
theorem dS_addTable_6 : decode cS_addTable 6 = .ok (.aload_n 0, 1) := by decide +kernel
theorem dS_addTable_7 : decode cS_addTable 7 = .ok (.getfield 11, 3) := by decide +kernel
theorem dS_addTable_10 : decode cS_addTable 10 = .ok (.iload 4, 2) := by decide +kernel
theorem dS_addTable_12 : decode cS_addTable 12 = .ok (.aload_n 0, 1) := by decide +kernel
theorem dS_addTable_13 : decode cS_addTable 13 = .ok (.getfield 11, 3) := by decide +kernel
theorem dS_addTable_16 : decode cS_addTable 16 = .ok (.iload_n 1, 1) := by decide +kernel
theorem dS_addTable_17 : decode cS_addTable 17 = .ok (.aaload, 1) := by decide +kernel
theorem dS_addTable_18 : decode cS_addTable 18 = .ok (.bipush 10, 2) := by decide +kernel
theorem dS_addTable_20 : decode cS_addTable 20 = .ok (.iload_n 2, 1) := by decide +kernel
theorem dS_addTable_21 : decode cS_addTable 21 = .ok (.aload_n 3, 1) := by decide +kernel
theorem dS_addTable_22 : decode cS_addTable 22 = .ok (.invokestatic 90, 3) := by decide +kernel
theorem dS_addTable_25 : decode cS_addTable 25 = .ok (.aastore, 1) := by decide +kernel
theorem dS_addTable_26 : decode cS_addTable 26 = .ok (.aload_n 0, 1) := by decide +kernel
theorem dS_addTable_27 : decode cS_addTable 27 = .ok (.dup, 1) := by decide +kernel
theorem dS_addTable_28 : decode cS_addTable 28 = .ok (.getfield 15, 3) := by decide +kernel
theorem dS_addTable_31 : decode cS_addTable 31 = .ok (.iconst 1, 1) := by decide +kernel
theorem dS_addTable_32 : decode cS_addTable 32 = .ok (.iadd, 1) := by decide +kernel
theorem dS_addTable_33 : decode cS_addTable 33 = .ok (.putfield 15, 3) := by decide +kernel
theorem dS_addTable_36 : decode cS_addTable 36 = .ok (.iload 4, 2) := by decide +kernel
theorem dS_addTable_38 : decode cS_addTable 38 = .ok (.ireturn, 1) := by decide +kernel
theorem dS_rewritten_0 : decode cS_rewritten 0 = .ok (.iload_n 1, 1) := by decide +kernel
theorem dS_rewritten_1 : decode cS_rewritten 1 = .ok (.ifCond .gt 5, 3) := by decide +kernel
theorem dS_rewritten_4 : decode cS_rewritten 4 = .ok (.aload_n 3, 1) := by decide +kernel
theorem dS_rewritten_5 : decode cS_rewritten 5 = .ok (.areturn, 1) := by decide +kernel
theorem dS_rewritten_6 : decode cS_rewritten 6 = .ok (.aload_n 0, 1) := by decide +kernel
theorem dS_rewritten_7 : decode cS_rewritten 7 = .ok (.invokestatic 94, 3) := by decide +kernel
theorem dS_rewritten_10 : decode cS_rewritten 10 = .ok (.astore 4, 2) := by decide +kernel
theorem dS_rewritten_12 : decode cS_rewritten 12 = .ok (.aload_n 0, 1) := by decide +kernel
theorem dS_rewritten_13 : decode cS_rewritten 13 = .ok (.invokestatic 98, 3) := by decide +kernel
theorem dS_rewritten_16 : decode cS_rewritten 16 = .ok (.astore 5, 2) := by decide +kernel
theorem dS_rewritten_18 : decode cS_rewritten 18 = .ok (.iload_n 2, 1) := by decide +kernel
theorem dS_rewritten_19 : decode cS_rewritten 19 = .ok (.iload_n 1, 1) := by decide +kernel
theorem dS_rewritten_20 : decode cS_rewritten 20 = .ok (.invokestatic 101, 3) := by decide +kernel
theorem dS_rewritten_23 : decode cS_rewritten 23 = .ok (.ifCond .eq 18, 3) := by decide +kernel
theorem dS_rewritten_26 : decode cS_rewritten 26 = .ok (.aload 5, 2) := by decide +kernel
theorem dS_rewritten_28 : decode cS_rewritten 28 = .ok (.iload_n 1, 1) := by decide +kernel
theorem dS_rewritten_29 : decode cS_rewritten 29 = .ok (.iconst 1, 1) := by decide +kernel
theorem dS_rewritten_30 : decode cS_rewritten 30 = .ok (.isub, 1) := by decide +kernel
theorem dS_rewritten_31 : decode cS_rewritten 31 = .ok (.iload_n 2, 1) := by decide +kernel
theorem dS_rewritten_32 : decode cS_rewritten 32 = .ok (.aload_n 3, 1) := by decide +kernel
theorem dS_rewritten_33 : decode cS_rewritten 33 = .ok (.invokestatic 90, 3) := by decide +kernel
theorem dS_rewritten_36 : decode cS_rewritten 36 = .ok (.astore 5, 2) := by decide +kernel
theorem dS_rewritten_38 : decode cS_rewritten 38 = .ok (.goto 15, 3) := by decide +kernel
theorem dS_rewritten_41 : decode cS_rewritten 41 = .ok (.aload 4, 2) := by decide +kernel
theorem dS_rewritten_43 : decode cS_rewritten 43 = .ok (.iload_n 1, 1) := by decide +kernel
theorem dS_rewritten_44 : decode cS_rewritten 44 = .ok (.iconst 1, 1) := by decide +kernel
theorem dS_rewritten_45 : decode cS_rewritten 45 = .ok (.isub, 1) := by decide +kernel
theorem dS_rewritten_46 : decode cS_rewritten 46 = .ok (.iload_n 2, 1) := by decide +kernel
theorem dS_rewritten_47 : decode cS_rewritten 47 = .ok (.aload_n 3, 1) := by decide +kernel
theorem dS_rewritten_48 : decode cS_rewritten 48 = .ok (.invokestatic 90, 3) := by decide +kernel
theorem dS_rewritten_51 : decode cS_rewritten 51 = .ok (.astore 4, 2) := by decide +kernel
theorem dS_rewritten_53 : decode cS_rewritten 53 = .ok (.aload 4, 2) := by decide +kernel
theorem dS_rewritten_55 : decode cS_rewritten 55 = .ok (.aload 5, 2) := by decide +kernel
theorem dS_rewritten_57 : decode cS_rewritten 57 = .ok (.invokestatic 105, 3) := by decide +kernel
theorem dS_rewritten_60 : decode cS_rewritten 60 = .ok (.areturn, 1) := by decide +kernel
theorem dS_lowerOf_0 : decode cS_lowerOf 0 = .ok (.aload_n 0, 1) := by decide +kernel
theorem dS_lowerOf_1 : decode cS_lowerOf 1 = .ok (.ifnonnull 7, 3) := by decide +kernel
theorem dS_lowerOf_4 : decode cS_lowerOf 4 = .ok (.aconst_null, 1) := by decide +kernel
theorem dS_lowerOf_5 : decode cS_lowerOf 5 = .ok (.goto 7, 3) := by decide +kernel
theorem dS_lowerOf_8 : decode cS_lowerOf 8 = .ok (.aload_n 0, 1) := by decide +kernel
theorem dS_lowerOf_9 : decode cS_lowerOf 9 = .ok (.getfield 113, 3) := by decide +kernel
theorem dS_lowerOf_12 : decode cS_lowerOf 12 = .ok (.areturn, 1) := by decide +kernel
theorem dS_upperOf_0 : decode cS_upperOf 0 = .ok (.aload_n 0, 1) := by decide +kernel
theorem dS_upperOf_1 : decode cS_upperOf 1 = .ok (.ifnonnull 7, 3) := by decide +kernel
theorem dS_upperOf_4 : decode cS_upperOf 4 = .ok (.aconst_null, 1) := by decide +kernel
theorem dS_upperOf_5 : decode cS_upperOf 5 = .ok (.goto 7, 3) := by decide +kernel
theorem dS_upperOf_8 : decode cS_upperOf 8 = .ok (.aload_n 0, 1) := by decide +kernel
theorem dS_upperOf_9 : decode cS_upperOf 9 = .ok (.getfield 117, 3) := by decide +kernel
theorem dS_upperOf_12 : decode cS_upperOf 12 = .ok (.areturn, 1) := by decide +kernel
theorem dS_isInUpperHalf_0 : decode cS_isInUpperHalf 0 = .ok (.iload_n 0, 1) := by decide +kernel
theorem dS_isInUpperHalf_1 : decode cS_isInUpperHalf 1 = .ok (.iload_n 1, 1) := by decide +kernel
theorem dS_isInUpperHalf_2 : decode cS_isInUpperHalf 2 = .ok (.iconst 1, 1) := by decide +kernel
theorem dS_isInUpperHalf_3 : decode cS_isInUpperHalf 3 = .ok (.isub, 1) := by decide +kernel
theorem dS_isInUpperHalf_4 : decode cS_isInUpperHalf 4 = .ok (.ishr, 1) := by decide +kernel
theorem dS_isInUpperHalf_5 : decode cS_isInUpperHalf 5 = .ok (.iconst 1, 1) := by decide +kernel
theorem dS_isInUpperHalf_6 : decode cS_isInUpperHalf 6 = .ok (.iand, 1) := by decide +kernel
theorem dS_isInUpperHalf_7 : decode cS_isInUpperHalf 7 = .ok (.iconst 1, 1) := by decide +kernel
theorem dS_isInUpperHalf_8 : decode cS_isInUpperHalf 8 = .ok (.if_icmp .ne 7, 3) := by decide +kernel
theorem dS_isInUpperHalf_11 : decode cS_isInUpperHalf 11 = .ok (.iconst 1, 1) := by decide +kernel
theorem dS_isInUpperHalf_12 : decode cS_isInUpperHalf 12 = .ok (.goto 4, 3) := by decide +kernel
theorem dS_isInUpperHalf_15 : decode cS_isInUpperHalf 15 = .ok (.iconst 0, 1) := by decide +kernel
theorem dS_isInUpperHalf_16 : decode cS_isInUpperHalf 16 = .ok (.ireturn, 1) := by decide +kernel
theorem dS_joined_0 : decode cS_joined 0 = .ok (.iconst 5, 1) := by decide +kernel
theorem dS_joined_1 : decode cS_joined 1 = .ok (.newarray .long, 2) := by decide +kernel
theorem dS_joined_3 : decode cS_joined 3 = .ok (.astore_n 2, 1) := by decide +kernel
theorem dS_joined_4 : decode cS_joined 4 = .ok (.iconst 0, 1) := by decide +kernel
theorem dS_joined_5 : decode cS_joined 5 = .ok (.istore_n 3, 1) := by decide +kernel
theorem dS_joined_6 : decode cS_joined 6 = .ok (.iload_n 3, 1) := by decide +kernel
theorem dS_joined_7 : decode cS_joined 7 = .ok (.iconst 4, 1) := by decide +kernel
theorem dS_joined_8 : decode cS_joined 8 = .ok (.if_icmp .gt 26, 3) := by decide +kernel
theorem dS_joined_11 : decode cS_joined 11 = .ok (.aload_n 2, 1) := by decide +kernel
theorem dS_joined_12 : decode cS_joined 12 = .ok (.iload_n 3, 1) := by decide +kernel
theorem dS_joined_13 : decode cS_joined 13 = .ok (.aload_n 0, 1) := by decide +kernel
theorem dS_joined_14 : decode cS_joined 14 = .ok (.iload_n 3, 1) := by decide +kernel
theorem dS_joined_15 : decode cS_joined 15 = .ok (.invokestatic 46, 3) := by decide +kernel
theorem dS_joined_18 : decode cS_joined 18 = .ok (.aload_n 1, 1) := by decide +kernel
theorem dS_joined_19 : decode cS_joined 19 = .ok (.iload_n 3, 1) := by decide +kernel
theorem dS_joined_20 : decode cS_joined 20 = .ok (.invokestatic 46, 3) := by decide +kernel
theorem dS_joined_23 : decode cS_joined 23 = .ok (.iload_n 3, 1) := by decide +kernel
theorem dS_joined_24 : decode cS_joined 24 = .ok (.invokestatic 120, 3) := by decide +kernel
theorem dS_joined_27 : decode cS_joined 27 = .ok (.lastore, 1) := by decide +kernel
theorem dS_joined_28 : decode cS_joined 28 = .ok (.iinc 3 1, 3) := by decide +kernel
theorem dS_joined_31 : decode cS_joined 31 = .ok (.goto (-25), 3) := by decide +kernel
theorem dS_joined_34 : decode cS_joined 34 = .ok (.new 9, 3) := by decide +kernel
theorem dS_joined_37 : decode cS_joined 37 = .ok (.dup, 1) := by decide +kernel
theorem dS_joined_38 : decode cS_joined 38 = .ok (.aload_n 0, 1) := by decide +kernel
theorem dS_joined_39 : decode cS_joined 39 = .ok (.aload_n 1, 1) := by decide +kernel
theorem dS_joined_40 : decode cS_joined 40 = .ok (.aload_n 2, 1) := by decide +kernel
theorem dS_joined_41 : decode cS_joined 41 = .ok (.invokespecial 128, 3) := by decide +kernel
theorem dS_joined_44 : decode cS_joined 44 = .ok (.areturn, 1) := by decide +kernel
theorem dS_takenOf_0 : decode cS_takenOf 0 = .ok (.aload_n 0, 1) := by decide +kernel
theorem dS_takenOf_1 : decode cS_takenOf 1 = .ok (.ifnonnull 10, 3) := by decide +kernel
theorem dS_takenOf_4 : decode cS_takenOf 4 = .ok (.iload_n 1, 1) := by decide +kernel
theorem dS_takenOf_5 : decode cS_takenOf 5 = .ok (.invokestatic 109, 3) := by decide +kernel
theorem dS_takenOf_8 : decode cS_takenOf 8 = .ok (.goto 9, 3) := by decide +kernel
theorem dS_takenOf_11 : decode cS_takenOf 11 = .ok (.aload_n 0, 1) := by decide +kernel
theorem dS_takenOf_12 : decode cS_takenOf 12 = .ok (.getfield 139, 3) := by decide +kernel
theorem dS_takenOf_15 : decode cS_takenOf 15 = .ok (.iload_n 1, 1) := by decide +kernel
theorem dS_takenOf_16 : decode cS_takenOf 16 = .ok (.laload, 1) := by decide +kernel
theorem dS_takenOf_17 : decode cS_takenOf 17 = .ok (.lreturn, 1) := by decide +kernel
theorem dS_takenOfNothing_0 : decode cS_takenOfNothing 0 = .ok (.iload_n 0, 1) := by decide +kernel
theorem dS_takenOfNothing_1 : decode cS_takenOfNothing 1 = .ok (.ifCond .eq 8, 3) := by decide +kernel
theorem dS_takenOfNothing_4 : decode cS_takenOfNothing 4 = .ok (.iload_n 0, 1) := by decide +kernel
theorem dS_takenOfNothing_5 : decode cS_takenOfNothing 5 = .ok (.iconst 1, 1) := by decide +kernel
theorem dS_takenOfNothing_6 : decode cS_takenOfNothing 6 = .ok (.if_icmp .ne 7, 3) := by decide +kernel
theorem dS_takenOfNothing_9 : decode cS_takenOfNothing 9 = .ok (.lconst 0, 1) := by decide +kernel
theorem dS_takenOfNothing_10 : decode cS_takenOfNothing 10 = .ok (.goto 6, 3) := by decide +kernel
theorem dS_takenOfNothing_13 : decode cS_takenOfNothing 13 = .ok (.ldc2_w 131, 3) := by decide +kernel
theorem dS_takenOfNothing_16 : decode cS_takenOfNothing 16 = .ok (.lreturn, 1) := by decide +kernel
theorem dS_takenTogether_0 : decode cS_takenTogether 0 = .ok (.iload 4, 2) := by decide +kernel
theorem dS_takenTogether_2 : decode cS_takenTogether 2 = .ok (.tableswitch 60 2 4 #[26, 40, 54], 26) := by decide +kernel
theorem dS_takenTogether_28 : decode cS_takenTogether 28 = .ok (.lload_n 0, 1) := by decide +kernel
theorem dS_takenTogether_29 : decode cS_takenTogether 29 = .ok (.ldc2_w 131, 3) := by decide +kernel
theorem dS_takenTogether_32 : decode cS_takenTogether 32 = .ok (.lcmp, 1) := by decide +kernel
theorem dS_takenTogether_33 : decode cS_takenTogether 33 = .ok (.ifCond .ne 7, 3) := by decide +kernel
theorem dS_takenTogether_36 : decode cS_takenTogether 36 = .ok (.lload_n 2, 1) := by decide +kernel
theorem dS_takenTogether_37 : decode cS_takenTogether 37 = .ok (.goto 4, 3) := by decide +kernel
theorem dS_takenTogether_40 : decode cS_takenTogether 40 = .ok (.lload_n 0, 1) := by decide +kernel
theorem dS_takenTogether_41 : decode cS_takenTogether 41 = .ok (.lreturn, 1) := by decide +kernel
theorem dS_takenTogether_42 : decode cS_takenTogether 42 = .ok (.lload_n 2, 1) := by decide +kernel
theorem dS_takenTogether_43 : decode cS_takenTogether 43 = .ok (.ldc2_w 131, 3) := by decide +kernel
theorem dS_takenTogether_46 : decode cS_takenTogether 46 = .ok (.lcmp, 1) := by decide +kernel
theorem dS_takenTogether_47 : decode cS_takenTogether 47 = .ok (.ifCond .ne 7, 3) := by decide +kernel
theorem dS_takenTogether_50 : decode cS_takenTogether 50 = .ok (.lload_n 0, 1) := by decide +kernel
theorem dS_takenTogether_51 : decode cS_takenTogether 51 = .ok (.goto 4, 3) := by decide +kernel
theorem dS_takenTogether_54 : decode cS_takenTogether 54 = .ok (.lload_n 2, 1) := by decide +kernel
theorem dS_takenTogether_55 : decode cS_takenTogether 55 = .ok (.lreturn, 1) := by decide +kernel
theorem dS_takenTogether_56 : decode cS_takenTogether 56 = .ok (.lload_n 0, 1) := by decide +kernel
theorem dS_takenTogether_57 : decode cS_takenTogether 57 = .ok (.lload_n 2, 1) := by decide +kernel
theorem dS_takenTogether_58 : decode cS_takenTogether 58 = .ok (.invokestatic 133, 3) := by decide +kernel
theorem dS_takenTogether_61 : decode cS_takenTogether 61 = .ok (.lreturn, 1) := by decide +kernel
theorem dS_takenTogether_62 : decode cS_takenTogether 62 = .ok (.lload_n 0, 1) := by decide +kernel
theorem dS_takenTogether_63 : decode cS_takenTogether 63 = .ok (.lload_n 2, 1) := by decide +kernel
theorem dS_takenTogether_64 : decode cS_takenTogether 64 = .ok (.ladd, 1) := by decide +kernel
theorem dS_takenTogether_65 : decode cS_takenTogether 65 = .ok (.lreturn, 1) := by decide +kernel
theorem dS_delete_0 : decode cS_delete 0 = .ok (.aload_n 0, 1) := by decide +kernel
theorem dS_delete_1 : decode cS_delete 1 = .ok (.iload_n 1, 1) := by decide +kernel
theorem dS_delete_2 : decode cS_delete 2 = .ok (.iload_n 2, 1) := by decide +kernel
theorem dS_delete_3 : decode cS_delete 3 = .ok (.iload_n 3, 1) := by decide +kernel
theorem dS_delete_4 : decode cS_delete 4 = .ok (.invokevirtual 19, 3) := by decide +kernel
theorem dS_delete_7 : decode cS_delete 7 = .ok (.aload_n 0, 1) := by decide +kernel
theorem dS_delete_8 : decode cS_delete 8 = .ok (.iload_n 1, 1) := by decide +kernel
theorem dS_delete_9 : decode cS_delete 9 = .ok (.iload_n 2, 1) := by decide +kernel
theorem dS_delete_10 : decode cS_delete 10 = .ok (.iload_n 3, 1) := by decide +kernel
theorem dS_delete_11 : decode cS_delete 11 = .ok (.invokestatic 31, 3) := by decide +kernel
theorem dS_delete_14 : decode cS_delete 14 = .ok (.invokevirtual 27, 3) := by decide +kernel
theorem dS_delete_17 : decode cS_delete 17 = .ok (.ireturn, 1) := by decide +kernel
theorem dS_leafWithoutNumber_0 : decode cS_leafWithoutNumber 0 = .ok (.iconst 5, 1) := by decide +kernel
theorem dS_leafWithoutNumber_1 : decode cS_leafWithoutNumber 1 = .ok (.newarray .long, 2) := by decide +kernel
theorem dS_leafWithoutNumber_3 : decode cS_leafWithoutNumber 3 = .ok (.dup, 1) := by decide +kernel
theorem dS_leafWithoutNumber_4 : decode cS_leafWithoutNumber 4 = .ok (.iconst 0, 1) := by decide +kernel
theorem dS_leafWithoutNumber_5 : decode cS_leafWithoutNumber 5 = .ok (.lconst 0, 1) := by decide +kernel
theorem dS_leafWithoutNumber_6 : decode cS_leafWithoutNumber 6 = .ok (.lastore, 1) := by decide +kernel
theorem dS_leafWithoutNumber_7 : decode cS_leafWithoutNumber 7 = .ok (.dup, 1) := by decide +kernel
theorem dS_leafWithoutNumber_8 : decode cS_leafWithoutNumber 8 = .ok (.iconst 1, 1) := by decide +kernel
theorem dS_leafWithoutNumber_9 : decode cS_leafWithoutNumber 9 = .ok (.lconst 0, 1) := by decide +kernel
theorem dS_leafWithoutNumber_10 : decode cS_leafWithoutNumber 10 = .ok (.lastore, 1) := by decide +kernel
theorem dS_leafWithoutNumber_11 : decode cS_leafWithoutNumber 11 = .ok (.dup, 1) := by decide +kernel
theorem dS_leafWithoutNumber_12 : decode cS_leafWithoutNumber 12 = .ok (.iconst 2, 1) := by decide +kernel
theorem dS_leafWithoutNumber_13 : decode cS_leafWithoutNumber 13 = .ok (.ldc2_w 131, 3) := by decide +kernel
theorem dS_leafWithoutNumber_16 : decode cS_leafWithoutNumber 16 = .ok (.lastore, 1) := by decide +kernel
theorem dS_leafWithoutNumber_17 : decode cS_leafWithoutNumber 17 = .ok (.dup, 1) := by decide +kernel
theorem dS_leafWithoutNumber_18 : decode cS_leafWithoutNumber 18 = .ok (.iconst 3, 1) := by decide +kernel
theorem dS_leafWithoutNumber_19 : decode cS_leafWithoutNumber 19 = .ok (.ldc2_w 131, 3) := by decide +kernel
theorem dS_leafWithoutNumber_22 : decode cS_leafWithoutNumber 22 = .ok (.lastore, 1) := by decide +kernel
theorem dS_leafWithoutNumber_23 : decode cS_leafWithoutNumber 23 = .ok (.dup, 1) := by decide +kernel
theorem dS_leafWithoutNumber_24 : decode cS_leafWithoutNumber 24 = .ok (.iconst 4, 1) := by decide +kernel
theorem dS_leafWithoutNumber_25 : decode cS_leafWithoutNumber 25 = .ok (.iload_n 0, 1) := by decide +kernel
theorem dS_leafWithoutNumber_26 : decode cS_leafWithoutNumber 26 = .ok (.i2l, 1) := by decide +kernel
theorem dS_leafWithoutNumber_27 : decode cS_leafWithoutNumber 27 = .ok (.lastore, 1) := by decide +kernel
theorem dS_leafWithoutNumber_28 : decode cS_leafWithoutNumber 28 = .ok (.astore_n 1, 1) := by decide +kernel
theorem dS_leafWithoutNumber_29 : decode cS_leafWithoutNumber 29 = .ok (.new 9, 3) := by decide +kernel
theorem dS_leafWithoutNumber_32 : decode cS_leafWithoutNumber 32 = .ok (.dup, 1) := by decide +kernel
theorem dS_leafWithoutNumber_33 : decode cS_leafWithoutNumber 33 = .ok (.aconst_null, 1) := by decide +kernel
theorem dS_leafWithoutNumber_34 : decode cS_leafWithoutNumber 34 = .ok (.aconst_null, 1) := by decide +kernel
theorem dS_leafWithoutNumber_35 : decode cS_leafWithoutNumber 35 = .ok (.aload_n 1, 1) := by decide +kernel
theorem dS_leafWithoutNumber_36 : decode cS_leafWithoutNumber 36 = .ok (.invokespecial 128, 3) := by decide +kernel
theorem dS_leafWithoutNumber_39 : decode cS_leafWithoutNumber 39 = .ok (.areturn, 1) := by decide +kernel
theorem dS_get_0 : decode cS_get 0 = .ok (.aload_n 0, 1) := by decide +kernel
theorem dS_get_1 : decode cS_get 1 = .ok (.iload_n 1, 1) := by decide +kernel
theorem dS_get_2 : decode cS_get 2 = .ok (.invokevirtual 35, 3) := by decide +kernel
theorem dS_get_5 : decode cS_get 5 = .ok (.iload_n 2, 1) := by decide +kernel
theorem dS_get_6 : decode cS_get 6 = .ok (.invokestatic 39, 3) := by decide +kernel
theorem dS_get_9 : decode cS_get 9 = .ok (.aload_n 0, 1) := by decide +kernel
theorem dS_get_10 : decode cS_get 10 = .ok (.getfield 11, 3) := by decide +kernel
theorem dS_get_13 : decode cS_get 13 = .ok (.iload_n 1, 1) := by decide +kernel
theorem dS_get_14 : decode cS_get 14 = .ok (.aaload, 1) := by decide +kernel
theorem dS_get_15 : decode cS_get 15 = .ok (.iload_n 2, 1) := by decide +kernel
theorem dS_get_16 : decode cS_get 16 = .ok (.invokestatic 42, 3) := by decide +kernel
theorem dS_get_19 : decode cS_get 19 = .ok (.astore_n 3, 1) := by decide +kernel
theorem dS_get_20 : decode cS_get 20 = .ok (.aload_n 3, 1) := by decide +kernel
theorem dS_get_21 : decode cS_get 21 = .ok (.iconst 0, 1) := by decide +kernel
theorem dS_get_22 : decode cS_get 22 = .ok (.invokestatic 46, 3) := by decide +kernel
theorem dS_get_25 : decode cS_get 25 = .ok (.lconst 0, 1) := by decide +kernel
theorem dS_get_26 : decode cS_get 26 = .ok (.lcmp, 1) := by decide +kernel
theorem dS_get_27 : decode cS_get 27 = .ok (.ifCond .ne 13, 3) := by decide +kernel
theorem dS_get_30 : decode cS_get 30 = .ok (.new 50, 3) := by decide +kernel
theorem dS_get_33 : decode cS_get 33 = .ok (.dup, 1) := by decide +kernel
theorem dS_get_34 : decode cS_get 34 = .ok (.ldc 52, 2) := by decide +kernel
theorem dS_get_36 : decode cS_get 36 = .ok (.invokespecial 54, 3) := by decide +kernel
theorem dS_get_39 : decode cS_get 39 = .ok (.athrow, 1) := by decide +kernel
theorem dS_get_40 : decode cS_get 40 = .ok (.aload_n 3, 1) := by decide +kernel
theorem dS_get_41 : decode cS_get 41 = .ok (.iconst 1, 1) := by decide +kernel
theorem dS_get_42 : decode cS_get 42 = .ok (.invokestatic 46, 3) := by decide +kernel
theorem dS_get_45 : decode cS_get 45 = .ok (.lreturn, 1) := by decide +kernel
theorem dS_leafOf_0 : decode cS_leafOf 0 = .ok (.aload_n 0, 1) := by decide +kernel
theorem dS_leafOf_1 : decode cS_leafOf 1 = .ok (.astore_n 2, 1) := by decide +kernel
theorem dS_leafOf_2 : decode cS_leafOf 2 = .ok (.bipush 10, 2) := by decide +kernel
theorem dS_leafOf_4 : decode cS_leafOf 4 = .ok (.istore_n 3, 1) := by decide +kernel
theorem dS_leafOf_5 : decode cS_leafOf 5 = .ok (.iload_n 3, 1) := by decide +kernel
theorem dS_leafOf_6 : decode cS_leafOf 6 = .ok (.ifCond .le 29, 3) := by decide +kernel
theorem dS_leafOf_9 : decode cS_leafOf 9 = .ok (.iload_n 1, 1) := by decide +kernel
theorem dS_leafOf_10 : decode cS_leafOf 10 = .ok (.iload_n 3, 1) := by decide +kernel
theorem dS_leafOf_11 : decode cS_leafOf 11 = .ok (.invokestatic 101, 3) := by decide +kernel
theorem dS_leafOf_14 : decode cS_leafOf 14 = .ok (.ifCond .eq 10, 3) := by decide +kernel
theorem dS_leafOf_17 : decode cS_leafOf 17 = .ok (.aload_n 2, 1) := by decide +kernel
theorem dS_leafOf_18 : decode cS_leafOf 18 = .ok (.invokestatic 98, 3) := by decide +kernel
theorem dS_leafOf_21 : decode cS_leafOf 21 = .ok (.goto 7, 3) := by decide +kernel
theorem dS_leafOf_24 : decode cS_leafOf 24 = .ok (.aload_n 2, 1) := by decide +kernel
theorem dS_leafOf_25 : decode cS_leafOf 25 = .ok (.invokestatic 94, 3) := by decide +kernel
theorem dS_leafOf_28 : decode cS_leafOf 28 = .ok (.astore_n 2, 1) := by decide +kernel
theorem dS_leafOf_29 : decode cS_leafOf 29 = .ok (.iinc 3 (-1), 3) := by decide +kernel
theorem dS_leafOf_32 : decode cS_leafOf 32 = .ok (.goto (-27), 3) := by decide +kernel
theorem dS_leafOf_35 : decode cS_leafOf 35 = .ok (.aload_n 2, 1) := by decide +kernel
theorem dS_leafOf_36 : decode cS_leafOf 36 = .ok (.areturn, 1) := by decide +kernel
theorem dS_stamp_0 : decode cS_stamp 0 = .ok (.aload_n 0, 1) := by decide +kernel
theorem dS_stamp_1 : decode cS_stamp 1 = .ok (.iload_n 1, 1) := by decide +kernel
theorem dS_stamp_2 : decode cS_stamp 2 = .ok (.invokevirtual 35, 3) := by decide +kernel
theorem dS_stamp_5 : decode cS_stamp 5 = .ok (.iload_n 2, 1) := by decide +kernel
theorem dS_stamp_6 : decode cS_stamp 6 = .ok (.invokestatic 39, 3) := by decide +kernel
theorem dS_stamp_9 : decode cS_stamp 9 = .ok (.aload_n 0, 1) := by decide +kernel
theorem dS_stamp_10 : decode cS_stamp 10 = .ok (.getfield 11, 3) := by decide +kernel
theorem dS_stamp_13 : decode cS_stamp 13 = .ok (.iload_n 1, 1) := by decide +kernel
theorem dS_stamp_14 : decode cS_stamp 14 = .ok (.aaload, 1) := by decide +kernel
theorem dS_stamp_15 : decode cS_stamp 15 = .ok (.iload_n 2, 1) := by decide +kernel
theorem dS_stamp_16 : decode cS_stamp 16 = .ok (.invokestatic 42, 3) := by decide +kernel
theorem dS_stamp_19 : decode cS_stamp 19 = .ok (.iconst 4, 1) := by decide +kernel
theorem dS_stamp_20 : decode cS_stamp 20 = .ok (.invokestatic 46, 3) := by decide +kernel
theorem dS_stamp_23 : decode cS_stamp 23 = .ok (.l2i, 1) := by decide +kernel
theorem dS_stamp_24 : decode cS_stamp 24 = .ok (.ireturn, 1) := by decide +kernel
theorem dS_part_0 : decode cS_part 0 = .ok (.aload_n 0, 1) := by decide +kernel
theorem dS_part_1 : decode cS_part 1 = .ok (.iload_n 1, 1) := by decide +kernel
theorem dS_part_2 : decode cS_part 2 = .ok (.invokevirtual 35, 3) := by decide +kernel
theorem dS_part_5 : decode cS_part 5 = .ok (.iload_n 2, 1) := by decide +kernel
theorem dS_part_6 : decode cS_part 6 = .ok (.invokestatic 39, 3) := by decide +kernel
theorem dS_part_9 : decode cS_part 9 = .ok (.iload_n 3, 1) := by decide +kernel
theorem dS_part_10 : decode cS_part 10 = .ok (.invokestatic 39, 3) := by decide +kernel
theorem dS_part_13 : decode cS_part 13 = .ok (.iload_n 2, 1) := by decide +kernel
theorem dS_part_14 : decode cS_part 14 = .ok (.iload_n 3, 1) := by decide +kernel
theorem dS_part_15 : decode cS_part 15 = .ok (.if_icmp .le 13, 3) := by decide +kernel
theorem dS_part_18 : decode cS_part 18 = .ok (.new 57, 3) := by decide +kernel
theorem dS_part_21 : decode cS_part 21 = .ok (.dup, 1) := by decide +kernel
theorem dS_part_22 : decode cS_part 22 = .ok (.ldc 59, 2) := by decide +kernel
theorem dS_part_24 : decode cS_part 24 = .ok (.invokespecial 61, 3) := by decide +kernel
theorem dS_part_27 : decode cS_part 27 = .ok (.athrow, 1) := by decide +kernel
theorem dS_part_28 : decode cS_part 28 = .ok (.iload 4, 2) := by decide +kernel
theorem dS_part_30 : decode cS_part 30 = .ok (.ifCond .lt 9, 3) := by decide +kernel
theorem dS_part_33 : decode cS_part 33 = .ok (.iload 4, 2) := by decide +kernel
theorem dS_part_35 : decode cS_part 35 = .ok (.iconst 4, 1) := by decide +kernel
theorem dS_part_36 : decode cS_part 36 = .ok (.if_icmp .le 13, 3) := by decide +kernel
theorem dS_part_39 : decode cS_part 39 = .ok (.new 57, 3) := by decide +kernel
theorem dS_part_42 : decode cS_part 42 = .ok (.dup, 1) := by decide +kernel
theorem dS_part_43 : decode cS_part 43 = .ok (.ldc 62, 2) := by decide +kernel
theorem dS_part_45 : decode cS_part 45 = .ok (.invokespecial 61, 3) := by decide +kernel
theorem dS_part_48 : decode cS_part 48 = .ok (.athrow, 1) := by decide +kernel
theorem dS_part_49 : decode cS_part 49 = .ok (.aload_n 0, 1) := by decide +kernel
theorem dS_part_50 : decode cS_part 50 = .ok (.getfield 11, 3) := by decide +kernel
theorem dS_part_53 : decode cS_part 53 = .ok (.iload_n 1, 1) := by decide +kernel
theorem dS_part_54 : decode cS_part 54 = .ok (.aaload, 1) := by decide +kernel
theorem dS_part_55 : decode cS_part 55 = .ok (.bipush 10, 2) := by decide +kernel
theorem dS_part_57 : decode cS_part 57 = .ok (.iconst 0, 1) := by decide +kernel
theorem dS_part_58 : decode cS_part 58 = .ok (.iload_n 2, 1) := by decide +kernel
theorem dS_part_59 : decode cS_part 59 = .ok (.iload_n 3, 1) := by decide +kernel
theorem dS_part_60 : decode cS_part 60 = .ok (.iload 4, 2) := by decide +kernel
theorem dS_part_62 : decode cS_part 62 = .ok (.invokestatic 64, 3) := by decide +kernel
theorem dS_part_65 : decode cS_part 65 = .ok (.lreturn, 1) := by decide +kernel
theorem dS_takenWithin_0 : decode cS_takenWithin 0 = .ok (.iload_n 2, 1) := by decide +kernel
theorem dS_takenWithin_1 : decode cS_takenWithin 1 = .ok (.iconst 1, 1) := by decide +kernel
theorem dS_takenWithin_2 : decode cS_takenWithin 2 = .ok (.iload_n 1, 1) := by decide +kernel
theorem dS_takenWithin_3 : decode cS_takenWithin 3 = .ok (.ishl, 1) := by decide +kernel
theorem dS_takenWithin_4 : decode cS_takenWithin 4 = .ok (.iadd, 1) := by decide +kernel
theorem dS_takenWithin_5 : decode cS_takenWithin 5 = .ok (.iconst 1, 1) := by decide +kernel
theorem dS_takenWithin_6 : decode cS_takenWithin 6 = .ok (.isub, 1) := by decide +kernel
theorem dS_takenWithin_7 : decode cS_takenWithin 7 = .ok (.istore 6, 2) := by decide +kernel
theorem dS_takenWithin_9 : decode cS_takenWithin 9 = .ok (.aload_n 0, 1) := by decide +kernel
theorem dS_takenWithin_10 : decode cS_takenWithin 10 = .ok (.ifnull 15, 3) := by decide +kernel
theorem dS_takenWithin_13 : decode cS_takenWithin 13 = .ok (.iload 6, 2) := by decide +kernel
theorem dS_takenWithin_15 : decode cS_takenWithin 15 = .ok (.iload_n 3, 1) := by decide +kernel
theorem dS_takenWithin_16 : decode cS_takenWithin 16 = .ok (.if_icmp .lt 9, 3) := by decide +kernel
theorem dS_takenWithin_19 : decode cS_takenWithin 19 = .ok (.iload_n 2, 1) := by decide +kernel
theorem dS_takenWithin_20 : decode cS_takenWithin 20 = .ok (.iload 4, 2) := by decide +kernel
theorem dS_takenWithin_22 : decode cS_takenWithin 22 = .ok (.if_icmp .le 9, 3) := by decide +kernel
theorem dS_takenWithin_25 : decode cS_takenWithin 25 = .ok (.iload 5, 2) := by decide +kernel
theorem dS_takenWithin_27 : decode cS_takenWithin 27 = .ok (.invokestatic 109, 3) := by decide +kernel
theorem dS_takenWithin_30 : decode cS_takenWithin 30 = .ok (.lreturn, 1) := by decide +kernel
theorem dS_takenWithin_31 : decode cS_takenWithin 31 = .ok (.iload_n 1, 1) := by decide +kernel
theorem dS_takenWithin_32 : decode cS_takenWithin 32 = .ok (.ifCond .le 15, 3) := by decide +kernel
theorem dS_takenWithin_35 : decode cS_takenWithin 35 = .ok (.iload_n 3, 1) := by decide +kernel
theorem dS_takenWithin_36 : decode cS_takenWithin 36 = .ok (.iload_n 2, 1) := by decide +kernel
theorem dS_takenWithin_37 : decode cS_takenWithin 37 = .ok (.if_icmp .gt 17, 3) := by decide +kernel
theorem dS_takenWithin_40 : decode cS_takenWithin 40 = .ok (.iload 6, 2) := by decide +kernel
theorem dS_takenWithin_42 : decode cS_takenWithin 42 = .ok (.iload 4, 2) := by decide +kernel
theorem dS_takenWithin_44 : decode cS_takenWithin 44 = .ok (.if_icmp .gt 10, 3) := by decide +kernel
theorem dS_takenWithin_47 : decode cS_takenWithin 47 = .ok (.aload_n 0, 1) := by decide +kernel
theorem dS_takenWithin_48 : decode cS_takenWithin 48 = .ok (.iload 5, 2) := by decide +kernel
theorem dS_takenWithin_50 : decode cS_takenWithin 50 = .ok (.invokestatic 46, 3) := by decide +kernel
theorem dS_takenWithin_53 : decode cS_takenWithin 53 = .ok (.lreturn, 1) := by decide +kernel
theorem dS_takenWithin_54 : decode cS_takenWithin 54 = .ok (.iload_n 2, 1) := by decide +kernel
theorem dS_takenWithin_55 : decode cS_takenWithin 55 = .ok (.iconst 1, 1) := by decide +kernel
theorem dS_takenWithin_56 : decode cS_takenWithin 56 = .ok (.iload_n 1, 1) := by decide +kernel
theorem dS_takenWithin_57 : decode cS_takenWithin 57 = .ok (.iconst 1, 1) := by decide +kernel
theorem dS_takenWithin_58 : decode cS_takenWithin 58 = .ok (.isub, 1) := by decide +kernel
theorem dS_takenWithin_59 : decode cS_takenWithin 59 = .ok (.ishl, 1) := by decide +kernel
theorem dS_takenWithin_60 : decode cS_takenWithin 60 = .ok (.iadd, 1) := by decide +kernel
theorem dS_takenWithin_61 : decode cS_takenWithin 61 = .ok (.istore 7, 2) := by decide +kernel
theorem dS_takenWithin_63 : decode cS_takenWithin 63 = .ok (.aload_n 0, 1) := by decide +kernel
theorem dS_takenWithin_64 : decode cS_takenWithin 64 = .ok (.getfield 113, 3) := by decide +kernel
theorem dS_takenWithin_67 : decode cS_takenWithin 67 = .ok (.iload_n 1, 1) := by decide +kernel
theorem dS_takenWithin_68 : decode cS_takenWithin 68 = .ok (.iconst 1, 1) := by decide +kernel
theorem dS_takenWithin_69 : decode cS_takenWithin 69 = .ok (.isub, 1) := by decide +kernel
theorem dS_takenWithin_70 : decode cS_takenWithin 70 = .ok (.iload_n 2, 1) := by decide +kernel
theorem dS_takenWithin_71 : decode cS_takenWithin 71 = .ok (.iload_n 3, 1) := by decide +kernel
theorem dS_takenWithin_72 : decode cS_takenWithin 72 = .ok (.iload 4, 2) := by decide +kernel
theorem dS_takenWithin_74 : decode cS_takenWithin 74 = .ok (.iload 5, 2) := by decide +kernel
theorem dS_takenWithin_76 : decode cS_takenWithin 76 = .ok (.invokestatic 64, 3) := by decide +kernel
theorem dS_takenWithin_79 : decode cS_takenWithin 79 = .ok (.lstore 8, 2) := by decide +kernel
theorem dS_takenWithin_81 : decode cS_takenWithin 81 = .ok (.aload_n 0, 1) := by decide +kernel
theorem dS_takenWithin_82 : decode cS_takenWithin 82 = .ok (.getfield 117, 3) := by decide +kernel
theorem dS_takenWithin_85 : decode cS_takenWithin 85 = .ok (.iload_n 1, 1) := by decide +kernel
theorem dS_takenWithin_86 : decode cS_takenWithin 86 = .ok (.iconst 1, 1) := by decide +kernel
theorem dS_takenWithin_87 : decode cS_takenWithin 87 = .ok (.isub, 1) := by decide +kernel
theorem dS_takenWithin_88 : decode cS_takenWithin 88 = .ok (.iload 7, 2) := by decide +kernel
theorem dS_takenWithin_90 : decode cS_takenWithin 90 = .ok (.iload_n 3, 1) := by decide +kernel
theorem dS_takenWithin_91 : decode cS_takenWithin 91 = .ok (.iload 4, 2) := by decide +kernel
theorem dS_takenWithin_93 : decode cS_takenWithin 93 = .ok (.iload 5, 2) := by decide +kernel
theorem dS_takenWithin_95 : decode cS_takenWithin 95 = .ok (.invokestatic 64, 3) := by decide +kernel
theorem dS_takenWithin_98 : decode cS_takenWithin 98 = .ok (.lstore 10, 2) := by decide +kernel
theorem dS_takenWithin_100 : decode cS_takenWithin 100 = .ok (.lload 8, 2) := by decide +kernel
theorem dS_takenWithin_102 : decode cS_takenWithin 102 = .ok (.lload 10, 2) := by decide +kernel
theorem dS_takenWithin_104 : decode cS_takenWithin 104 = .ok (.iload 5, 2) := by decide +kernel
theorem dS_takenWithin_106 : decode cS_takenWithin 106 = .ok (.invokestatic 120, 3) := by decide +kernel
theorem dS_takenWithin_109 : decode cS_takenWithin 109 = .ok (.lreturn, 1) := by decide +kernel
theorem dS_at_0 : decode cS_at 0 = .ok (.aload_n 0, 1) := by decide +kernel
theorem dS_at_1 : decode cS_at 1 = .ok (.iload_n 1, 1) := by decide +kernel
theorem dS_at_2 : decode cS_at 2 = .ok (.invokevirtual 35, 3) := by decide +kernel
theorem dS_at_5 : decode cS_at 5 = .ok (.aload_n 0, 1) := by decide +kernel
theorem dS_at_6 : decode cS_at 6 = .ok (.getfield 11, 3) := by decide +kernel
theorem dS_at_9 : decode cS_at 9 = .ok (.iload_n 1, 1) := by decide +kernel
theorem dS_at_10 : decode cS_at 10 = .ok (.aaload, 1) := by decide +kernel
theorem dS_at_11 : decode cS_at 11 = .ok (.astore_n 3, 1) := by decide +kernel
theorem dS_at_12 : decode cS_at 12 = .ok (.iload_n 2, 1) := by decide +kernel
theorem dS_at_13 : decode cS_at 13 = .ok (.ifCond .lt 14, 3) := by decide +kernel
theorem dS_at_16 : decode cS_at 16 = .ok (.iload_n 2, 1) := by decide +kernel
theorem dS_at_17 : decode cS_at 17 = .ok (.i2l, 1) := by decide +kernel
theorem dS_at_18 : decode cS_at 18 = .ok (.aload_n 3, 1) := by decide +kernel
theorem dS_at_19 : decode cS_at 19 = .ok (.iconst 0, 1) := by decide +kernel
theorem dS_at_20 : decode cS_at 20 = .ok (.invokestatic 46, 3) := by decide +kernel
theorem dS_at_23 : decode cS_at 23 = .ok (.lcmp, 1) := by decide +kernel
theorem dS_at_24 : decode cS_at 24 = .ok (.ifCond .lt 13, 3) := by decide +kernel
theorem dS_at_27 : decode cS_at 27 = .ok (.new 68, 3) := by decide +kernel
theorem dS_at_30 : decode cS_at 30 = .ok (.dup, 1) := by decide +kernel
theorem dS_at_31 : decode cS_at 31 = .ok (.ldc 70, 2) := by decide +kernel
theorem dS_at_33 : decode cS_at 33 = .ok (.invokespecial 72, 3) := by decide +kernel
theorem dS_at_36 : decode cS_at 36 = .ok (.athrow, 1) := by decide +kernel
theorem dS_at_37 : decode cS_at 37 = .ok (.aload_n 3, 1) := by decide +kernel
theorem dS_at_38 : decode cS_at 38 = .ok (.iload_n 2, 1) := by decide +kernel
theorem dS_at_39 : decode cS_at 39 = .ok (.invokestatic 73, 3) := by decide +kernel
theorem dS_at_42 : decode cS_at 42 = .ok (.ireturn, 1) := by decide +kernel
theorem dS_keyBehind_0 : decode cS_keyBehind 0 = .ok (.aload_n 0, 1) := by decide +kernel
theorem dS_keyBehind_1 : decode cS_keyBehind 1 = .ok (.astore_n 2, 1) := by decide +kernel
theorem dS_keyBehind_2 : decode cS_keyBehind 2 = .ok (.iload_n 1, 1) := by decide +kernel
theorem dS_keyBehind_3 : decode cS_keyBehind 3 = .ok (.i2l, 1) := by decide +kernel
theorem dS_keyBehind_4 : decode cS_keyBehind 4 = .ok (.lstore_n 3, 1) := by decide +kernel
theorem dS_keyBehind_5 : decode cS_keyBehind 5 = .ok (.bipush 10, 2) := by decide +kernel
theorem dS_keyBehind_7 : decode cS_keyBehind 7 = .ok (.istore 5, 2) := by decide +kernel
theorem dS_keyBehind_9 : decode cS_keyBehind 9 = .ok (.iload 5, 2) := by decide +kernel
theorem dS_keyBehind_11 : decode cS_keyBehind 11 = .ok (.ifCond .le 44, 3) := by decide +kernel
theorem dS_keyBehind_14 : decode cS_keyBehind 14 = .ok (.aload_n 2, 1) := by decide +kernel
theorem dS_keyBehind_15 : decode cS_keyBehind 15 = .ok (.invokestatic 94, 3) := by decide +kernel
theorem dS_keyBehind_18 : decode cS_keyBehind 18 = .ok (.iconst 0, 1) := by decide +kernel
theorem dS_keyBehind_19 : decode cS_keyBehind 19 = .ok (.invokestatic 46, 3) := by decide +kernel
theorem dS_keyBehind_22 : decode cS_keyBehind 22 = .ok (.lstore 6, 2) := by decide +kernel
theorem dS_keyBehind_24 : decode cS_keyBehind 24 = .ok (.lload_n 3, 1) := by decide +kernel
theorem dS_keyBehind_25 : decode cS_keyBehind 25 = .ok (.lload 6, 2) := by decide +kernel
theorem dS_keyBehind_27 : decode cS_keyBehind 27 = .ok (.lcmp, 1) := by decide +kernel
theorem dS_keyBehind_28 : decode cS_keyBehind 28 = .ok (.ifCond .ge 11, 3) := by decide +kernel
theorem dS_keyBehind_31 : decode cS_keyBehind 31 = .ok (.aload_n 2, 1) := by decide +kernel
theorem dS_keyBehind_32 : decode cS_keyBehind 32 = .ok (.invokestatic 94, 3) := by decide +kernel
theorem dS_keyBehind_35 : decode cS_keyBehind 35 = .ok (.astore_n 2, 1) := by decide +kernel
theorem dS_keyBehind_36 : decode cS_keyBehind 36 = .ok (.goto 13, 3) := by decide +kernel
theorem dS_keyBehind_39 : decode cS_keyBehind 39 = .ok (.lload_n 3, 1) := by decide +kernel
theorem dS_keyBehind_40 : decode cS_keyBehind 40 = .ok (.lload 6, 2) := by decide +kernel
theorem dS_keyBehind_42 : decode cS_keyBehind 42 = .ok (.lsub, 1) := by decide +kernel
theorem dS_keyBehind_43 : decode cS_keyBehind 43 = .ok (.lstore_n 3, 1) := by decide +kernel
theorem dS_keyBehind_44 : decode cS_keyBehind 44 = .ok (.aload_n 2, 1) := by decide +kernel
theorem dS_keyBehind_45 : decode cS_keyBehind 45 = .ok (.invokestatic 98, 3) := by decide +kernel
theorem dS_keyBehind_48 : decode cS_keyBehind 48 = .ok (.astore_n 2, 1) := by decide +kernel
theorem dS_keyBehind_49 : decode cS_keyBehind 49 = .ok (.iinc 5 (-1), 3) := by decide +kernel
theorem dS_keyBehind_52 : decode cS_keyBehind 52 = .ok (.goto (-43), 3) := by decide +kernel
theorem dS_keyBehind_55 : decode cS_keyBehind 55 = .ok (.aload_n 2, 1) := by decide +kernel
theorem dS_keyBehind_56 : decode cS_keyBehind 56 = .ok (.iconst 2, 1) := by decide +kernel
theorem dS_keyBehind_57 : decode cS_keyBehind 57 = .ok (.invokestatic 46, 3) := by decide +kernel
theorem dS_keyBehind_60 : decode cS_keyBehind 60 = .ok (.l2i, 1) := by decide +kernel
theorem dS_keyBehind_61 : decode cS_keyBehind 61 = .ok (.ireturn, 1) := by decide +kernel
theorem dS_differ_0 : decode cS_differ 0 = .ok (.aload_n 0, 1) := by decide +kernel
theorem dS_differ_1 : decode cS_differ 1 = .ok (.iload_n 1, 1) := by decide +kernel
theorem dS_differ_2 : decode cS_differ 2 = .ok (.invokevirtual 35, 3) := by decide +kernel
theorem dS_differ_5 : decode cS_differ 5 = .ok (.aload_n 0, 1) := by decide +kernel
theorem dS_differ_6 : decode cS_differ 6 = .ok (.iload_n 2, 1) := by decide +kernel
theorem dS_differ_7 : decode cS_differ 7 = .ok (.invokevirtual 35, 3) := by decide +kernel
theorem dS_differ_10 : decode cS_differ 10 = .ok (.aload_n 0, 1) := by decide +kernel
theorem dS_differ_11 : decode cS_differ 11 = .ok (.getfield 11, 3) := by decide +kernel
theorem dS_differ_14 : decode cS_differ 14 = .ok (.iload_n 1, 1) := by decide +kernel
theorem dS_differ_15 : decode cS_differ 15 = .ok (.aaload, 1) := by decide +kernel
theorem dS_differ_16 : decode cS_differ 16 = .ok (.aload_n 0, 1) := by decide +kernel
theorem dS_differ_17 : decode cS_differ 17 = .ok (.getfield 11, 3) := by decide +kernel
theorem dS_differ_20 : decode cS_differ 20 = .ok (.iload_n 2, 1) := by decide +kernel
theorem dS_differ_21 : decode cS_differ 21 = .ok (.aaload, 1) := by decide +kernel
theorem dS_differ_22 : decode cS_differ 22 = .ok (.bipush 10, 2) := by decide +kernel
theorem dS_differ_24 : decode cS_differ 24 = .ok (.invokestatic 77, 3) := by decide +kernel
theorem dS_differ_27 : decode cS_differ 27 = .ok (.ireturn, 1) := by decide +kernel
theorem dS_differences_0 : decode cS_differences 0 = .ok (.aload_n 0, 1) := by decide +kernel
theorem dS_differences_1 : decode cS_differences 1 = .ok (.aload_n 1, 1) := by decide +kernel
theorem dS_differences_2 : decode cS_differences 2 = .ok (.if_acmp .ne 5, 3) := by decide +kernel
theorem dS_differences_5 : decode cS_differences 5 = .ok (.iconst 0, 1) := by decide +kernel
theorem dS_differences_6 : decode cS_differences 6 = .ok (.ireturn, 1) := by decide +kernel
theorem dS_differences_7 : decode cS_differences 7 = .ok (.iload_n 2, 1) := by decide +kernel
theorem dS_differences_8 : decode cS_differences 8 = .ok (.ifCond .gt 17, 3) := by decide +kernel
theorem dS_differences_11 : decode cS_differences 11 = .ok (.aload_n 0, 1) := by decide +kernel
theorem dS_differences_12 : decode cS_differences 12 = .ok (.aload_n 1, 1) := by decide +kernel
theorem dS_differences_13 : decode cS_differences 13 = .ok (.invokestatic 124, 3) := by decide +kernel
theorem dS_differences_16 : decode cS_differences 16 = .ok (.ifCond .eq 7, 3) := by decide +kernel
theorem dS_differences_19 : decode cS_differences 19 = .ok (.iconst 0, 1) := by decide +kernel
theorem dS_differences_20 : decode cS_differences 20 = .ok (.goto 4, 3) := by decide +kernel
theorem dS_differences_23 : decode cS_differences 23 = .ok (.iconst 1, 1) := by decide +kernel
theorem dS_differences_24 : decode cS_differences 24 = .ok (.ireturn, 1) := by decide +kernel
theorem dS_differences_25 : decode cS_differences 25 = .ok (.aload_n 0, 1) := by decide +kernel
theorem dS_differences_26 : decode cS_differences 26 = .ok (.invokestatic 94, 3) := by decide +kernel
theorem dS_differences_29 : decode cS_differences 29 = .ok (.aload_n 1, 1) := by decide +kernel
theorem dS_differences_30 : decode cS_differences 30 = .ok (.invokestatic 94, 3) := by decide +kernel
theorem dS_differences_33 : decode cS_differences 33 = .ok (.iload_n 2, 1) := by decide +kernel
theorem dS_differences_34 : decode cS_differences 34 = .ok (.iconst 1, 1) := by decide +kernel
theorem dS_differences_35 : decode cS_differences 35 = .ok (.isub, 1) := by decide +kernel
theorem dS_differences_36 : decode cS_differences 36 = .ok (.invokestatic 77, 3) := by decide +kernel
theorem dS_differences_39 : decode cS_differences 39 = .ok (.aload_n 0, 1) := by decide +kernel
theorem dS_differences_40 : decode cS_differences 40 = .ok (.invokestatic 98, 3) := by decide +kernel
theorem dS_differences_43 : decode cS_differences 43 = .ok (.aload_n 1, 1) := by decide +kernel
theorem dS_differences_44 : decode cS_differences 44 = .ok (.invokestatic 98, 3) := by decide +kernel
theorem dS_differences_47 : decode cS_differences 47 = .ok (.iload_n 2, 1) := by decide +kernel
theorem dS_differences_48 : decode cS_differences 48 = .ok (.iconst 1, 1) := by decide +kernel
theorem dS_differences_49 : decode cS_differences 49 = .ok (.isub, 1) := by decide +kernel
theorem dS_differences_50 : decode cS_differences 50 = .ok (.invokestatic 77, 3) := by decide +kernel
theorem dS_differences_53 : decode cS_differences 53 = .ok (.iadd, 1) := by decide +kernel
theorem dS_differences_54 : decode cS_differences 54 = .ok (.ireturn, 1) := by decide +kernel
theorem dS_haveSameNumber_0 : decode cS_haveSameNumber 0 = .ok (.aload_n 0, 1) := by decide +kernel
theorem dS_haveSameNumber_1 : decode cS_haveSameNumber 1 = .ok (.iconst 0, 1) := by decide +kernel
theorem dS_haveSameNumber_2 : decode cS_haveSameNumber 2 = .ok (.invokestatic 46, 3) := by decide +kernel
theorem dS_haveSameNumber_5 : decode cS_haveSameNumber 5 = .ok (.aload_n 1, 1) := by decide +kernel
theorem dS_haveSameNumber_6 : decode cS_haveSameNumber 6 = .ok (.iconst 0, 1) := by decide +kernel
theorem dS_haveSameNumber_7 : decode cS_haveSameNumber 7 = .ok (.invokestatic 46, 3) := by decide +kernel
theorem dS_haveSameNumber_10 : decode cS_haveSameNumber 10 = .ok (.lcmp, 1) := by decide +kernel
theorem dS_haveSameNumber_11 : decode cS_haveSameNumber 11 = .ok (.ifCond .ne 21, 3) := by decide +kernel
theorem dS_haveSameNumber_14 : decode cS_haveSameNumber 14 = .ok (.aload_n 0, 1) := by decide +kernel
theorem dS_haveSameNumber_15 : decode cS_haveSameNumber 15 = .ok (.iconst 1, 1) := by decide +kernel
theorem dS_haveSameNumber_16 : decode cS_haveSameNumber 16 = .ok (.invokestatic 46, 3) := by decide +kernel
theorem dS_haveSameNumber_19 : decode cS_haveSameNumber 19 = .ok (.aload_n 1, 1) := by decide +kernel
theorem dS_haveSameNumber_20 : decode cS_haveSameNumber 20 = .ok (.iconst 1, 1) := by decide +kernel
theorem dS_haveSameNumber_21 : decode cS_haveSameNumber 21 = .ok (.invokestatic 46, 3) := by decide +kernel
theorem dS_haveSameNumber_24 : decode cS_haveSameNumber 24 = .ok (.lcmp, 1) := by decide +kernel
theorem dS_haveSameNumber_25 : decode cS_haveSameNumber 25 = .ok (.ifCond .ne 7, 3) := by decide +kernel
theorem dS_haveSameNumber_28 : decode cS_haveSameNumber 28 = .ok (.iconst 1, 1) := by decide +kernel
theorem dS_haveSameNumber_29 : decode cS_haveSameNumber 29 = .ok (.goto 4, 3) := by decide +kernel
theorem dS_haveSameNumber_32 : decode cS_haveSameNumber 32 = .ok (.iconst 0, 1) := by decide +kernel
theorem dS_haveSameNumber_33 : decode cS_haveSameNumber 33 = .ok (.ireturn, 1) := by decide +kernel
end
section
theorem dL_put_0 : decode cL_put 0 = .ok (.aload 6, 2) := by decide +kernel
theorem dL_put_2 : decode cL_put 2 = .ok (.iconst 0, 1) := by decide +kernel
theorem dL_put_3 : decode cL_put 3 = .ok (.aload_n 0, 1) := by decide +kernel
theorem dL_put_4 : decode cL_put 4 = .ok (.iload_n 1, 1) := by decide +kernel
theorem dL_put_5 : decode cL_put 5 = .ok (.iload_n 2, 1) := by decide +kernel
theorem dL_put_6 : decode cL_put 6 = .ok (.lload_n 3, 1) := by decide +kernel
theorem dL_put_7 : decode cL_put 7 = .ok (.iload 5, 2) := by decide +kernel
theorem dL_put_9 : decode cL_put 9 = .ok (.invokevirtual 7, 3) := by decide +kernel
theorem dL_put_12 : decode cL_put 12 = .ok (.i2l, 1) := by decide +kernel
theorem dL_put_13 : decode cL_put 13 = .ok (.lastore, 1) := by decide +kernel
theorem dL_put_14 : decode cL_put 14 = .ok (.goto 11, 3) := by decide +kernel
theorem dL_put_17 : decode cL_put 17 = .ok (.astore 7, 2) := by decide +kernel
theorem dL_put_19 : decode cL_put 19 = .ok (.iconst 1, 1) := by decide +kernel
theorem dL_put_20 : decode cL_put 20 = .ok (.ireturn, 1) := by decide +kernel
theorem dL_put_21 : decode cL_put 21 = .ok (.astore 7, 2) := by decide +kernel
theorem dL_put_23 : decode cL_put 23 = .ok (.iconst 2, 1) := by decide +kernel
theorem dL_put_24 : decode cL_put 24 = .ok (.ireturn, 1) := by decide +kernel
theorem dL_put_25 : decode cL_put 25 = .ok (.iconst 0, 1) := by decide +kernel
theorem dL_put_26 : decode cL_put 26 = .ok (.ireturn, 1) := by decide +kernel
theorem dL_delete_0 : decode cL_delete 0 = .ok (.aload 4, 2) := by decide +kernel
theorem dL_delete_2 : decode cL_delete 2 = .ok (.iconst 0, 1) := by decide +kernel
theorem dL_delete_3 : decode cL_delete 3 = .ok (.aload_n 0, 1) := by decide +kernel
theorem dL_delete_4 : decode cL_delete 4 = .ok (.iload_n 1, 1) := by decide +kernel
theorem dL_delete_5 : decode cL_delete 5 = .ok (.iload_n 2, 1) := by decide +kernel
theorem dL_delete_6 : decode cL_delete 6 = .ok (.iload_n 3, 1) := by decide +kernel
theorem dL_delete_7 : decode cL_delete 7 = .ok (.invokevirtual 17, 3) := by decide +kernel
theorem dL_delete_10 : decode cL_delete 10 = .ok (.i2l, 1) := by decide +kernel
theorem dL_delete_11 : decode cL_delete 11 = .ok (.lastore, 1) := by decide +kernel
theorem dL_delete_12 : decode cL_delete 12 = .ok (.goto 11, 3) := by decide +kernel
theorem dL_delete_15 : decode cL_delete 15 = .ok (.astore 5, 2) := by decide +kernel
theorem dL_delete_17 : decode cL_delete 17 = .ok (.iconst 1, 1) := by decide +kernel
theorem dL_delete_18 : decode cL_delete 18 = .ok (.ireturn, 1) := by decide +kernel
theorem dL_delete_19 : decode cL_delete 19 = .ok (.astore 5, 2) := by decide +kernel
theorem dL_delete_21 : decode cL_delete 21 = .ok (.iconst 2, 1) := by decide +kernel
theorem dL_delete_22 : decode cL_delete 22 = .ok (.ireturn, 1) := by decide +kernel
theorem dL_delete_23 : decode cL_delete 23 = .ok (.iconst 0, 1) := by decide +kernel
theorem dL_delete_24 : decode cL_delete 24 = .ok (.ireturn, 1) := by decide +kernel
theorem dL_get_0 : decode cL_get 0 = .ok (.aload_n 3, 1) := by decide +kernel
theorem dL_get_1 : decode cL_get 1 = .ok (.iconst 0, 1) := by decide +kernel
theorem dL_get_2 : decode cL_get 2 = .ok (.aload_n 0, 1) := by decide +kernel
theorem dL_get_3 : decode cL_get 3 = .ok (.iload_n 1, 1) := by decide +kernel
theorem dL_get_4 : decode cL_get 4 = .ok (.iload_n 2, 1) := by decide +kernel
theorem dL_get_5 : decode cL_get 5 = .ok (.invokevirtual 21, 3) := by decide +kernel
theorem dL_get_8 : decode cL_get 8 = .ok (.lastore, 1) := by decide +kernel
theorem dL_get_9 : decode cL_get 9 = .ok (.goto 11, 3) := by decide +kernel
theorem dL_get_12 : decode cL_get 12 = .ok (.astore 4, 2) := by decide +kernel
theorem dL_get_14 : decode cL_get 14 = .ok (.iconst 1, 1) := by decide +kernel
theorem dL_get_15 : decode cL_get 15 = .ok (.ireturn, 1) := by decide +kernel
theorem dL_get_16 : decode cL_get 16 = .ok (.astore 4, 2) := by decide +kernel
theorem dL_get_18 : decode cL_get 18 = .ok (.iconst 2, 1) := by decide +kernel
theorem dL_get_19 : decode cL_get 19 = .ok (.ireturn, 1) := by decide +kernel
theorem dL_get_20 : decode cL_get 20 = .ok (.iconst 0, 1) := by decide +kernel
theorem dL_get_21 : decode cL_get 21 = .ok (.ireturn, 1) := by decide +kernel
theorem dL_stamp_0 : decode cL_stamp 0 = .ok (.aload_n 3, 1) := by decide +kernel
theorem dL_stamp_1 : decode cL_stamp 1 = .ok (.iconst 0, 1) := by decide +kernel
theorem dL_stamp_2 : decode cL_stamp 2 = .ok (.aload_n 0, 1) := by decide +kernel
theorem dL_stamp_3 : decode cL_stamp 3 = .ok (.iload_n 1, 1) := by decide +kernel
theorem dL_stamp_4 : decode cL_stamp 4 = .ok (.iload_n 2, 1) := by decide +kernel
theorem dL_stamp_5 : decode cL_stamp 5 = .ok (.invokevirtual 27, 3) := by decide +kernel
theorem dL_stamp_8 : decode cL_stamp 8 = .ok (.i2l, 1) := by decide +kernel
theorem dL_stamp_9 : decode cL_stamp 9 = .ok (.lastore, 1) := by decide +kernel
theorem dL_stamp_10 : decode cL_stamp 10 = .ok (.goto 7, 3) := by decide +kernel
theorem dL_stamp_13 : decode cL_stamp 13 = .ok (.astore 4, 2) := by decide +kernel
theorem dL_stamp_15 : decode cL_stamp 15 = .ok (.iconst 1, 1) := by decide +kernel
theorem dL_stamp_16 : decode cL_stamp 16 = .ok (.ireturn, 1) := by decide +kernel
theorem dL_stamp_17 : decode cL_stamp 17 = .ok (.iconst 0, 1) := by decide +kernel
theorem dL_stamp_18 : decode cL_stamp 18 = .ok (.ireturn, 1) := by decide +kernel
theorem dL_part_0 : decode cL_part 0 = .ok (.aload 5, 2) := by decide +kernel
theorem dL_part_2 : decode cL_part 2 = .ok (.iconst 0, 1) := by decide +kernel
theorem dL_part_3 : decode cL_part 3 = .ok (.aload_n 0, 1) := by decide +kernel
theorem dL_part_4 : decode cL_part 4 = .ok (.iload_n 1, 1) := by decide +kernel
theorem dL_part_5 : decode cL_part 5 = .ok (.iload_n 2, 1) := by decide +kernel
theorem dL_part_6 : decode cL_part 6 = .ok (.iload_n 3, 1) := by decide +kernel
theorem dL_part_7 : decode cL_part 7 = .ok (.iload 4, 2) := by decide +kernel
theorem dL_part_9 : decode cL_part 9 = .ok (.invokevirtual 31, 3) := by decide +kernel
theorem dL_part_12 : decode cL_part 12 = .ok (.lastore, 1) := by decide +kernel
theorem dL_part_13 : decode cL_part 13 = .ok (.goto 7, 3) := by decide +kernel
theorem dL_part_16 : decode cL_part 16 = .ok (.astore 6, 2) := by decide +kernel
theorem dL_part_18 : decode cL_part 18 = .ok (.iconst 1, 1) := by decide +kernel
theorem dL_part_19 : decode cL_part 19 = .ok (.ireturn, 1) := by decide +kernel
theorem dL_part_20 : decode cL_part 20 = .ok (.iconst 0, 1) := by decide +kernel
theorem dL_part_21 : decode cL_part 21 = .ok (.ireturn, 1) := by decide +kernel
theorem dL_at_0 : decode cL_at 0 = .ok (.aload_n 3, 1) := by decide +kernel
theorem dL_at_1 : decode cL_at 1 = .ok (.iconst 0, 1) := by decide +kernel
theorem dL_at_2 : decode cL_at 2 = .ok (.aload_n 0, 1) := by decide +kernel
theorem dL_at_3 : decode cL_at 3 = .ok (.iload_n 1, 1) := by decide +kernel
theorem dL_at_4 : decode cL_at 4 = .ok (.iload_n 2, 1) := by decide +kernel
theorem dL_at_5 : decode cL_at 5 = .ok (.invokevirtual 35, 3) := by decide +kernel
theorem dL_at_8 : decode cL_at 8 = .ok (.i2l, 1) := by decide +kernel
theorem dL_at_9 : decode cL_at 9 = .ok (.lastore, 1) := by decide +kernel
theorem dL_at_10 : decode cL_at 10 = .ok (.goto 11, 3) := by decide +kernel
theorem dL_at_13 : decode cL_at 13 = .ok (.astore 4, 2) := by decide +kernel
theorem dL_at_15 : decode cL_at 15 = .ok (.iconst 1, 1) := by decide +kernel
theorem dL_at_16 : decode cL_at 16 = .ok (.ireturn, 1) := by decide +kernel
theorem dL_at_17 : decode cL_at 17 = .ok (.astore 4, 2) := by decide +kernel
theorem dL_at_19 : decode cL_at 19 = .ok (.iconst 2, 1) := by decide +kernel
theorem dL_at_20 : decode cL_at 20 = .ok (.ireturn, 1) := by decide +kernel
theorem dL_at_21 : decode cL_at 21 = .ok (.iconst 0, 1) := by decide +kernel
theorem dL_at_22 : decode cL_at 22 = .ok (.ireturn, 1) := by decide +kernel
theorem dL_differ_0 : decode cL_differ 0 = .ok (.aload_n 3, 1) := by decide +kernel
theorem dL_differ_1 : decode cL_differ 1 = .ok (.iconst 0, 1) := by decide +kernel
theorem dL_differ_2 : decode cL_differ 2 = .ok (.aload_n 0, 1) := by decide +kernel
theorem dL_differ_3 : decode cL_differ 3 = .ok (.iload_n 1, 1) := by decide +kernel
theorem dL_differ_4 : decode cL_differ 4 = .ok (.iload_n 2, 1) := by decide +kernel
theorem dL_differ_5 : decode cL_differ 5 = .ok (.invokevirtual 38, 3) := by decide +kernel
theorem dL_differ_8 : decode cL_differ 8 = .ok (.i2l, 1) := by decide +kernel
theorem dL_differ_9 : decode cL_differ 9 = .ok (.lastore, 1) := by decide +kernel
theorem dL_differ_10 : decode cL_differ 10 = .ok (.goto 7, 3) := by decide +kernel
theorem dL_differ_13 : decode cL_differ 13 = .ok (.astore 4, 2) := by decide +kernel
theorem dL_differ_15 : decode cL_differ 15 = .ok (.iconst 1, 1) := by decide +kernel
theorem dL_differ_16 : decode cL_differ 16 = .ok (.ireturn, 1) := by decide +kernel
theorem dL_differ_17 : decode cL_differ 17 = .ok (.iconst 0, 1) := by decide +kernel
theorem dL_differ_18 : decode cL_differ 18 = .ok (.ireturn, 1) := by decide +kernel
theorem dM_init_0 : decode cM_init 0 = .ok (.aload_n 0, 1) := by decide +kernel
theorem dM_init_1 : decode cM_init 1 = .ok (.invokespecial 1, 3) := by decide +kernel
theorem dM_init_4 : decode cM_init 4 = .ok (.aload_n 0, 1) := by decide +kernel
theorem dM_init_5 : decode cM_init 5 = .ok (.sipush 400, 3) := by decide +kernel
theorem dM_init_8 : decode cM_init 8 = .ok (.newarray .int, 2) := by decide +kernel
theorem dM_init_10 : decode cM_init 10 = .ok (.putfield 7, 3) := by decide +kernel
theorem dM_init_13 : decode cM_init 13 = .ok (.aload_n 0, 1) := by decide +kernel
theorem dM_init_14 : decode cM_init 14 = .ok (.sipush 400, 3) := by decide +kernel
theorem dM_init_17 : decode cM_init 17 = .ok (.newarray .int, 2) := by decide +kernel
theorem dM_init_19 : decode cM_init 19 = .ok (.putfield 13, 3) := by decide +kernel
theorem dM_init_22 : decode cM_init 22 = .ok (.aload_n 0, 1) := by decide +kernel
theorem dM_init_23 : decode cM_init 23 = .ok (.sipush 400, 3) := by decide +kernel
theorem dM_init_26 : decode cM_init 26 = .ok (.newarray .int, 2) := by decide +kernel
theorem dM_init_28 : decode cM_init 28 = .ok (.putfield 16, 3) := by decide +kernel
theorem dM_init_31 : decode cM_init 31 = .ok (.aload_n 0, 1) := by decide +kernel
theorem dM_init_32 : decode cM_init 32 = .ok (.sipush 400, 3) := by decide +kernel
theorem dM_init_35 : decode cM_init 35 = .ok (.newarray .long, 2) := by decide +kernel
theorem dM_init_37 : decode cM_init 37 = .ok (.putfield 19, 3) := by decide +kernel
theorem dM_init_40 : decode cM_init 40 = .ok (.aload_n 0, 1) := by decide +kernel
theorem dM_init_41 : decode cM_init 41 = .ok (.sipush 400, 3) := by decide +kernel
theorem dM_init_44 : decode cM_init 44 = .ok (.newarray .boolean, 2) := by decide +kernel
theorem dM_init_46 : decode cM_init 46 = .ok (.putfield 23, 3) := by decide +kernel
theorem dM_init_49 : decode cM_init 49 = .ok (.aload_n 0, 1) := by decide +kernel
theorem dM_init_50 : decode cM_init 50 = .ok (.sipush 1024, 3) := by decide +kernel
theorem dM_init_53 : decode cM_init 53 = .ok (.newarray .int, 2) := by decide +kernel
theorem dM_init_55 : decode cM_init 55 = .ok (.putfield 27, 3) := by decide +kernel
theorem dM_init_58 : decode cM_init 58 = .ok (.aload_n 0, 1) := by decide +kernel
theorem dM_init_59 : decode cM_init 59 = .ok (.sipush 1024, 3) := by decide +kernel
theorem dM_init_62 : decode cM_init 62 = .ok (.newarray .int, 2) := by decide +kernel
theorem dM_init_64 : decode cM_init 64 = .ok (.putfield 30, 3) := by decide +kernel
theorem dM_init_67 : decode cM_init 67 = .ok (.aload_n 0, 1) := by decide +kernel
theorem dM_init_68 : decode cM_init 68 = .ok (.iconst 1, 1) := by decide +kernel
theorem dM_init_69 : decode cM_init 69 = .ok (.putfield 33, 3) := by decide +kernel
theorem dM_init_72 : decode cM_init 72 = .ok (.return_, 1) := by decide +kernel
theorem dM_thrown_0 : decode cM_thrown 0 = .ok (.aload_n 0, 1) := by decide +kernel
theorem dM_thrown_1 : decode cM_thrown 1 = .ok (.getfield 37, 3) := by decide +kernel
theorem dM_thrown_4 : decode cM_thrown 4 = .ok (.ireturn, 1) := by decide +kernel
theorem dM_put_0 : decode cM_put 0 = .ok (.aload_n 0, 1) := by decide +kernel
theorem dM_put_1 : decode cM_put 1 = .ok (.iload_n 1, 1) := by decide +kernel
theorem dM_put_2 : decode cM_put 2 = .ok (.iload_n 2, 1) := by decide +kernel
theorem dM_put_3 : decode cM_put 3 = .ok (.lload_n 3, 1) := by decide +kernel
theorem dM_put_4 : decode cM_put 4 = .ok (.iload 5, 2) := by decide +kernel
theorem dM_put_6 : decode cM_put 6 = .ok (.iconst 0, 1) := by decide +kernel
theorem dM_put_7 : decode cM_put 7 = .ok (.invokevirtual 52, 3) := by decide +kernel
theorem dM_put_10 : decode cM_put 10 = .ok (.ireturn, 1) := by decide +kernel
theorem dM_change_0 : decode cM_change 0 = .ok (.aload_n 0, 1) := by decide +kernel
theorem dM_change_1 : decode cM_change 1 = .ok (.aload_n 0, 1) := by decide +kernel
theorem dM_change_2 : decode cM_change 2 = .ok (.iload_n 1, 1) := by decide +kernel
theorem dM_change_3 : decode cM_change 3 = .ok (.invokevirtual 40, 3) := by decide +kernel
theorem dM_change_6 : decode cM_change 6 = .ok (.ifCond .ne 22, 3) := by decide +kernel
theorem dM_change_9 : decode cM_change 9 = .ok (.iload_n 2, 1) := by decide +kernel
theorem dM_change_10 : decode cM_change 10 = .ok (.invokestatic 44, 3) := by decide +kernel
theorem dM_change_13 : decode cM_change 13 = .ok (.ifCond .ne 15, 3) := by decide +kernel
theorem dM_change_16 : decode cM_change 16 = .ok (.iload 5, 2) := by decide +kernel
theorem dM_change_18 : decode cM_change 18 = .ok (.ifCond .lt 10, 3) := by decide +kernel
theorem dM_change_21 : decode cM_change 21 = .ok (.iload 5, 2) := by decide +kernel
theorem dM_change_23 : decode cM_change 23 = .ok (.ldc 47, 2) := by decide +kernel
theorem dM_change_25 : decode cM_change 25 = .ok (.if_icmp .le 7, 3) := by decide +kernel
theorem dM_change_28 : decode cM_change 28 = .ok (.iconst 1, 1) := by decide +kernel
theorem dM_change_29 : decode cM_change 29 = .ok (.goto 4, 3) := by decide +kernel
theorem dM_change_32 : decode cM_change 32 = .ok (.iconst 0, 1) := by decide +kernel
theorem dM_change_33 : decode cM_change 33 = .ok (.iconst 1, 1) := by decide +kernel
theorem dM_change_34 : decode cM_change 34 = .ok (.invokevirtual 48, 3) := by decide +kernel
theorem dM_change_37 : decode cM_change 37 = .ok (.ifCond .eq 5, 3) := by decide +kernel
theorem dM_change_40 : decode cM_change 40 = .ok (.iconst 0, 1) := by decide +kernel
theorem dM_change_41 : decode cM_change 41 = .ok (.ireturn, 1) := by decide +kernel
theorem dM_change_42 : decode cM_change 42 = .ok (.aload_n 0, 1) := by decide +kernel
theorem dM_change_43 : decode cM_change 43 = .ok (.aload_n 0, 1) := by decide +kernel
theorem dM_change_44 : decode cM_change 44 = .ok (.getfield 33, 3) := by decide +kernel
theorem dM_change_47 : decode cM_change 47 = .ok (.sipush 400, 3) := by decide +kernel
theorem dM_change_50 : decode cM_change 50 = .ok (.if_icmp .ne 7, 3) := by decide +kernel
theorem dM_change_53 : decode cM_change 53 = .ok (.iconst 1, 1) := by decide +kernel
theorem dM_change_54 : decode cM_change 54 = .ok (.goto 4, 3) := by decide +kernel
theorem dM_change_57 : decode cM_change 57 = .ok (.iconst 0, 1) := by decide +kernel
theorem dM_change_58 : decode cM_change 58 = .ok (.iconst 2, 1) := by decide +kernel
theorem dM_change_59 : decode cM_change 59 = .ok (.invokevirtual 48, 3) := by decide +kernel
theorem dM_change_62 : decode cM_change 62 = .ok (.ifCond .eq 5, 3) := by decide +kernel
theorem dM_change_65 : decode cM_change 65 = .ok (.iconst 0, 1) := by decide +kernel
theorem dM_change_66 : decode cM_change 66 = .ok (.ireturn, 1) := by decide +kernel
theorem dM_change_67 : decode cM_change 67 = .ok (.aload_n 0, 1) := by decide +kernel
theorem dM_change_68 : decode cM_change 68 = .ok (.getfield 7, 3) := by decide +kernel
theorem dM_change_71 : decode cM_change 71 = .ok (.aload_n 0, 1) := by decide +kernel
theorem dM_change_72 : decode cM_change 72 = .ok (.getfield 33, 3) := by decide +kernel
theorem dM_change_75 : decode cM_change 75 = .ok (.iload_n 1, 1) := by decide +kernel
theorem dM_change_76 : decode cM_change 76 = .ok (.iastore, 1) := by decide +kernel
theorem dM_change_77 : decode cM_change 77 = .ok (.aload_n 0, 1) := by decide +kernel
theorem dM_change_78 : decode cM_change 78 = .ok (.getfield 13, 3) := by decide +kernel
theorem dM_change_81 : decode cM_change 81 = .ok (.aload_n 0, 1) := by decide +kernel
theorem dM_change_82 : decode cM_change 82 = .ok (.getfield 33, 3) := by decide +kernel
theorem dM_change_85 : decode cM_change 85 = .ok (.iload_n 2, 1) := by decide +kernel
theorem dM_change_86 : decode cM_change 86 = .ok (.iastore, 1) := by decide +kernel
theorem dM_change_87 : decode cM_change 87 = .ok (.aload_n 0, 1) := by decide +kernel
theorem dM_change_88 : decode cM_change 88 = .ok (.getfield 19, 3) := by decide +kernel
theorem dM_change_91 : decode cM_change 91 = .ok (.aload_n 0, 1) := by decide +kernel
theorem dM_change_92 : decode cM_change 92 = .ok (.getfield 33, 3) := by decide +kernel
theorem dM_change_95 : decode cM_change 95 = .ok (.lload_n 3, 1) := by decide +kernel
theorem dM_change_96 : decode cM_change 96 = .ok (.lastore, 1) := by decide +kernel
theorem dM_change_97 : decode cM_change 97 = .ok (.aload_n 0, 1) := by decide +kernel
theorem dM_change_98 : decode cM_change 98 = .ok (.getfield 23, 3) := by decide +kernel
theorem dM_change_101 : decode cM_change 101 = .ok (.aload_n 0, 1) := by decide +kernel
theorem dM_change_102 : decode cM_change 102 = .ok (.getfield 33, 3) := by decide +kernel
theorem dM_change_105 : decode cM_change 105 = .ok (.iload 6, 2) := by decide +kernel
theorem dM_change_107 : decode cM_change 107 = .ok (.bastore, 1) := by decide +kernel
theorem dM_change_108 : decode cM_change 108 = .ok (.aload_n 0, 1) := by decide +kernel
theorem dM_change_109 : decode cM_change 109 = .ok (.getfield 16, 3) := by decide +kernel
theorem dM_change_112 : decode cM_change 112 = .ok (.aload_n 0, 1) := by decide +kernel
theorem dM_change_113 : decode cM_change 113 = .ok (.getfield 33, 3) := by decide +kernel
theorem dM_change_116 : decode cM_change 116 = .ok (.iload 5, 2) := by decide +kernel
theorem dM_change_118 : decode cM_change 118 = .ok (.iastore, 1) := by decide +kernel
theorem dM_change_119 : decode cM_change 119 = .ok (.aload_n 0, 1) := by decide +kernel
theorem dM_change_120 : decode cM_change 120 = .ok (.dup, 1) := by decide +kernel
theorem dM_change_121 : decode cM_change 121 = .ok (.getfield 33, 3) := by decide +kernel
theorem dM_change_124 : decode cM_change 124 = .ok (.dup_x1, 1) := by decide +kernel
theorem dM_change_125 : decode cM_change 125 = .ok (.iconst 1, 1) := by decide +kernel
theorem dM_change_126 : decode cM_change 126 = .ok (.iadd, 1) := by decide +kernel
theorem dM_change_127 : decode cM_change 127 = .ok (.putfield 33, 3) := by decide +kernel
theorem dM_change_130 : decode cM_change 130 = .ok (.ireturn, 1) := by decide +kernel
theorem dM_noTable_0 : decode cM_noTable 0 = .ok (.iload_n 1, 1) := by decide +kernel
theorem dM_noTable_1 : decode cM_noTable 1 = .ok (.ifCond .lt 11, 3) := by decide +kernel
theorem dM_noTable_4 : decode cM_noTable 4 = .ok (.iload_n 1, 1) := by decide +kernel
theorem dM_noTable_5 : decode cM_noTable 5 = .ok (.aload_n 0, 1) := by decide +kernel
theorem dM_noTable_6 : decode cM_noTable 6 = .ok (.getfield 33, 3) := by decide +kernel
theorem dM_noTable_9 : decode cM_noTable 9 = .ok (.if_icmp .lt 7, 3) := by decide +kernel
theorem dM_noTable_12 : decode cM_noTable 12 = .ok (.iconst 1, 1) := by decide +kernel
theorem dM_noTable_13 : decode cM_noTable 13 = .ok (.goto 4, 3) := by decide +kernel
theorem dM_noTable_16 : decode cM_noTable 16 = .ok (.iconst 0, 1) := by decide +kernel
theorem dM_noTable_17 : decode cM_noTable 17 = .ok (.ireturn, 1) := by decide +kernel
theorem dM_noKey_0 : decode cM_noKey 0 = .ok (.iload_n 0, 1) := by decide +kernel
theorem dM_noKey_1 : decode cM_noKey 1 = .ok (.ifCond .lt 10, 3) := by decide +kernel
theorem dM_noKey_4 : decode cM_noKey 4 = .ok (.iload_n 0, 1) := by decide +kernel
theorem dM_noKey_5 : decode cM_noKey 5 = .ok (.sipush 1024, 3) := by decide +kernel
theorem dM_noKey_8 : decode cM_noKey 8 = .ok (.if_icmp .lt 7, 3) := by decide +kernel
theorem dM_noKey_11 : decode cM_noKey 11 = .ok (.iconst 1, 1) := by decide +kernel
theorem dM_noKey_12 : decode cM_noKey 12 = .ok (.goto 4, 3) := by decide +kernel
theorem dM_noKey_15 : decode cM_noKey 15 = .ok (.iconst 0, 1) := by decide +kernel
theorem dM_noKey_16 : decode cM_noKey 16 = .ok (.ireturn, 1) := by decide +kernel
theorem dM_fails_0 : decode cM_fails 0 = .ok (.aload_n 0, 1) := by decide +kernel
theorem dM_fails_1 : decode cM_fails 1 = .ok (.iload_n 1, 1) := by decide +kernel
theorem dM_fails_2 : decode cM_fails 2 = .ok (.ifCond .eq 7, 3) := by decide +kernel
theorem dM_fails_5 : decode cM_fails 5 = .ok (.iload_n 2, 1) := by decide +kernel
theorem dM_fails_6 : decode cM_fails 6 = .ok (.goto 4, 3) := by decide +kernel
theorem dM_fails_9 : decode cM_fails 9 = .ok (.iconst 0, 1) := by decide +kernel
theorem dM_fails_10 : decode cM_fails 10 = .ok (.putfield 37, 3) := by decide +kernel
theorem dM_fails_13 : decode cM_fails 13 = .ok (.iload_n 1, 1) := by decide +kernel
theorem dM_fails_14 : decode cM_fails 14 = .ok (.ireturn, 1) := by decide +kernel
theorem dM_delete_0 : decode cM_delete 0 = .ok (.aload_n 0, 1) := by decide +kernel
theorem dM_delete_1 : decode cM_delete 1 = .ok (.iload_n 1, 1) := by decide +kernel
theorem dM_delete_2 : decode cM_delete 2 = .ok (.iload_n 2, 1) := by decide +kernel
theorem dM_delete_3 : decode cM_delete 3 = .ok (.lconst 0, 1) := by decide +kernel
theorem dM_delete_4 : decode cM_delete 4 = .ok (.iload_n 3, 1) := by decide +kernel
theorem dM_delete_5 : decode cM_delete 5 = .ok (.iconst 1, 1) := by decide +kernel
theorem dM_delete_6 : decode cM_delete 6 = .ok (.invokevirtual 52, 3) := by decide +kernel
theorem dM_delete_9 : decode cM_delete 9 = .ok (.ireturn, 1) := by decide +kernel
theorem dM_get_0 : decode cM_get 0 = .ok (.aload_n 0, 1) := by decide +kernel
theorem dM_get_1 : decode cM_get 1 = .ok (.aload_n 0, 1) := by decide +kernel
theorem dM_get_2 : decode cM_get 2 = .ok (.iload_n 1, 1) := by decide +kernel
theorem dM_get_3 : decode cM_get 3 = .ok (.invokevirtual 40, 3) := by decide +kernel
theorem dM_get_6 : decode cM_get 6 = .ok (.ifCond .ne 10, 3) := by decide +kernel
theorem dM_get_9 : decode cM_get 9 = .ok (.iload_n 2, 1) := by decide +kernel
theorem dM_get_10 : decode cM_get 10 = .ok (.invokestatic 44, 3) := by decide +kernel
theorem dM_get_13 : decode cM_get 13 = .ok (.ifCond .eq 7, 3) := by decide +kernel
theorem dM_get_16 : decode cM_get 16 = .ok (.iconst 1, 1) := by decide +kernel
theorem dM_get_17 : decode cM_get 17 = .ok (.goto 4, 3) := by decide +kernel
theorem dM_get_20 : decode cM_get 20 = .ok (.iconst 0, 1) := by decide +kernel
theorem dM_get_21 : decode cM_get 21 = .ok (.iconst 1, 1) := by decide +kernel
theorem dM_get_22 : decode cM_get 22 = .ok (.invokevirtual 48, 3) := by decide +kernel
theorem dM_get_25 : decode cM_get 25 = .ok (.ifCond .eq 5, 3) := by decide +kernel
theorem dM_get_28 : decode cM_get 28 = .ok (.lconst 0, 1) := by decide +kernel
theorem dM_get_29 : decode cM_get 29 = .ok (.lreturn, 1) := by decide +kernel
theorem dM_get_30 : decode cM_get 30 = .ok (.aload_n 0, 1) := by decide +kernel
theorem dM_get_31 : decode cM_get 31 = .ok (.iload_n 1, 1) := by decide +kernel
theorem dM_get_32 : decode cM_get 32 = .ok (.iload_n 2, 1) := by decide +kernel
theorem dM_get_33 : decode cM_get 33 = .ok (.invokevirtual 56, 3) := by decide +kernel
theorem dM_get_36 : decode cM_get 36 = .ok (.istore_n 3, 1) := by decide +kernel
theorem dM_get_37 : decode cM_get 37 = .ok (.aload_n 0, 1) := by decide +kernel
theorem dM_get_38 : decode cM_get 38 = .ok (.iload_n 3, 1) := by decide +kernel
theorem dM_get_39 : decode cM_get 39 = .ok (.ifCond .eq 12, 3) := by decide +kernel
theorem dM_get_42 : decode cM_get 42 = .ok (.aload_n 0, 1) := by decide +kernel
theorem dM_get_43 : decode cM_get 43 = .ok (.getfield 23, 3) := by decide +kernel
theorem dM_get_46 : decode cM_get 46 = .ok (.iload_n 3, 1) := by decide +kernel
theorem dM_get_47 : decode cM_get 47 = .ok (.baload, 1) := by decide +kernel
theorem dM_get_48 : decode cM_get 48 = .ok (.ifCond .eq 7, 3) := by decide +kernel
theorem dM_get_51 : decode cM_get 51 = .ok (.iconst 1, 1) := by decide +kernel
theorem dM_get_52 : decode cM_get 52 = .ok (.goto 4, 3) := by decide +kernel
theorem dM_get_55 : decode cM_get 55 = .ok (.iconst 0, 1) := by decide +kernel
theorem dM_get_56 : decode cM_get 56 = .ok (.iconst 2, 1) := by decide +kernel
theorem dM_get_57 : decode cM_get 57 = .ok (.invokevirtual 48, 3) := by decide +kernel
theorem dM_get_60 : decode cM_get 60 = .ok (.ifCond .eq 7, 3) := by decide +kernel
theorem dM_get_63 : decode cM_get 63 = .ok (.lconst 0, 1) := by decide +kernel
theorem dM_get_64 : decode cM_get 64 = .ok (.goto 9, 3) := by decide +kernel
theorem dM_get_67 : decode cM_get 67 = .ok (.aload_n 0, 1) := by decide +kernel
theorem dM_get_68 : decode cM_get 68 = .ok (.getfield 19, 3) := by decide +kernel
theorem dM_get_71 : decode cM_get 71 = .ok (.iload_n 3, 1) := by decide +kernel
theorem dM_get_72 : decode cM_get 72 = .ok (.laload, 1) := by decide +kernel
theorem dM_get_73 : decode cM_get 73 = .ok (.lreturn, 1) := by decide +kernel
theorem dM_wrote_0 : decode cM_wrote 0 = .ok (.iload_n 1, 1) := by decide +kernel
theorem dM_wrote_1 : decode cM_wrote 1 = .ok (.istore_n 3, 1) := by decide +kernel
theorem dM_wrote_2 : decode cM_wrote 2 = .ok (.iload_n 3, 1) := by decide +kernel
theorem dM_wrote_3 : decode cM_wrote 3 = .ok (.ifCond .eq 23, 3) := by decide +kernel
theorem dM_wrote_6 : decode cM_wrote 6 = .ok (.aload_n 0, 1) := by decide +kernel
theorem dM_wrote_7 : decode cM_wrote 7 = .ok (.getfield 13, 3) := by decide +kernel
theorem dM_wrote_10 : decode cM_wrote 10 = .ok (.iload_n 3, 1) := by decide +kernel
theorem dM_wrote_11 : decode cM_wrote 11 = .ok (.iaload, 1) := by decide +kernel
theorem dM_wrote_12 : decode cM_wrote 12 = .ok (.iload_n 2, 1) := by decide +kernel
theorem dM_wrote_13 : decode cM_wrote 13 = .ok (.if_icmp .eq 13, 3) := by decide +kernel
theorem dM_wrote_16 : decode cM_wrote 16 = .ok (.aload_n 0, 1) := by decide +kernel
theorem dM_wrote_17 : decode cM_wrote 17 = .ok (.getfield 7, 3) := by decide +kernel
theorem dM_wrote_20 : decode cM_wrote 20 = .ok (.iload_n 3, 1) := by decide +kernel
theorem dM_wrote_21 : decode cM_wrote 21 = .ok (.iaload, 1) := by decide +kernel
theorem dM_wrote_22 : decode cM_wrote 22 = .ok (.istore_n 3, 1) := by decide +kernel
theorem dM_wrote_23 : decode cM_wrote 23 = .ok (.goto (-21), 3) := by decide +kernel
theorem dM_wrote_26 : decode cM_wrote 26 = .ok (.iload_n 3, 1) := by decide +kernel
theorem dM_wrote_27 : decode cM_wrote 27 = .ok (.ireturn, 1) := by decide +kernel
theorem dM_stamp_0 : decode cM_stamp 0 = .ok (.aload_n 0, 1) := by decide +kernel
theorem dM_stamp_1 : decode cM_stamp 1 = .ok (.aload_n 0, 1) := by decide +kernel
theorem dM_stamp_2 : decode cM_stamp 2 = .ok (.iload_n 1, 1) := by decide +kernel
theorem dM_stamp_3 : decode cM_stamp 3 = .ok (.invokevirtual 40, 3) := by decide +kernel
theorem dM_stamp_6 : decode cM_stamp 6 = .ok (.ifCond .ne 10, 3) := by decide +kernel
theorem dM_stamp_9 : decode cM_stamp 9 = .ok (.iload_n 2, 1) := by decide +kernel
theorem dM_stamp_10 : decode cM_stamp 10 = .ok (.invokestatic 44, 3) := by decide +kernel
theorem dM_stamp_13 : decode cM_stamp 13 = .ok (.ifCond .eq 7, 3) := by decide +kernel
theorem dM_stamp_16 : decode cM_stamp 16 = .ok (.iconst 1, 1) := by decide +kernel
theorem dM_stamp_17 : decode cM_stamp 17 = .ok (.goto 4, 3) := by decide +kernel
theorem dM_stamp_20 : decode cM_stamp 20 = .ok (.iconst 0, 1) := by decide +kernel
theorem dM_stamp_21 : decode cM_stamp 21 = .ok (.iconst 1, 1) := by decide +kernel
theorem dM_stamp_22 : decode cM_stamp 22 = .ok (.invokevirtual 48, 3) := by decide +kernel
theorem dM_stamp_25 : decode cM_stamp 25 = .ok (.ifCond .eq 5, 3) := by decide +kernel
theorem dM_stamp_28 : decode cM_stamp 28 = .ok (.iconst 0, 1) := by decide +kernel
theorem dM_stamp_29 : decode cM_stamp 29 = .ok (.ireturn, 1) := by decide +kernel
theorem dM_stamp_30 : decode cM_stamp 30 = .ok (.aload_n 0, 1) := by decide +kernel
theorem dM_stamp_31 : decode cM_stamp 31 = .ok (.iload_n 1, 1) := by decide +kernel
theorem dM_stamp_32 : decode cM_stamp 32 = .ok (.iload_n 2, 1) := by decide +kernel
theorem dM_stamp_33 : decode cM_stamp 33 = .ok (.invokevirtual 56, 3) := by decide +kernel
theorem dM_stamp_36 : decode cM_stamp 36 = .ok (.istore_n 3, 1) := by decide +kernel
theorem dM_stamp_37 : decode cM_stamp 37 = .ok (.iload_n 3, 1) := by decide +kernel
theorem dM_stamp_38 : decode cM_stamp 38 = .ok (.ifCond .ne 7, 3) := by decide +kernel
theorem dM_stamp_41 : decode cM_stamp 41 = .ok (.iconst (-1), 1) := by decide +kernel
theorem dM_stamp_42 : decode cM_stamp 42 = .ok (.goto 9, 3) := by decide +kernel
theorem dM_stamp_45 : decode cM_stamp 45 = .ok (.aload_n 0, 1) := by decide +kernel
theorem dM_stamp_46 : decode cM_stamp 46 = .ok (.getfield 16, 3) := by decide +kernel
theorem dM_stamp_49 : decode cM_stamp 49 = .ok (.iload_n 3, 1) := by decide +kernel
theorem dM_stamp_50 : decode cM_stamp 50 = .ok (.iaload, 1) := by decide +kernel
theorem dM_stamp_51 : decode cM_stamp 51 = .ok (.ireturn, 1) := by decide +kernel
theorem dM_part_0 : decode cM_part 0 = .ok (.aload_n 0, 1) := by decide +kernel
theorem dM_part_1 : decode cM_part 1 = .ok (.aload_n 0, 1) := by decide +kernel
theorem dM_part_2 : decode cM_part 2 = .ok (.iload_n 1, 1) := by decide +kernel
theorem dM_part_3 : decode cM_part 3 = .ok (.invokevirtual 40, 3) := by decide +kernel
theorem dM_part_6 : decode cM_part 6 = .ok (.ifCond .ne 33, 3) := by decide +kernel
theorem dM_part_9 : decode cM_part 9 = .ok (.iload_n 2, 1) := by decide +kernel
theorem dM_part_10 : decode cM_part 10 = .ok (.invokestatic 44, 3) := by decide +kernel
theorem dM_part_13 : decode cM_part 13 = .ok (.ifCond .ne 26, 3) := by decide +kernel
theorem dM_part_16 : decode cM_part 16 = .ok (.iload_n 3, 1) := by decide +kernel
theorem dM_part_17 : decode cM_part 17 = .ok (.invokestatic 44, 3) := by decide +kernel
theorem dM_part_20 : decode cM_part 20 = .ok (.ifCond .ne 19, 3) := by decide +kernel
theorem dM_part_23 : decode cM_part 23 = .ok (.iload_n 2, 1) := by decide +kernel
theorem dM_part_24 : decode cM_part 24 = .ok (.iload_n 3, 1) := by decide +kernel
theorem dM_part_25 : decode cM_part 25 = .ok (.if_icmp .gt 14, 3) := by decide +kernel
theorem dM_part_28 : decode cM_part 28 = .ok (.iload 4, 2) := by decide +kernel
theorem dM_part_30 : decode cM_part 30 = .ok (.ifCond .lt 9, 3) := by decide +kernel
theorem dM_part_33 : decode cM_part 33 = .ok (.iload 4, 2) := by decide +kernel
theorem dM_part_35 : decode cM_part 35 = .ok (.iconst 4, 1) := by decide +kernel
theorem dM_part_36 : decode cM_part 36 = .ok (.if_icmp .le 7, 3) := by decide +kernel
theorem dM_part_39 : decode cM_part 39 = .ok (.iconst 1, 1) := by decide +kernel
theorem dM_part_40 : decode cM_part 40 = .ok (.goto 4, 3) := by decide +kernel
theorem dM_part_43 : decode cM_part 43 = .ok (.iconst 0, 1) := by decide +kernel
theorem dM_part_44 : decode cM_part 44 = .ok (.iconst 1, 1) := by decide +kernel
theorem dM_part_45 : decode cM_part 45 = .ok (.invokevirtual 48, 3) := by decide +kernel
theorem dM_part_48 : decode cM_part 48 = .ok (.ifCond .eq 5, 3) := by decide +kernel
theorem dM_part_51 : decode cM_part 51 = .ok (.lconst 0, 1) := by decide +kernel
theorem dM_part_52 : decode cM_part 52 = .ok (.lreturn, 1) := by decide +kernel
theorem dM_part_53 : decode cM_part 53 = .ok (.aload_n 0, 1) := by decide +kernel
theorem dM_part_54 : decode cM_part 54 = .ok (.iload_n 1, 1) := by decide +kernel
theorem dM_part_55 : decode cM_part 55 = .ok (.aload_n 0, 1) := by decide +kernel
theorem dM_part_56 : decode cM_part 56 = .ok (.getfield 27, 3) := by decide +kernel
theorem dM_part_59 : decode cM_part 59 = .ok (.invokevirtual 60, 3) := by decide +kernel
theorem dM_part_62 : decode cM_part 62 = .ok (.lconst 0, 1) := by decide +kernel
theorem dM_part_63 : decode cM_part 63 = .ok (.lstore 5, 2) := by decide +kernel
theorem dM_part_65 : decode cM_part 65 = .ok (.iconst 0, 1) := by decide +kernel
theorem dM_part_66 : decode cM_part 66 = .ok (.istore 7, 2) := by decide +kernel
theorem dM_part_68 : decode cM_part 68 = .ok (.iconst (-1), 1) := by decide +kernel
theorem dM_part_69 : decode cM_part 69 = .ok (.istore 8, 2) := by decide +kernel
theorem dM_part_71 : decode cM_part 71 = .ok (.iconst (-1), 1) := by decide +kernel
theorem dM_part_72 : decode cM_part 72 = .ok (.istore 9, 2) := by decide +kernel
theorem dM_part_74 : decode cM_part 74 = .ok (.iconst (-1), 1) := by decide +kernel
theorem dM_part_75 : decode cM_part 75 = .ok (.istore 10, 2) := by decide +kernel
theorem dM_part_77 : decode cM_part 77 = .ok (.iload_n 2, 1) := by decide +kernel
theorem dM_part_78 : decode cM_part 78 = .ok (.istore 11, 2) := by decide +kernel
theorem dM_part_80 : decode cM_part 80 = .ok (.iload 11, 2) := by decide +kernel
theorem dM_part_82 : decode cM_part 82 = .ok (.iload_n 3, 1) := by decide +kernel
theorem dM_part_83 : decode cM_part 83 = .ok (.if_icmp .gt 84, 3) := by decide +kernel
theorem dM_part_86 : decode cM_part 86 = .ok (.aload_n 0, 1) := by decide +kernel
theorem dM_part_87 : decode cM_part 87 = .ok (.getfield 27, 3) := by decide +kernel
theorem dM_part_90 : decode cM_part 90 = .ok (.iload 11, 2) := by decide +kernel
theorem dM_part_92 : decode cM_part 92 = .ok (.iaload, 1) := by decide +kernel
theorem dM_part_93 : decode cM_part 93 = .ok (.istore 12, 2) := by decide +kernel
theorem dM_part_95 : decode cM_part 95 = .ok (.iload 12, 2) := by decide +kernel
theorem dM_part_97 : decode cM_part 97 = .ok (.ifCond .eq 24, 3) := by decide +kernel
theorem dM_part_100 : decode cM_part 100 = .ok (.aload_n 0, 1) := by decide +kernel
theorem dM_part_101 : decode cM_part 101 = .ok (.getfield 16, 3) := by decide +kernel
theorem dM_part_104 : decode cM_part 104 = .ok (.iload 12, 2) := by decide +kernel
theorem dM_part_106 : decode cM_part 106 = .ok (.iaload, 1) := by decide +kernel
theorem dM_part_107 : decode cM_part 107 = .ok (.iload 10, 2) := by decide +kernel
theorem dM_part_109 : decode cM_part 109 = .ok (.if_icmp .le 12, 3) := by decide +kernel
theorem dM_part_112 : decode cM_part 112 = .ok (.aload_n 0, 1) := by decide +kernel
theorem dM_part_113 : decode cM_part 113 = .ok (.getfield 16, 3) := by decide +kernel
theorem dM_part_116 : decode cM_part 116 = .ok (.iload 12, 2) := by decide +kernel
theorem dM_part_118 : decode cM_part 118 = .ok (.iaload, 1) := by decide +kernel
theorem dM_part_119 : decode cM_part 119 = .ok (.istore 10, 2) := by decide +kernel
theorem dM_part_121 : decode cM_part 121 = .ok (.aload_n 0, 1) := by decide +kernel
theorem dM_part_122 : decode cM_part 122 = .ok (.iload 12, 2) := by decide +kernel
theorem dM_part_124 : decode cM_part 124 = .ok (.invokevirtual 64, 3) := by decide +kernel
theorem dM_part_127 : decode cM_part 127 = .ok (.ifCond .ne 6, 3) := by decide +kernel
theorem dM_part_130 : decode cM_part 130 = .ok (.goto 31, 3) := by decide +kernel
theorem dM_part_133 : decode cM_part 133 = .ok (.iinc 7 1, 3) := by decide +kernel
theorem dM_part_136 : decode cM_part 136 = .ok (.lload 5, 2) := by decide +kernel
theorem dM_part_138 : decode cM_part 138 = .ok (.aload_n 0, 1) := by decide +kernel
theorem dM_part_139 : decode cM_part 139 = .ok (.getfield 19, 3) := by decide +kernel
theorem dM_part_142 : decode cM_part 142 = .ok (.iload 12, 2) := by decide +kernel
theorem dM_part_144 : decode cM_part 144 = .ok (.laload, 1) := by decide +kernel
theorem dM_part_145 : decode cM_part 145 = .ok (.ladd, 1) := by decide +kernel
theorem dM_part_146 : decode cM_part 146 = .ok (.lstore 5, 2) := by decide +kernel
theorem dM_part_148 : decode cM_part 148 = .ok (.iload 11, 2) := by decide +kernel
theorem dM_part_150 : decode cM_part 150 = .ok (.istore 9, 2) := by decide +kernel
theorem dM_part_152 : decode cM_part 152 = .ok (.iload 8, 2) := by decide +kernel
theorem dM_part_154 : decode cM_part 154 = .ok (.ifCond .ge 7, 3) := by decide +kernel
theorem dM_part_157 : decode cM_part 157 = .ok (.iload 11, 2) := by decide +kernel
theorem dM_part_159 : decode cM_part 159 = .ok (.istore 8, 2) := by decide +kernel
theorem dM_part_161 : decode cM_part 161 = .ok (.iinc 11 1, 3) := by decide +kernel
theorem dM_part_164 : decode cM_part 164 = .ok (.goto (-84), 3) := by decide +kernel
theorem dM_part_167 : decode cM_part 167 = .ok (.iload 4, 2) := by decide +kernel
theorem dM_part_169 : decode cM_part 169 = .ok (.ifCond .ne 9, 3) := by decide +kernel
theorem dM_part_172 : decode cM_part 172 = .ok (.iload 7, 2) := by decide +kernel
theorem dM_part_174 : decode cM_part 174 = .ok (.i2l, 1) := by decide +kernel
theorem dM_part_175 : decode cM_part 175 = .ok (.goto 41, 3) := by decide +kernel
theorem dM_part_178 : decode cM_part 178 = .ok (.iload 4, 2) := by decide +kernel
theorem dM_part_180 : decode cM_part 180 = .ok (.iconst 1, 1) := by decide +kernel
theorem dM_part_181 : decode cM_part 181 = .ok (.if_icmp .ne 8, 3) := by decide +kernel
theorem dM_part_184 : decode cM_part 184 = .ok (.lload 5, 2) := by decide +kernel
theorem dM_part_186 : decode cM_part 186 = .ok (.goto 30, 3) := by decide +kernel
theorem dM_part_189 : decode cM_part 189 = .ok (.iload 4, 2) := by decide +kernel
theorem dM_part_191 : decode cM_part 191 = .ok (.iconst 2, 1) := by decide +kernel
theorem dM_part_192 : decode cM_part 192 = .ok (.if_icmp .ne 9, 3) := by decide +kernel
theorem dM_part_195 : decode cM_part 195 = .ok (.iload 8, 2) := by decide +kernel
theorem dM_part_197 : decode cM_part 197 = .ok (.i2l, 1) := by decide +kernel
theorem dM_part_198 : decode cM_part 198 = .ok (.goto 18, 3) := by decide +kernel
theorem dM_part_201 : decode cM_part 201 = .ok (.iload 4, 2) := by decide +kernel
theorem dM_part_203 : decode cM_part 203 = .ok (.iconst 3, 1) := by decide +kernel
theorem dM_part_204 : decode cM_part 204 = .ok (.if_icmp .ne 9, 3) := by decide +kernel
theorem dM_part_207 : decode cM_part 207 = .ok (.iload 9, 2) := by decide +kernel
theorem dM_part_209 : decode cM_part 209 = .ok (.i2l, 1) := by decide +kernel
theorem dM_part_210 : decode cM_part 210 = .ok (.goto 6, 3) := by decide +kernel
theorem dM_part_213 : decode cM_part 213 = .ok (.iload 10, 2) := by decide +kernel
theorem dM_part_215 : decode cM_part 215 = .ok (.i2l, 1) := by decide +kernel
theorem dM_part_216 : decode cM_part 216 = .ok (.lreturn, 1) := by decide +kernel
theorem dM_whole_0 : decode cM_whole 0 = .ok (.iconst 0, 1) := by decide +kernel
theorem dM_whole_1 : decode cM_whole 1 = .ok (.istore_n 3, 1) := by decide +kernel
theorem dM_whole_2 : decode cM_whole 2 = .ok (.iload_n 3, 1) := by decide +kernel
theorem dM_whole_3 : decode cM_whole 3 = .ok (.sipush 1024, 3) := by decide +kernel
theorem dM_whole_6 : decode cM_whole 6 = .ok (.if_icmp .ge 13, 3) := by decide +kernel
theorem dM_whole_9 : decode cM_whole 9 = .ok (.aload_n 2, 1) := by decide +kernel
theorem dM_whole_10 : decode cM_whole 10 = .ok (.iload_n 3, 1) := by decide +kernel
theorem dM_whole_11 : decode cM_whole 11 = .ok (.iconst 0, 1) := by decide +kernel
theorem dM_whole_12 : decode cM_whole 12 = .ok (.iastore, 1) := by decide +kernel
theorem dM_whole_13 : decode cM_whole 13 = .ok (.iinc 3 1, 3) := by decide +kernel
theorem dM_whole_16 : decode cM_whole 16 = .ok (.goto (-14), 3) := by decide +kernel
theorem dM_whole_19 : decode cM_whole 19 = .ok (.iload_n 1, 1) := by decide +kernel
theorem dM_whole_20 : decode cM_whole 20 = .ok (.istore_n 3, 1) := by decide +kernel
theorem dM_whole_21 : decode cM_whole 21 = .ok (.iload_n 3, 1) := by decide +kernel
theorem dM_whole_22 : decode cM_whole 22 = .ok (.ifCond .eq 33, 3) := by decide +kernel
theorem dM_whole_25 : decode cM_whole 25 = .ok (.aload_n 2, 1) := by decide +kernel
theorem dM_whole_26 : decode cM_whole 26 = .ok (.aload_n 0, 1) := by decide +kernel
theorem dM_whole_27 : decode cM_whole 27 = .ok (.getfield 13, 3) := by decide +kernel
theorem dM_whole_30 : decode cM_whole 30 = .ok (.iload_n 3, 1) := by decide +kernel
theorem dM_whole_31 : decode cM_whole 31 = .ok (.iaload, 1) := by decide +kernel
theorem dM_whole_32 : decode cM_whole 32 = .ok (.iaload, 1) := by decide +kernel
theorem dM_whole_33 : decode cM_whole 33 = .ok (.ifCond .ne 12, 3) := by decide +kernel
theorem dM_whole_36 : decode cM_whole 36 = .ok (.aload_n 2, 1) := by decide +kernel
theorem dM_whole_37 : decode cM_whole 37 = .ok (.aload_n 0, 1) := by decide +kernel
theorem dM_whole_38 : decode cM_whole 38 = .ok (.getfield 13, 3) := by decide +kernel
theorem dM_whole_41 : decode cM_whole 41 = .ok (.iload_n 3, 1) := by decide +kernel
theorem dM_whole_42 : decode cM_whole 42 = .ok (.iaload, 1) := by decide +kernel
theorem dM_whole_43 : decode cM_whole 43 = .ok (.iload_n 3, 1) := by decide +kernel
theorem dM_whole_44 : decode cM_whole 44 = .ok (.iastore, 1) := by decide +kernel
theorem dM_whole_45 : decode cM_whole 45 = .ok (.aload_n 0, 1) := by decide +kernel
theorem dM_whole_46 : decode cM_whole 46 = .ok (.getfield 7, 3) := by decide +kernel
theorem dM_whole_49 : decode cM_whole 49 = .ok (.iload_n 3, 1) := by decide +kernel
theorem dM_whole_50 : decode cM_whole 50 = .ok (.iaload, 1) := by decide +kernel
theorem dM_whole_51 : decode cM_whole 51 = .ok (.istore_n 3, 1) := by decide +kernel
theorem dM_whole_52 : decode cM_whole 52 = .ok (.goto (-31), 3) := by decide +kernel
theorem dM_whole_55 : decode cM_whole 55 = .ok (.return_, 1) := by decide +kernel
theorem dM_has_0 : decode cM_has 0 = .ok (.iload_n 1, 1) := by decide +kernel
theorem dM_has_1 : decode cM_has 1 = .ok (.ifCond .eq 16, 3) := by decide +kernel
theorem dM_has_4 : decode cM_has 4 = .ok (.aload_n 0, 1) := by decide +kernel
theorem dM_has_5 : decode cM_has 5 = .ok (.getfield 23, 3) := by decide +kernel
theorem dM_has_8 : decode cM_has 8 = .ok (.iload_n 1, 1) := by decide +kernel
theorem dM_has_9 : decode cM_has 9 = .ok (.baload, 1) := by decide +kernel
theorem dM_has_10 : decode cM_has 10 = .ok (.ifCond .ne 7, 3) := by decide +kernel
theorem dM_has_13 : decode cM_has 13 = .ok (.iconst 1, 1) := by decide +kernel
theorem dM_has_14 : decode cM_has 14 = .ok (.goto 4, 3) := by decide +kernel
theorem dM_has_17 : decode cM_has 17 = .ok (.iconst 0, 1) := by decide +kernel
theorem dM_has_18 : decode cM_has 18 = .ok (.ireturn, 1) := by decide +kernel
theorem dM_at_0 : decode cM_at 0 = .ok (.aload_n 0, 1) := by decide +kernel
theorem dM_at_1 : decode cM_at 1 = .ok (.aload_n 0, 1) := by decide +kernel
theorem dM_at_2 : decode cM_at 2 = .ok (.iload_n 1, 1) := by decide +kernel
theorem dM_at_3 : decode cM_at 3 = .ok (.invokevirtual 40, 3) := by decide +kernel
theorem dM_at_6 : decode cM_at 6 = .ok (.iconst 1, 1) := by decide +kernel
theorem dM_at_7 : decode cM_at 7 = .ok (.invokevirtual 48, 3) := by decide +kernel
theorem dM_at_10 : decode cM_at 10 = .ok (.ifCond .eq 5, 3) := by decide +kernel
theorem dM_at_13 : decode cM_at 13 = .ok (.iconst 0, 1) := by decide +kernel
theorem dM_at_14 : decode cM_at 14 = .ok (.ireturn, 1) := by decide +kernel
theorem dM_at_15 : decode cM_at 15 = .ok (.aload_n 0, 1) := by decide +kernel
theorem dM_at_16 : decode cM_at 16 = .ok (.iload_n 1, 1) := by decide +kernel
theorem dM_at_17 : decode cM_at 17 = .ok (.aload_n 0, 1) := by decide +kernel
theorem dM_at_18 : decode cM_at 18 = .ok (.getfield 27, 3) := by decide +kernel
theorem dM_at_21 : decode cM_at 21 = .ok (.invokevirtual 60, 3) := by decide +kernel
theorem dM_at_24 : decode cM_at 24 = .ok (.iload_n 2, 1) := by decide +kernel
theorem dM_at_25 : decode cM_at 25 = .ok (.istore_n 3, 1) := by decide +kernel
theorem dM_at_26 : decode cM_at 26 = .ok (.iconst 0, 1) := by decide +kernel
theorem dM_at_27 : decode cM_at 27 = .ok (.istore 4, 2) := by decide +kernel
theorem dM_at_29 : decode cM_at 29 = .ok (.iload 4, 2) := by decide +kernel
theorem dM_at_31 : decode cM_at 31 = .ok (.sipush 1024, 3) := by decide +kernel
theorem dM_at_34 : decode cM_at 34 = .ok (.if_icmp .ge 42, 3) := by decide +kernel
theorem dM_at_37 : decode cM_at 37 = .ok (.iload_n 2, 1) := by decide +kernel
theorem dM_at_38 : decode cM_at 38 = .ok (.ifCond .lt 38, 3) := by decide +kernel
theorem dM_at_41 : decode cM_at 41 = .ok (.aload_n 0, 1) := by decide +kernel
theorem dM_at_42 : decode cM_at 42 = .ok (.aload_n 0, 1) := by decide +kernel
theorem dM_at_43 : decode cM_at 43 = .ok (.getfield 27, 3) := by decide +kernel
theorem dM_at_46 : decode cM_at 46 = .ok (.iload 4, 2) := by decide +kernel
theorem dM_at_48 : decode cM_at 48 = .ok (.iaload, 1) := by decide +kernel
theorem dM_at_49 : decode cM_at 49 = .ok (.invokevirtual 64, 3) := by decide +kernel
theorem dM_at_52 : decode cM_at 52 = .ok (.ifCond .eq 18, 3) := by decide +kernel
theorem dM_at_55 : decode cM_at 55 = .ok (.iload_n 3, 1) := by decide +kernel
theorem dM_at_56 : decode cM_at 56 = .ok (.iinc 3 (-1), 3) := by decide +kernel
theorem dM_at_59 : decode cM_at 59 = .ok (.ifCond .ne 11, 3) := by decide +kernel
theorem dM_at_62 : decode cM_at 62 = .ok (.aload_n 0, 1) := by decide +kernel
theorem dM_at_63 : decode cM_at 63 = .ok (.iconst 0, 1) := by decide +kernel
theorem dM_at_64 : decode cM_at 64 = .ok (.putfield 37, 3) := by decide +kernel
theorem dM_at_67 : decode cM_at 67 = .ok (.iload 4, 2) := by decide +kernel
theorem dM_at_69 : decode cM_at 69 = .ok (.ireturn, 1) := by decide +kernel
theorem dM_at_70 : decode cM_at 70 = .ok (.iinc 4 1, 3) := by decide +kernel
theorem dM_at_73 : decode cM_at 73 = .ok (.goto (-44), 3) := by decide +kernel
theorem dM_at_76 : decode cM_at 76 = .ok (.aload_n 0, 1) := by decide +kernel
theorem dM_at_77 : decode cM_at 77 = .ok (.iconst 1, 1) := by decide +kernel
theorem dM_at_78 : decode cM_at 78 = .ok (.iconst 2, 1) := by decide +kernel
theorem dM_at_79 : decode cM_at 79 = .ok (.invokevirtual 48, 3) := by decide +kernel
theorem dM_at_82 : decode cM_at 82 = .ok (.pop, 1) := by decide +kernel
theorem dM_at_83 : decode cM_at 83 = .ok (.iconst 0, 1) := by decide +kernel
theorem dM_at_84 : decode cM_at 84 = .ok (.ireturn, 1) := by decide +kernel
theorem dM_differ_0 : decode cM_differ 0 = .ok (.aload_n 0, 1) := by decide +kernel
theorem dM_differ_1 : decode cM_differ 1 = .ok (.aload_n 0, 1) := by decide +kernel
theorem dM_differ_2 : decode cM_differ 2 = .ok (.iload_n 1, 1) := by decide +kernel
theorem dM_differ_3 : decode cM_differ 3 = .ok (.invokevirtual 40, 3) := by decide +kernel
theorem dM_differ_6 : decode cM_differ 6 = .ok (.ifCond .ne 11, 3) := by decide +kernel
theorem dM_differ_9 : decode cM_differ 9 = .ok (.aload_n 0, 1) := by decide +kernel
theorem dM_differ_10 : decode cM_differ 10 = .ok (.iload_n 2, 1) := by decide +kernel
theorem dM_differ_11 : decode cM_differ 11 = .ok (.invokevirtual 40, 3) := by decide +kernel
theorem dM_differ_14 : decode cM_differ 14 = .ok (.ifCond .eq 7, 3) := by decide +kernel
theorem dM_differ_17 : decode cM_differ 17 = .ok (.iconst 1, 1) := by decide +kernel
theorem dM_differ_18 : decode cM_differ 18 = .ok (.goto 4, 3) := by decide +kernel
theorem dM_differ_21 : decode cM_differ 21 = .ok (.iconst 0, 1) := by decide +kernel
theorem dM_differ_22 : decode cM_differ 22 = .ok (.iconst 1, 1) := by decide +kernel
theorem dM_differ_23 : decode cM_differ 23 = .ok (.invokevirtual 48, 3) := by decide +kernel
theorem dM_differ_26 : decode cM_differ 26 = .ok (.ifCond .eq 5, 3) := by decide +kernel
theorem dM_differ_29 : decode cM_differ 29 = .ok (.iconst 0, 1) := by decide +kernel
theorem dM_differ_30 : decode cM_differ 30 = .ok (.ireturn, 1) := by decide +kernel
theorem dM_differ_31 : decode cM_differ 31 = .ok (.aload_n 0, 1) := by decide +kernel
theorem dM_differ_32 : decode cM_differ 32 = .ok (.iload_n 1, 1) := by decide +kernel
theorem dM_differ_33 : decode cM_differ 33 = .ok (.aload_n 0, 1) := by decide +kernel
theorem dM_differ_34 : decode cM_differ 34 = .ok (.getfield 27, 3) := by decide +kernel
theorem dM_differ_37 : decode cM_differ 37 = .ok (.invokevirtual 60, 3) := by decide +kernel
theorem dM_differ_40 : decode cM_differ 40 = .ok (.aload_n 0, 1) := by decide +kernel
theorem dM_differ_41 : decode cM_differ 41 = .ok (.iload_n 2, 1) := by decide +kernel
theorem dM_differ_42 : decode cM_differ 42 = .ok (.aload_n 0, 1) := by decide +kernel
theorem dM_differ_43 : decode cM_differ 43 = .ok (.getfield 30, 3) := by decide +kernel
theorem dM_differ_46 : decode cM_differ 46 = .ok (.invokevirtual 60, 3) := by decide +kernel
theorem dM_differ_49 : decode cM_differ 49 = .ok (.iconst 0, 1) := by decide +kernel
theorem dM_differ_50 : decode cM_differ 50 = .ok (.istore_n 3, 1) := by decide +kernel
theorem dM_differ_51 : decode cM_differ 51 = .ok (.iconst 0, 1) := by decide +kernel
theorem dM_differ_52 : decode cM_differ 52 = .ok (.istore 4, 2) := by decide +kernel
theorem dM_differ_54 : decode cM_differ 54 = .ok (.iload 4, 2) := by decide +kernel
theorem dM_differ_56 : decode cM_differ 56 = .ok (.sipush 1024, 3) := by decide +kernel
theorem dM_differ_59 : decode cM_differ 59 = .ok (.if_icmp .ge 78, 3) := by decide +kernel
theorem dM_differ_62 : decode cM_differ 62 = .ok (.aload_n 0, 1) := by decide +kernel
theorem dM_differ_63 : decode cM_differ 63 = .ok (.aload_n 0, 1) := by decide +kernel
theorem dM_differ_64 : decode cM_differ 64 = .ok (.getfield 27, 3) := by decide +kernel
theorem dM_differ_67 : decode cM_differ 67 = .ok (.iload 4, 2) := by decide +kernel
theorem dM_differ_69 : decode cM_differ 69 = .ok (.iaload, 1) := by decide +kernel
theorem dM_differ_70 : decode cM_differ 70 = .ok (.invokevirtual 64, 3) := by decide +kernel
theorem dM_differ_73 : decode cM_differ 73 = .ok (.istore 5, 2) := by decide +kernel
theorem dM_differ_75 : decode cM_differ 75 = .ok (.aload_n 0, 1) := by decide +kernel
theorem dM_differ_76 : decode cM_differ 76 = .ok (.aload_n 0, 1) := by decide +kernel
theorem dM_differ_77 : decode cM_differ 77 = .ok (.getfield 30, 3) := by decide +kernel
theorem dM_differ_80 : decode cM_differ 80 = .ok (.iload 4, 2) := by decide +kernel
theorem dM_differ_82 : decode cM_differ 82 = .ok (.iaload, 1) := by decide +kernel
theorem dM_differ_83 : decode cM_differ 83 = .ok (.invokevirtual 64, 3) := by decide +kernel
theorem dM_differ_86 : decode cM_differ 86 = .ok (.istore 6, 2) := by decide +kernel
theorem dM_differ_88 : decode cM_differ 88 = .ok (.iload 5, 2) := by decide +kernel
theorem dM_differ_90 : decode cM_differ 90 = .ok (.iload 6, 2) := by decide +kernel
theorem dM_differ_92 : decode cM_differ 92 = .ok (.if_icmp .ne 36, 3) := by decide +kernel
theorem dM_differ_95 : decode cM_differ 95 = .ok (.iload 5, 2) := by decide +kernel
theorem dM_differ_97 : decode cM_differ 97 = .ok (.ifCond .eq 34, 3) := by decide +kernel
theorem dM_differ_100 : decode cM_differ 100 = .ok (.aload_n 0, 1) := by decide +kernel
theorem dM_differ_101 : decode cM_differ 101 = .ok (.getfield 19, 3) := by decide +kernel
theorem dM_differ_104 : decode cM_differ 104 = .ok (.aload_n 0, 1) := by decide +kernel
theorem dM_differ_105 : decode cM_differ 105 = .ok (.getfield 27, 3) := by decide +kernel
theorem dM_differ_108 : decode cM_differ 108 = .ok (.iload 4, 2) := by decide +kernel
theorem dM_differ_110 : decode cM_differ 110 = .ok (.iaload, 1) := by decide +kernel
theorem dM_differ_111 : decode cM_differ 111 = .ok (.laload, 1) := by decide +kernel
theorem dM_differ_112 : decode cM_differ 112 = .ok (.aload_n 0, 1) := by decide +kernel
theorem dM_differ_113 : decode cM_differ 113 = .ok (.getfield 19, 3) := by decide +kernel
theorem dM_differ_116 : decode cM_differ 116 = .ok (.aload_n 0, 1) := by decide +kernel
theorem dM_differ_117 : decode cM_differ 117 = .ok (.getfield 30, 3) := by decide +kernel
theorem dM_differ_120 : decode cM_differ 120 = .ok (.iload 4, 2) := by decide +kernel
theorem dM_differ_122 : decode cM_differ 122 = .ok (.iaload, 1) := by decide +kernel
theorem dM_differ_123 : decode cM_differ 123 = .ok (.laload, 1) := by decide +kernel
theorem dM_differ_124 : decode cM_differ 124 = .ok (.lcmp, 1) := by decide +kernel
theorem dM_differ_125 : decode cM_differ 125 = .ok (.ifCond .eq 6, 3) := by decide +kernel
theorem dM_differ_128 : decode cM_differ 128 = .ok (.iinc 3 1, 3) := by decide +kernel
theorem dM_differ_131 : decode cM_differ 131 = .ok (.iinc 4 1, 3) := by decide +kernel
theorem dM_differ_134 : decode cM_differ 134 = .ok (.goto (-80), 3) := by decide +kernel
theorem dM_differ_137 : decode cM_differ 137 = .ok (.iload_n 3, 1) := by decide +kernel
theorem dM_differ_138 : decode cM_differ 138 = .ok (.ireturn, 1) := by decide +kernel
theorem dM_tables_0 : decode cM_tables 0 = .ok (.aload_n 0, 1) := by decide +kernel
theorem dM_tables_1 : decode cM_tables 1 = .ok (.iconst 0, 1) := by decide +kernel
theorem dM_tables_2 : decode cM_tables 2 = .ok (.putfield 37, 3) := by decide +kernel
theorem dM_tables_5 : decode cM_tables 5 = .ok (.aload_n 0, 1) := by decide +kernel
theorem dM_tables_6 : decode cM_tables 6 = .ok (.getfield 33, 3) := by decide +kernel
theorem dM_tables_9 : decode cM_tables 9 = .ok (.ireturn, 1) := by decide +kernel
theorem dL_law_0 : decode cL_law 0 = .ok (.new 8, 3) := by decide +kernel
theorem dL_law_3 : decode cL_law 3 = .ok (.dup, 1) := by decide +kernel
theorem dL_law_4 : decode cL_law 4 = .ok (.invokespecial 41, 3) := by decide +kernel
theorem dL_law_7 : decode cL_law 7 = .ok (.astore_n 1, 1) := by decide +kernel
theorem dL_law_8 : decode cL_law 8 = .ok (.new 42, 3) := by decide +kernel
theorem dL_law_11 : decode cL_law 11 = .ok (.dup, 1) := by decide +kernel
theorem dL_law_12 : decode cL_law 12 = .ok (.invokespecial 44, 3) := by decide +kernel
theorem dL_law_15 : decode cL_law 15 = .ok (.astore_n 2, 1) := by decide +kernel
theorem dL_law_16 : decode cL_law 16 = .ok (.iconst 1, 1) := by decide +kernel
theorem dL_law_17 : decode cL_law 17 = .ok (.newarray .long, 2) := by decide +kernel
theorem dL_law_19 : decode cL_law 19 = .ok (.astore_n 3, 1) := by decide +kernel
theorem dL_law_20 : decode cL_law 20 = .ok (.iconst 0, 1) := by decide +kernel
theorem dL_law_21 : decode cL_law 21 = .ok (.istore 4, 2) := by decide +kernel
theorem dL_law_23 : decode cL_law 23 = .ok (.iload 4, 2) := by decide +kernel
theorem dL_law_25 : decode cL_law 25 = .ok (.aload_n 0, 1) := by decide +kernel
theorem dL_law_26 : decode cL_law 26 = .ok (.arraylength, 1) := by decide +kernel
theorem dL_law_27 : decode cL_law 27 = .ok (.bipush 6, 2) := by decide +kernel
theorem dL_law_29 : decode cL_law 29 = .ok (.isub, 1) := by decide +kernel
theorem dL_law_30 : decode cL_law 30 = .ok (.if_icmp .gt 643, 3) := by decide +kernel
theorem dL_law_33 : decode cL_law 33 = .ok (.aload_n 0, 1) := by decide +kernel
theorem dL_law_34 : decode cL_law 34 = .ok (.iload 4, 2) := by decide +kernel
theorem dL_law_36 : decode cL_law 36 = .ok (.iaload, 1) := by decide +kernel
theorem dL_law_37 : decode cL_law 37 = .ok (.bipush 7, 2) := by decide +kernel
theorem dL_law_39 : decode cL_law 39 = .ok (.iand, 1) := by decide +kernel
theorem dL_law_40 : decode cL_law 40 = .ok (.tableswitch 627 0 7 #[48, 172, 252, 319, 387, 478, 546, 614], 48) := by decide +kernel
theorem dL_law_88 : decode cL_law 88 = .ok (.aload_n 1, 1) := by decide +kernel
theorem dL_law_89 : decode cL_law 89 = .ok (.aload_n 0, 1) := by decide +kernel
theorem dL_law_90 : decode cL_law 90 = .ok (.iload 4, 2) := by decide +kernel
theorem dL_law_92 : decode cL_law 92 = .ok (.iconst 1, 1) := by decide +kernel
theorem dL_law_93 : decode cL_law 93 = .ok (.iadd, 1) := by decide +kernel
theorem dL_law_94 : decode cL_law 94 = .ok (.iaload, 1) := by decide +kernel
theorem dL_law_95 : decode cL_law 95 = .ok (.aload_n 0, 1) := by decide +kernel
theorem dL_law_96 : decode cL_law 96 = .ok (.iload 4, 2) := by decide +kernel
theorem dL_law_98 : decode cL_law 98 = .ok (.iconst 2, 1) := by decide +kernel
theorem dL_law_99 : decode cL_law 99 = .ok (.iadd, 1) := by decide +kernel
theorem dL_law_100 : decode cL_law 100 = .ok (.iaload, 1) := by decide +kernel
theorem dL_law_101 : decode cL_law 101 = .ok (.aload_n 0, 1) := by decide +kernel
theorem dL_law_102 : decode cL_law 102 = .ok (.iload 4, 2) := by decide +kernel
theorem dL_law_104 : decode cL_law 104 = .ok (.iconst 3, 1) := by decide +kernel
theorem dL_law_105 : decode cL_law 105 = .ok (.iadd, 1) := by decide +kernel
theorem dL_law_106 : decode cL_law 106 = .ok (.iaload, 1) := by decide +kernel
theorem dL_law_107 : decode cL_law 107 = .ok (.i2l, 1) := by decide +kernel
theorem dL_law_108 : decode cL_law 108 = .ok (.bipush 32, 2) := by decide +kernel
theorem dL_law_110 : decode cL_law 110 = .ok (.lshl, 1) := by decide +kernel
theorem dL_law_111 : decode cL_law 111 = .ok (.aload_n 0, 1) := by decide +kernel
theorem dL_law_112 : decode cL_law 112 = .ok (.iload 4, 2) := by decide +kernel
theorem dL_law_114 : decode cL_law 114 = .ok (.iconst 4, 1) := by decide +kernel
theorem dL_law_115 : decode cL_law 115 = .ok (.iadd, 1) := by decide +kernel
theorem dL_law_116 : decode cL_law 116 = .ok (.iaload, 1) := by decide +kernel
theorem dL_law_117 : decode cL_law 117 = .ok (.i2l, 1) := by decide +kernel
theorem dL_law_118 : decode cL_law 118 = .ok (.ldc2_w 45, 3) := by decide +kernel
theorem dL_law_121 : decode cL_law 121 = .ok (.land, 1) := by decide +kernel
theorem dL_law_122 : decode cL_law 122 = .ok (.lor, 1) := by decide +kernel
theorem dL_law_123 : decode cL_law 123 = .ok (.aload_n 0, 1) := by decide +kernel
theorem dL_law_124 : decode cL_law 124 = .ok (.iload 4, 2) := by decide +kernel
theorem dL_law_126 : decode cL_law 126 = .ok (.iconst 5, 1) := by decide +kernel
theorem dL_law_127 : decode cL_law 127 = .ok (.iadd, 1) := by decide +kernel
theorem dL_law_128 : decode cL_law 128 = .ok (.iaload, 1) := by decide +kernel
theorem dL_law_129 : decode cL_law 129 = .ok (.aload_n 3, 1) := by decide +kernel
theorem dL_law_130 : decode cL_law 130 = .ok (.invokestatic 47, 3) := by decide +kernel
theorem dL_law_133 : decode cL_law 133 = .ok (.istore 5, 2) := by decide +kernel
theorem dL_law_135 : decode cL_law 135 = .ok (.aload_n 2, 1) := by decide +kernel
theorem dL_law_136 : decode cL_law 136 = .ok (.aload_n 0, 1) := by decide +kernel
theorem dL_law_137 : decode cL_law 137 = .ok (.iload 4, 2) := by decide +kernel
theorem dL_law_139 : decode cL_law 139 = .ok (.iconst 1, 1) := by decide +kernel
theorem dL_law_140 : decode cL_law 140 = .ok (.iadd, 1) := by decide +kernel
theorem dL_law_141 : decode cL_law 141 = .ok (.iaload, 1) := by decide +kernel
theorem dL_law_142 : decode cL_law 142 = .ok (.aload_n 0, 1) := by decide +kernel
theorem dL_law_143 : decode cL_law 143 = .ok (.iload 4, 2) := by decide +kernel
theorem dL_law_145 : decode cL_law 145 = .ok (.iconst 2, 1) := by decide +kernel
theorem dL_law_146 : decode cL_law 146 = .ok (.iadd, 1) := by decide +kernel
theorem dL_law_147 : decode cL_law 147 = .ok (.iaload, 1) := by decide +kernel
theorem dL_law_148 : decode cL_law 148 = .ok (.aload_n 0, 1) := by decide +kernel
theorem dL_law_149 : decode cL_law 149 = .ok (.iload 4, 2) := by decide +kernel
theorem dL_law_151 : decode cL_law 151 = .ok (.iconst 3, 1) := by decide +kernel
theorem dL_law_152 : decode cL_law 152 = .ok (.iadd, 1) := by decide +kernel
theorem dL_law_153 : decode cL_law 153 = .ok (.iaload, 1) := by decide +kernel
theorem dL_law_154 : decode cL_law 154 = .ok (.i2l, 1) := by decide +kernel
theorem dL_law_155 : decode cL_law 155 = .ok (.bipush 32, 2) := by decide +kernel
theorem dL_law_157 : decode cL_law 157 = .ok (.lshl, 1) := by decide +kernel
theorem dL_law_158 : decode cL_law 158 = .ok (.aload_n 0, 1) := by decide +kernel
theorem dL_law_159 : decode cL_law 159 = .ok (.iload 4, 2) := by decide +kernel
theorem dL_law_161 : decode cL_law 161 = .ok (.iconst 4, 1) := by decide +kernel
theorem dL_law_162 : decode cL_law 162 = .ok (.iadd, 1) := by decide +kernel
theorem dL_law_163 : decode cL_law 163 = .ok (.iaload, 1) := by decide +kernel
theorem dL_law_164 : decode cL_law 164 = .ok (.i2l, 1) := by decide +kernel
theorem dL_law_165 : decode cL_law 165 = .ok (.ldc2_w 45, 3) := by decide +kernel
theorem dL_law_168 : decode cL_law 168 = .ok (.land, 1) := by decide +kernel
theorem dL_law_169 : decode cL_law 169 = .ok (.lor, 1) := by decide +kernel
theorem dL_law_170 : decode cL_law 170 = .ok (.aload_n 0, 1) := by decide +kernel
theorem dL_law_171 : decode cL_law 171 = .ok (.iload 4, 2) := by decide +kernel
theorem dL_law_173 : decode cL_law 173 = .ok (.iconst 5, 1) := by decide +kernel
theorem dL_law_174 : decode cL_law 174 = .ok (.iadd, 1) := by decide +kernel
theorem dL_law_175 : decode cL_law 175 = .ok (.iaload, 1) := by decide +kernel
theorem dL_law_176 : decode cL_law 176 = .ok (.invokevirtual 52, 3) := by decide +kernel
theorem dL_law_179 : decode cL_law 179 = .ok (.istore 6, 2) := by decide +kernel
theorem dL_law_181 : decode cL_law 181 = .ok (.aload_n 2, 1) := by decide +kernel
theorem dL_law_182 : decode cL_law 182 = .ok (.invokevirtual 53, 3) := by decide +kernel
theorem dL_law_185 : decode cL_law 185 = .ok (.iload 5, 2) := by decide +kernel
theorem dL_law_187 : decode cL_law 187 = .ok (.if_icmp .eq 5, 3) := by decide +kernel
theorem dL_law_190 : decode cL_law 190 = .ok (.iconst 0, 1) := by decide +kernel
theorem dL_law_191 : decode cL_law 191 = .ok (.ireturn, 1) := by decide +kernel
theorem dL_law_192 : decode cL_law 192 = .ok (.iload 5, 2) := by decide +kernel
theorem dL_law_194 : decode cL_law 194 = .ok (.ifCond .ne 15, 3) := by decide +kernel
theorem dL_law_197 : decode cL_law 197 = .ok (.aload_n 3, 1) := by decide +kernel
theorem dL_law_198 : decode cL_law 198 = .ok (.iconst 0, 1) := by decide +kernel
theorem dL_law_199 : decode cL_law 199 = .ok (.laload, 1) := by decide +kernel
theorem dL_law_200 : decode cL_law 200 = .ok (.iload 6, 2) := by decide +kernel
theorem dL_law_202 : decode cL_law 202 = .ok (.i2l, 1) := by decide +kernel
theorem dL_law_203 : decode cL_law 203 = .ok (.lcmp, 1) := by decide +kernel
theorem dL_law_204 : decode cL_law 204 = .ok (.ifCond .eq 5, 3) := by decide +kernel
theorem dL_law_207 : decode cL_law 207 = .ok (.iconst 0, 1) := by decide +kernel
theorem dL_law_208 : decode cL_law 208 = .ok (.ireturn, 1) := by decide +kernel
theorem dL_law_209 : decode cL_law 209 = .ok (.goto 458, 3) := by decide +kernel
theorem dL_law_212 : decode cL_law 212 = .ok (.aload_n 1, 1) := by decide +kernel
theorem dL_law_213 : decode cL_law 213 = .ok (.aload_n 0, 1) := by decide +kernel
theorem dL_law_214 : decode cL_law 214 = .ok (.iload 4, 2) := by decide +kernel
theorem dL_law_216 : decode cL_law 216 = .ok (.iconst 1, 1) := by decide +kernel
theorem dL_law_217 : decode cL_law 217 = .ok (.iadd, 1) := by decide +kernel
theorem dL_law_218 : decode cL_law 218 = .ok (.iaload, 1) := by decide +kernel
theorem dL_law_219 : decode cL_law 219 = .ok (.aload_n 0, 1) := by decide +kernel
theorem dL_law_220 : decode cL_law 220 = .ok (.iload 4, 2) := by decide +kernel
theorem dL_law_222 : decode cL_law 222 = .ok (.iconst 2, 1) := by decide +kernel
theorem dL_law_223 : decode cL_law 223 = .ok (.iadd, 1) := by decide +kernel
theorem dL_law_224 : decode cL_law 224 = .ok (.iaload, 1) := by decide +kernel
theorem dL_law_225 : decode cL_law 225 = .ok (.aload_n 0, 1) := by decide +kernel
theorem dL_law_226 : decode cL_law 226 = .ok (.iload 4, 2) := by decide +kernel
theorem dL_law_228 : decode cL_law 228 = .ok (.iconst 3, 1) := by decide +kernel
theorem dL_law_229 : decode cL_law 229 = .ok (.iadd, 1) := by decide +kernel
theorem dL_law_230 : decode cL_law 230 = .ok (.iaload, 1) := by decide +kernel
theorem dL_law_231 : decode cL_law 231 = .ok (.aload_n 3, 1) := by decide +kernel
theorem dL_law_232 : decode cL_law 232 = .ok (.invokestatic 57, 3) := by decide +kernel
theorem dL_law_235 : decode cL_law 235 = .ok (.istore 5, 2) := by decide +kernel
theorem dL_law_237 : decode cL_law 237 = .ok (.aload_n 2, 1) := by decide +kernel
theorem dL_law_238 : decode cL_law 238 = .ok (.aload_n 0, 1) := by decide +kernel
theorem dL_law_239 : decode cL_law 239 = .ok (.iload 4, 2) := by decide +kernel
theorem dL_law_241 : decode cL_law 241 = .ok (.iconst 1, 1) := by decide +kernel
theorem dL_law_242 : decode cL_law 242 = .ok (.iadd, 1) := by decide +kernel
theorem dL_law_243 : decode cL_law 243 = .ok (.iaload, 1) := by decide +kernel
theorem dL_law_244 : decode cL_law 244 = .ok (.aload_n 0, 1) := by decide +kernel
theorem dL_law_245 : decode cL_law 245 = .ok (.iload 4, 2) := by decide +kernel
theorem dL_law_247 : decode cL_law 247 = .ok (.iconst 2, 1) := by decide +kernel
theorem dL_law_248 : decode cL_law 248 = .ok (.iadd, 1) := by decide +kernel
theorem dL_law_249 : decode cL_law 249 = .ok (.iaload, 1) := by decide +kernel
theorem dL_law_250 : decode cL_law 250 = .ok (.aload_n 0, 1) := by decide +kernel
theorem dL_law_251 : decode cL_law 251 = .ok (.iload 4, 2) := by decide +kernel
theorem dL_law_253 : decode cL_law 253 = .ok (.iconst 3, 1) := by decide +kernel
theorem dL_law_254 : decode cL_law 254 = .ok (.iadd, 1) := by decide +kernel
theorem dL_law_255 : decode cL_law 255 = .ok (.iaload, 1) := by decide +kernel
theorem dL_law_256 : decode cL_law 256 = .ok (.invokevirtual 60, 3) := by decide +kernel
theorem dL_law_259 : decode cL_law 259 = .ok (.istore 6, 2) := by decide +kernel
theorem dL_law_261 : decode cL_law 261 = .ok (.aload_n 2, 1) := by decide +kernel
theorem dL_law_262 : decode cL_law 262 = .ok (.invokevirtual 53, 3) := by decide +kernel
theorem dL_law_265 : decode cL_law 265 = .ok (.iload 5, 2) := by decide +kernel
theorem dL_law_267 : decode cL_law 267 = .ok (.if_icmp .eq 5, 3) := by decide +kernel
theorem dL_law_270 : decode cL_law 270 = .ok (.iconst 0, 1) := by decide +kernel
theorem dL_law_271 : decode cL_law 271 = .ok (.ireturn, 1) := by decide +kernel
theorem dL_law_272 : decode cL_law 272 = .ok (.iload 5, 2) := by decide +kernel
theorem dL_law_274 : decode cL_law 274 = .ok (.ifCond .ne 15, 3) := by decide +kernel
theorem dL_law_277 : decode cL_law 277 = .ok (.aload_n 3, 1) := by decide +kernel
theorem dL_law_278 : decode cL_law 278 = .ok (.iconst 0, 1) := by decide +kernel
theorem dL_law_279 : decode cL_law 279 = .ok (.laload, 1) := by decide +kernel
theorem dL_law_280 : decode cL_law 280 = .ok (.iload 6, 2) := by decide +kernel
theorem dL_law_282 : decode cL_law 282 = .ok (.i2l, 1) := by decide +kernel
theorem dL_law_283 : decode cL_law 283 = .ok (.lcmp, 1) := by decide +kernel
theorem dL_law_284 : decode cL_law 284 = .ok (.ifCond .eq 5, 3) := by decide +kernel
theorem dL_law_287 : decode cL_law 287 = .ok (.iconst 0, 1) := by decide +kernel
theorem dL_law_288 : decode cL_law 288 = .ok (.ireturn, 1) := by decide +kernel
theorem dL_law_289 : decode cL_law 289 = .ok (.goto 378, 3) := by decide +kernel
theorem dL_law_292 : decode cL_law 292 = .ok (.aload_n 1, 1) := by decide +kernel
theorem dL_law_293 : decode cL_law 293 = .ok (.aload_n 0, 1) := by decide +kernel
theorem dL_law_294 : decode cL_law 294 = .ok (.iload 4, 2) := by decide +kernel
theorem dL_law_296 : decode cL_law 296 = .ok (.iconst 1, 1) := by decide +kernel
theorem dL_law_297 : decode cL_law 297 = .ok (.iadd, 1) := by decide +kernel
theorem dL_law_298 : decode cL_law 298 = .ok (.iaload, 1) := by decide +kernel
theorem dL_law_299 : decode cL_law 299 = .ok (.aload_n 0, 1) := by decide +kernel
theorem dL_law_300 : decode cL_law 300 = .ok (.iload 4, 2) := by decide +kernel
theorem dL_law_302 : decode cL_law 302 = .ok (.iconst 2, 1) := by decide +kernel
theorem dL_law_303 : decode cL_law 303 = .ok (.iadd, 1) := by decide +kernel
theorem dL_law_304 : decode cL_law 304 = .ok (.iaload, 1) := by decide +kernel
theorem dL_law_305 : decode cL_law 305 = .ok (.aload_n 3, 1) := by decide +kernel
theorem dL_law_306 : decode cL_law 306 = .ok (.invokestatic 61, 3) := by decide +kernel
theorem dL_law_309 : decode cL_law 309 = .ok (.istore 5, 2) := by decide +kernel
theorem dL_law_311 : decode cL_law 311 = .ok (.aload_n 2, 1) := by decide +kernel
theorem dL_law_312 : decode cL_law 312 = .ok (.aload_n 0, 1) := by decide +kernel
theorem dL_law_313 : decode cL_law 313 = .ok (.iload 4, 2) := by decide +kernel
theorem dL_law_315 : decode cL_law 315 = .ok (.iconst 1, 1) := by decide +kernel
theorem dL_law_316 : decode cL_law 316 = .ok (.iadd, 1) := by decide +kernel
theorem dL_law_317 : decode cL_law 317 = .ok (.iaload, 1) := by decide +kernel
theorem dL_law_318 : decode cL_law 318 = .ok (.aload_n 0, 1) := by decide +kernel
theorem dL_law_319 : decode cL_law 319 = .ok (.iload 4, 2) := by decide +kernel
theorem dL_law_321 : decode cL_law 321 = .ok (.iconst 2, 1) := by decide +kernel
theorem dL_law_322 : decode cL_law 322 = .ok (.iadd, 1) := by decide +kernel
theorem dL_law_323 : decode cL_law 323 = .ok (.iaload, 1) := by decide +kernel
theorem dL_law_324 : decode cL_law 324 = .ok (.invokevirtual 64, 3) := by decide +kernel
theorem dL_law_327 : decode cL_law 327 = .ok (.lstore 6, 2) := by decide +kernel
theorem dL_law_329 : decode cL_law 329 = .ok (.aload_n 2, 1) := by decide +kernel
theorem dL_law_330 : decode cL_law 330 = .ok (.invokevirtual 53, 3) := by decide +kernel
theorem dL_law_333 : decode cL_law 333 = .ok (.iload 5, 2) := by decide +kernel
theorem dL_law_335 : decode cL_law 335 = .ok (.if_icmp .eq 5, 3) := by decide +kernel
theorem dL_law_338 : decode cL_law 338 = .ok (.iconst 0, 1) := by decide +kernel
theorem dL_law_339 : decode cL_law 339 = .ok (.ireturn, 1) := by decide +kernel
theorem dL_law_340 : decode cL_law 340 = .ok (.iload 5, 2) := by decide +kernel
theorem dL_law_342 : decode cL_law 342 = .ok (.ifCond .ne 14, 3) := by decide +kernel
theorem dL_law_345 : decode cL_law 345 = .ok (.aload_n 3, 1) := by decide +kernel
theorem dL_law_346 : decode cL_law 346 = .ok (.iconst 0, 1) := by decide +kernel
theorem dL_law_347 : decode cL_law 347 = .ok (.laload, 1) := by decide +kernel
theorem dL_law_348 : decode cL_law 348 = .ok (.lload 6, 2) := by decide +kernel
theorem dL_law_350 : decode cL_law 350 = .ok (.lcmp, 1) := by decide +kernel
theorem dL_law_351 : decode cL_law 351 = .ok (.ifCond .eq 5, 3) := by decide +kernel
theorem dL_law_354 : decode cL_law 354 = .ok (.iconst 0, 1) := by decide +kernel
theorem dL_law_355 : decode cL_law 355 = .ok (.ireturn, 1) := by decide +kernel
theorem dL_law_356 : decode cL_law 356 = .ok (.goto 311, 3) := by decide +kernel
theorem dL_law_359 : decode cL_law 359 = .ok (.aload_n 1, 1) := by decide +kernel
theorem dL_law_360 : decode cL_law 360 = .ok (.aload_n 0, 1) := by decide +kernel
theorem dL_law_361 : decode cL_law 361 = .ok (.iload 4, 2) := by decide +kernel
theorem dL_law_363 : decode cL_law 363 = .ok (.iconst 1, 1) := by decide +kernel
theorem dL_law_364 : decode cL_law 364 = .ok (.iadd, 1) := by decide +kernel
theorem dL_law_365 : decode cL_law 365 = .ok (.iaload, 1) := by decide +kernel
theorem dL_law_366 : decode cL_law 366 = .ok (.aload_n 0, 1) := by decide +kernel
theorem dL_law_367 : decode cL_law 367 = .ok (.iload 4, 2) := by decide +kernel
theorem dL_law_369 : decode cL_law 369 = .ok (.iconst 2, 1) := by decide +kernel
theorem dL_law_370 : decode cL_law 370 = .ok (.iadd, 1) := by decide +kernel
theorem dL_law_371 : decode cL_law 371 = .ok (.iaload, 1) := by decide +kernel
theorem dL_law_372 : decode cL_law 372 = .ok (.aload_n 3, 1) := by decide +kernel
theorem dL_law_373 : decode cL_law 373 = .ok (.invokestatic 65, 3) := by decide +kernel
theorem dL_law_376 : decode cL_law 376 = .ok (.istore 5, 2) := by decide +kernel
theorem dL_law_378 : decode cL_law 378 = .ok (.aload_n 2, 1) := by decide +kernel
theorem dL_law_379 : decode cL_law 379 = .ok (.aload_n 0, 1) := by decide +kernel
theorem dL_law_380 : decode cL_law 380 = .ok (.iload 4, 2) := by decide +kernel
theorem dL_law_382 : decode cL_law 382 = .ok (.iconst 1, 1) := by decide +kernel
theorem dL_law_383 : decode cL_law 383 = .ok (.iadd, 1) := by decide +kernel
theorem dL_law_384 : decode cL_law 384 = .ok (.iaload, 1) := by decide +kernel
theorem dL_law_385 : decode cL_law 385 = .ok (.aload_n 0, 1) := by decide +kernel
theorem dL_law_386 : decode cL_law 386 = .ok (.iload 4, 2) := by decide +kernel
theorem dL_law_388 : decode cL_law 388 = .ok (.iconst 2, 1) := by decide +kernel
theorem dL_law_389 : decode cL_law 389 = .ok (.iadd, 1) := by decide +kernel
theorem dL_law_390 : decode cL_law 390 = .ok (.iaload, 1) := by decide +kernel
theorem dL_law_391 : decode cL_law 391 = .ok (.invokevirtual 67, 3) := by decide +kernel
theorem dL_law_394 : decode cL_law 394 = .ok (.istore 6, 2) := by decide +kernel
theorem dL_law_396 : decode cL_law 396 = .ok (.aload_n 2, 1) := by decide +kernel
theorem dL_law_397 : decode cL_law 397 = .ok (.invokevirtual 53, 3) := by decide +kernel
theorem dL_law_400 : decode cL_law 400 = .ok (.iload 5, 2) := by decide +kernel
theorem dL_law_402 : decode cL_law 402 = .ok (.if_icmp .eq 5, 3) := by decide +kernel
theorem dL_law_405 : decode cL_law 405 = .ok (.iconst 0, 1) := by decide +kernel
theorem dL_law_406 : decode cL_law 406 = .ok (.ireturn, 1) := by decide +kernel
theorem dL_law_407 : decode cL_law 407 = .ok (.iload 5, 2) := by decide +kernel
theorem dL_law_409 : decode cL_law 409 = .ok (.ifCond .ne 15, 3) := by decide +kernel
theorem dL_law_412 : decode cL_law 412 = .ok (.aload_n 3, 1) := by decide +kernel
theorem dL_law_413 : decode cL_law 413 = .ok (.iconst 0, 1) := by decide +kernel
theorem dL_law_414 : decode cL_law 414 = .ok (.laload, 1) := by decide +kernel
theorem dL_law_415 : decode cL_law 415 = .ok (.iload 6, 2) := by decide +kernel
theorem dL_law_417 : decode cL_law 417 = .ok (.i2l, 1) := by decide +kernel
theorem dL_law_418 : decode cL_law 418 = .ok (.lcmp, 1) := by decide +kernel
theorem dL_law_419 : decode cL_law 419 = .ok (.ifCond .eq 5, 3) := by decide +kernel
theorem dL_law_422 : decode cL_law 422 = .ok (.iconst 0, 1) := by decide +kernel
theorem dL_law_423 : decode cL_law 423 = .ok (.ireturn, 1) := by decide +kernel
theorem dL_law_424 : decode cL_law 424 = .ok (.goto 243, 3) := by decide +kernel
theorem dL_law_427 : decode cL_law 427 = .ok (.aload_n 1, 1) := by decide +kernel
theorem dL_law_428 : decode cL_law 428 = .ok (.aload_n 0, 1) := by decide +kernel
theorem dL_law_429 : decode cL_law 429 = .ok (.iload 4, 2) := by decide +kernel
theorem dL_law_431 : decode cL_law 431 = .ok (.iconst 1, 1) := by decide +kernel
theorem dL_law_432 : decode cL_law 432 = .ok (.iadd, 1) := by decide +kernel
theorem dL_law_433 : decode cL_law 433 = .ok (.iaload, 1) := by decide +kernel
theorem dL_law_434 : decode cL_law 434 = .ok (.aload_n 0, 1) := by decide +kernel
theorem dL_law_435 : decode cL_law 435 = .ok (.iload 4, 2) := by decide +kernel
theorem dL_law_437 : decode cL_law 437 = .ok (.iconst 2, 1) := by decide +kernel
theorem dL_law_438 : decode cL_law 438 = .ok (.iadd, 1) := by decide +kernel
theorem dL_law_439 : decode cL_law 439 = .ok (.iaload, 1) := by decide +kernel
theorem dL_law_440 : decode cL_law 440 = .ok (.aload_n 0, 1) := by decide +kernel
theorem dL_law_441 : decode cL_law 441 = .ok (.iload 4, 2) := by decide +kernel
theorem dL_law_443 : decode cL_law 443 = .ok (.iconst 3, 1) := by decide +kernel
theorem dL_law_444 : decode cL_law 444 = .ok (.iadd, 1) := by decide +kernel
theorem dL_law_445 : decode cL_law 445 = .ok (.iaload, 1) := by decide +kernel
theorem dL_law_446 : decode cL_law 446 = .ok (.aload_n 0, 1) := by decide +kernel
theorem dL_law_447 : decode cL_law 447 = .ok (.iload 4, 2) := by decide +kernel
theorem dL_law_449 : decode cL_law 449 = .ok (.iconst 4, 1) := by decide +kernel
theorem dL_law_450 : decode cL_law 450 = .ok (.iadd, 1) := by decide +kernel
theorem dL_law_451 : decode cL_law 451 = .ok (.iaload, 1) := by decide +kernel
theorem dL_law_452 : decode cL_law 452 = .ok (.aload_n 3, 1) := by decide +kernel
theorem dL_law_453 : decode cL_law 453 = .ok (.invokestatic 68, 3) := by decide +kernel
theorem dL_law_456 : decode cL_law 456 = .ok (.istore 5, 2) := by decide +kernel
theorem dL_law_458 : decode cL_law 458 = .ok (.aload_n 2, 1) := by decide +kernel
theorem dL_law_459 : decode cL_law 459 = .ok (.aload_n 0, 1) := by decide +kernel
theorem dL_law_460 : decode cL_law 460 = .ok (.iload 4, 2) := by decide +kernel
theorem dL_law_462 : decode cL_law 462 = .ok (.iconst 1, 1) := by decide +kernel
theorem dL_law_463 : decode cL_law 463 = .ok (.iadd, 1) := by decide +kernel
theorem dL_law_464 : decode cL_law 464 = .ok (.iaload, 1) := by decide +kernel
theorem dL_law_465 : decode cL_law 465 = .ok (.aload_n 0, 1) := by decide +kernel
theorem dL_law_466 : decode cL_law 466 = .ok (.iload 4, 2) := by decide +kernel
theorem dL_law_468 : decode cL_law 468 = .ok (.iconst 2, 1) := by decide +kernel
theorem dL_law_469 : decode cL_law 469 = .ok (.iadd, 1) := by decide +kernel
theorem dL_law_470 : decode cL_law 470 = .ok (.iaload, 1) := by decide +kernel
theorem dL_law_471 : decode cL_law 471 = .ok (.aload_n 0, 1) := by decide +kernel
theorem dL_law_472 : decode cL_law 472 = .ok (.iload 4, 2) := by decide +kernel
theorem dL_law_474 : decode cL_law 474 = .ok (.iconst 3, 1) := by decide +kernel
theorem dL_law_475 : decode cL_law 475 = .ok (.iadd, 1) := by decide +kernel
theorem dL_law_476 : decode cL_law 476 = .ok (.iaload, 1) := by decide +kernel
theorem dL_law_477 : decode cL_law 477 = .ok (.aload_n 0, 1) := by decide +kernel
theorem dL_law_478 : decode cL_law 478 = .ok (.iload 4, 2) := by decide +kernel
theorem dL_law_480 : decode cL_law 480 = .ok (.iconst 4, 1) := by decide +kernel
theorem dL_law_481 : decode cL_law 481 = .ok (.iadd, 1) := by decide +kernel
theorem dL_law_482 : decode cL_law 482 = .ok (.iaload, 1) := by decide +kernel
theorem dL_law_483 : decode cL_law 483 = .ok (.invokevirtual 71, 3) := by decide +kernel
theorem dL_law_486 : decode cL_law 486 = .ok (.lstore 6, 2) := by decide +kernel
theorem dL_law_488 : decode cL_law 488 = .ok (.aload_n 2, 1) := by decide +kernel
theorem dL_law_489 : decode cL_law 489 = .ok (.invokevirtual 53, 3) := by decide +kernel
theorem dL_law_492 : decode cL_law 492 = .ok (.iload 5, 2) := by decide +kernel
theorem dL_law_494 : decode cL_law 494 = .ok (.if_icmp .eq 5, 3) := by decide +kernel
theorem dL_law_497 : decode cL_law 497 = .ok (.iconst 0, 1) := by decide +kernel
theorem dL_law_498 : decode cL_law 498 = .ok (.ireturn, 1) := by decide +kernel
theorem dL_law_499 : decode cL_law 499 = .ok (.iload 5, 2) := by decide +kernel
theorem dL_law_501 : decode cL_law 501 = .ok (.ifCond .ne 14, 3) := by decide +kernel
theorem dL_law_504 : decode cL_law 504 = .ok (.aload_n 3, 1) := by decide +kernel
theorem dL_law_505 : decode cL_law 505 = .ok (.iconst 0, 1) := by decide +kernel
theorem dL_law_506 : decode cL_law 506 = .ok (.laload, 1) := by decide +kernel
theorem dL_law_507 : decode cL_law 507 = .ok (.lload 6, 2) := by decide +kernel
theorem dL_law_509 : decode cL_law 509 = .ok (.lcmp, 1) := by decide +kernel
theorem dL_law_510 : decode cL_law 510 = .ok (.ifCond .eq 5, 3) := by decide +kernel
theorem dL_law_513 : decode cL_law 513 = .ok (.iconst 0, 1) := by decide +kernel
theorem dL_law_514 : decode cL_law 514 = .ok (.ireturn, 1) := by decide +kernel
theorem dL_law_515 : decode cL_law 515 = .ok (.goto 152, 3) := by decide +kernel
theorem dL_law_518 : decode cL_law 518 = .ok (.aload_n 1, 1) := by decide +kernel
theorem dL_law_519 : decode cL_law 519 = .ok (.aload_n 0, 1) := by decide +kernel
theorem dL_law_520 : decode cL_law 520 = .ok (.iload 4, 2) := by decide +kernel
theorem dL_law_522 : decode cL_law 522 = .ok (.iconst 1, 1) := by decide +kernel
theorem dL_law_523 : decode cL_law 523 = .ok (.iadd, 1) := by decide +kernel
theorem dL_law_524 : decode cL_law 524 = .ok (.iaload, 1) := by decide +kernel
theorem dL_law_525 : decode cL_law 525 = .ok (.aload_n 0, 1) := by decide +kernel
theorem dL_law_526 : decode cL_law 526 = .ok (.iload 4, 2) := by decide +kernel
theorem dL_law_528 : decode cL_law 528 = .ok (.iconst 2, 1) := by decide +kernel
theorem dL_law_529 : decode cL_law 529 = .ok (.iadd, 1) := by decide +kernel
theorem dL_law_530 : decode cL_law 530 = .ok (.iaload, 1) := by decide +kernel
theorem dL_law_531 : decode cL_law 531 = .ok (.aload_n 3, 1) := by decide +kernel
theorem dL_law_532 : decode cL_law 532 = .ok (.invokestatic 72, 3) := by decide +kernel
theorem dL_law_535 : decode cL_law 535 = .ok (.istore 5, 2) := by decide +kernel
theorem dL_law_537 : decode cL_law 537 = .ok (.aload_n 2, 1) := by decide +kernel
theorem dL_law_538 : decode cL_law 538 = .ok (.aload_n 0, 1) := by decide +kernel
theorem dL_law_539 : decode cL_law 539 = .ok (.iload 4, 2) := by decide +kernel
theorem dL_law_541 : decode cL_law 541 = .ok (.iconst 1, 1) := by decide +kernel
theorem dL_law_542 : decode cL_law 542 = .ok (.iadd, 1) := by decide +kernel
theorem dL_law_543 : decode cL_law 543 = .ok (.iaload, 1) := by decide +kernel
theorem dL_law_544 : decode cL_law 544 = .ok (.aload_n 0, 1) := by decide +kernel
theorem dL_law_545 : decode cL_law 545 = .ok (.iload 4, 2) := by decide +kernel
theorem dL_law_547 : decode cL_law 547 = .ok (.iconst 2, 1) := by decide +kernel
theorem dL_law_548 : decode cL_law 548 = .ok (.iadd, 1) := by decide +kernel
theorem dL_law_549 : decode cL_law 549 = .ok (.iaload, 1) := by decide +kernel
theorem dL_law_550 : decode cL_law 550 = .ok (.invokevirtual 74, 3) := by decide +kernel
theorem dL_law_553 : decode cL_law 553 = .ok (.istore 6, 2) := by decide +kernel
theorem dL_law_555 : decode cL_law 555 = .ok (.aload_n 2, 1) := by decide +kernel
theorem dL_law_556 : decode cL_law 556 = .ok (.invokevirtual 53, 3) := by decide +kernel
theorem dL_law_559 : decode cL_law 559 = .ok (.iload 5, 2) := by decide +kernel
theorem dL_law_561 : decode cL_law 561 = .ok (.if_icmp .eq 5, 3) := by decide +kernel
theorem dL_law_564 : decode cL_law 564 = .ok (.iconst 0, 1) := by decide +kernel
theorem dL_law_565 : decode cL_law 565 = .ok (.ireturn, 1) := by decide +kernel
theorem dL_law_566 : decode cL_law 566 = .ok (.iload 5, 2) := by decide +kernel
theorem dL_law_568 : decode cL_law 568 = .ok (.ifCond .ne 15, 3) := by decide +kernel
theorem dL_law_571 : decode cL_law 571 = .ok (.aload_n 3, 1) := by decide +kernel
theorem dL_law_572 : decode cL_law 572 = .ok (.iconst 0, 1) := by decide +kernel
theorem dL_law_573 : decode cL_law 573 = .ok (.laload, 1) := by decide +kernel
theorem dL_law_574 : decode cL_law 574 = .ok (.iload 6, 2) := by decide +kernel
theorem dL_law_576 : decode cL_law 576 = .ok (.i2l, 1) := by decide +kernel
theorem dL_law_577 : decode cL_law 577 = .ok (.lcmp, 1) := by decide +kernel
theorem dL_law_578 : decode cL_law 578 = .ok (.ifCond .eq 5, 3) := by decide +kernel
theorem dL_law_581 : decode cL_law 581 = .ok (.iconst 0, 1) := by decide +kernel
theorem dL_law_582 : decode cL_law 582 = .ok (.ireturn, 1) := by decide +kernel
theorem dL_law_583 : decode cL_law 583 = .ok (.goto 84, 3) := by decide +kernel
theorem dL_law_586 : decode cL_law 586 = .ok (.aload_n 1, 1) := by decide +kernel
theorem dL_law_587 : decode cL_law 587 = .ok (.aload_n 0, 1) := by decide +kernel
theorem dL_law_588 : decode cL_law 588 = .ok (.iload 4, 2) := by decide +kernel
theorem dL_law_590 : decode cL_law 590 = .ok (.iconst 1, 1) := by decide +kernel
theorem dL_law_591 : decode cL_law 591 = .ok (.iadd, 1) := by decide +kernel
theorem dL_law_592 : decode cL_law 592 = .ok (.iaload, 1) := by decide +kernel
theorem dL_law_593 : decode cL_law 593 = .ok (.aload_n 0, 1) := by decide +kernel
theorem dL_law_594 : decode cL_law 594 = .ok (.iload 4, 2) := by decide +kernel
theorem dL_law_596 : decode cL_law 596 = .ok (.iconst 2, 1) := by decide +kernel
theorem dL_law_597 : decode cL_law 597 = .ok (.iadd, 1) := by decide +kernel
theorem dL_law_598 : decode cL_law 598 = .ok (.iaload, 1) := by decide +kernel
theorem dL_law_599 : decode cL_law 599 = .ok (.aload_n 3, 1) := by decide +kernel
theorem dL_law_600 : decode cL_law 600 = .ok (.invokestatic 75, 3) := by decide +kernel
theorem dL_law_603 : decode cL_law 603 = .ok (.istore 5, 2) := by decide +kernel
theorem dL_law_605 : decode cL_law 605 = .ok (.aload_n 2, 1) := by decide +kernel
theorem dL_law_606 : decode cL_law 606 = .ok (.aload_n 0, 1) := by decide +kernel
theorem dL_law_607 : decode cL_law 607 = .ok (.iload 4, 2) := by decide +kernel
theorem dL_law_609 : decode cL_law 609 = .ok (.iconst 1, 1) := by decide +kernel
theorem dL_law_610 : decode cL_law 610 = .ok (.iadd, 1) := by decide +kernel
theorem dL_law_611 : decode cL_law 611 = .ok (.iaload, 1) := by decide +kernel
theorem dL_law_612 : decode cL_law 612 = .ok (.aload_n 0, 1) := by decide +kernel
theorem dL_law_613 : decode cL_law 613 = .ok (.iload 4, 2) := by decide +kernel
theorem dL_law_615 : decode cL_law 615 = .ok (.iconst 2, 1) := by decide +kernel
theorem dL_law_616 : decode cL_law 616 = .ok (.iadd, 1) := by decide +kernel
theorem dL_law_617 : decode cL_law 617 = .ok (.iaload, 1) := by decide +kernel
theorem dL_law_618 : decode cL_law 618 = .ok (.invokevirtual 77, 3) := by decide +kernel
theorem dL_law_621 : decode cL_law 621 = .ok (.istore 6, 2) := by decide +kernel
theorem dL_law_623 : decode cL_law 623 = .ok (.aload_n 2, 1) := by decide +kernel
theorem dL_law_624 : decode cL_law 624 = .ok (.invokevirtual 53, 3) := by decide +kernel
theorem dL_law_627 : decode cL_law 627 = .ok (.iload 5, 2) := by decide +kernel
theorem dL_law_629 : decode cL_law 629 = .ok (.if_icmp .eq 5, 3) := by decide +kernel
theorem dL_law_632 : decode cL_law 632 = .ok (.iconst 0, 1) := by decide +kernel
theorem dL_law_633 : decode cL_law 633 = .ok (.ireturn, 1) := by decide +kernel
theorem dL_law_634 : decode cL_law 634 = .ok (.iload 5, 2) := by decide +kernel
theorem dL_law_636 : decode cL_law 636 = .ok (.ifCond .ne 15, 3) := by decide +kernel
theorem dL_law_639 : decode cL_law 639 = .ok (.aload_n 3, 1) := by decide +kernel
theorem dL_law_640 : decode cL_law 640 = .ok (.iconst 0, 1) := by decide +kernel
theorem dL_law_641 : decode cL_law 641 = .ok (.laload, 1) := by decide +kernel
theorem dL_law_642 : decode cL_law 642 = .ok (.iload 6, 2) := by decide +kernel
theorem dL_law_644 : decode cL_law 644 = .ok (.i2l, 1) := by decide +kernel
theorem dL_law_645 : decode cL_law 645 = .ok (.lcmp, 1) := by decide +kernel
theorem dL_law_646 : decode cL_law 646 = .ok (.ifCond .eq 5, 3) := by decide +kernel
theorem dL_law_649 : decode cL_law 649 = .ok (.iconst 0, 1) := by decide +kernel
theorem dL_law_650 : decode cL_law 650 = .ok (.ireturn, 1) := by decide +kernel
theorem dL_law_651 : decode cL_law 651 = .ok (.goto 16, 3) := by decide +kernel
theorem dL_law_654 : decode cL_law 654 = .ok (.aload_n 1, 1) := by decide +kernel
theorem dL_law_655 : decode cL_law 655 = .ok (.invokevirtual 78, 3) := by decide +kernel
theorem dL_law_658 : decode cL_law 658 = .ok (.aload_n 2, 1) := by decide +kernel
theorem dL_law_659 : decode cL_law 659 = .ok (.invokevirtual 81, 3) := by decide +kernel
theorem dL_law_662 : decode cL_law 662 = .ok (.if_icmp .eq 5, 3) := by decide +kernel
theorem dL_law_665 : decode cL_law 665 = .ok (.iconst 0, 1) := by decide +kernel
theorem dL_law_666 : decode cL_law 666 = .ok (.ireturn, 1) := by decide +kernel
theorem dL_law_667 : decode cL_law 667 = .ok (.iinc 4 6, 3) := by decide +kernel
theorem dL_law_670 : decode cL_law 670 = .ok (.goto (-647), 3) := by decide +kernel
theorem dL_law_673 : decode cL_law 673 = .ok (.iconst 1, 1) := by decide +kernel
theorem dL_law_674 : decode cL_law 674 = .ok (.ireturn, 1) := by decide +kernel
end
section
/-! what every method of the three classes stands on: class numbers, places, words that are no good words, texts, the two statics of Throwable -/
abbrev xIA : String := "java/lang/IllegalArgumentException"
abbrev xIO : String := "java/lang/IndexOutOfBoundsException"
abbrev xUO : String := "java/lang/UnsupportedOperationException"
abbrev xNs : List String := ["java/lang/RuntimeException", "java/lang/Exception"]
abbrev gC : List vw_C := [(RB, TB, 3), (RS, TS, 2), (RM, TM, 9)]
/-- the class numbers; the law's start z, the model's cells m0..m1, the first block b0; the array classes of long, Block, int, boolean -/
abbrev gE : Type := va_G × (Nat × Nat × Nat × Nat) × (ClassId × ClassId × ClassId × ClassId)
abbrev gz (Γ : gE) : Nat := Γ.2.1.1
abbrev gm0 (Γ : gE) : Nat := Γ.2.1.2.1
abbrev gm1 (Γ : gE) : Nat := Γ.2.1.2.2.1
abbrev gb0 (Γ : gE) : Nat := Γ.2.1.2.2.2
abbrev kJ (Γ : gE) : ClassId := Γ.2.2.1
abbrev kO (Γ : gE) : ClassId := Γ.2.2.2.1
abbrev kI (Γ : gE) : ClassId := Γ.2.2.2.2.1
abbrev kZ (Γ : gE) : ClassId := Γ.2.2.2.2.2
def gA (Γ : gE) : Nat → Prop := fun q => gz Γ ≤ q
abbrev gT (Γ : gE) : List (ClassId × FieldType) := [(kJ Γ, .long), (kO Γ, .object RB), (kI Γ, .int), (kZ Γ, .boolean)]
def nW : List Cond := [.methodLinkNest RS 128 yB_init RS, .fieldLinkNest RS 113 "StampTables$Block" "lower" "LStampTables$Block;" RS, .fieldLinkNest RS 117 "StampTables$Block" "upper" "LStampTables$Block;" RS, .fieldLinkNest RS 139 "StampTables$Block" "taken" "[J" RS,
  .castable xIA xIA, .castable xIO xIO, .castable xUO xUO, .declares ⟨"java/lang/RuntimeException", "<init>", "(Ljava/lang/String;)V"⟩, .declares ⟨"java/lang/Exception", "<init>", "(Ljava/lang/String;)V"⟩, .declares ⟨"java/lang/Throwable", "<init>", "(Ljava/lang/String;)V"⟩]
def txts : List (Nat × String) := [(81, "no such table"), (83, "no such key"), (86, "no such stamp"), (88, "there are 400 tables"), (52, "the key has no number"), (59, "low is above high"), (62, "no such what"), (70, "no key has so many keys with numbers below it")]
def ncs : List (String × String) := [(xIO, xIA), (xUO, xIA)]
def PN (U : State) : Prop := (∀ w ∈ nW, va_Nw w U) ∧ (∀ q ∈ txts, ∃ a, vk_R RS q.1 q.2 a U) ∧ (∀ q ∈ ncs, va_Nc q.1 q.2 U) ∧ va_AO RB U
def PZ (Γ : gE) (U : State) (H : Heap) : Prop := gz Γ ≤ H.size ∧ vx_Zq Bundle.tN "UNASSIGNED_STACK" Bundle.steD (gA Γ) U H ∧ vx_Zq Bundle.tN "SUPPRESSED_SENTINEL" Bundle.listD (gA Γ) U H
def PW (Γ : gE) (U : State) : Prop := va_K Γ.1 gC (gT Γ) U ∧ PN U ∧ PZ Γ U U.heap
/-- a method's start: these arguments, this heap -/
abbrev gP (Γ : gE) (H : Heap) (As : List Value) : Array Value → State → Prop := va_Pc As (fun U => U.heap = H ∧ PW Γ U)
theorem PN.warm {s U : State} (hW : s.WarmedH U.vm) (h : PN s) : PN U := by
  refine ⟨fun w hw => ?_, fun q hq => ?_, fun q hq => (h.2.2.1 q hq).moved hW.alike, h.2.2.2.moved hW.alike⟩
  · have h1 := h.1 w hw
    simp only [nW, List.mem_cons, List.not_mem_nil, or_false] at hw
    rcases hw with rfl | rfl | rfl | rfl | rfl | rfl | rfl | rfl | rfl | rfl
    · exact h1.warmM hW
    · exact h1.warmF hW
    · exact h1.warmF hW
    · exact h1.warmF hW
    · exact h1.warmC hW
    · exact h1.warmC hW
    · exact h1.warmC hW
    · exact h1.warmD hW
    · exact h1.warmD hW
    · exact h1.warmD hW
  · obtain ⟨a, ha⟩ := h.2.1 q hq
    exact ⟨a, ha.warm hW⟩
theorem nW_tab : ∀ w ∈ nW, w.onTables = true := by decide +kernel
theorem PN.same {u U : State} (hv : U.vm = u.vm) (h : PN u) : PN U := by
  have hal : u.vm.Alike U.vm := by rw [hv]; exact Vm.Alike.refl _
  refine ⟨fun w hw => (h.1 w hw).same (nW_tab w hw) hv.symm, fun q hq => ?_, fun q hq => (h.2.2.1 q hq).moved hal, h.2.2.2.moved hal⟩
  obtain ⟨a, ha⟩ := h.2.1 q hq
  exact ⟨a, ha.same hv⟩
theorem PW.warm {Γ : gE} {s U : State} {H : Heap} {locs : List Loc} (h : PW Γ s) (hS : va_S (gA Γ) s.heap H locs) (hU : U.heap = H) (hW : s.WarmedH U.vm) : PW Γ U := by
  refine ⟨va_K.moved hW.alike h.1, h.2.1.warm hW, ?_⟩
  rw [hU]
  have hk : ∀ a : Nat, a < s.heap.size → ¬ gA Γ a → H[a]? = s.heap[a]? := hS.2.1
  exact ⟨Nat.le_trans h.2.2.1 hS.1, (h.2.2.2.1.kept hk).moved hW.alike, (h.2.2.2.2.kept hk).moved hW.alike⟩
theorem PW.call {Γ : gE} {U : State} (g : JFrame) (mk : MethodId) (a : Array Value) (h : PW Γ U) : PW Γ (U.calling g mk a) :=
  ⟨va_K.moved (u := U) (U := U.calling g mk a) (Vm.Alike.refl U.vm) h.1, PN.same (u := U) (U := U.calling g mk a) rfl h.2.1, h.2.2.1, vx_Zq.moved (u := U) (U := U.calling g mk a) (Vm.Alike.refl U.vm) h.2.2.2.1, vx_Zq.moved (u := U) (U := U.calling g mk a) (Vm.Alike.refl U.vm) h.2.2.2.2⟩
theorem gP_S {Γ : gE} {s : State} {H : Heap} {locs : List Loc} {As : List Value} (h : PW Γ s) (hS : va_S (gA Γ) s.heap H locs) : PreS s H (gP Γ H As) As :=
  ⟨fun a U g mk q => ⟨q.1, q.2.1, q.2.2.call g mk a⟩, fun U hU hW => ⟨rfl, hU, h.warm hS hU hW⟩⟩
theorem gP_V {Γ : gE} {s : State} {H : Heap} {locs : List Loc} {As : List Value} {b ci : Nat} {q : vw_C} {fs : List Value} (h : PW Γ s) (hS : va_S (gA Γ) s.heap H locs) (hc : gC[ci]? = some q) (hb : va_at Γ.1 gC (b, .inr (ci, fs)) H) : PreV s H q.1 b (gP Γ H (.ref b :: As)) As :=
  ⟨fun a U g mk q => ⟨q.1, q.2.1, q.2.2.call g mk a⟩, va_recv (ws := [(b, .inr (ci, fs))]) (q0 := 0) h.1 (fun k x hx => by
    have hz : k < 1 := (List.getElem?_eq_some_iff.mp hx).1
    rw [show k = 0 by omega] at hx
    cases hx
    exact hb) hc rfl, fun U hU hW => ⟨rfl, hU, h.warm hS hU hW⟩⟩
theorem p1 {D : va_G} {q : Nat × va_E} {H : Heap} (h : va_at D gC q H) : va_P D gC [q] H := fun k x hx => by
  have hz : k < 1 := (List.getElem?_eq_some_iff.mp hx).1
  rw [show k = 0 by omega] at hx
  cases hx
  exact h
theorem d1 {A : Nat → Prop} {q : Nat × va_E} (h : A q.1) : va_D A [q] := by
  refine ⟨fun i j x y hi hj _ => ?_, fun k x hx => ?_⟩
  · have h1 : i < 1 := (List.getElem?_eq_some_iff.mp hi).1
    have h2 : j < 1 := (List.getElem?_eq_some_iff.mp hj).1
    omega
  · have hz : k < 1 := (List.getElem?_eq_some_iff.mp hx).1
    rw [show k = 0 by omega] at hx
    cases hx
    exact h
theorem o1 {D : va_G} {q : Nat × va_E} {H : Heap} (h : va_P D gC [q] H) : va_at D gC q H := h 0 q rfl
/-- the throws of this class -/
abbrev xL (ic : Nat) (E : String) : List Cond := vx_atS RS ic E xNs
theorem xw_IA : ∀ w ∈ (xL 61 xIA).filter goodWord, w ∈ lw_tbl := by decide +kernel
theorem xw_IO : ∀ w ∈ (xL 72 xIO).filter goodWord, w ∈ lw_tbl := by decide +kernel
theorem xw_UO : ∀ w ∈ (xL 54 xUO).filter goodWord, w ∈ lw_tbl := by decide +kernel
theorem xb_IA : ∀ w ∈ (xL 61 xIA).filter (fun w => !goodWord w), w ∈ nW := by decide +kernel
theorem xb_IO : ∀ w ∈ (xL 72 xIO).filter (fun w => !goodWord w), w ∈ nW := by decide +kernel
theorem xb_UO : ∀ w ∈ (xL 54 xUO).filter (fun w => !goodWord w), w ∈ nW := by decide +kernel
theorem x_hat {args : Array Value} {s : State} {L : List Cond} (h1 : ∀ w ∈ L.filter goodWord, w ∈ lw_tbl) (h2 : ∀ w ∈ L.filter (fun w => !goodWord w), w ∈ nW) (hg : ∀ w ∈ gW, w.before args s = true) (hN : PN s) : ∀ w ∈ L, w.before args s = true :=
  vx_hat (B := nW) (fun w hw => hg w (List.mem_filter.mpr ⟨h1 w hw, (List.mem_filter.mp hw).2⟩)) h2 (fun w hw => (hN.1 w hw).use (nW_tab w hw))
theorem xg_IA : ∀ w ∈ Cond.classLink RS 57 xIA :: Cond.initialized xIA :: xL 61 xIA, vx_ot w = true := by decide +kernel
theorem xg_IO : ∀ w ∈ Cond.classLink RS 68 xIO :: Cond.initialized xIO :: xL 72 xIO, vx_ot w = true := by decide +kernel
theorem xg_UO : ∀ w ∈ Cond.classLink RS 50 xUO :: Cond.initialized xUO :: xL 54 xUO, vx_ot w = true := by decide +kernel
/-- what a method says where it throws: which class, and nothing old has changed -/
abbrev xT (P : String → Prop) : String → State → State → Prop := vx_X (fun _ : Unit => True) (fun E _ _ => P E) (fun _ => False)
/-- old cells but those of A as they were -/
def hX (A : Nat → Prop) (H H1 : Heap) : Prop := H.size ≤ H1.size ∧ ∀ q : Nat, q < H.size → ¬ A q → H1[q]? = H[q]?
theorem hX.rf {A : Nat → Prop} {H : Heap} : hX A H H := ⟨Nat.le_refl _, fun _ _ _ => rfl⟩
theorem hX.tr {A : Nat → Prop} {H H1 H2 : Heap} (h1 : hX A H H1) (h2 : hX A H1 H2) : hX A H H2 := ⟨Nat.le_trans h1.1 h2.1, fun q hq ha => (h2.2 q (Nat.lt_of_lt_of_le hq h1.1) ha).trans (h1.2 q hq ha)⟩
theorem hX.mono {A B : Nat → Prop} {H H1 : Heap} (h : hX A H H1) (hAB : ∀ q, q < H.size → A q → B q) : hX B H H1 := ⟨h.1, fun q hq hb => h.2 q hq (fun ha => hb (hAB q hq ha))⟩
theorem hX.at {A : Nat → Prop} {H H1 : Heap} {D : va_G} {q : Nat × va_E} (h : hX A H H1) (hq : va_at D gC q H) (ha : ¬ A q.1) : va_at D gC q H1 := hq.kept (h.2 q.1 hq.lt ha)
end
section
/-! rows for references that may be null, and shapes of this claim -/
theorem cat_rf (r : Option Nat) : (va_rf r).category = 1 := by cases r <;> rfl
section QR
variable {p : Program} {l : Launch} {e : Env} {R : Room} {s : State} {m : MethodId} {args : Array Value} {below : List Frame} {meth : Method} {c : Code} {H : Heap} {locs : List Loc} {cells slots : Nat} {Q : State → Prop}
variable {cc : ByteArray} {pc : Nat} {ls : Array Slot} {rest : List Value}
theorem q_aload_n (hexec : p.tables.exec = Jvm.exec) (hb : c.code = cc) {k : Fin 4} {i : Nat} {r : Option Nat} (hdg : decode cc pc = .ok (.aload_n k, 1)) (hi : (k : Nat) = i) (hl : ls[i]? = some (.val (va_rf r)))
    (kk : W p l e R s m args below meth c H locs cells slots Q (F0 m (pc + 1) ls (va_rf r :: rest))) : W p l e R s m args below meth c H locs cells slots Q (F0 m pc ls (rest)) := by
  cases r with
  | none => exact lv_aload_nN hexec hb hdg hi hl kk
  | some x => exact lv_aload_n hexec hb hdg hi hl kk
theorem q_aload (hexec : p.tables.exec = Jvm.exec) (hb : c.code = cc) {i : Nat} {r : Option Nat} (hdg : decode cc pc = .ok (.aload i, 2)) (hl : ls[i]? = some (.val (va_rf r)))
    (kk : W p l e R s m args below meth c H locs cells slots Q (F0 m (pc + 2) ls (va_rf r :: rest))) : W p l e R s m args below meth c H locs cells slots Q (F0 m pc ls (rest)) := by
  cases r with
  | none => exact lv_aloadN hexec hb hdg hl kk
  | some x => exact lv_aload hexec hb hdg hl kk
theorem q_astore_n (hexec : p.tables.exec = Jvm.exec) (hb : c.code = cc) {k : Fin 4} {i nL : Nat} {r : Option Nat} {lv lv' : List (Nat × Value)} (hdg : decode cc pc = .ok (.astore_n k, 1)) (hi : (k : Nat) = i) (h : lv_has ls nL lv) (hn : i < nL) (hl : (i, va_rf r) :: lv.filter (fun q => !(q.1 == i) && !(q.1 + 1 == i && q.2.category == 2)) = lv')
    (kk : ∀ ls' : Array Slot, lv_has ls' nL lv' → W p l e R s m args below meth c H locs cells slots Q (F0 m (pc + 1) ls' rest)) : W p l e R s m args below meth c H locs cells slots Q (F0 m pc ls (va_rf r :: rest)) := by
  cases r with
  | none => exact lv_astore_nN hexec hb hdg hi h hn hl kk
  | some x => exact lv_astore_n hexec hb hdg hi h hn hl kk
theorem q_astore (hexec : p.tables.exec = Jvm.exec) (hb : c.code = cc) {i nL : Nat} {r : Option Nat} {lv lv' : List (Nat × Value)} (hdg : decode cc pc = .ok (.astore i, 2)) (h : lv_has ls nL lv) (hn : i < nL) (hl : (i, va_rf r) :: lv.filter (fun q => !(q.1 == i) && !(q.1 + 1 == i && q.2.category == 2)) = lv')
    (kk : ∀ ls' : Array Slot, lv_has ls' nL lv' → W p l e R s m args below meth c H locs cells slots Q (F0 m (pc + 2) ls' rest)) : W p l e R s m args below meth c H locs cells slots Q (F0 m pc ls (va_rf r :: rest)) := by
  cases r with
  | none => exact lv_astoreN hexec hb hdg h hn hl kk
  | some x => exact lv_astore hexec hb hdg h hn hl kk
theorem q_ifnonnull (hexec : p.tables.exec = Jvm.exec) (hb : c.code = cc) {r : Option Nat} {off : Int} {tgt : Nat} (hdg : decode cc pc = .ok (.ifnonnull off, 3)) (ht : (pc : Int) + off = (tgt : Int))
    (kt : ∀ x, r = some x → W p l e R s m args below meth c H locs cells slots Q (F0 m tgt ls rest)) (kf : r = none → W p l e R s m args below meth c H locs cells slots Q (F0 m (pc + 3) ls rest)) : W p l e R s m args below meth c H locs cells slots Q (F0 m pc ls (va_rf r :: rest)) := by
  cases r with
  | none => exact lv_ifnonnullN hexec hb hdg (kf rfl)
  | some x => exact lv_ifnonnull hexec hb hdg ht (kt x rfl)
theorem q_ifnull (hexec : p.tables.exec = Jvm.exec) (hb : c.code = cc) {r : Option Nat} {off : Int} {tgt : Nat} (hdg : decode cc pc = .ok (.ifnull off, 3)) (ht : (pc : Int) + off = (tgt : Int))
    (kt : r = none → W p l e R s m args below meth c H locs cells slots Q (F0 m tgt ls rest)) (kf : ∀ x, r = some x → W p l e R s m args below meth c H locs cells slots Q (F0 m (pc + 3) ls rest)) : W p l e R s m args below meth c H locs cells slots Q (F0 m pc ls (va_rf r :: rest)) := by
  cases r with
  | none => exact lv_ifnullN hexec hb hdg ht (kt rfl)
  | some x => exact lv_ifnull hexec hb hdg (kf x rfl)
end QR
/-- a block: its two halves and its array -/
abbrev oB (Γ : gE) (H : Heap) (a : Nat) (lo up : Option Nat) (tk : Nat) : Prop := va_at Γ.1 gC (a, .inr (0, [va_rf lo, va_rf up, .ref tk])) H
/-- an array of five longs -/
abbrev oJ (Γ : gE) (H : Heap) (a : Nat) (n : Nat) (f : Nat → Int64) : Prop := va_at Γ.1 gC (a, .inl (kJ Γ, n, .inr (.inl f))) H
/-- the StampTables object -/
abbrev oS (Γ : gE) (H : Heap) (a ro : Nat) (md : Int32) : Prop := va_at Γ.1 gC (a, .inr (1, [.ref ro, .int md])) H
/-- an array of blocks -/
abbrev oO (Γ : gE) (H : Heap) (a : Nat) (n : Nat) (f : Nat → Option Nat) : Prop := va_at Γ.1 gC (a, .inl (kO Γ, n, .inr (.inr (.inr (.inr f))))) H
abbrev oI (Γ : gE) (H : Heap) (a : Nat) (n : Nat) (f : Nat → Int32) : Prop := va_at Γ.1 gC (a, .inl (kI Γ, n, .inl f)) H
abbrev oZ (Γ : gE) (H : Heap) (a : Nat) (n : Nat) (f : Nat → Int32) : Prop := va_at Γ.1 gC (a, .inl (kZ Γ, n, .inl f)) H
/-- what is taken together of no key, and of two neighbouring parts -/
def tkN (w : Nat) : Int64 := if w = 0 ∨ w = 1 then 0 else -1
def cmb (w : Nat) (a b : Int64) : Int64 := if w = 2 then (if a = -1 then b else a) else if w = 3 then (if b = -1 then a else b) else if w = 4 then (if b < a then a else b) else a + b
/-- a reference's array, a null one's too -/
def bT (Γ : gE) (H : Heap) (r : Option Nat) (f : Nat → Int64) : Prop := match r with
  | none => ∀ w, w ≤ 4 → f w = tkN w
  | some a => gb0 Γ ≤ a ∧ ∃ (lo up : Option Nat) (tk : Nat), oB Γ H a lo up tk ∧ gb0 Γ ≤ tk ∧ oJ Γ H tk 5 f
/-- its halves -/
def bL (Γ : gE) (H : Heap) (r lo up : Option Nat) : Prop := match r with
  | none => lo = none ∧ up = none
  | some a => gb0 Γ ≤ a ∧ ∃ tk : Nat, oB Γ H a lo up tk
end
section
/-! leaves: nothing is written, no cell comes -/
set_option maxHeartbeats 4000000 in
set_option maxRecDepth 100000 in
theorem c_S_takenOfNothing (l : Launch) (Γ : gE) (H : Heap) {w : Nat} (hw : w ≤ 4) : Met l yS_takenOfNothing wS_takenOfNothing ({ frames := 0, cells := 0, slots := 0, locals := 0 }) (gP Γ H [.int (nI w)]) (vp_Sl (fun r => r = tkN w)) 0 0 (fun _ => False) := by
  refine Met.ofW (cc := cS_takenOfNothing) (maxL := 1) (ret := (some .long)) (by decide) rfl ?_
  intro p e s m args below meth c s₁ B hml hv
  obtain ⟨rfl, rfl, hW⟩ := hv
  have hx := B.exec
  have hb := B.bytes
  have hr := B.returns
  have hg : ∀ w ∈ gW, w.before _ s = true := fun w h => atoms_spec (ws := wS_takenOfNothing) B.pre w (List.mem_cons_of_mem _ h)
  have hown : s.vm.findClass RS = some m.cls := findClass_of_methodNamed B.named
  have hlocks := B.notSynchronized
  have hS : va_S (gA Γ) s.heap s.heap [] := va_S.rf
  have hl := lv_entry ([.int (nI w)]) (n := 1) (Nat.le_of_ble_eq_true rfl)
  rw [lg_entry_eq]
  generalize (lg_sl ([.int (nI w)]) ++ List.replicate (1 - (lg_sl ([.int (nI w)])).length) Slot.unset).toArray = ls at hl ⊢
  have hl : lv_has ls 1 [(0, .int (nI w))] := hl
  refine lv_iload_n hx hb dS_takenOfNothing_0 rfl (lv_at hl 0 rfl) ?_
  refine lv_if_eq (tgt := 9) hx hb dS_takenOfNothing_1 (by decide) (fun c1 => ?_) (fun c1 => ?_)
  · refine lv_lconst (v := 0) hx hb dS_takenOfNothing_9 (by decide) ?_
    refine lv_goto (tgt := 16) hx hb dS_takenOfNothing_10 (by decide) ?_
    have h0 : w = 0 := (nI_eq (by omega) (by omega)).mp (c1.trans nI_0.symm)
    exact W.lret (v := 0) hx hb hr (fun t ht hW9 => ⟨_, rfl, by rw [h0]; rfl, ht⟩) (fun _ h => nomatch h) dS_takenOfNothing_16
  · refine lv_iload_n hx hb dS_takenOfNothing_4 rfl (lv_at hl 0 rfl) ?_
    refine lv_iconst (v := 1) hx hb dS_takenOfNothing_5 (by decide) ?_
    refine lv_icmp_ne (tgt := 13) hx hb dS_takenOfNothing_6 (by decide) (fun c2 => ?_) (fun c2 => ?_)
    · refine lv_ldc2 (v := (-1)) hx hb hown (hg _ kw196) dS_takenOfNothing_13 ?_
      have h1 : ¬ w = 0 := fun h => c1 (by rw [h]; exact nI_0)
      have h2 : ¬ w = 1 := fun h => c2 (by rw [h]; rfl)
      exact W.lret (v := -1) hx hb hr (fun t ht hW9 => ⟨_, rfl, by simp [tkN, h1, h2], ht⟩) (fun _ h => nomatch h) dS_takenOfNothing_16
    · refine lv_lconst (v := 0) hx hb dS_takenOfNothing_9 (by decide) ?_
      refine lv_goto (tgt := 16) hx hb dS_takenOfNothing_10 (by decide) ?_
      have h1 : w = 1 := (nI_eq (by omega) (by omega)).mp c2
      exact W.lret (v := 0) hx hb hr (fun t ht hW9 => ⟨_, rfl, by rw [h1]; rfl, ht⟩) (fun _ h => nomatch h) dS_takenOfNothing_16
set_option maxHeartbeats 4000000 in
set_option maxRecDepth 100000 in
theorem c_S_takenOf (l : Launch) (Γ : gE) (H : Heap) {r : Option Nat} {w : Nat} {f : Nat → Int64} (hw : w ≤ 4) (hf : bT Γ H r f) : Met l yS_takenOf wS_takenOf ({ frames := 1, cells := 0, slots := 0, locals := 20 }) (gP Γ H [va_rf r, .int (nI w)]) (vp_Sl (fun x => x = f w)) 0 0 (fun _ => False) := by
  refine Met.ofW (cc := cS_takenOf) (maxL := 2) (ret := (some .long)) (by decide) rfl ?_
  intro p e s m args below meth c s₁ B hml hv
  obtain ⟨rfl, rfl, hW⟩ := hv
  have hx := B.exec
  have hb := B.bytes
  have hr := B.returns
  have hg : ∀ w ∈ gW, w.before _ s = true := fun w h => atoms_spec (ws := wS_takenOf) B.pre w (List.mem_cons_of_mem _ h)
  have hown : s.vm.findClass RS = some m.cls := findClass_of_methodNamed B.named
  have hlocks := B.notSynchronized
  have hS : va_S (gA Γ) s.heap s.heap [] := va_S.rf
  have hl := lv_entry ([va_rf r, .int (nI w)]) (n := 2) (by cases r <;> exact Nat.le_of_ble_eq_true rfl)
  rw [lg_entry_eq]
  generalize (lg_sl ([va_rf r, .int (nI w)]) ++ List.replicate (2 - (lg_sl ([va_rf r, .int (nI w)])).length) Slot.unset).toArray = ls at hl ⊢
  have hl : lv_has ls 2 [(0, va_rf r), (1, .int (nI w))] := by cases r <;> exact hl
  refine q_aload_n hx hb dS_takenOf_0 rfl (lv_at hl 0 rfl) ?_
  refine q_ifnonnull (tgt := 11) hx hb dS_takenOf_1 (by decide) (fun xc1 c1 => ?_) (fun c1 => ?_)
  · subst c1
    have hl : lv_has ls 2 [(0, .ref xc1), (1, .int (nI w))] := hl
    obtain ⟨hz, lo, up, tk, hB, hz2, hJ⟩ := hf
    refine lv_aload_n hx hb dS_takenOf_11 rfl (lv_at hl 0 rfl) ?_
    refine va_getN (D := Γ.1) (ci := 0) (v := .ref tk) (C := RB) (T := TB) (N := 3) (host := RS) hx hb hg inB hown hW.1 (p1 hB) 0 rfl rfl 2 (by decide) ((hW.2.1.1 _ (List.mem_of_getElem? (i := 3) rfl)).use rfl) (fun _ h9 => h9) rfl dS_takenOf_12 ?_
    refine lv_iload_n hx hb dS_takenOf_15 rfl (lv_at hl 1 rfl) ?_
    refine va_lald (D := Γ.1) (cl := gC) hx hb hW.1 (p1 hJ) 0 0 rfl rfl (vp_in_nI (by omega) (by omega)) dS_takenOf_16 ?_
    exact W.lret (v := f (nI w).toNatClampNeg) hx hb hr (fun t ht hW9 => ⟨_, rfl, by rw [nI_clamp (by omega)], ht⟩) (fun _ h => nomatch h) dS_takenOf_17
  · subst c1
    have hl : lv_has ls 2 [(0, .null), (1, .int (nI w))] := hl
    refine lv_iload_n hx hb dS_takenOf_4 rfl (lv_at hl 1 rfl) ?_
    refine vp_callSl (W.runS (As := [.int (nI w)]) (rest := []) ⟨hx, hb, hml, hown, hg⟩ (c_S_takenOfNothing l Γ s.heap hw) (va_cwS 1 hg gS_109 rfl rfl rfl (by decide +kernel) ⟨Nat.le_of_ble_eq_true rfl, Nat.le_of_ble_eq_true rfl⟩) (gP_S hW hS) rfl rfl hl.1 rfl (lv_room (Nat.le_of_ble_eq_true rfl)) dS_takenOf_5 ⟨Nat.le_of_ble_eq_true rfl, Nat.le_of_ble_eq_true rfl⟩) (fun r0 hr0 => ?_)
    refine lv_goto (tgt := 17) hx hb dS_takenOf_8 (by decide) ?_
    exact W.lret (v := r0) hx hb hr (fun t ht hW9 => ⟨_, rfl, hr0.trans (hf w hw).symm, ht⟩) (fun _ h => nomatch h) dS_takenOf_17
set_option maxHeartbeats 4000000 in
set_option maxRecDepth 100000 in
theorem c_S_lowerOf (l : Launch) (Γ : gE) (H : Heap) {r lo up : Option Nat} (hf : bL Γ H r lo up) : Met l yS_lowerOf wS_lowerOf ({ frames := 0, cells := 0, slots := 0, locals := 0 }) (gP Γ H [va_rf r]) (va_Sq (fun x => x = lo)) 0 0 (fun _ => False) := by
  refine Met.ofW (cc := cS_lowerOf) (maxL := 1) (ret := (some (.object "StampTables$Block"))) (by decide) rfl ?_
  intro p e s m args below meth c s₁ B hml hv
  obtain ⟨rfl, rfl, hW⟩ := hv
  have hx := B.exec
  have hb := B.bytes
  have hr := B.returns
  have hg : ∀ w ∈ gW, w.before _ s = true := fun w h => atoms_spec (ws := wS_lowerOf) B.pre w (List.mem_cons_of_mem _ h)
  have hown : s.vm.findClass RS = some m.cls := findClass_of_methodNamed B.named
  have hlocks := B.notSynchronized
  have hS : va_S (gA Γ) s.heap s.heap [] := va_S.rf
  have hl := lv_entry ([va_rf r]) (n := 1) (by cases r <;> exact Nat.le_of_ble_eq_true rfl)
  rw [lg_entry_eq]
  generalize (lg_sl ([va_rf r]) ++ List.replicate (1 - (lg_sl ([va_rf r])).length) Slot.unset).toArray = ls at hl ⊢
  have hl : lv_has ls 1 [(0, va_rf r)] := by cases r <;> exact hl
  refine q_aload_n hx hb dS_lowerOf_0 rfl (lv_at hl 0 rfl) ?_
  refine q_ifnonnull (tgt := 8) hx hb dS_lowerOf_1 (by decide) (fun xc1 c1 => ?_) (fun c1 => ?_)
  · subst c1
    have hl : lv_has ls 1 [(0, .ref xc1)] := hl
    obtain ⟨hz, tk, hB⟩ := hf
    refine lv_aload_n hx hb dS_lowerOf_8 rfl (lv_at hl 0 rfl) ?_
    refine va_getN (D := Γ.1) (ci := 0) (v := va_rf lo) (C := RB) (T := TB) (N := 3) (host := RS) hx hb hg inB hown hW.1 (p1 hB) 0 rfl rfl 0 (by decide) ((hW.2.1.1 _ (List.mem_of_getElem? (i := 1) rfl)).use rfl) (fun _ h9 => h9) rfl dS_lowerOf_9 ?_
    exact W.aret (v := va_rf lo) hx hb hr (Or.inl ⟨_, rfl⟩) (va_rf_or _) (fun t ht hW9 => ⟨lo, rfl, rfl, ht⟩) (fun _ h => nomatch h) dS_lowerOf_12
  · subst c1
    have hl : lv_has ls 1 [(0, .null)] := hl
    refine lv_null hx hb dS_lowerOf_4 ?_
    refine lv_goto (tgt := 12) hx hb dS_lowerOf_5 (by decide) ?_
    exact W.aret (v := va_rf none) hx hb hr (Or.inl ⟨_, rfl⟩) (va_rf_or _) (fun t ht hW9 => ⟨none, rfl, hf.1.symm, ht⟩) (fun _ h => nomatch h) dS_lowerOf_12
set_option maxHeartbeats 4000000 in
set_option maxRecDepth 100000 in
theorem c_S_upperOf (l : Launch) (Γ : gE) (H : Heap) {r lo up : Option Nat} (hf : bL Γ H r lo up) : Met l yS_upperOf wS_upperOf ({ frames := 0, cells := 0, slots := 0, locals := 0 }) (gP Γ H [va_rf r]) (va_Sq (fun x => x = up)) 0 0 (fun _ => False) := by
  refine Met.ofW (cc := cS_upperOf) (maxL := 1) (ret := (some (.object "StampTables$Block"))) (by decide) rfl ?_
  intro p e s m args below meth c s₁ B hml hv
  obtain ⟨rfl, rfl, hW⟩ := hv
  have hx := B.exec
  have hb := B.bytes
  have hr := B.returns
  have hg : ∀ w ∈ gW, w.before _ s = true := fun w h => atoms_spec (ws := wS_upperOf) B.pre w (List.mem_cons_of_mem _ h)
  have hown : s.vm.findClass RS = some m.cls := findClass_of_methodNamed B.named
  have hlocks := B.notSynchronized
  have hS : va_S (gA Γ) s.heap s.heap [] := va_S.rf
  have hl := lv_entry ([va_rf r]) (n := 1) (by cases r <;> exact Nat.le_of_ble_eq_true rfl)
  rw [lg_entry_eq]
  generalize (lg_sl ([va_rf r]) ++ List.replicate (1 - (lg_sl ([va_rf r])).length) Slot.unset).toArray = ls at hl ⊢
  have hl : lv_has ls 1 [(0, va_rf r)] := by cases r <;> exact hl
  refine q_aload_n hx hb dS_upperOf_0 rfl (lv_at hl 0 rfl) ?_
  refine q_ifnonnull (tgt := 8) hx hb dS_upperOf_1 (by decide) (fun xc1 c1 => ?_) (fun c1 => ?_)
  · subst c1
    have hl : lv_has ls 1 [(0, .ref xc1)] := hl
    obtain ⟨hz, tk, hB⟩ := hf
    refine lv_aload_n hx hb dS_upperOf_8 rfl (lv_at hl 0 rfl) ?_
    refine va_getN (D := Γ.1) (ci := 0) (v := va_rf up) (C := RB) (T := TB) (N := 3) (host := RS) hx hb hg inB hown hW.1 (p1 hB) 0 rfl rfl 1 (by decide) ((hW.2.1.1 _ (List.mem_of_getElem? (i := 2) rfl)).use rfl) (fun _ h9 => h9) rfl dS_upperOf_9 ?_
    exact W.aret (v := va_rf up) hx hb hr (Or.inl ⟨_, rfl⟩) (va_rf_or _) (fun t ht hW9 => ⟨up, rfl, rfl, ht⟩) (fun _ h => nomatch h) dS_upperOf_12
  · subst c1
    have hl : lv_has ls 1 [(0, .null)] := hl
    refine lv_null hx hb dS_upperOf_4 ?_
    refine lv_goto (tgt := 12) hx hb dS_upperOf_5 (by decide) ?_
    exact W.aret (v := va_rf none) hx hb hr (Or.inl ⟨_, rfl⟩) (va_rf_or _) (fun t ht hW9 => ⟨none, rfl, hf.2.symm, ht⟩) (fun _ h => nomatch h) dS_upperOf_12
theorem smod_nI : ∀ L, L < 10 → (((nI L) &&& 31).toBitVec.smod 32).toNat = L := by decide +kernel
theorem up_half {k L : Nat} (hk : k < 1024) (hL : L < 10) : (nI k >>> ((nI (L + 1) - 1) &&& 31)) &&& 1 = nI (k / 2 ^ L % 2) := by
  rw [nI_pred, pk_shrN (by omega) _ L (smod_nI L hL), pk_andN (by have := Nat.div_le_self k (2 ^ L); omega) 1 (by decide)]
set_option maxHeartbeats 4000000 in
set_option maxRecDepth 100000 in
theorem c_S_isInUpperHalf (l : Launch) (Γ : gE) (H : Heap) {k L : Nat} (hk : k < 1024) (hL : L < 10) : Met l yS_isInUpperHalf wS_isInUpperHalf ({ frames := 0, cells := 0, slots := 0, locals := 0 }) (gP Γ H [.int (nI k), .int (nI (L + 1))]) (vp_Si (fun x => x = if k / 2 ^ L % 2 = 1 then 1 else 0)) 0 0 (fun _ => False) := by
  refine Met.ofW (cc := cS_isInUpperHalf) (maxL := 2) (ret := (some .boolean)) (by decide) rfl ?_
  intro p e s m args below meth c s₁ B hml hv
  obtain ⟨rfl, rfl, hW⟩ := hv
  have hx := B.exec
  have hb := B.bytes
  have hr := B.returns
  have hg : ∀ w ∈ gW, w.before _ s = true := fun w h => atoms_spec (ws := wS_isInUpperHalf) B.pre w (List.mem_cons_of_mem _ h)
  have hown : s.vm.findClass RS = some m.cls := findClass_of_methodNamed B.named
  have hlocks := B.notSynchronized
  have hS : va_S (gA Γ) s.heap s.heap [] := va_S.rf
  have hl := lv_entry ([.int (nI k), .int (nI (L + 1))]) (n := 2) (Nat.le_of_ble_eq_true rfl)
  rw [lg_entry_eq]
  generalize (lg_sl ([.int (nI k), .int (nI (L + 1))]) ++ List.replicate (2 - (lg_sl ([.int (nI k), .int (nI (L + 1))])).length) Slot.unset).toArray = ls at hl ⊢
  have hl : lv_has ls 2 [(0, .int (nI k)), (1, .int (nI (L + 1)))] := hl
  refine lv_iload_n hx hb dS_isInUpperHalf_0 rfl (lv_at hl 0 rfl) ?_
  refine lv_iload_n hx hb dS_isInUpperHalf_1 rfl (lv_at hl 1 rfl) ?_
  refine lv_iconst (v := 1) hx hb dS_isInUpperHalf_2 (by decide) ?_
  refine lv_isub hx hb dS_isInUpperHalf_3 ?_
  refine lv_ishr hx hb dS_isInUpperHalf_4 ?_
  refine lv_iconst (v := 1) hx hb dS_isInUpperHalf_5 (by decide) ?_
  refine lv_iand hx hb dS_isInUpperHalf_6 ?_
  refine lv_iconst (v := 1) hx hb dS_isInUpperHalf_7 (by decide) ?_
  refine lv_icmp_ne (tgt := 15) hx hb dS_isInUpperHalf_8 (by decide) (fun c1 => ?_) (fun c1 => ?_)
  · refine lv_iconst (v := 0) hx hb dS_isInUpperHalf_15 (by decide) ?_
    have h1 : ¬ k / 2 ^ L % 2 = 1 := fun h => c1 (by rw [up_half hk hL, h]; rfl)
    exact W.zret (v := 0) hx hb hr (by decide) (fun t ht hW9 => ⟨_, rfl, by simp [h1], ht⟩) (fun _ h => nomatch h) dS_isInUpperHalf_16
  · refine lv_iconst (v := 1) hx hb dS_isInUpperHalf_11 (by decide) ?_
    refine lv_goto (tgt := 16) hx hb dS_isInUpperHalf_12 (by decide) ?_
    have h1 : k / 2 ^ L % 2 = 1 := by
      rw [up_half hk hL] at c1
      exact (nI_eq (by omega) (by omega)).mp c1
    exact W.zret (v := 1) hx hb hr (by decide) (fun t ht hW9 => ⟨_, rfl, by simp [h1], ht⟩) (fun _ h => nomatch h) dS_isInUpperHalf_16
set_option maxHeartbeats 4000000 in
set_option maxRecDepth 100000 in
theorem c_S_takenTogether (l : Launch) (Γ : gE) (H : Heap) {w : Nat} (a b : Int64) (hw : w ≤ 4) : Met l yS_takenTogether wS_takenTogether ({ frames := 1, cells := 0, slots := 0, locals := 20 }) (gP Γ H [.long a, .long b, .int (nI w)]) (vp_Sl (fun r => r = cmb w a b)) 0 0 (fun _ => False) := by
  refine Met.ofW (cc := cS_takenTogether) (maxL := 5) (ret := (some .long)) (by decide) rfl ?_
  intro p e s m args below meth c s₁ B hml hv
  obtain ⟨rfl, rfl, hW⟩ := hv
  have hx := B.exec
  have hb := B.bytes
  have hr := B.returns
  have hg : ∀ w ∈ gW, w.before _ s = true := fun w h => atoms_spec (ws := wS_takenTogether) B.pre w (List.mem_cons_of_mem _ h)
  have hown : s.vm.findClass RS = some m.cls := findClass_of_methodNamed B.named
  have hlocks := B.notSynchronized
  have hS : va_S (gA Γ) s.heap s.heap [] := va_S.rf
  have hl := lv_entry ([.long a, .long b, .int (nI w)]) (n := 5) (Nat.le_of_ble_eq_true rfl)
  rw [lg_entry_eq]
  generalize (lg_sl ([.long a, .long b, .int (nI w)]) ++ List.replicate (5 - (lg_sl ([.long a, .long b, .int (nI w)])).length) Slot.unset).toArray = ls at hl ⊢
  have hl : lv_has ls 5 [(0, .long a), (2, .long b), (4, .int (nI w))] := hl
  refine lv_iload hx hb dS_takenTogether_0 (lv_at hl 2 rfl) ?_
  rcases (show w = 2 ∨ w = 3 ∨ w = 4 ∨ (w = 0 ∨ w = 1) by omega) with rfl | rfl | rfl | h01
  · refine lv_tableIn (off := 26) (tgt := 28) hx hb dS_takenTogether_2 (by decide) (by decide) (by decide) (by decide) ?_
    refine lv_lload_n hx hb dS_takenTogether_28 rfl (lv_at hl 0 rfl) ?_
    refine lv_ldc2 (v := (-1)) hx hb hown (hg _ kw196) dS_takenTogether_29 ?_
    refine W.lcmp hx hb dS_takenTogether_32 ?_
    refine lv_if_ne (tgt := 40) hx hb dS_takenTogether_33 (by decide) (fun c1 => ?_) (fun c1 => ?_)
    · refine lv_lload_n hx hb dS_takenTogether_40 rfl (lv_at hl 0 rfl) ?_
      have h1 : ¬ a = -1 := fun h => c1 ((lg_cmp_eq _ _).mpr h)
      exact W.lret (v := a) hx hb hr (fun t ht hW9 => ⟨_, rfl, by simp [cmb, h1], ht⟩) (fun _ h => nomatch h) dS_takenTogether_41
    · refine lv_lload_n hx hb dS_takenTogether_36 rfl (lv_at hl 1 rfl) ?_
      refine lv_goto (tgt := 41) hx hb dS_takenTogether_37 (by decide) ?_
      have h1 : a = -1 := (lg_cmp_eq _ _).mp c1
      exact W.lret (v := b) hx hb hr (fun t ht hW9 => ⟨_, rfl, by simp [cmb, h1], ht⟩) (fun _ h => nomatch h) dS_takenTogether_41
  · refine lv_tableIn (off := 40) (tgt := 42) hx hb dS_takenTogether_2 (by decide) (by decide) (by decide) (by decide) ?_
    refine lv_lload_n hx hb dS_takenTogether_42 rfl (lv_at hl 1 rfl) ?_
    refine lv_ldc2 (v := (-1)) hx hb hown (hg _ kw196) dS_takenTogether_43 ?_
    refine W.lcmp hx hb dS_takenTogether_46 ?_
    refine lv_if_ne (tgt := 54) hx hb dS_takenTogether_47 (by decide) (fun c1 => ?_) (fun c1 => ?_)
    · refine lv_lload_n hx hb dS_takenTogether_54 rfl (lv_at hl 1 rfl) ?_
      have h1 : ¬ b = -1 := fun h => c1 ((lg_cmp_eq _ _).mpr h)
      exact W.lret (v := b) hx hb hr (fun t ht hW9 => ⟨_, rfl, by simp [cmb, h1], ht⟩) (fun _ h => nomatch h) dS_takenTogether_55
    · refine lv_lload_n hx hb dS_takenTogether_50 rfl (lv_at hl 0 rfl) ?_
      refine lv_goto (tgt := 55) hx hb dS_takenTogether_51 (by decide) ?_
      have h1 : b = -1 := (lg_cmp_eq _ _).mp c1
      exact W.lret (v := a) hx hb hr (fun t ht hW9 => ⟨_, rfl, by simp [cmb, h1], ht⟩) (fun _ h => nomatch h) dS_takenTogether_55
  · refine lv_tableIn (off := 54) (tgt := 56) hx hb dS_takenTogether_2 (by decide) (by decide) (by decide) (by decide) ?_
    refine lv_lload_n hx hb dS_takenTogether_56 rfl (lv_at hl 0 rfl) ?_
    refine lv_lload_n hx hb dS_takenTogether_57 rfl (lv_at hl 1 rfl) ?_
    refine va_mmax_long (x := a) (y := b) hx hb (by rw [hml]; exact hl.1.symm) hown (hg _ kw200) (hg _ kw201) (hg _ kw19) (hg _ kwMax) (Nat.le_of_ble_eq_true rfl) (Nat.le_of_ble_eq_true rfl) (Nat.zero_le _) (Nat.zero_le _) dS_takenTogether_58 ?_
    exact W.lret (v := (if b < a then a else b)) hx hb hr (fun t ht hW9 => ⟨_, rfl, by simp [cmb], ht⟩) (fun _ h => nomatch h) dS_takenTogether_61
  · have h2 : (nI w).toInt < 2 ∨ (4 : Int) < (nI w).toInt := by rw [nI_toInt (by omega)]; omega
    refine lv_tableOut (tgt := 62) hx hb dS_takenTogether_2 h2 (by decide) ?_
    refine lv_lload_n hx hb dS_takenTogether_62 rfl (lv_at hl 0 rfl) ?_
    refine lv_lload_n hx hb dS_takenTogether_63 rfl (lv_at hl 1 rfl) ?_
    refine lv_ladd hx hb dS_takenTogether_64 ?_
    exact W.lret (v := a + b) hx hb hr (fun t ht hW9 => ⟨_, rfl, by unfold cmb; rw [if_neg (by omega), if_neg (by omega), if_neg (by omega)], ht⟩) (fun _ h => nomatch h) dS_takenTogether_65
end
section
/-! pure: what is taken together of a part, by keys -/
theorem cmb_assoc (w : Nat) (a b c : Int64) : cmb w (cmb w a b) c = cmb w a (cmb w b c) := by
  unfold cmb
  by_cases h2 : w = 2
  · simp only [h2, if_true]
    by_cases ha : a = -1 <;> simp [ha]
  · by_cases h3 : w = 3
    · simp only [h3, if_true]
      by_cases hc : c = -1 <;> simp [hc]
    · by_cases h4 : w = 4
      · simp only [h4, if_true]
        by_cases x1 : b < a <;> by_cases x2 : c < b <;> by_cases x3 : c < a <;> simp [x1, x2, x3] <;> (simp only [Int64.lt_iff_toInt_lt] at x1 x2 x3; exfalso; omega)
      · simp only [h2, h3, h4, if_false]
        exact Int64.add_assoc a b c
def geM (x : Int64) : Prop := -1 ≤ x.toInt
theorem cmb_l {w : Nat} {b : Int64} (hw : w ≤ 4) (hb : w = 4 → geM b) : cmb w (tkN w) b = b := by
  rcases (show w = 0 ∨ w = 1 ∨ w = 2 ∨ w = 3 ∨ w = 4 by omega) with rfl | rfl | rfl | rfl | rfl
  · simp [cmb, tkN]
  · simp [cmb, tkN]
  · simp [cmb, tkN]
  · by_cases h : b = -1 <;> simp [cmb, tkN, h]
  · have h := hb rfl
    by_cases h1 : b < -1
    · rw [Int64.lt_iff_toInt_lt, show (-1 : Int64).toInt = -1 from rfl] at h1
      unfold geM at h
      omega
    · simp [cmb, tkN, h1]
theorem cmb_r {w : Nat} {a : Int64} (hw : w ≤ 4) (ha : w = 4 → geM a) : cmb w a (tkN w) = a := by
  rcases (show w = 0 ∨ w = 1 ∨ w = 2 ∨ w = 3 ∨ w = 4 by omega) with rfl | rfl | rfl | rfl | rfl
  · simp [cmb, tkN]
  · simp [cmb, tkN]
  · by_cases h : a = -1 <;> simp [cmb, tkN, h]
  · simp [cmb, tkN]
  · have h := ha rfl
    by_cases h1 : -1 < a
    · simp [cmb, tkN, h1]
    · have h2 : a = -1 := by
        rw [Int64.lt_iff_toInt_lt, show (-1 : Int64).toInt = -1 from rfl] at h1
        unfold geM at h
        apply Int64.toInt_inj.mp
        rw [show (-1 : Int64).toInt = -1 from rfl]
        omega
      simp [cmb, tkN, h2]
theorem cmb_ge {a b : Int64} (ha : geM a) (hb : geM b) : geM (cmb 4 a b) := by
  by_cases h : b < a <;> simp [cmb, h] <;> assumption
theorem tkN_ge : geM (tkN 4) := by unfold geM; decide
/-- a key's own: has it a number, the number, the key, the key, its stamp -/
def lfv (V : Nat → Option Int64) (S : Nat → Int32) (w k : Nat) : Int64 := if w = 0 then (if (V k).isSome then 1 else 0) else if w = 1 then (V k).getD 0 else if w = 4 then (S k).toInt64 else (if (V k).isSome then lN k else -1)
def ag (V : Nat → Option Int64) (S : Nat → Int32) (w a : Nat) : Nat → Int64
  | 0 => tkN w
  | n + 1 => cmb w (ag V S w a n) (lfv V S w (a + n))
def wfS (S : Nat → Int32) : Prop := ∀ k, -1 ≤ (S k).toInt
theorem lfv_ge {V : Nat → Option Int64} {S : Nat → Int32} (h : wfS S) (k : Nat) : geM (lfv V S 4 k) := by
  have h1 := h k
  unfold geM lfv
  simp only [if_false, if_true, show ¬ (4 : Nat) = 0 by decide, show ¬ (4 : Nat) = 1 by decide, Int32.toInt_toInt64]
  exact h1
theorem ag_ge {V : Nat → Option Int64} {S : Nat → Int32} (h : wfS S) (a : Nat) : ∀ n, geM (ag V S 4 a n)
  | 0 => tkN_ge
  | n + 1 => cmb_ge (ag_ge h a n) (lfv_ge h _)
theorem ag_ge' {V : Nat → Option Int64} {S : Nat → Int32} (h : wfS S) (w a n : Nat) : w = 4 → geM (ag V S w a n) := fun e => by rw [e]; exact ag_ge h a n
theorem ag_split {V : Nat → Option Int64} {S : Nat → Int32} {w : Nat} (h : wfS S) (hw : w ≤ 4) (a n : Nat) : ∀ m, ag V S w a (n + m) = cmb w (ag V S w a n) (ag V S w (a + n) m)
  | 0 => (cmb_r hw (ag_ge' h w a n)).symm
  | m + 1 => by
    show cmb w (ag V S w a (n + m)) (lfv V S w (a + (n + m))) = cmb w (ag V S w a n) (cmb w (ag V S w (a + n) m) (lfv V S w (a + n + m)))
    rw [ag_split h hw a n m, cmb_assoc, Nat.add_assoc]
theorem ag_one {V : Nat → Option Int64} {S : Nat → Int32} {w : Nat} (h : wfS S) (hw : w ≤ 4) (a : Nat) : ag V S w a 1 = lfv V S w a := cmb_l hw (fun e => by rw [e]; exact lfv_ge h _)
theorem ag_congr {V V' : Nat → Option Int64} {S S' : Nat → Int32} {w a : Nat} : ∀ n, (∀ k, a ≤ k → k < a + n → V k = V' k ∧ S k = S' k) → ag V S w a n = ag V' S' w a n
  | 0, _ => rfl
  | n + 1, h => by
    have h1 := h (a + n) (by omega) (by omega)
    show cmb w (ag V S w a n) (lfv V S w (a + n)) = cmb w (ag V' S' w a n) (lfv V' S' w (a + n))
    rw [ag_congr n (fun k h2 h3 => h k h2 (by omega))]
    unfold lfv
    rw [h1.1, h1.2]
theorem lfv_none {V : Nat → Option Int64} {S : Nat → Int32} {w k : Nat} (hw : w ≤ 4) (h1 : V k = none) (h2 : S k = -1) : lfv V S w k = tkN w := by
  rcases (show w = 0 ∨ w = 1 ∨ w = 2 ∨ w = 3 ∨ w = 4 by omega) with rfl | rfl | rfl | rfl | rfl <;> simp [lfv, tkN, h1, h2]
theorem tkN_idem {w : Nat} (hw : w ≤ 4) : cmb w (tkN w) (tkN w) = tkN w := cmb_l hw (fun e => by rw [e]; exact tkN_ge)
theorem ag_none {V : Nat → Option Int64} {S : Nat → Int32} {w a : Nat} (hw : w ≤ 4) : ∀ n, (∀ k, a ≤ k → k < a + n → V k = none ∧ S k = -1) → ag V S w a n = tkN w
  | 0, _ => rfl
  | n + 1, h => by
    have h1 := h (a + n) (by omega) (by omega)
    show cmb w (ag V S w a n) (lfv V S w (a + n)) = tkN w
    rw [ag_none hw n (fun k h2 h3 => h k h2 (by omega)), lfv_none hw h1.1 h1.2, tkN_idem hw]
/-- how many keys have numbers -/
def cnt (V : Nat → Option Int64) (a : Nat) : Nat → Nat
  | 0 => 0
  | n + 1 => cnt V a n + (if (V (a + n)).isSome then 1 else 0)
theorem cnt_le (V : Nat → Option Int64) (a : Nat) : ∀ n, cnt V a n ≤ n
  | 0 => Nat.le_refl _
  | n + 1 => by
    have := cnt_le V a n
    show cnt V a n + (if (V (a + n)).isSome then 1 else 0) ≤ n + 1
    split <;> omega
theorem cnt_split (V : Nat → Option Int64) (a n : Nat) : ∀ m, cnt V a (n + m) = cnt V a n + cnt V (a + n) m
  | 0 => rfl
  | m + 1 => by
    show cnt V a (n + m) + (if (V (a + (n + m))).isSome then 1 else 0) = cnt V a n + (cnt V (a + n) m + (if (V (a + n + m)).isSome then 1 else 0))
    rw [cnt_split V a n m, Nat.add_assoc a n m]
    omega
theorem ag_cnt (V : Nat → Option Int64) (S : Nat → Int32) (a : Nat) : ∀ n, ag V S 0 a n = lN (cnt V a n)
  | 0 => rfl
  | n + 1 => by
    show cmb 0 (ag V S 0 a n) (lfv V S 0 (a + n)) = lN (cnt V a n + (if (V (a + n)).isSome then 1 else 0))
    rw [ag_cnt V S a n, ← lN_add]
    by_cases h : (V (a + n)).isSome = true
    · simp [cmb, lfv, h]; rfl
    · simp [cmb, lfv, h]; rfl
/-- only the keys from lo to hi -/
def rV (V : Nat → Option Int64) (lo hi : Nat) : Nat → Option Int64 := fun k => if lo ≤ k ∧ k ≤ hi then V k else none
def rS (S : Nat → Int32) (lo hi : Nat) : Nat → Int32 := fun k => if lo ≤ k ∧ k ≤ hi then S k else -1
theorem rS_wf {S : Nat → Int32} {lo hi : Nat} (h : wfS S) : wfS (rS S lo hi) := by
  intro k
  unfold rS
  split
  · exact h k
  · decide
theorem ag_r_in {V : Nat → Option Int64} {S : Nat → Int32} {w a n lo hi : Nat} (h1 : lo ≤ a) (h2 : a + n ≤ hi + 1) : ag (rV V lo hi) (rS S lo hi) w a n = ag V S w a n :=
  ag_congr n (fun k h3 h4 => by unfold rV rS; rw [if_pos ⟨by omega, by omega⟩, if_pos ⟨by omega, by omega⟩]; exact ⟨rfl, rfl⟩)
theorem ag_r_out {V : Nat → Option Int64} {S : Nat → Int32} {w a n lo hi : Nat} (hw : w ≤ 4) (h : a + n ≤ lo ∨ hi < a) : ag (rV V lo hi) (rS S lo hi) w a n = tkN w :=
  ag_none hw n (fun k h3 h4 => by unfold rV rS; rw [if_neg (by omega), if_neg (by omega)]; exact ⟨rfl, rfl⟩)
theorem ag_r_none {V : Nat → Option Int64} {S : Nat → Int32} {w a n lo hi : Nat} (hw : w ≤ 4) (h : ∀ k, a ≤ k → k < a + n → V k = none ∧ S k = -1) : ag (rV V lo hi) (rS S lo hi) w a n = tkN w :=
  ag_none hw n (fun k h3 h4 => by have := h k h3 h4; unfold rV rS; rw [this.1, this.2]; simp)
theorem ag_r_all {V : Nat → Option Int64} {S : Nat → Int32} {w lo hi : Nat} (hS : wfS S) (hw : w ≤ 4) (h1 : lo ≤ hi) (h2 : hi < 1024) : ag (rV V lo hi) (rS S lo hi) w 0 1024 = ag V S w lo (hi + 1 - lo) := by
  have hwf := rS_wf (lo := lo) (hi := hi) hS
  have e1 : (1024 : Nat) = lo + ((hi + 1 - lo) + (1023 - hi)) := by omega
  rw [e1, ag_split hwf hw, ag_split hwf hw, ag_r_out (a := 0) (n := lo) hw (Or.inl (by omega)), ag_r_out (a := 0 + lo + (hi + 1 - lo)) hw (Or.inr (by omega)), Nat.zero_add, cmb_r hw (ag_ge' hwf _ _ _), cmb_l hw (ag_ge' hwf _ _ _)]
  exact ag_r_in (by omega) (by omega)
/-- how many keys differ -/
def dcn (V V' : Nat → Option Int64) (a : Nat) : Nat → Nat
  | 0 => 0
  | n + 1 => dcn V V' a n + (if V (a + n) = V' (a + n) then 0 else 1)
theorem dcn_le (V V' : Nat → Option Int64) (a : Nat) : ∀ n, dcn V V' a n ≤ n
  | 0 => Nat.le_refl _
  | n + 1 => by
    have := dcn_le V V' a n
    show dcn V V' a n + (if V (a + n) = V' (a + n) then 0 else 1) ≤ n + 1
    split <;> omega
theorem dcn_split (V V' : Nat → Option Int64) (a n : Nat) : ∀ m, dcn V V' a (n + m) = dcn V V' a n + dcn V V' (a + n) m
  | 0 => rfl
  | m + 1 => by
    show dcn V V' a (n + m) + (if V (a + (n + m)) = V' (a + (n + m)) then 0 else 1) = dcn V V' a n + (dcn V V' (a + n) m + (if V (a + n + m) = V' (a + n + m) then 0 else 1))
    rw [dcn_split V V' a n m, Nat.add_assoc a n m]
    omega
theorem dcn_same {V V' : Nat → Option Int64} {a : Nat} : ∀ n, (∀ k, a ≤ k → k < a + n → V k = V' k) → dcn V V' a n = 0
  | 0, _ => rfl
  | n + 1, h => by
    show dcn V V' a n + (if V (a + n) = V' (a + n) then 0 else 1) = 0
    rw [dcn_same n (fun k h1 h2 => h k h1 (by omega)), if_pos (h (a + n) (by omega) (by omega))]
/-- a key's leaf tells its number -/
theorem lfv_inj {V V' : Nat → Option Int64} {S S' : Nat → Int32} {k : Nat} (h0 : lfv V S 0 k = lfv V' S' 0 k) (h1 : lfv V S 1 k = lfv V' S' 1 k) : V k = V' k := by
  simp only [lfv, if_true, if_false, show ¬ (1 : Nat) = 0 by decide] at h0 h1
  cases hv : V k <;> cases hv' : V' k <;> simp_all
theorem lfv_of {V V' : Nat → Option Int64} {S S' : Nat → Int32} {k w : Nat} (h : V k = V' k) (hw : w = 0 ∨ w = 1) : lfv V S w k = lfv V' S' w k := by
  rcases hw with rfl | rfl <;> simp [lfv, h]
end
section
/-! the tree of a table: block r stands for the 2^L keys from a on -/
def TR (Γ : gE) (H : Heap) (V : Nat → Option Int64) (S : Nat → Int32) : Nat → Nat → Option Nat → Prop
  | 0, a, r => (∃ f, bT Γ H r f ∧ ∀ w, w ≤ 4 → f w = ag V S w a 1) ∧ (r = none → V a = none ∧ S a = -1)
  | L + 1, a, r => (∃ f, bT Γ H r f ∧ ∀ w, w ≤ 4 → f w = ag V S w a (2 ^ (L + 1))) ∧ ∃ lo up, bL Γ H r lo up ∧ TR Γ H V S L a lo ∧ TR Γ H V S L (a + 2 ^ L) up
theorem TR.f {Γ : gE} {H : Heap} {V : Nat → Option Int64} {S : Nat → Int32} {L a : Nat} {r : Option Nat} (h : TR Γ H V S L a r) : ∃ f, bT Γ H r f ∧ ∀ w, w ≤ 4 → f w = ag V S w a (2 ^ L) := by
  cases L with
  | zero => exact h.1
  | succ L => exact h.1
theorem pow2_s (L : Nat) : 2 ^ (L + 1) = 2 ^ L + 2 ^ L := by rw [Nat.pow_succ]; omega
theorem TR.nul {Γ : gE} {H : Heap} {V : Nat → Option Int64} {S : Nat → Int32} : ∀ {L a : Nat}, TR Γ H V S L a none → ∀ k, a ≤ k → k < a + 2 ^ L → V k = none ∧ S k = -1 := by
  intro L
  induction L with
  | zero =>
    intro a h k h1 h2
    rw [show k = a by simp at h2; omega]
    exact h.2 rfl
  | succ L ih =>
    intro a h k h1 h2
    obtain ⟨-, lo, up, ⟨rfl, rfl⟩, h3, h4⟩ := h
    rw [pow2_s] at h2
    by_cases hk : k < a + 2 ^ L
    · exact ih h3 k h1 hk
    · exact ih h4 k (by omega) (by omega)
theorem TR.ofNone {Γ : gE} {H : Heap} {V : Nat → Option Int64} {S : Nat → Int32} : ∀ {L a : Nat}, (∀ k, a ≤ k → k < a + 2 ^ L → V k = none ∧ S k = -1) → TR Γ H V S L a none := by
  intro L
  induction L with
  | zero =>
    intro a h
    refine ⟨⟨tkN, fun w _ => rfl, fun w hw => (ag_none hw 1 (fun k h1 h2 => h k h1 h2)).symm⟩, fun _ => h a (Nat.le_refl _) (by simp)⟩
  | succ L ih =>
    intro a h
    have hp := pow2_s L
    refine ⟨⟨tkN, fun w _ => rfl, fun w hw => (ag_none hw _ h).symm⟩, Option.none, Option.none, ⟨rfl, rfl⟩, ih (fun k h1 h2 => h k h1 (by omega)), ih (fun k h1 h2 => h k (by omega) (by omega))⟩
theorem TR.congr {Γ : gE} {H : Heap} {V V' : Nat → Option Int64} {S S' : Nat → Int32} : ∀ {L a : Nat} {r : Option Nat}, TR Γ H V S L a r → (∀ k, a ≤ k → k < a + 2 ^ L → V k = V' k ∧ S k = S' k) → TR Γ H V' S' L a r := by
  intro L
  induction L with
  | zero =>
    intro a r h hc
    obtain ⟨⟨f, hf, hv⟩, hn⟩ := h
    refine ⟨⟨f, hf, fun w hw => (hv w hw).trans (ag_congr 1 (fun k h1 h2 => hc k h1 h2))⟩, fun e => ?_⟩
    have h1 := hc a (Nat.le_refl _) (by simp)
    have h2 := hn e
    exact ⟨h1.1.symm.trans h2.1, h1.2.symm.trans h2.2⟩
  | succ L ih =>
    intro a r h hc
    obtain ⟨⟨f, hf, hv⟩, lo, up, hb, h1, h2⟩ := h
    have hp := pow2_s L
    exact ⟨⟨f, hf, fun w hw => (hv w hw).trans (ag_congr _ hc)⟩, lo, up, hb, ih h1 (fun k h3 h4 => hc k h3 (by omega)), ih h2 (fun k h3 h4 => hc k (by omega) (by omega))⟩
/-- cells from b0 on stay -/
abbrev hb (Γ : gE) (H H1 : Heap) : Prop := hX (fun q => q < gb0 Γ) H H1
theorem bT.kept {Γ : gE} {H H1 : Heap} {r : Option Nat} {f : Nat → Int64} (h : bT Γ H r f) (hk : hb Γ H H1) : bT Γ H1 r f := by
  cases r with
  | none => exact h
  | some x =>
    obtain ⟨hz, lo, up, tk, h1, hz2, h2⟩ := h
    exact ⟨hz, lo, up, tk, hk.at h1 (Nat.not_lt.mpr hz), hz2, hk.at h2 (Nat.not_lt.mpr hz2)⟩
theorem bL.kept {Γ : gE} {H H1 : Heap} {r lo up : Option Nat} (h : bL Γ H r lo up) (hk : hb Γ H H1) : bL Γ H1 r lo up := by
  cases r with
  | none => exact h
  | some x =>
    obtain ⟨hz, tk, h1⟩ := h
    exact ⟨hz, tk, hk.at h1 (Nat.not_lt.mpr hz)⟩
theorem TR.kept {Γ : gE} {H H1 : Heap} {V : Nat → Option Int64} {S : Nat → Int32} (hk : hb Γ H H1) : ∀ {L a : Nat} {r : Option Nat}, TR Γ H V S L a r → TR Γ H1 V S L a r := by
  intro L
  induction L with
  | zero =>
    intro a r h
    obtain ⟨⟨f, hf, hv⟩, hn⟩ := h
    exact ⟨⟨f, hf.kept hk, hv⟩, hn⟩
  | succ L ih =>
    intro a r h
    obtain ⟨⟨f, hf, hv⟩, lo, up, hb, h1, h2⟩ := h
    exact ⟨⟨f, hf.kept hk, hv⟩, lo, up, hb.kept hk, ih h1, ih h2⟩
theorem oB.det {Γ : gE} {H : Heap} {a tk tk' : Nat} {lo up lo' up' : Option Nat} (h : oB Γ H a lo up tk) (h' : oB Γ H a lo' up' tk') : lo = lo' ∧ up = up' ∧ tk = tk' := by
  obtain ⟨r, hr, cell, h1, -, -, h2⟩ := h
  obtain ⟨r', hr', cell', h1', -, -, h2'⟩ := h'
  cases Option.some.inj (h1.symm.trans h1')
  cases hr; cases hr'
  have e0 := Option.some.inj ((h2 0 (by decide)).symm.trans (h2' 0 (by decide)))
  have e1 := Option.some.inj ((h2 1 (by decide)).symm.trans (h2' 1 (by decide)))
  have e2 := Option.some.inj ((h2 2 (by decide)).symm.trans (h2' 2 (by decide)))
  simp only [vp_V] at e0 e1 e2
  refine ⟨?_, ?_, ?_⟩
  · cases lo <;> cases lo' <;> simp_all [va_rf]
  · cases up <;> cases up' <;> simp_all [va_rf]
  · simpa using e2
theorem oJ.det {Γ : gE} {H : Heap} {a n : Nat} {f f' : Nat → Int64} (h : oJ Γ H a n f) (h' : oJ Γ H a n f') : ∀ w, w < n → f w = f' w := by
  intro w hw
  have e : vp_cell (kJ Γ) (n, .inr (.inl f)) = vp_cell (kJ Γ) (n, .inr (.inl f')) := Option.some.inj (Eq.trans (Eq.symm h) h')
  have e1 : (vp_cell (kJ Γ) (n, .inr (.inl f))).slots[w]? = (vp_cell (kJ Γ) (n, .inr (.inl f'))).slots[w]? := by rw [e]
  have r1 : (arrV (kJ Γ) n (fun j => Value.long (f j))).slots[w]? = some (.long (f w)) := arrV_read _ _ hw
  have r2 : (arrV (kJ Γ) n (fun j => Value.long (f' j))).slots[w]? = some (.long (f' w)) := arrV_read _ _ hw
  have e2 : (arrV (kJ Γ) n (fun j => Value.long (f j))).slots[w]? = (arrV (kJ Γ) n (fun j => Value.long (f' j))).slots[w]? := e1
  rw [r1, r2] at e2
  simpa using e2
theorem bT.det {Γ : gE} {H : Heap} {r : Option Nat} {f f' : Nat → Int64} (h : bT Γ H r f) (h' : bT Γ H r f') : ∀ w, w ≤ 4 → f w = f' w := by
  cases r with
  | none => exact fun w hw => (h w hw).trans (h' w hw).symm
  | some x =>
    obtain ⟨-, lo, up, tk, h1, -, h2⟩ := h
    obtain ⟨-, lo', up', tk', h1', -, h2'⟩ := h'
    obtain ⟨-, -, rfl⟩ := oB.det h1 h1'
    exact fun w hw => oJ.det h2 h2' w (by omega)
theorem bL.det {Γ : gE} {H : Heap} {r lo up lo' up' : Option Nat} (h : bL Γ H r lo up) (h' : bL Γ H r lo' up') : lo = lo' ∧ up = up' := by
  cases r with
  | none => exact ⟨h.1.trans h'.1.symm, h.2.trans h'.2.symm⟩
  | some x =>
    obtain ⟨-, tk, h1⟩ := h
    obtain ⟨-, tk', h1'⟩ := h'
    obtain ⟨e1, e2, -⟩ := oB.det h1 h1'
    exact ⟨e1, e2⟩
theorem TR.det {Γ : gE} {H : Heap} {V V' : Nat → Option Int64} {S S' : Nat → Int32} (hS : wfS S) (hS' : wfS S') : ∀ {L a : Nat} {r : Option Nat}, TR Γ H V S L a r → TR Γ H V' S' L a r → ∀ k, a ≤ k → k < a + 2 ^ L → V k = V' k := by
  intro L
  induction L with
  | zero =>
    intro a r h h' k h1 h2
    obtain ⟨⟨f, hf, hv⟩, -⟩ := h
    obtain ⟨⟨f', hf', hv'⟩, -⟩ := h'
    have hd := hf.det hf'
    rw [show k = a by simp at h2; omega]
    have e : ∀ w, w ≤ 4 → lfv V S w a = lfv V' S' w a := fun w hw => by rw [← ag_one hS hw, ← ag_one hS' hw, ← hv w hw, ← hv' w hw]; exact hd w hw
    exact lfv_inj (e 0 (by omega)) (e 1 (by omega))
  | succ L ih =>
    intro a r h h' k h1 h2
    obtain ⟨-, lo, up, hb, h3, h4⟩ := h
    obtain ⟨-, lo', up', hb', h3', h4'⟩ := h'
    obtain ⟨rfl, rfl⟩ := hb.det hb'
    rw [pow2_s] at h2
    by_cases hk : k < a + 2 ^ L
    · exact ih h3 h3' k h1 hk
    · exact ih h4 h4' k (by omega) (by omega)
end
section
/-! reads of a tree -/
theorem half_eq (k L : Nat) : k / 2 ^ L * 2 ^ L = k / 2 ^ (L + 1) * 2 ^ (L + 1) + (if k / 2 ^ L % 2 = 1 then 2 ^ L else 0) := by
  have h1 : k / 2 ^ (L + 1) = k / 2 ^ L / 2 := by rw [Nat.pow_succ, Nat.div_div_eq_div_mul]
  rw [h1]
  generalize k / 2 ^ L = q
  have h2 : q / 2 * 2 ^ (L + 1) = (2 * (q / 2)) * 2 ^ L := by rw [Nat.pow_succ, Nat.mul_comm (2 ^ L) 2, ← Nat.mul_assoc, Nat.mul_comm (q / 2) 2]
  rw [h2]
  by_cases h : q % 2 = 1
  · rw [if_pos h, show q = 2 * (q / 2) + 1 by omega, Nat.add_mul]
    have : (2 * (q / 2) + 1) / 2 = q / 2 := by omega
    rw [this, Nat.one_mul]
  · rw [if_neg h]
    have : q = 2 * (q / 2) := by omega
    rw [← this]; rfl
set_option maxHeartbeats 4000000 in
set_option maxRecDepth 100000 in
theorem c_S_leafOf (l : Launch) (Γ : gE) (H : Heap) {V : Nat → Option Int64} {S : Nat → Int32} {r : Option Nat} {k : Nat} (hT : TR Γ H V S 10 0 r) (hk : k < 1024) : Met l yS_leafOf wS_leafOf ({ frames := 2, cells := 0, slots := 0, locals := 200 }) (gP Γ H [va_rf r, .int (nI k)]) (va_Sq (fun x => TR Γ H V S 0 k x)) 0 0 (fun _ => False) := by
  refine Met.ofW (cc := cS_leafOf) (maxL := 4) (ret := (some (.object "StampTables$Block"))) (by decide) rfl ?_
  intro p e s m args below meth c s₁ B hml hv
  obtain ⟨rfl, rfl, hW⟩ := hv
  have hx := B.exec
  have hb := B.bytes
  have hr := B.returns
  have hg : ∀ w ∈ gW, w.before _ s = true := fun w h => atoms_spec (ws := wS_leafOf) B.pre w (List.mem_cons_of_mem _ h)
  have hown : s.vm.findClass RS = some m.cls := findClass_of_methodNamed B.named
  have hlocks := B.notSynchronized
  have hS : va_S (gA Γ) s.heap s.heap [] := va_S.rf
  have hl := lv_entry ([va_rf r, .int (nI k)]) (n := 4) (by cases r <;> exact Nat.le_of_ble_eq_true rfl)
  rw [lg_entry_eq]
  generalize (lg_sl ([va_rf r, .int (nI k)]) ++ List.replicate (4 - (lg_sl ([va_rf r, .int (nI k)])).length) Slot.unset).toArray = ls at hl ⊢
  have hl : lv_has ls 4 [(0, va_rf r), (1, .int (nI k))] := by cases r <;> exact hl
  have key : ∀ (L : Nat) (q : Option Nat) (ls : Array Slot), L ≤ 10 → TR Γ s.heap V S L (k / 2 ^ L * 2 ^ L) q → lv_has ls 4 [(3, .int (nI L)), (2, va_rf q), (0, va_rf r), (1, .int (nI k))] → W p l e (headSpec wS_leafOf ({ frames := 2, cells := 0, slots := 0, locals := 200 })).room s m [va_rf r, .int (nI k)].toArray below meth c s.heap [] 0 0 (MQ below (va_Sq (fun x => TR Γ s.heap V S 0 k x)) [va_rf r, .int (nI k)].toArray s 0 0 (fun _ => False)) (F0 m 5 ls []) := by
    intro L
    induction L with
    | zero =>
      intro q ls hL hT hl
      refine lv_iload_n hx hb dS_leafOf_5 rfl (lv_at hl 0 rfl) ?_
      refine lv_if_le (tgt := 35) hx hb dS_leafOf_6 (by decide) (fun c1 => ?_) (fun c1 => ?_)
      · refine q_aload_n hx hb dS_leafOf_35 rfl (lv_at hl 1 rfl) ?_
        exact W.aret (v := va_rf q) hx hb hr (Or.inl ⟨_, rfl⟩) (va_rf_or _) (fun t ht hW9 => ⟨q, rfl, by simpa using hT, ht⟩) (fun _ h => nomatch h) dS_leafOf_36
      · exact absurd (by decide) c1
    | succ L ih =>
      intro q ls hL hT hl
      obtain ⟨-, lo, up, hbl, hlo, hup⟩ := hT
      refine lv_iload_n hx hb dS_leafOf_5 rfl (lv_at hl 0 rfl) ?_
      refine lv_if_le (tgt := 35) hx hb dS_leafOf_6 (by decide) (fun c1 => ?_) (fun c1 => ?_)
      · exact absurd c1 (nI_nle (by omega) (by omega))
      · refine lv_iload_n hx hb dS_leafOf_9 rfl (lv_at hl 3 rfl) ?_
        refine lv_iload_n hx hb dS_leafOf_10 rfl (lv_at hl 0 rfl) ?_
        refine vp_callSi (W.runS (As := [.int (nI k), .int (nI (L + 1))]) (rest := []) ⟨hx, hb, hml, hown, hg⟩ (c_S_isInUpperHalf l Γ s.heap (k := k) (L := L) hk (by omega)) (va_cwS 2 hg gS_101 rfl rfl rfl (by decide +kernel) ⟨Nat.le_of_ble_eq_true rfl, Nat.le_of_ble_eq_true rfl⟩) (gP_S hW hS) rfl rfl hl.1 rfl (lv_room (Nat.le_of_ble_eq_true rfl)) dS_leafOf_11 ⟨Nat.le_of_ble_eq_true rfl, Nat.le_of_ble_eq_true rfl⟩) (fun r1 hr1 => ?_)
        refine lv_if_eq (tgt := 24) hx hb dS_leafOf_14 (by decide) (fun c2 => ?_) (fun c2 => ?_)
        · have h1 : ¬ k / 2 ^ L % 2 = 1 := fun h => by rw [hr1, if_pos h] at c2; exact absurd c2 (by decide)
          have e1 := half_eq k L
          rw [if_neg h1, Nat.add_zero] at e1
          refine q_aload_n hx hb dS_leafOf_24 rfl (lv_at hl 1 rfl) ?_
          refine va_csq (W.runS (As := [va_rf q]) (rest := []) ⟨hx, hb, hml, hown, hg⟩ (c_S_lowerOf l Γ s.heap hbl) (va_cwS 1 hg gS_94 rfl rfl rfl (by decide +kernel) ⟨Nat.le_of_ble_eq_true rfl, Nat.le_of_ble_eq_true rfl⟩) (gP_S hW hS) rfl rfl hl.1 rfl (lv_room (Nat.le_of_ble_eq_true rfl)) dS_leafOf_25 ⟨Nat.le_of_ble_eq_true rfl, Nat.le_of_ble_eq_true rfl⟩) (fun x hx9 => ?_)
          subst hx9
          refine q_astore_n (lv' := [(2, va_rf x), (3, .int (nI (L + 1))), (0, va_rf r), (1, .int (nI k))]) hx hb dS_leafOf_28 rfl hl (by decide) rfl (fun ls hl => ?_)
          refine lv_iinc (v := nI L) (lv' := [(3, .int (nI L)), (2, va_rf x), (0, va_rf r), (1, .int (nI k))]) hx hb dS_leafOf_29 hl (k := 1) rfl (pk_m1 L) (by decide) (by cases x <;> rfl) (fun ls hl => ?_)
          refine lv_goto (tgt := 5) hx hb dS_leafOf_32 (by decide) ?_
          exact ih x ls (by omega) (by rw [e1]; exact hlo) (lv_sub hl [0, 1, 2, 3] rfl)
        · have h1 : k / 2 ^ L % 2 = 1 := by
            by_cases h : k / 2 ^ L % 2 = 1
            · exact h
            · rw [hr1, if_neg h] at c2
              exact absurd rfl c2
          have e1 := half_eq k L
          rw [if_pos h1] at e1
          refine q_aload_n hx hb dS_leafOf_17 rfl (lv_at hl 1 rfl) ?_
          refine va_csq (W.runS (As := [va_rf q]) (rest := []) ⟨hx, hb, hml, hown, hg⟩ (c_S_upperOf l Γ s.heap hbl) (va_cwS 1 hg gS_98 rfl rfl rfl (by decide +kernel) ⟨Nat.le_of_ble_eq_true rfl, Nat.le_of_ble_eq_true rfl⟩) (gP_S hW hS) rfl rfl hl.1 rfl (lv_room (Nat.le_of_ble_eq_true rfl)) dS_leafOf_18 ⟨Nat.le_of_ble_eq_true rfl, Nat.le_of_ble_eq_true rfl⟩) (fun x hx9 => ?_)
          subst hx9
          refine lv_goto (tgt := 28) hx hb dS_leafOf_21 (by decide) ?_
          refine q_astore_n (lv' := [(2, va_rf x), (3, .int (nI (L + 1))), (0, va_rf r), (1, .int (nI k))]) hx hb dS_leafOf_28 rfl hl (by decide) rfl (fun ls hl => ?_)
          refine lv_iinc (v := nI L) (lv' := [(3, .int (nI L)), (2, va_rf x), (0, va_rf r), (1, .int (nI k))]) hx hb dS_leafOf_29 hl (k := 1) rfl (pk_m1 L) (by decide) (by cases x <;> rfl) (fun ls hl => ?_)
          refine lv_goto (tgt := 5) hx hb dS_leafOf_32 (by decide) ?_
          exact ih x ls (by omega) (by rw [e1]; exact hup) (lv_sub hl [0, 1, 2, 3] rfl)
  refine q_aload_n hx hb dS_leafOf_0 rfl (lv_at hl 0 rfl) ?_
  refine q_astore_n (lv' := [(2, va_rf r), (0, va_rf r), (1, .int (nI k))]) hx hb dS_leafOf_1 rfl hl (by decide) rfl (fun ls hl => ?_)
  refine lv_bipush (v := 10) hx hb dS_leafOf_2 (by decide) ?_
  refine lv_istore_n (lv' := [(3, .int 10), (2, va_rf r), (0, va_rf r), (1, .int (nI k))]) hx hb dS_leafOf_4 rfl hl (by decide) (by cases r <;> rfl) (fun ls hl => ?_)
  exact key 10 r ls (Nat.le_refl _) (by rw [show k / 2 ^ 10 * 2 ^ 10 = 0 by omega]; exact hT) (lv_sub hl [0, 1, 2, 3] rfl)
set_option maxHeartbeats 4000000 in
set_option maxRecDepth 100000 in
theorem c_S_haveSameNumber (l : Launch) (Γ : gE) (H : Heap) {r q : Option Nat} {f f2 : Nat → Int64} (hf : bT Γ H r f) (hf2 : bT Γ H q f2) : Met l yS_haveSameNumber wS_haveSameNumber ({ frames := 2, cells := 0, slots := 0, locals := 200 }) (gP Γ H [va_rf r, va_rf q]) (vp_Si (fun x => x = if f 0 = f2 0 ∧ f 1 = f2 1 then 1 else 0)) 0 0 (fun _ => False) := by
  refine Met.ofW (cc := cS_haveSameNumber) (maxL := 2) (ret := (some .boolean)) (by decide) rfl ?_
  intro p e s m args below meth c s₁ B hml hv
  obtain ⟨rfl, rfl, hW⟩ := hv
  have hx := B.exec
  have hb := B.bytes
  have hr := B.returns
  have hg : ∀ w ∈ gW, w.before _ s = true := fun w h => atoms_spec (ws := wS_haveSameNumber) B.pre w (List.mem_cons_of_mem _ h)
  have hown : s.vm.findClass RS = some m.cls := findClass_of_methodNamed B.named
  have hlocks := B.notSynchronized
  have hS : va_S (gA Γ) s.heap s.heap [] := va_S.rf
  have hl := lv_entry ([va_rf r, va_rf q]) (n := 2) (by cases r <;> cases q <;> exact Nat.le_of_ble_eq_true rfl)
  rw [lg_entry_eq]
  generalize (lg_sl ([va_rf r, va_rf q]) ++ List.replicate (2 - (lg_sl ([va_rf r, va_rf q])).length) Slot.unset).toArray = ls at hl ⊢
  have hl : lv_has ls 2 [(0, va_rf r), (1, va_rf q)] := by cases r <;> cases q <;> exact hl
  refine q_aload_n hx hb dS_haveSameNumber_0 rfl (lv_at hl 0 rfl) ?_
  refine lv_iconst (v := 0) hx hb dS_haveSameNumber_1 (by decide) ?_
  refine vp_callSl (W.runS (As := [va_rf r, .int 0]) (rest := []) ⟨hx, hb, hml, hown, hg⟩ (c_S_takenOf l Γ s.heap (w := 0) (by omega) hf) (va_cwS 2 hg gS_46 rfl rfl rfl (by decide +kernel) ⟨Nat.le_of_ble_eq_true rfl, Nat.le_of_ble_eq_true rfl⟩) (gP_S hW hS) rfl rfl hl.1 rfl (lv_room (Nat.le_of_ble_eq_true rfl)) dS_haveSameNumber_2 ⟨Nat.le_of_ble_eq_true rfl, Nat.le_of_ble_eq_true rfl⟩) (fun x0 hx0 => ?_)
  refine q_aload_n hx hb dS_haveSameNumber_5 rfl (lv_at hl 1 rfl) ?_
  refine lv_iconst (v := 0) hx hb dS_haveSameNumber_6 (by decide) ?_
  refine vp_callSl (W.runS (As := [va_rf q, .int 0]) (rest := [.long x0]) ⟨hx, hb, hml, hown, hg⟩ (c_S_takenOf l Γ s.heap (w := 0) (by omega) hf2) (va_cwS 2 hg gS_46 rfl rfl rfl (by decide +kernel) ⟨Nat.le_of_ble_eq_true rfl, Nat.le_of_ble_eq_true rfl⟩) (gP_S hW hS) rfl rfl hl.1 rfl (lv_room (Nat.le_of_ble_eq_true rfl)) dS_haveSameNumber_7 ⟨Nat.le_of_ble_eq_true rfl, Nat.le_of_ble_eq_true rfl⟩) (fun y0 hy0 => ?_)
  refine W.lcmp hx hb dS_haveSameNumber_10 ?_
  refine lv_if_ne (tgt := 32) hx hb dS_haveSameNumber_11 (by decide) (fun c1 => ?_) (fun c1 => ?_)
  · have h1 : ¬ f 0 = f2 0 := fun h => c1 ((lg_cmp_eq _ _).mpr (by rw [hx0, hy0]; exact h))
    refine lv_iconst (v := 0) hx hb dS_haveSameNumber_32 (by decide) ?_
    exact W.zret (v := 0) hx hb hr (by decide) (fun t ht hW9 => ⟨_, rfl, by simp [h1], ht⟩) (fun _ h => nomatch h) dS_haveSameNumber_33
  · have h1 : f 0 = f2 0 := by rw [← hx0, ← hy0]; exact (lg_cmp_eq _ _).mp c1
    refine q_aload_n hx hb dS_haveSameNumber_14 rfl (lv_at hl 0 rfl) ?_
    refine lv_iconst (v := 1) hx hb dS_haveSameNumber_15 (by decide) ?_
    refine vp_callSl (W.runS (As := [va_rf r, .int 1]) (rest := []) ⟨hx, hb, hml, hown, hg⟩ (c_S_takenOf l Γ s.heap (w := 1) (by omega) hf) (va_cwS 2 hg gS_46 rfl rfl rfl (by decide +kernel) ⟨Nat.le_of_ble_eq_true rfl, Nat.le_of_ble_eq_true rfl⟩) (gP_S hW hS) rfl rfl hl.1 rfl (lv_room (Nat.le_of_ble_eq_true rfl)) dS_haveSameNumber_16 ⟨Nat.le_of_ble_eq_true rfl, Nat.le_of_ble_eq_true rfl⟩) (fun x1 hx1 => ?_)
    refine q_aload_n hx hb dS_haveSameNumber_19 rfl (lv_at hl 1 rfl) ?_
    refine lv_iconst (v := 1) hx hb dS_haveSameNumber_20 (by decide) ?_
    refine vp_callSl (W.runS (As := [va_rf q, .int 1]) (rest := [.long x1]) ⟨hx, hb, hml, hown, hg⟩ (c_S_takenOf l Γ s.heap (w := 1) (by omega) hf2) (va_cwS 2 hg gS_46 rfl rfl rfl (by decide +kernel) ⟨Nat.le_of_ble_eq_true rfl, Nat.le_of_ble_eq_true rfl⟩) (gP_S hW hS) rfl rfl hl.1 rfl (lv_room (Nat.le_of_ble_eq_true rfl)) dS_haveSameNumber_21 ⟨Nat.le_of_ble_eq_true rfl, Nat.le_of_ble_eq_true rfl⟩) (fun y1 hy1 => ?_)
    refine W.lcmp hx hb dS_haveSameNumber_24 ?_
    refine lv_if_ne (tgt := 32) hx hb dS_haveSameNumber_25 (by decide) (fun c2 => ?_) (fun c2 => ?_)
    · have h2 : ¬ f 1 = f2 1 := fun h => c2 ((lg_cmp_eq _ _).mpr (by rw [hx1, hy1]; exact h))
      refine lv_iconst (v := 0) hx hb dS_haveSameNumber_32 (by decide) ?_
      exact W.zret (v := 0) hx hb hr (by decide) (fun t ht hW9 => ⟨_, rfl, by simp [h2], ht⟩) (fun _ h => nomatch h) dS_haveSameNumber_33
    · have h2 : f 1 = f2 1 := by rw [← hx1, ← hy1]; exact (lg_cmp_eq _ _).mp c2
      refine lv_iconst (v := 1) hx hb dS_haveSameNumber_28 (by decide) ?_
      refine lv_goto (tgt := 33) hx hb dS_haveSameNumber_29 (by decide) ?_
      exact W.zret (v := 1) hx hb hr (by decide) (fun t ht hW9 => ⟨_, rfl, by simp [h1, h2], ht⟩) (fun _ h => nomatch h) dS_haveSameNumber_33
end
section
/-! reads of a tree, the long ones -/
theorem smod10 : ∀ L, L < 11 → (((nI L) &&& 31).toBitVec.smod 32).toNat = L := by decide +kernel
theorem shl10 {L : Nat} (hL : L < 11) : (1 : Int32) <<< (nI L &&& 31) = nI (2 ^ L) := by
  have h2 : 2 ^ L ≤ 2 ^ 10 := Nat.pow_le_pow_right (by decide) (by omega)
  have := pk_shlN (n := 1) (nI L &&& 31) L (smod10 L hL) (by omega)
  rw [Nat.one_mul] at this
  exact this
theorem lastk {a L : Nat} (hL : L < 11) (ha : a + 2 ^ L ≤ 1024) : nI a + (1 : Int32) <<< (nI L &&& 31) - 1 = nI (a + 2 ^ L - 1) := by
  have h2 : 0 < 2 ^ L := Nat.two_pow_pos L
  rw [shl10 hL, nI_add, show a + 2 ^ L = (a + 2 ^ L - 1) + 1 by omega, nI_pred]
  rw [Nat.add_sub_cancel]
set_option maxHeartbeats 4000000 in
set_option maxRecDepth 100000 in
theorem c_S_keyBehind (l : Launch) (Γ : gE) (H : Heap) {V : Nat → Option Int64} {S : Nat → Int32} {r : Option Nat} {k : Nat} (hwf : wfS S) (hT : TR Γ H V S 10 0 r) (hk : k < cnt V 0 1024) : Met l yS_keyBehind wS_keyBehind ({ frames := 2, cells := 0, slots := 0, locals := 200 }) (gP Γ H [va_rf r, .int (nI k)]) (vp_Si (fun x => ∃ K, K < 1024 ∧ x = nI K ∧ (V K).isSome = true ∧ cnt V 0 K = k)) 0 0 (fun _ => False) := by
  refine Met.ofW (cc := cS_keyBehind) (maxL := 8) (ret := (some .int)) (by decide) rfl ?_
  intro p e s m args below meth c s₁ B hml hv
  obtain ⟨rfl, rfl, hW⟩ := hv
  have hx := B.exec
  have hb := B.bytes
  have hr := B.returns
  have hg : ∀ w ∈ gW, w.before _ s = true := fun w h => atoms_spec (ws := wS_keyBehind) B.pre w (List.mem_cons_of_mem _ h)
  have hown : s.vm.findClass RS = some m.cls := findClass_of_methodNamed B.named
  have hlocks := B.notSynchronized
  have hS : va_S (gA Γ) s.heap s.heap [] := va_S.rf
  have hl := lv_entry ([va_rf r, .int (nI k)]) (n := 8) (by cases r <;> exact Nat.le_of_ble_eq_true rfl)
  rw [lg_entry_eq]
  generalize (lg_sl ([va_rf r, .int (nI k)]) ++ List.replicate (8 - (lg_sl ([va_rf r, .int (nI k)])).length) Slot.unset).toArray = ls at hl ⊢
  have hl : lv_has ls 8 [(0, va_rf r), (1, .int (nI k))] := by cases r <;> exact hl
  have key : ∀ (L a b : Nat) (q : Option Nat) (ls : Array Slot), L ≤ 10 → a + 2 ^ L ≤ 1024 → b < cnt V a (2 ^ L) → cnt V 0 a + b = k → TR Γ s.heap V S L a q → lv_has ls 8 [(5, .int (nI L)), (3, .long (lN b)), (2, va_rf q), (0, va_rf r), (1, .int (nI k))] → W p l e (headSpec wS_keyBehind ({ frames := 2, cells := 0, slots := 0, locals := 200 })).room s m [va_rf r, .int (nI k)].toArray below meth c s.heap [] 0 0 (MQ below (vp_Si (fun x => ∃ K, K < 1024 ∧ x = nI K ∧ (V K).isSome = true ∧ cnt V 0 K = k)) [va_rf r, .int (nI k)].toArray s 0 0 (fun _ => False)) (F0 m 9 ls []) := by
    intro L
    induction L with
    | zero =>
      intro a b q ls hL ha hb1 hb2 hT hl
      refine lv_iload hx hb dS_keyBehind_9 (lv_at hl 0 rfl) ?_
      refine lv_if_le (tgt := 55) hx hb dS_keyBehind_11 (by decide) (fun c1 => ?_) (fun c1 => ?_)
      · obtain ⟨f, hf, hv⟩ := hT.f
        have hs : (V a).isSome = true := by
          by_cases h : (V a).isSome = true
          · exact h
          · simp [cnt, h] at hb1
        have hb0 : b = 0 := by simp [cnt, hs] at hb1; omega
        refine q_aload_n hx hb dS_keyBehind_55 rfl (lv_at hl 2 rfl) ?_
        refine lv_iconst (v := 2) hx hb dS_keyBehind_56 (by decide) ?_
        refine vp_callSl (W.runS (As := [va_rf q, .int 2]) (rest := []) ⟨hx, hb, hml, hown, hg⟩ (c_S_takenOf l Γ s.heap (w := 2) (by omega) hf) (va_cwS 2 hg gS_46 rfl rfl rfl (by decide +kernel) ⟨Nat.le_of_ble_eq_true rfl, Nat.le_of_ble_eq_true rfl⟩) (gP_S hW hS) rfl rfl hl.1 rfl (lv_room (Nat.le_of_ble_eq_true rfl)) dS_keyBehind_57 ⟨Nat.le_of_ble_eq_true rfl, Nat.le_of_ble_eq_true rfl⟩) (fun x0 hx0 => ?_)
        refine lv_l2i (v := x0.toInt32) hx hb dS_keyBehind_60 rfl ?_
        have e0 : x0 = lN a := by rw [hx0, hv 2 (by omega)]; show ag V S 2 a 1 = lN a; rw [ag_one hwf (by omega)]; simp [lfv, hs]
        exact W.iret (v := x0.toInt32) hx hb hr (fun t ht hW9 => ⟨_, rfl, ⟨a, by simp at ha; omega, by rw [e0, lN_i], hs, by omega⟩, ht⟩) (fun _ h => nomatch h) dS_keyBehind_61
      · exact absurd (by decide) c1
    | succ L ih =>
      intro a b q ls hL ha hb1 hb2 hT hl
      obtain ⟨-, lo, up, hbl, hlo, hup⟩ := hT
      have hp := pow2_s L
      obtain ⟨f, hf, hv⟩ := hlo.f
      have hcs := cnt_split V a (2 ^ L) (2 ^ L)
      rw [← hp] at hcs
      have hcl := cnt_le V a (2 ^ L)
      have hcl2 := cnt_le V a (2 ^ (L + 1))
      refine lv_iload hx hb dS_keyBehind_9 (lv_at hl 0 rfl) ?_
      refine lv_if_le (tgt := 55) hx hb dS_keyBehind_11 (by decide) (fun c1 => ?_) (fun c1 => ?_)
      · exact absurd c1 (nI_nle (by omega) (by omega))
      · refine q_aload_n hx hb dS_keyBehind_14 rfl (lv_at hl 2 rfl) ?_
        refine va_csq (W.runS (As := [va_rf q]) (rest := []) ⟨hx, hb, hml, hown, hg⟩ (c_S_lowerOf l Γ s.heap hbl) (va_cwS 1 hg gS_94 rfl rfl rfl (by decide +kernel) ⟨Nat.le_of_ble_eq_true rfl, Nat.le_of_ble_eq_true rfl⟩) (gP_S hW hS) rfl rfl hl.1 rfl (lv_room (Nat.le_of_ble_eq_true rfl)) dS_keyBehind_15 ⟨Nat.le_of_ble_eq_true rfl, Nat.le_of_ble_eq_true rfl⟩) (fun x hx9 => ?_)
        subst hx9
        refine lv_iconst (v := 0) hx hb dS_keyBehind_18 (by decide) ?_
        refine vp_callSl (W.runS (As := [va_rf x, .int 0]) (rest := []) ⟨hx, hb, hml, hown, hg⟩ (c_S_takenOf l Γ s.heap (w := 0) (by omega) hf) (va_cwS 2 hg gS_46 rfl rfl rfl (by decide +kernel) ⟨Nat.le_of_ble_eq_true rfl, Nat.le_of_ble_eq_true rfl⟩) (gP_S hW hS) rfl rfl hl.1 rfl (lv_room (Nat.le_of_ble_eq_true rfl)) dS_keyBehind_19 ⟨Nat.le_of_ble_eq_true rfl, Nat.le_of_ble_eq_true rfl⟩) (fun x0 hx0 => ?_)
        have e0 : x0 = lN (cnt V a (2 ^ L)) := by rw [hx0, hv 0 (by omega), ag_cnt]
        subst e0
        refine lv_lstore (lv' := [(6, .long (lN (cnt V a (2 ^ L)))), (5, .int (nI (L + 1))), (3, .long (lN b)), (2, va_rf q), (0, va_rf r), (1, .int (nI k))]) hx hb dS_keyBehind_22 hl (by decide) rfl (fun ls hl => ?_)
        refine lv_lload_n hx hb dS_keyBehind_24 rfl (lv_at hl 2 rfl) ?_
        refine lv_lload hx hb dS_keyBehind_25 (lv_at hl 0 rfl) ?_
        refine W.lcmp hx hb dS_keyBehind_27 ?_
        refine lv_if_ge (tgt := 39) hx hb dS_keyBehind_28 (by decide) (fun c2 => ?_) (fun c2 => ?_)
        · have h1 : cnt V a (2 ^ L) ≤ b := (lN_le (by omega) (by omega)).mp ((lg_cmp_ge _ _).mp c2)
          refine lv_lload_n hx hb dS_keyBehind_39 rfl (lv_at hl 2 rfl) ?_
          refine lv_lload hx hb dS_keyBehind_40 (lv_at hl 0 rfl) ?_
          refine lv_lsub hx hb dS_keyBehind_42 ?_
          refine lv_topl (fun v ev => ?_)
          have ev : v = lN (b - cnt V a (2 ^ L)) := ev.trans (lN_sub h1)
          subst ev
          refine lv_lstore_n (lv' := [(3, .long (lN (b - cnt V a (2 ^ L)))), (6, .long (lN (cnt V a (2 ^ L)))), (5, .int (nI (L + 1))), (2, va_rf q), (0, va_rf r), (1, .int (nI k))]) hx hb dS_keyBehind_43 rfl hl (by decide) (by cases q <;> rfl) (fun ls hl => ?_)
          refine q_aload_n hx hb dS_keyBehind_44 rfl (lv_at hl 3 rfl) ?_
          refine va_csq (W.runS (As := [va_rf q]) (rest := []) ⟨hx, hb, hml, hown, hg⟩ (c_S_upperOf l Γ s.heap hbl) (va_cwS 1 hg gS_98 rfl rfl rfl (by decide +kernel) ⟨Nat.le_of_ble_eq_true rfl, Nat.le_of_ble_eq_true rfl⟩) (gP_S hW hS) rfl rfl hl.1 rfl (lv_room (Nat.le_of_ble_eq_true rfl)) dS_keyBehind_45 ⟨Nat.le_of_ble_eq_true rfl, Nat.le_of_ble_eq_true rfl⟩) (fun y hy9 => ?_)
          subst hy9
          refine q_astore_n (lv' := [(2, va_rf y), (3, .long (lN (b - cnt V a (2 ^ L)))), (6, .long (lN (cnt V a (2 ^ L)))), (5, .int (nI (L + 1))), (0, va_rf r), (1, .int (nI k))]) hx hb dS_keyBehind_48 rfl hl (by decide) rfl (fun ls hl => ?_)
          refine lv_iinc (v := nI L) (lv' := [(5, .int (nI L)), (2, va_rf y), (3, .long (lN (b - cnt V a (2 ^ L)))), (6, .long (lN (cnt V a (2 ^ L)))), (0, va_rf r), (1, .int (nI k))]) hx hb dS_keyBehind_49 hl (k := 3) rfl (pk_m1 L) (by decide) rfl (fun ls hl => ?_)
          refine lv_goto (tgt := 9) hx hb dS_keyBehind_52 (by decide) ?_
          have hc0 := cnt_split V 0 a (2 ^ L)
          rw [Nat.zero_add] at hc0
          exact ih (a + 2 ^ L) (b - cnt V a (2 ^ L)) y ls (by omega) (by omega) (by omega) (by omega) hup (lv_sub hl [0, 2, 1, 4, 5] rfl)
        · have h1 : ¬ cnt V a (2 ^ L) ≤ b := fun h => c2 ((lg_cmp_ge _ _).mpr ((lN_le (by omega) (by omega)).mpr h))
          refine q_aload_n hx hb dS_keyBehind_31 rfl (lv_at hl 3 rfl) ?_
          refine va_csq (W.runS (As := [va_rf q]) (rest := []) ⟨hx, hb, hml, hown, hg⟩ (c_S_lowerOf l Γ s.heap hbl) (va_cwS 1 hg gS_94 rfl rfl rfl (by decide +kernel) ⟨Nat.le_of_ble_eq_true rfl, Nat.le_of_ble_eq_true rfl⟩) (gP_S hW hS) rfl rfl hl.1 rfl (lv_room (Nat.le_of_ble_eq_true rfl)) dS_keyBehind_32 ⟨Nat.le_of_ble_eq_true rfl, Nat.le_of_ble_eq_true rfl⟩) (fun y hy9 => ?_)
          subst hy9
          refine q_astore_n (lv' := [(2, va_rf y), (6, .long (lN (cnt V a (2 ^ L)))), (5, .int (nI (L + 1))), (3, .long (lN b)), (0, va_rf r), (1, .int (nI k))]) hx hb dS_keyBehind_35 rfl hl (by decide) rfl (fun ls hl => ?_)
          refine lv_goto (tgt := 49) hx hb dS_keyBehind_36 (by decide) ?_
          refine lv_iinc (v := nI L) (lv' := [(5, .int (nI L)), (2, va_rf y), (6, .long (lN (cnt V a (2 ^ L)))), (3, .long (lN b)), (0, va_rf r), (1, .int (nI k))]) hx hb dS_keyBehind_49 hl (k := 2) rfl (pk_m1 L) (by decide) rfl (fun ls hl => ?_)
          refine lv_goto (tgt := 9) hx hb dS_keyBehind_52 (by decide) ?_
          exact ih a b y ls (by omega) (by omega) (by omega) (by omega) hlo (lv_sub hl [0, 3, 1, 4, 5] rfl)
  refine q_aload_n hx hb dS_keyBehind_0 rfl (lv_at hl 0 rfl) ?_
  refine q_astore_n (lv' := [(2, va_rf r), (0, va_rf r), (1, .int (nI k))]) hx hb dS_keyBehind_1 rfl hl (by decide) rfl (fun ls hl => ?_)
  refine lv_iload_n hx hb dS_keyBehind_2 rfl (lv_at hl 2 rfl) ?_
  refine lv_i2l (v := (nI k).toInt64) hx hb dS_keyBehind_3 rfl ?_
  refine lv_topl (fun v ev => ?_)
  have ev : v = lN k := ev.trans (nI_l (by have := cnt_le V 0 1024; omega))
  subst ev
  refine lv_lstore_n (lv' := [(3, .long (lN k)), (2, va_rf r), (0, va_rf r), (1, .int (nI k))]) hx hb dS_keyBehind_4 rfl hl (by decide) (by cases r <;> rfl) (fun ls hl => ?_)
  refine lv_bipush (v := 10) hx hb dS_keyBehind_5 (by decide) ?_
  refine lv_istore (lv' := [(5, .int 10), (3, .long (lN k)), (2, va_rf r), (0, va_rf r), (1, .int (nI k))]) hx hb dS_keyBehind_7 hl (by decide) rfl (fun ls hl => ?_)
  exact key 10 0 k r ls (Nat.le_refl _) (by decide) hk (by simp [cnt]) hT (lv_sub hl [0, 1, 2, 3, 4] rfl)
set_option maxHeartbeats 4000000 in
set_option maxRecDepth 100000 in
theorem c_S_differences (l : Launch) (Γ : gE) (H : Heap) {V V' : Nat → Option Int64} {S S' : Nat → Int32} (hS1 : wfS S) (hS2 : wfS S') : ∀ (L a : Nat) (r q : Option Nat), L ≤ 10 → TR Γ H V S L a r → TR Γ H V' S' L a q → Met l yS_differences wS_differences ({ frames := L + 4, cells := 0, slots := 0, locals := 100 * (L) + 400 }) (gP Γ H [va_rf r, va_rf q, .int (nI L)]) (vp_Si (fun x => x = nI (dcn V V' a (2 ^ L)))) 0 0 (fun _ => False) := by
  intro L
  induction L with
  | zero =>
      intro a r q hL h1 h2
      refine Met.ofW (cc := cS_differences) (maxL := 3) (ret := (some .int)) (by decide) rfl ?_
      intro p e s m args below meth c s₁ B hml hv
      obtain ⟨rfl, rfl, hW⟩ := hv
      have hx := B.exec
      have hb := B.bytes
      have hr := B.returns
      have hg : ∀ w ∈ gW, w.before _ s = true := fun w h => atoms_spec (ws := wS_differences) B.pre w (List.mem_cons_of_mem _ h)
      have hown : s.vm.findClass RS = some m.cls := findClass_of_methodNamed B.named
      have hlocks := B.notSynchronized
      have hS : va_S (gA Γ) s.heap s.heap [] := va_S.rf
      have hl := lv_entry ([va_rf r, va_rf q, .int (nI (0))]) (n := 3) (by cases r <;> cases q <;> exact Nat.le_of_ble_eq_true rfl)
      rw [lg_entry_eq]
      generalize (lg_sl ([va_rf r, va_rf q, .int (nI (0))]) ++ List.replicate (3 - (lg_sl ([va_rf r, va_rf q, .int (nI (0))])).length) Slot.unset).toArray = ls at hl ⊢
      have hl : lv_has ls 3 [(0, va_rf r), (1, va_rf q), (2, .int (nI (0)))] := by cases r <;> cases q <;> exact hl
      refine q_aload_n hx hb dS_differences_0 rfl (lv_at hl 0 rfl) ?_
      refine q_aload_n hx hb dS_differences_1 rfl (lv_at hl 1 rfl) ?_
      refine lv_acmp_ne (tgt := 7) hx hb dS_differences_2 (by decide) (fun c1 => ?_) (fun c1 => ?_)
      · refine lv_iload_n hx hb dS_differences_7 rfl (lv_at hl 2 rfl) ?_
        refine lv_if_gt (tgt := 25) hx hb dS_differences_8 (by decide) (fun c2 => ?_) (fun c2 => ?_)
        · exact absurd c2 (by decide)
        · obtain ⟨f, hf, hv⟩ := h1.f
          obtain ⟨f2, hf2, hv2⟩ := h2.f
          have e1 : ∀ w, w ≤ 4 → f w = lfv V S w a := fun w hw => (hv w hw).trans (ag_one hS1 hw a)
          have e2 : ∀ w, w ≤ 4 → f2 w = lfv V' S' w a := fun w hw => (hv2 w hw).trans (ag_one hS2 hw a)
          have e3 : (f 0 = f2 0 ∧ f 1 = f2 1) ↔ V a = V' a := by
            rw [e1 0 (by omega), e1 1 (by omega), e2 0 (by omega), e2 1 (by omega)]
            exact ⟨fun h => lfv_inj h.1 h.2, fun h => ⟨lfv_of h (Or.inl rfl), lfv_of h (Or.inr rfl)⟩⟩
          refine q_aload_n hx hb dS_differences_11 rfl (lv_at hl 0 rfl) ?_
          refine q_aload_n hx hb dS_differences_12 rfl (lv_at hl 1 rfl) ?_
          refine vp_callSi (W.runS (As := [va_rf r, va_rf q]) (rest := []) ⟨hx, hb, hml, hown, hg⟩ (c_S_haveSameNumber l Γ s.heap hf hf2) (va_cwS 2 hg gS_124 rfl rfl rfl (by decide +kernel) ⟨by decide, by decide⟩) (gP_S hW hS) rfl rfl hl.1 rfl (lv_room (Nat.le_of_ble_eq_true rfl)) dS_differences_13 ⟨Nat.le_of_ble_eq_true rfl, Nat.le_of_ble_eq_true rfl⟩) (fun x0 hx0 => ?_)
          refine lv_if_eq (tgt := 23) hx hb dS_differences_16 (by decide) (fun c3 => ?_) (fun c3 => ?_)
          · have h3 : ¬ V a = V' a := fun h => by rw [hx0, if_pos (e3.mpr h)] at c3; exact absurd c3 (by decide)
            refine lv_iconst (v := 1) hx hb dS_differences_23 (by decide) ?_
            exact W.iret (v := 1) hx hb hr (fun t ht hW9 => ⟨_, rfl, by simp [dcn, h3]; rfl, ht⟩) (fun _ h => nomatch h) dS_differences_24
          · have h3 : V a = V' a := by
              by_cases h : V a = V' a
              · exact h
              · rw [hx0, if_neg (fun z => h (e3.mp z))] at c3; exact absurd rfl c3
            refine lv_iconst (v := 0) hx hb dS_differences_19 (by decide) ?_
            refine lv_goto (tgt := 24) hx hb dS_differences_20 (by decide) ?_
            exact W.iret (v := 0) hx hb hr (fun t ht hW9 => ⟨_, rfl, by simp [dcn, h3]; rfl, ht⟩) (fun _ h => nomatch h) dS_differences_24
      · subst c1
        refine lv_iconst (v := 0) hx hb dS_differences_5 (by decide) ?_
        exact W.iret (v := 0) hx hb hr (fun t ht hW9 => ⟨_, rfl, by rw [dcn_same _ (fun k h3 h4 => TR.det hS1 hS2 h1 h2 k h3 h4)]; rfl, ht⟩) (fun _ h => nomatch h) dS_differences_6
  | succ L ih =>
      intro a r q hL h1 h2
      refine Met.ofW (cc := cS_differences) (maxL := 3) (ret := (some .int)) (by decide) rfl ?_
      intro p e s m args below meth c s₁ B hml hv
      obtain ⟨rfl, rfl, hW⟩ := hv
      have hx := B.exec
      have hb := B.bytes
      have hr := B.returns
      have hg : ∀ w ∈ gW, w.before _ s = true := fun w h => atoms_spec (ws := wS_differences) B.pre w (List.mem_cons_of_mem _ h)
      have hown : s.vm.findClass RS = some m.cls := findClass_of_methodNamed B.named
      have hlocks := B.notSynchronized
      have hS : va_S (gA Γ) s.heap s.heap [] := va_S.rf
      have hl := lv_entry ([va_rf r, va_rf q, .int (nI (L + 1))]) (n := 3) (by cases r <;> cases q <;> exact Nat.le_of_ble_eq_true rfl)
      rw [lg_entry_eq]
      generalize (lg_sl ([va_rf r, va_rf q, .int (nI (L + 1))]) ++ List.replicate (3 - (lg_sl ([va_rf r, va_rf q, .int (nI (L + 1))])).length) Slot.unset).toArray = ls at hl ⊢
      have hl : lv_has ls 3 [(0, va_rf r), (1, va_rf q), (2, .int (nI (L + 1)))] := by cases r <;> cases q <;> exact hl
      refine q_aload_n hx hb dS_differences_0 rfl (lv_at hl 0 rfl) ?_
      refine q_aload_n hx hb dS_differences_1 rfl (lv_at hl 1 rfl) ?_
      refine lv_acmp_ne (tgt := 7) hx hb dS_differences_2 (by decide) (fun c1 => ?_) (fun c1 => ?_)
      · refine lv_iload_n hx hb dS_differences_7 rfl (lv_at hl 2 rfl) ?_
        refine lv_if_gt (tgt := 25) hx hb dS_differences_8 (by decide) (fun c2 => ?_) (fun c2 => ?_)
        · obtain ⟨-, lo, up, hbl, hlo, hup⟩ := h1
          obtain ⟨-, lo2, up2, hbl2, hlo2, hup2⟩ := h2
          have hp := pow2_s L
          refine q_aload_n hx hb dS_differences_25 rfl (lv_at hl 0 rfl) ?_
          refine va_csq (W.runS (As := [va_rf r]) (rest := []) ⟨hx, hb, hml, hown, hg⟩ (c_S_lowerOf l Γ s.heap hbl) (va_cwS 1 hg gS_94 rfl rfl rfl (by decide +kernel) ⟨by show 0 + 1 ≤ L + 1 + 4; omega, by show 8 + (1 + 11) + 0 ≤ 100 * (L + 1) + 400; omega⟩) (gP_S hW hS) rfl rfl hl.1 rfl (lv_room (Nat.le_of_ble_eq_true rfl)) dS_differences_26 ⟨Nat.le_of_ble_eq_true rfl, Nat.le_of_ble_eq_true rfl⟩) (fun x1 hx1 => ?_)
          subst hx1
          refine q_aload_n hx hb dS_differences_29 rfl (lv_at hl 1 rfl) ?_
          refine va_csq (W.runS (As := [va_rf q]) (rest := [va_rf x1]) ⟨hx, hb, hml, hown, hg⟩ (c_S_lowerOf l Γ s.heap hbl2) (va_cwS 1 hg gS_94 rfl rfl rfl (by decide +kernel) ⟨by show 0 + 1 ≤ L + 1 + 4; omega, by show 8 + (1 + 11) + 0 ≤ 100 * (L + 1) + 400; omega⟩) (gP_S hW hS) rfl rfl hl.1 rfl (lv_room (by cases x1 <;> exact Nat.le_of_ble_eq_true rfl)) dS_differences_30 ⟨Nat.le_of_ble_eq_true rfl, Nat.le_of_ble_eq_true rfl⟩) (fun x2 hx2 => ?_)
          subst hx2
          refine lv_iload_n hx hb dS_differences_33 rfl (lv_at hl 2 rfl) ?_
          refine lv_iconst (v := 1) hx hb dS_differences_34 (by decide) ?_
          refine lv_isub hx hb dS_differences_35 ?_
          refine lv_topi (fun v ev => ?_)
          have ev : v = nI L := ev.trans (nI_pred L)
          subst ev
          refine vp_callSi (W.runS (As := [va_rf x1, va_rf x2, .int (nI L)]) (rest := []) ⟨hx, hb, hml, hown, hg⟩ (ih a x1 x2 (by omega) hlo hlo2) (va_cwS 3 hg gS_77 rfl rfl rfl (by decide +kernel) ⟨by show L + 4 + 1 ≤ L + 1 + 4; omega, by show 8 + (3 + 11) + (100 * L + 400) ≤ 100 * (L + 1) + 400; omega⟩) (gP_S hW hS) rfl rfl hl.1 rfl (lv_room (Nat.le_of_ble_eq_true rfl)) dS_differences_36 ⟨Nat.le_of_ble_eq_true rfl, Nat.le_of_ble_eq_true rfl⟩) (fun n1 hn1 => ?_)
          refine q_aload_n hx hb dS_differences_39 rfl (lv_at hl 0 rfl) ?_
          refine va_csq (W.runS (As := [va_rf r]) (rest := [.int n1]) ⟨hx, hb, hml, hown, hg⟩ (c_S_upperOf l Γ s.heap hbl) (va_cwS 1 hg gS_98 rfl rfl rfl (by decide +kernel) ⟨by show 0 + 1 ≤ L + 1 + 4; omega, by show 8 + (1 + 11) + 0 ≤ 100 * (L + 1) + 400; omega⟩) (gP_S hW hS) rfl rfl hl.1 rfl (lv_room (Nat.le_of_ble_eq_true rfl)) dS_differences_40 ⟨Nat.le_of_ble_eq_true rfl, Nat.le_of_ble_eq_true rfl⟩) (fun x3 hx3 => ?_)
          subst hx3
          refine q_aload_n hx hb dS_differences_43 rfl (lv_at hl 1 rfl) ?_
          refine va_csq (W.runS (As := [va_rf q]) (rest := [va_rf x3, .int n1]) ⟨hx, hb, hml, hown, hg⟩ (c_S_upperOf l Γ s.heap hbl2) (va_cwS 1 hg gS_98 rfl rfl rfl (by decide +kernel) ⟨by show 0 + 1 ≤ L + 1 + 4; omega, by show 8 + (1 + 11) + 0 ≤ 100 * (L + 1) + 400; omega⟩) (gP_S hW hS) rfl rfl hl.1 rfl (lv_room (by cases x3 <;> exact Nat.le_of_ble_eq_true rfl)) dS_differences_44 ⟨Nat.le_of_ble_eq_true rfl, Nat.le_of_ble_eq_true rfl⟩) (fun x4 hx4 => ?_)
          subst hx4
          refine lv_iload_n hx hb dS_differences_47 rfl (lv_at hl 2 rfl) ?_
          refine lv_iconst (v := 1) hx hb dS_differences_48 (by decide) ?_
          refine lv_isub hx hb dS_differences_49 ?_
          refine lv_topi (fun v2 ev2 => ?_)
          have ev2 : v2 = nI L := ev2.trans (nI_pred L)
          subst ev2
          refine vp_callSi (W.runS (As := [va_rf x3, va_rf x4, .int (nI L)]) (rest := [.int n1]) ⟨hx, hb, hml, hown, hg⟩ (ih (a + 2 ^ L) x3 x4 (by omega) hup hup2) (va_cwS 3 hg gS_77 rfl rfl rfl (by decide +kernel) ⟨by show L + 4 + 1 ≤ L + 1 + 4; omega, by show 8 + (3 + 11) + (100 * L + 400) ≤ 100 * (L + 1) + 400; omega⟩) (gP_S hW hS) rfl rfl hl.1 rfl (lv_room (Nat.le_of_ble_eq_true rfl)) dS_differences_50 ⟨Nat.le_of_ble_eq_true rfl, Nat.le_of_ble_eq_true rfl⟩) (fun n2 hn2 => ?_)
          refine lv_iadd hx hb dS_differences_53 ?_
          exact W.iret (v := n1 + n2) hx hb hr (fun t ht hW9 => ⟨_, rfl, by rw [hn1, hn2, nI_add, hp, dcn_split], ht⟩) (fun _ h => nomatch h) dS_differences_54
        · exact absurd (show (0 : Int32) < nI (L + 1) from by rw [← nI_0]; exact nI_lt (by omega) (by omega)) c2
      · subst c1
        refine lv_iconst (v := 0) hx hb dS_differences_5 (by decide) ?_
        exact W.iret (v := 0) hx hb hr (fun t ht hW9 => ⟨_, rfl, by rw [dcn_same _ (fun k h3 h4 => TR.det hS1 hS2 h1 h2 k h3 h4)]; rfl, ht⟩) (fun _ h => nomatch h) dS_differences_6
set_option maxHeartbeats 4000000 in
set_option maxRecDepth 100000 in
theorem c_S_takenWithin (l : Launch) (Γ : gE) (H : Heap) {V : Nat → Option Int64} {S : Nat → Int32} {lo hi w : Nat} (hwf : wfS S) (hw : w ≤ 4) (hlo1 : lo < 1024) (hhi1 : hi < 1024) : ∀ (L a : Nat) (r : Option Nat), L ≤ 10 → a + 2 ^ L ≤ 1024 → TR Γ H V S L a r → Met l yS_takenWithin wS_takenWithin ({ frames := L + 4, cells := 0, slots := 0, locals := 100 * (L) + 400 }) (gP Γ H [va_rf r, .int (nI L), .int (nI a), .int (nI lo), .int (nI hi), .int (nI w)]) (vp_Sl (fun x => x = ag (rV V lo hi) (rS S lo hi) w a (2 ^ L))) 0 0 (fun _ => False) := by
  intro L
  induction L with
  | zero =>
      intro a r hL ha hT
      refine Met.ofW (cc := cS_takenWithin) (maxL := 12) (ret := (some .long)) (by decide) rfl ?_
      intro p e s m args below meth c s₁ B hml hv
      obtain ⟨rfl, rfl, hW⟩ := hv
      have hx := B.exec
      have hb := B.bytes
      have hr := B.returns
      have hg : ∀ w ∈ gW, w.before _ s = true := fun w h => atoms_spec (ws := wS_takenWithin) B.pre w (List.mem_cons_of_mem _ h)
      have hown : s.vm.findClass RS = some m.cls := findClass_of_methodNamed B.named
      have hlocks := B.notSynchronized
      have hS : va_S (gA Γ) s.heap s.heap [] := va_S.rf
      have hl := lv_entry ([va_rf r, .int (nI (0)), .int (nI a), .int (nI lo), .int (nI hi), .int (nI w)]) (n := 12) (by cases r <;> exact Nat.le_of_ble_eq_true rfl)
      rw [lg_entry_eq]
      generalize (lg_sl ([va_rf r, .int (nI (0)), .int (nI a), .int (nI lo), .int (nI hi), .int (nI w)]) ++ List.replicate (12 - (lg_sl ([va_rf r, .int (nI (0)), .int (nI a), .int (nI lo), .int (nI hi), .int (nI w)])).length) Slot.unset).toArray = ls at hl ⊢
      have hl : lv_has ls 12 [(0, va_rf r), (1, .int (nI (0))), (2, .int (nI a)), (3, .int (nI lo)), (4, .int (nI hi)), (5, .int (nI w))] := by cases r <;> exact hl
      refine lv_iload_n hx hb dS_takenWithin_0 rfl (lv_at hl 2 rfl) ?_
      refine lv_iconst (v := 1) hx hb dS_takenWithin_1 (by decide) ?_
      refine lv_iload_n hx hb dS_takenWithin_2 rfl (lv_at hl 1 rfl) ?_
      refine lv_ishl hx hb dS_takenWithin_3 ?_
      refine lv_iadd hx hb dS_takenWithin_4 ?_
      refine lv_iconst (v := 1) hx hb dS_takenWithin_5 (by decide) ?_
      refine lv_isub hx hb dS_takenWithin_6 ?_
      refine lv_topi (fun v ev => ?_)
      have ev : v = nI (a + 2 ^ (0) - 1) := ev.trans (lastk (by omega) ha)
      subst ev
      have hp0 : 0 < 2 ^ (0) := Nat.two_pow_pos _
      refine lv_istore (lv' := [(6, .int (nI (a + 2 ^ (0) - 1))), (0, va_rf r), (1, .int (nI (0))), (2, .int (nI a)), (3, .int (nI lo)), (4, .int (nI hi)), (5, .int (nI w))]) hx hb dS_takenWithin_7 hl (by decide) rfl (fun ls hl => ?_)
      refine q_aload_n hx hb dS_takenWithin_9 rfl (lv_at hl 1 rfl) ?_
      refine q_ifnull (tgt := 25) hx hb dS_takenWithin_10 (by decide) (fun c1 => ?_) (fun xc1 c1 => ?_)
      · subst c1
        refine lv_iload hx hb dS_takenWithin_25 (lv_at hl 6 rfl) ?_
        refine vp_callSl (W.runS (As := [.int (nI w)]) (rest := []) ⟨hx, hb, hml, hown, hg⟩ (c_S_takenOfNothing l Γ s.heap hw) (va_cwS 1 hg gS_109 rfl rfl rfl (by decide +kernel) ⟨by show 0 + 1 ≤ 0 + 4; omega, by show 8 + (1 + 11) + 0 ≤ 100 * (0) + 400; omega⟩) (gP_S hW hS) rfl rfl hl.1 rfl (lv_room (Nat.le_of_ble_eq_true rfl)) dS_takenWithin_27 ⟨Nat.le_of_ble_eq_true rfl, Nat.le_of_ble_eq_true rfl⟩) (fun r0 hr0 => ?_)
        exact W.lret (v := r0) hx hb hr (fun t ht hW9 => ⟨_, rfl, hr0.trans (ag_r_none hw (TR.nul hT)).symm, ht⟩) (fun _ h => nomatch h) dS_takenWithin_30
      · subst c1
        have hl : lv_has ls 12 [(6, .int (nI (a + 2 ^ (0) - 1))), (0, .ref xc1), (1, .int (nI (0))), (2, .int (nI a)), (3, .int (nI lo)), (4, .int (nI hi)), (5, .int (nI w))] := hl
        obtain ⟨f, hf, hv⟩ := hT.f
        refine lv_iload hx hb dS_takenWithin_13 (lv_at hl 0 rfl) ?_
        refine lv_iload_n hx hb dS_takenWithin_15 rfl (lv_at hl 4 rfl) ?_
        refine lv_icmp_lt (tgt := 25) hx hb dS_takenWithin_16 (by decide) (fun c2 => ?_) (fun c2 => ?_)
        · have h1 : a + 2 ^ (0) - 1 < lo := (nI_ltI (by omega) (by omega)).mp c2
          refine lv_iload hx hb dS_takenWithin_25 (lv_at hl 6 rfl) ?_
          refine vp_callSl (W.runS (As := [.int (nI w)]) (rest := []) ⟨hx, hb, hml, hown, hg⟩ (c_S_takenOfNothing l Γ s.heap hw) (va_cwS 1 hg gS_109 rfl rfl rfl (by decide +kernel) ⟨by show 0 + 1 ≤ 0 + 4; omega, by show 8 + (1 + 11) + 0 ≤ 100 * (0) + 400; omega⟩) (gP_S hW hS) rfl rfl hl.1 rfl (lv_room (Nat.le_of_ble_eq_true rfl)) dS_takenWithin_27 ⟨Nat.le_of_ble_eq_true rfl, Nat.le_of_ble_eq_true rfl⟩) (fun r0 hr0 => ?_)
          exact W.lret (v := r0) hx hb hr (fun t ht hW9 => ⟨_, rfl, hr0.trans (ag_r_out hw (Or.inl (by omega))).symm, ht⟩) (fun _ h => nomatch h) dS_takenWithin_30
        · have h1 : ¬ a + 2 ^ (0) - 1 < lo := fun h => c2 ((nI_ltI (by omega) (by omega)).mpr h)
          refine lv_iload_n hx hb dS_takenWithin_19 rfl (lv_at hl 3 rfl) ?_
          refine lv_iload hx hb dS_takenWithin_20 (lv_at hl 5 rfl) ?_
          refine lv_icmp_le (tgt := 31) hx hb dS_takenWithin_22 (by decide) (fun c3 => ?_) (fun c3 => ?_)
          · have h2 : a ≤ hi := (nI_leI (by omega) (by omega)).mp c3
            refine lv_iload_n hx hb dS_takenWithin_31 rfl (lv_at hl 2 rfl) ?_
            refine lv_if_le (tgt := 47) hx hb dS_takenWithin_32 (by decide) (fun c4 => ?_) (fun c4 => ?_)
            · refine lv_aload_n hx hb dS_takenWithin_47 rfl (lv_at hl 1 rfl) ?_
              refine lv_iload hx hb dS_takenWithin_48 (lv_at hl 6 rfl) ?_
              refine vp_callSl (W.runS (As := [.ref xc1, .int (nI w)]) (rest := []) ⟨hx, hb, hml, hown, hg⟩ (c_S_takenOf l Γ s.heap hw hf) (va_cwS 2 hg gS_46 rfl rfl rfl (by decide +kernel) ⟨by show 1 + 1 ≤ 0 + 4; omega, by show 8 + (2 + 11) + 20 ≤ 100 * (0) + 400; omega⟩) (gP_S hW hS) rfl rfl hl.1 rfl (lv_room (Nat.le_of_ble_eq_true rfl)) dS_takenWithin_50 ⟨Nat.le_of_ble_eq_true rfl, Nat.le_of_ble_eq_true rfl⟩) (fun r0 hr0 => ?_)
              exact W.lret (v := r0) hx hb hr (fun t ht hW9 => ⟨_, rfl, by rw [hr0, hv w hw, ag_r_in (by simp at h1; omega) (by simp; omega)], ht⟩) (fun _ h => nomatch h) dS_takenWithin_53
            · exact absurd (by decide) c4
          · have h2 : ¬ a ≤ hi := fun h => c3 ((nI_leI (by omega) (by omega)).mpr h)
            refine lv_iload hx hb dS_takenWithin_25 (lv_at hl 6 rfl) ?_
            refine vp_callSl (W.runS (As := [.int (nI w)]) (rest := []) ⟨hx, hb, hml, hown, hg⟩ (c_S_takenOfNothing l Γ s.heap hw) (va_cwS 1 hg gS_109 rfl rfl rfl (by decide +kernel) ⟨by show 0 + 1 ≤ 0 + 4; omega, by show 8 + (1 + 11) + 0 ≤ 100 * (0) + 400; omega⟩) (gP_S hW hS) rfl rfl hl.1 rfl (lv_room (Nat.le_of_ble_eq_true rfl)) dS_takenWithin_27 ⟨Nat.le_of_ble_eq_true rfl, Nat.le_of_ble_eq_true rfl⟩) (fun r0 hr0 => ?_)
            exact W.lret (v := r0) hx hb hr (fun t ht hW9 => ⟨_, rfl, hr0.trans (ag_r_out hw (Or.inr (by omega))).symm, ht⟩) (fun _ h => nomatch h) dS_takenWithin_30
  | succ L ih =>
      intro a r hL ha hT
      refine Met.ofW (cc := cS_takenWithin) (maxL := 12) (ret := (some .long)) (by decide) rfl ?_
      intro p e s m args below meth c s₁ B hml hv
      obtain ⟨rfl, rfl, hW⟩ := hv
      have hx := B.exec
      have hb := B.bytes
      have hr := B.returns
      have hg : ∀ w ∈ gW, w.before _ s = true := fun w h => atoms_spec (ws := wS_takenWithin) B.pre w (List.mem_cons_of_mem _ h)
      have hown : s.vm.findClass RS = some m.cls := findClass_of_methodNamed B.named
      have hlocks := B.notSynchronized
      have hS : va_S (gA Γ) s.heap s.heap [] := va_S.rf
      have hl := lv_entry ([va_rf r, .int (nI (L + 1)), .int (nI a), .int (nI lo), .int (nI hi), .int (nI w)]) (n := 12) (by cases r <;> exact Nat.le_of_ble_eq_true rfl)
      rw [lg_entry_eq]
      generalize (lg_sl ([va_rf r, .int (nI (L + 1)), .int (nI a), .int (nI lo), .int (nI hi), .int (nI w)]) ++ List.replicate (12 - (lg_sl ([va_rf r, .int (nI (L + 1)), .int (nI a), .int (nI lo), .int (nI hi), .int (nI w)])).length) Slot.unset).toArray = ls at hl ⊢
      have hl : lv_has ls 12 [(0, va_rf r), (1, .int (nI (L + 1))), (2, .int (nI a)), (3, .int (nI lo)), (4, .int (nI hi)), (5, .int (nI w))] := by cases r <;> exact hl
      refine lv_iload_n hx hb dS_takenWithin_0 rfl (lv_at hl 2 rfl) ?_
      refine lv_iconst (v := 1) hx hb dS_takenWithin_1 (by decide) ?_
      refine lv_iload_n hx hb dS_takenWithin_2 rfl (lv_at hl 1 rfl) ?_
      refine lv_ishl hx hb dS_takenWithin_3 ?_
      refine lv_iadd hx hb dS_takenWithin_4 ?_
      refine lv_iconst (v := 1) hx hb dS_takenWithin_5 (by decide) ?_
      refine lv_isub hx hb dS_takenWithin_6 ?_
      refine lv_topi (fun v ev => ?_)
      have ev : v = nI (a + 2 ^ (L + 1) - 1) := ev.trans (lastk (by omega) ha)
      subst ev
      have hp0 : 0 < 2 ^ (L + 1) := Nat.two_pow_pos _
      refine lv_istore (lv' := [(6, .int (nI (a + 2 ^ (L + 1) - 1))), (0, va_rf r), (1, .int (nI (L + 1))), (2, .int (nI a)), (3, .int (nI lo)), (4, .int (nI hi)), (5, .int (nI w))]) hx hb dS_takenWithin_7 hl (by decide) rfl (fun ls hl => ?_)
      refine q_aload_n hx hb dS_takenWithin_9 rfl (lv_at hl 1 rfl) ?_
      refine q_ifnull (tgt := 25) hx hb dS_takenWithin_10 (by decide) (fun c1 => ?_) (fun xc1 c1 => ?_)
      · subst c1
        refine lv_iload hx hb dS_takenWithin_25 (lv_at hl 6 rfl) ?_
        refine vp_callSl (W.runS (As := [.int (nI w)]) (rest := []) ⟨hx, hb, hml, hown, hg⟩ (c_S_takenOfNothing l Γ s.heap hw) (va_cwS 1 hg gS_109 rfl rfl rfl (by decide +kernel) ⟨by show 0 + 1 ≤ L + 1 + 4; omega, by show 8 + (1 + 11) + 0 ≤ 100 * (L + 1) + 400; omega⟩) (gP_S hW hS) rfl rfl hl.1 rfl (lv_room (Nat.le_of_ble_eq_true rfl)) dS_takenWithin_27 ⟨Nat.le_of_ble_eq_true rfl, Nat.le_of_ble_eq_true rfl⟩) (fun r0 hr0 => ?_)
        exact W.lret (v := r0) hx hb hr (fun t ht hW9 => ⟨_, rfl, hr0.trans (ag_r_none hw (TR.nul hT)).symm, ht⟩) (fun _ h => nomatch h) dS_takenWithin_30
      · subst c1
        have hl : lv_has ls 12 [(6, .int (nI (a + 2 ^ (L + 1) - 1))), (0, .ref xc1), (1, .int (nI (L + 1))), (2, .int (nI a)), (3, .int (nI lo)), (4, .int (nI hi)), (5, .int (nI w))] := hl
        obtain ⟨f, hf, hv⟩ := hT.f
        refine lv_iload hx hb dS_takenWithin_13 (lv_at hl 0 rfl) ?_
        refine lv_iload_n hx hb dS_takenWithin_15 rfl (lv_at hl 4 rfl) ?_
        refine lv_icmp_lt (tgt := 25) hx hb dS_takenWithin_16 (by decide) (fun c2 => ?_) (fun c2 => ?_)
        · have h1 : a + 2 ^ (L + 1) - 1 < lo := (nI_ltI (by omega) (by omega)).mp c2
          refine lv_iload hx hb dS_takenWithin_25 (lv_at hl 6 rfl) ?_
          refine vp_callSl (W.runS (As := [.int (nI w)]) (rest := []) ⟨hx, hb, hml, hown, hg⟩ (c_S_takenOfNothing l Γ s.heap hw) (va_cwS 1 hg gS_109 rfl rfl rfl (by decide +kernel) ⟨by show 0 + 1 ≤ L + 1 + 4; omega, by show 8 + (1 + 11) + 0 ≤ 100 * (L + 1) + 400; omega⟩) (gP_S hW hS) rfl rfl hl.1 rfl (lv_room (Nat.le_of_ble_eq_true rfl)) dS_takenWithin_27 ⟨Nat.le_of_ble_eq_true rfl, Nat.le_of_ble_eq_true rfl⟩) (fun r0 hr0 => ?_)
          exact W.lret (v := r0) hx hb hr (fun t ht hW9 => ⟨_, rfl, hr0.trans (ag_r_out hw (Or.inl (by omega))).symm, ht⟩) (fun _ h => nomatch h) dS_takenWithin_30
        · have h1 : ¬ a + 2 ^ (L + 1) - 1 < lo := fun h => c2 ((nI_ltI (by omega) (by omega)).mpr h)
          refine lv_iload_n hx hb dS_takenWithin_19 rfl (lv_at hl 3 rfl) ?_
          refine lv_iload hx hb dS_takenWithin_20 (lv_at hl 5 rfl) ?_
          refine lv_icmp_le (tgt := 31) hx hb dS_takenWithin_22 (by decide) (fun c3 => ?_) (fun c3 => ?_)
          · have h2 : a ≤ hi := (nI_leI (by omega) (by omega)).mp c3
            refine lv_iload_n hx hb dS_takenWithin_31 rfl (lv_at hl 2 rfl) ?_
            refine lv_if_le (tgt := 47) hx hb dS_takenWithin_32 (by decide) (fun c4 => ?_) (fun c4 => ?_)
            · exact absurd c4 (nI_nle (by omega) (by omega))
            · refine lv_iload_n hx hb dS_takenWithin_35 rfl (lv_at hl 4 rfl) ?_
              refine lv_iload_n hx hb dS_takenWithin_36 rfl (lv_at hl 3 rfl) ?_
              refine lv_icmp_gt (tgt := 54) hx hb dS_takenWithin_37 (by decide) (fun c5 => ?_) (fun c5 => ?_)
              · obtain ⟨-, lb, ub, hbl, hlo, hup⟩ := hT
                obtain ⟨hz, tk, hB⟩ := hbl
                have hp := pow2_s L
                refine lv_iload_n hx hb dS_takenWithin_54 rfl (lv_at hl 3 rfl) ?_
                refine lv_iconst (v := 1) hx hb dS_takenWithin_55 (by decide) ?_
                refine lv_iload_n hx hb dS_takenWithin_56 rfl (lv_at hl 2 rfl) ?_
                refine lv_iconst (v := 1) hx hb dS_takenWithin_57 (by decide) ?_
                refine lv_isub hx hb dS_takenWithin_58 ?_
                refine lv_topi (fun v1 ev1 => ?_)
                have ev1 : v1 = nI L := ev1.trans (nI_pred L)
                subst ev1
                refine lv_ishl hx hb dS_takenWithin_59 ?_
                refine lv_iadd hx hb dS_takenWithin_60 ?_
                refine lv_topi (fun v2 ev2 => ?_)
                have ev2 : v2 = nI (a + 2 ^ L) := ev2.trans (by rw [shl10 (by omega), nI_add])
                subst ev2
                refine lv_istore (lv' := [(7, .int (nI (a + 2 ^ L))), (6, .int (nI (a + 2 ^ (L + 1) - 1))), (0, .ref xc1), (1, .int (nI (L + 1))), (2, .int (nI a)), (3, .int (nI lo)), (4, .int (nI hi)), (5, .int (nI w))]) hx hb dS_takenWithin_61 hl (by decide) rfl (fun ls hl => ?_)
                refine lv_aload_n hx hb dS_takenWithin_63 rfl (lv_at hl 2 rfl) ?_
                refine va_getN (D := Γ.1) (ci := 0) (v := va_rf lb) (C := RB) (T := TB) (N := 3) (host := RS) hx hb hg inB hown hW.1 (p1 hB) 0 rfl rfl 0 (by decide) ((hW.2.1.1 _ (List.mem_of_getElem? (i := 1) rfl)).use rfl) (fun _ h9 => h9) rfl dS_takenWithin_64 ?_
                refine lv_iload_n hx hb dS_takenWithin_67 rfl (lv_at hl 3 rfl) ?_
                refine lv_iconst (v := 1) hx hb dS_takenWithin_68 (by decide) ?_
                refine lv_isub hx hb dS_takenWithin_69 ?_
                refine lv_topi (fun v3 ev3 => ?_)
                have ev3 : v3 = nI L := ev3.trans (nI_pred L)
                subst ev3
                refine lv_iload_n hx hb dS_takenWithin_70 rfl (lv_at hl 4 rfl) ?_
                refine lv_iload_n hx hb dS_takenWithin_71 rfl (lv_at hl 5 rfl) ?_
                refine lv_iload hx hb dS_takenWithin_72 (lv_at hl 6 rfl) ?_
                refine lv_iload hx hb dS_takenWithin_74 (lv_at hl 7 rfl) ?_
                refine vp_callSl (W.runS (As := [va_rf lb, .int (nI L), .int (nI a), .int (nI lo), .int (nI hi), .int (nI w)]) (rest := []) ⟨hx, hb, hml, hown, hg⟩ (ih a lb (by omega) (by omega) hlo) (va_cwS 6 hg gS_64 rfl rfl rfl (by decide +kernel) ⟨by show L + 4 + 1 ≤ L + 1 + 4; omega, by show 8 + (12 + 11) + (100 * L + 400) ≤ 100 * (L + 1) + 400; omega⟩) (gP_S hW hS) rfl rfl hl.1 rfl (lv_room (Nat.le_of_ble_eq_true rfl)) dS_takenWithin_76 ⟨Nat.le_of_ble_eq_true rfl, Nat.le_of_ble_eq_true rfl⟩) (fun n1 hn1 => ?_)
                refine lv_lstore (lv' := [(8, .long n1), (7, .int (nI (a + 2 ^ L))), (6, .int (nI (a + 2 ^ (L + 1) - 1))), (0, .ref xc1), (1, .int (nI (L + 1))), (2, .int (nI a)), (3, .int (nI lo)), (4, .int (nI hi)), (5, .int (nI w))]) hx hb dS_takenWithin_79 hl (by decide) rfl (fun ls hl => ?_)
                refine lv_aload_n hx hb dS_takenWithin_81 rfl (lv_at hl 3 rfl) ?_
                refine va_getN (D := Γ.1) (ci := 0) (v := va_rf ub) (C := RB) (T := TB) (N := 3) (host := RS) hx hb hg inB hown hW.1 (p1 hB) 0 rfl rfl 1 (by decide) ((hW.2.1.1 _ (List.mem_of_getElem? (i := 2) rfl)).use rfl) (fun _ h9 => h9) rfl dS_takenWithin_82 ?_
                refine lv_iload_n hx hb dS_takenWithin_85 rfl (lv_at hl 4 rfl) ?_
                refine lv_iconst (v := 1) hx hb dS_takenWithin_86 (by decide) ?_
                refine lv_isub hx hb dS_takenWithin_87 ?_
                refine lv_topi (fun v4 ev4 => ?_)
                have ev4 : v4 = nI L := ev4.trans (nI_pred L)
                subst ev4
                refine lv_iload hx hb dS_takenWithin_88 (lv_at hl 1 rfl) ?_
                refine lv_iload_n hx hb dS_takenWithin_90 rfl (lv_at hl 6 rfl) ?_
                refine lv_iload hx hb dS_takenWithin_91 (lv_at hl 7 rfl) ?_
                refine lv_iload hx hb dS_takenWithin_93 (lv_at hl 8 rfl) ?_
                refine vp_callSl (W.runS (As := [va_rf ub, .int (nI L), .int (nI (a + 2 ^ L)), .int (nI lo), .int (nI hi), .int (nI w)]) (rest := []) ⟨hx, hb, hml, hown, hg⟩ (ih (a + 2 ^ L) ub (by omega) (by omega) hup) (va_cwS 6 hg gS_64 rfl rfl rfl (by decide +kernel) ⟨by show L + 4 + 1 ≤ L + 1 + 4; omega, by show 8 + (12 + 11) + (100 * L + 400) ≤ 100 * (L + 1) + 400; omega⟩) (gP_S hW hS) rfl rfl hl.1 rfl (lv_room (Nat.le_of_ble_eq_true rfl)) dS_takenWithin_95 ⟨Nat.le_of_ble_eq_true rfl, Nat.le_of_ble_eq_true rfl⟩) (fun n2 hn2 => ?_)
                refine lv_lstore (lv' := [(10, .long n2), (8, .long n1), (7, .int (nI (a + 2 ^ L))), (6, .int (nI (a + 2 ^ (L + 1) - 1))), (0, .ref xc1), (1, .int (nI (L + 1))), (2, .int (nI a)), (3, .int (nI lo)), (4, .int (nI hi)), (5, .int (nI w))]) hx hb dS_takenWithin_98 hl (by decide) rfl (fun ls hl => ?_)
                refine lv_lload hx hb dS_takenWithin_100 (lv_at hl 1 rfl) ?_
                refine lv_lload hx hb dS_takenWithin_102 (lv_at hl 0 rfl) ?_
                refine lv_iload hx hb dS_takenWithin_104 (lv_at hl 9 rfl) ?_
                refine vp_callSl (W.runS (As := [.long n1, .long n2, .int (nI w)]) (rest := []) ⟨hx, hb, hml, hown, hg⟩ (c_S_takenTogether l Γ s.heap n1 n2 hw) (va_cwS 3 hg gS_120 rfl rfl rfl (by decide +kernel) ⟨by show 1 + 1 ≤ L + 1 + 4; omega, by show 8 + (5 + 11) + 20 ≤ 100 * (L + 1) + 400; omega⟩) (gP_S hW hS) rfl rfl hl.1 rfl (lv_room (Nat.le_of_ble_eq_true rfl)) dS_takenWithin_106 ⟨Nat.le_of_ble_eq_true rfl, Nat.le_of_ble_eq_true rfl⟩) (fun n3 hn3 => ?_)
                exact W.lret (v := n3) hx hb hr (fun t ht hW9 => ⟨_, rfl, by rw [hn3, hn1, hn2, hp, ag_split (rS_wf hwf) hw], ht⟩) (fun _ h => nomatch h) dS_takenWithin_109
              · have h3 : ¬ a < lo := fun h => c5 (nI_lt h (by omega))
                refine lv_iload hx hb dS_takenWithin_40 (lv_at hl 0 rfl) ?_
                refine lv_iload hx hb dS_takenWithin_42 (lv_at hl 5 rfl) ?_
                refine lv_icmp_gt (tgt := 54) hx hb dS_takenWithin_44 (by decide) (fun c6 => ?_) (fun c6 => ?_)
                · obtain ⟨-, lb, ub, hbl, hlo, hup⟩ := hT
                  obtain ⟨hz, tk, hB⟩ := hbl
                  have hp := pow2_s L
                  refine lv_iload_n hx hb dS_takenWithin_54 rfl (lv_at hl 3 rfl) ?_
                  refine lv_iconst (v := 1) hx hb dS_takenWithin_55 (by decide) ?_
                  refine lv_iload_n hx hb dS_takenWithin_56 rfl (lv_at hl 2 rfl) ?_
                  refine lv_iconst (v := 1) hx hb dS_takenWithin_57 (by decide) ?_
                  refine lv_isub hx hb dS_takenWithin_58 ?_
                  refine lv_topi (fun v1 ev1 => ?_)
                  have ev1 : v1 = nI L := ev1.trans (nI_pred L)
                  subst ev1
                  refine lv_ishl hx hb dS_takenWithin_59 ?_
                  refine lv_iadd hx hb dS_takenWithin_60 ?_
                  refine lv_topi (fun v2 ev2 => ?_)
                  have ev2 : v2 = nI (a + 2 ^ L) := ev2.trans (by rw [shl10 (by omega), nI_add])
                  subst ev2
                  refine lv_istore (lv' := [(7, .int (nI (a + 2 ^ L))), (6, .int (nI (a + 2 ^ (L + 1) - 1))), (0, .ref xc1), (1, .int (nI (L + 1))), (2, .int (nI a)), (3, .int (nI lo)), (4, .int (nI hi)), (5, .int (nI w))]) hx hb dS_takenWithin_61 hl (by decide) rfl (fun ls hl => ?_)
                  refine lv_aload_n hx hb dS_takenWithin_63 rfl (lv_at hl 2 rfl) ?_
                  refine va_getN (D := Γ.1) (ci := 0) (v := va_rf lb) (C := RB) (T := TB) (N := 3) (host := RS) hx hb hg inB hown hW.1 (p1 hB) 0 rfl rfl 0 (by decide) ((hW.2.1.1 _ (List.mem_of_getElem? (i := 1) rfl)).use rfl) (fun _ h9 => h9) rfl dS_takenWithin_64 ?_
                  refine lv_iload_n hx hb dS_takenWithin_67 rfl (lv_at hl 3 rfl) ?_
                  refine lv_iconst (v := 1) hx hb dS_takenWithin_68 (by decide) ?_
                  refine lv_isub hx hb dS_takenWithin_69 ?_
                  refine lv_topi (fun v3 ev3 => ?_)
                  have ev3 : v3 = nI L := ev3.trans (nI_pred L)
                  subst ev3
                  refine lv_iload_n hx hb dS_takenWithin_70 rfl (lv_at hl 4 rfl) ?_
                  refine lv_iload_n hx hb dS_takenWithin_71 rfl (lv_at hl 5 rfl) ?_
                  refine lv_iload hx hb dS_takenWithin_72 (lv_at hl 6 rfl) ?_
                  refine lv_iload hx hb dS_takenWithin_74 (lv_at hl 7 rfl) ?_
                  refine vp_callSl (W.runS (As := [va_rf lb, .int (nI L), .int (nI a), .int (nI lo), .int (nI hi), .int (nI w)]) (rest := []) ⟨hx, hb, hml, hown, hg⟩ (ih a lb (by omega) (by omega) hlo) (va_cwS 6 hg gS_64 rfl rfl rfl (by decide +kernel) ⟨by show L + 4 + 1 ≤ L + 1 + 4; omega, by show 8 + (12 + 11) + (100 * L + 400) ≤ 100 * (L + 1) + 400; omega⟩) (gP_S hW hS) rfl rfl hl.1 rfl (lv_room (Nat.le_of_ble_eq_true rfl)) dS_takenWithin_76 ⟨Nat.le_of_ble_eq_true rfl, Nat.le_of_ble_eq_true rfl⟩) (fun n1 hn1 => ?_)
                  refine lv_lstore (lv' := [(8, .long n1), (7, .int (nI (a + 2 ^ L))), (6, .int (nI (a + 2 ^ (L + 1) - 1))), (0, .ref xc1), (1, .int (nI (L + 1))), (2, .int (nI a)), (3, .int (nI lo)), (4, .int (nI hi)), (5, .int (nI w))]) hx hb dS_takenWithin_79 hl (by decide) rfl (fun ls hl => ?_)
                  refine lv_aload_n hx hb dS_takenWithin_81 rfl (lv_at hl 3 rfl) ?_
                  refine va_getN (D := Γ.1) (ci := 0) (v := va_rf ub) (C := RB) (T := TB) (N := 3) (host := RS) hx hb hg inB hown hW.1 (p1 hB) 0 rfl rfl 1 (by decide) ((hW.2.1.1 _ (List.mem_of_getElem? (i := 2) rfl)).use rfl) (fun _ h9 => h9) rfl dS_takenWithin_82 ?_
                  refine lv_iload_n hx hb dS_takenWithin_85 rfl (lv_at hl 4 rfl) ?_
                  refine lv_iconst (v := 1) hx hb dS_takenWithin_86 (by decide) ?_
                  refine lv_isub hx hb dS_takenWithin_87 ?_
                  refine lv_topi (fun v4 ev4 => ?_)
                  have ev4 : v4 = nI L := ev4.trans (nI_pred L)
                  subst ev4
                  refine lv_iload hx hb dS_takenWithin_88 (lv_at hl 1 rfl) ?_
                  refine lv_iload_n hx hb dS_takenWithin_90 rfl (lv_at hl 6 rfl) ?_
                  refine lv_iload hx hb dS_takenWithin_91 (lv_at hl 7 rfl) ?_
                  refine lv_iload hx hb dS_takenWithin_93 (lv_at hl 8 rfl) ?_
                  refine vp_callSl (W.runS (As := [va_rf ub, .int (nI L), .int (nI (a + 2 ^ L)), .int (nI lo), .int (nI hi), .int (nI w)]) (rest := []) ⟨hx, hb, hml, hown, hg⟩ (ih (a + 2 ^ L) ub (by omega) (by omega) hup) (va_cwS 6 hg gS_64 rfl rfl rfl (by decide +kernel) ⟨by show L + 4 + 1 ≤ L + 1 + 4; omega, by show 8 + (12 + 11) + (100 * L + 400) ≤ 100 * (L + 1) + 400; omega⟩) (gP_S hW hS) rfl rfl hl.1 rfl (lv_room (Nat.le_of_ble_eq_true rfl)) dS_takenWithin_95 ⟨Nat.le_of_ble_eq_true rfl, Nat.le_of_ble_eq_true rfl⟩) (fun n2 hn2 => ?_)
                  refine lv_lstore (lv' := [(10, .long n2), (8, .long n1), (7, .int (nI (a + 2 ^ L))), (6, .int (nI (a + 2 ^ (L + 1) - 1))), (0, .ref xc1), (1, .int (nI (L + 1))), (2, .int (nI a)), (3, .int (nI lo)), (4, .int (nI hi)), (5, .int (nI w))]) hx hb dS_takenWithin_98 hl (by decide) rfl (fun ls hl => ?_)
                  refine lv_lload hx hb dS_takenWithin_100 (lv_at hl 1 rfl) ?_
                  refine lv_lload hx hb dS_takenWithin_102 (lv_at hl 0 rfl) ?_
                  refine lv_iload hx hb dS_takenWithin_104 (lv_at hl 9 rfl) ?_
                  refine vp_callSl (W.runS (As := [.long n1, .long n2, .int (nI w)]) (rest := []) ⟨hx, hb, hml, hown, hg⟩ (c_S_takenTogether l Γ s.heap n1 n2 hw) (va_cwS 3 hg gS_120 rfl rfl rfl (by decide +kernel) ⟨by show 1 + 1 ≤ L + 1 + 4; omega, by show 8 + (5 + 11) + 20 ≤ 100 * (L + 1) + 400; omega⟩) (gP_S hW hS) rfl rfl hl.1 rfl (lv_room (Nat.le_of_ble_eq_true rfl)) dS_takenWithin_106 ⟨Nat.le_of_ble_eq_true rfl, Nat.le_of_ble_eq_true rfl⟩) (fun n3 hn3 => ?_)
                  exact W.lret (v := n3) hx hb hr (fun t ht hW9 => ⟨_, rfl, by rw [hn3, hn1, hn2, hp, ag_split (rS_wf hwf) hw], ht⟩) (fun _ h => nomatch h) dS_takenWithin_109
                · have h4 : ¬ hi < a + 2 ^ (L + 1) - 1 := fun h => c6 (nI_lt h (by omega))
                  refine lv_aload_n hx hb dS_takenWithin_47 rfl (lv_at hl 1 rfl) ?_
                  refine lv_iload hx hb dS_takenWithin_48 (lv_at hl 6 rfl) ?_
                  refine vp_callSl (W.runS (As := [.ref xc1, .int (nI w)]) (rest := []) ⟨hx, hb, hml, hown, hg⟩ (c_S_takenOf l Γ s.heap hw hf) (va_cwS 2 hg gS_46 rfl rfl rfl (by decide +kernel) ⟨by show 1 + 1 ≤ L + 1 + 4; omega, by show 8 + (2 + 11) + 20 ≤ 100 * (L + 1) + 400; omega⟩) (gP_S hW hS) rfl rfl hl.1 rfl (lv_room (Nat.le_of_ble_eq_true rfl)) dS_takenWithin_50 ⟨Nat.le_of_ble_eq_true rfl, Nat.le_of_ble_eq_true rfl⟩) (fun r0 hr0 => ?_)
                  exact W.lret (v := r0) hx hb hr (fun t ht hW9 => ⟨_, rfl, by rw [hr0, hv w hw, ag_r_in (by omega) (by omega)], ht⟩) (fun _ h => nomatch h) dS_takenWithin_53
          · have h2 : ¬ a ≤ hi := fun h => c3 ((nI_leI (by omega) (by omega)).mpr h)
            refine lv_iload hx hb dS_takenWithin_25 (lv_at hl 6 rfl) ?_
            refine vp_callSl (W.runS (As := [.int (nI w)]) (rest := []) ⟨hx, hb, hml, hown, hg⟩ (c_S_takenOfNothing l Γ s.heap hw) (va_cwS 1 hg gS_109 rfl rfl rfl (by decide +kernel) ⟨by show 0 + 1 ≤ L + 1 + 4; omega, by show 8 + (1 + 11) + 0 ≤ 100 * (L + 1) + 400; omega⟩) (gP_S hW hS) rfl rfl hl.1 rfl (lv_room (Nat.le_of_ble_eq_true rfl)) dS_takenWithin_27 ⟨Nat.le_of_ble_eq_true rfl, Nat.le_of_ble_eq_true rfl⟩) (fun r0 hr0 => ?_)
            exact W.lret (v := r0) hx hb hr (fun t ht hW9 => ⟨_, rfl, hr0.trans (ag_r_out hw (Or.inr (by omega))).symm, ht⟩) (fun _ h => nomatch h) dS_takenWithin_30
end
section
/-! blocks are made -/
abbrev nA (s : State) : Nat → Prop := fun q => s.heap.size ≤ q
theorem p0 {D : va_G} {H : Heap} : va_P D gC [] H := fun k q h => by simp at h
theorem d0 {A : Nat → Prop} : va_D A [] := ⟨fun i j p q h => by simp at h, fun k q h => by simp at h⟩
theorem kJ_eq {Γ : gE} {s : State} {cA : ClassId} (h : va_K Γ.1 gC (gT Γ) s) (h2 : va_K Γ.1 gC (gT Γ ++ [(cA, .long)]) s) : cA = kJ Γ := by
  have h3 : s.vm.findClass ("[" ++ FieldType.long.toString) = some cA := (h2.2 4 _ rfl).2
  have h4 : s.vm.findClass ("[" ++ FieldType.long.toString) = some (kJ Γ) := (h.2 0 _ rfl).2
  exact Option.some.inj (h3.symm.trans h4)
theorem vS_g {Γ : gE} {s : State} {H : Heap} {locs : List Loc} (hW : PW Γ s) (hS : va_S (nA s) s.heap H locs) : va_S (gA Γ) s.heap H locs :=
  ⟨hS.1, fun q h1 h2 => hS.2.1 q h1 (fun h => h2 (Nat.le_trans hW.2.2.1 h)), fun q hq => Nat.le_trans hW.2.2.1 (hS.2.2 q hq)⟩
theorem vS_F {s t : State} {H : Heap} {locs : List Loc} (hS : va_S (nA s) s.heap H locs) (ht : t.heap = H) : va_F (fun _ => False) s t :=
  ⟨by rw [ht]; exact hS.1, fun q h1 _ => by rw [ht]; exact hS.2.1 q h1 (Nat.not_le.mpr h1)⟩
theorem vS_X {s : State} {H : Heap} {locs : List Loc} (hS : va_S (nA s) s.heap H locs) : hX (fun _ => False) s.heap H :=
  ⟨hS.1, fun q h1 _ => hS.2.1 q h1 (Nat.not_le.mpr h1)⟩
theorem fX {A : Nat → Prop} {s t : State} (h : va_F A s t) : hX A s.heap t.heap := h
theorem hX_hb {Γ : gE} {H H1 : Heap} (h : hX (fun _ => False) H H1) : hb Γ H H1 := h.mono (fun _ _ h => h.elim)
set_option maxHeartbeats 4000000 in
set_option maxRecDepth 100000 in
theorem c_B_init (l : Launch) (Γ : gE) (H : Heap) {h tk : Nat} {lo up : Option Nat} (hO : va_at Γ.1 gC (h, .inr (0, [.null, .null, .null])) H) : Met l yB_init wB_init ({ frames := 1, cells := 0, slots := 0, locals := 12 }) (gP Γ H [.ref h, va_rf lo, va_rf up, .ref tk]) (va_Qv (fun _ : Unit => True) (fun _ t => oB Γ t.heap h lo up tk) (fun q => q = h)) 0 0 (fun q => q = h) := by
  refine Met.ofW (cc := cB_init) (maxL := 4) (ret := none) (by decide) rfl ?_
  intro p e s m args below meth c s₁ B hml hv
  obtain ⟨rfl, rfl, hW⟩ := hv
  have hx := B.exec
  have hb := B.bytes
  have hr := B.returns
  have hg : ∀ w ∈ gW, w.before _ s = true := fun w h => atoms_spec (ws := wB_init) B.pre w (List.mem_cons_of_mem _ h)
  have hown : s.vm.findClass RB = some m.cls := findClass_of_methodNamed B.named
  have hlocks := B.notSynchronized
  have hS : va_S (gA Γ) s.heap s.heap [] := va_S.rf
  have hl := lv_entry ([.ref h, va_rf lo, va_rf up, .ref tk]) (n := 4) (by cases lo <;> cases up <;> exact Nat.le_of_ble_eq_true rfl)
  rw [lg_entry_eq]
  generalize (lg_sl ([.ref h, va_rf lo, va_rf up, .ref tk]) ++ List.replicate (4 - (lg_sl ([.ref h, va_rf lo, va_rf up, .ref tk])).length) Slot.unset).toArray = ls at hl ⊢
  have hl : lv_has ls 4 [(0, .ref h), (1, va_rf lo), (2, va_rf up), (3, .ref tk)] := by cases lo <;> cases up <;> exact hl
  have hin : meth.name = "<init>" := (name_of_methodNamed B.named B.method).1
  have hS : va_S (fun q => q = h) s.heap s.heap [] := va_S.rf
  have hP := p1 hO
  have hD : va_D (fun q => q = h) [(h, .inr (0, [.null, .null, .null]))] := d1 rfl
  refine lv_aload_n hx hb dB_init_0 rfl (lv_at hl 0 rfl) ?_
  refine W.objInit hx hb hown (hg _ kw156) (hg _ kw27) (hg _ kw28) rfl (by rw [hml]; exact hl.1) rfl dB_init_1 (Nat.le_of_ble_eq_true rfl) (Nat.le_of_ble_eq_true rfl) ?_
  refine W.eq (g2 := F0 m 4 ls []) rfl ?_
  refine lv_aload_n hx hb dB_init_4 rfl (lv_at hl 0 rfl) ?_
  refine q_aload_n hx hb dB_init_5 rfl (lv_at hl 1 rfl) ?_
  refine va_putF (D := Γ.1) (ci := 0) (v := va_rf lo) (ty := .object "StampTables$Block") (C := RB) (T := TB) (N := 3) hx hb hg inB tyB tyB_ok nmB hown hW.1 hP hD hS 0 rfl rfl 0 (by decide) (hg _ kw157) (fun _ h9 => h9) rfl hin rfl (by decide +kernel) (by cases lo <;> rfl) (by cases lo <;> rfl) (Nat.le_of_ble_eq_true rfl) dB_init_6 (fun H locs hP hD hS => ?_)
  have hP : va_P Γ.1 gC [(h, .inr (0, [va_rf lo, .null, .null]))] H := hP
  have hD : va_D (fun q => q = h) [(h, .inr (0, [va_rf lo, .null, .null]))] := hD
  refine lv_aload_n hx hb dB_init_9 rfl (lv_at hl 0 rfl) ?_
  refine q_aload_n hx hb dB_init_10 rfl (lv_at hl 2 rfl) ?_
  refine va_putF (D := Γ.1) (ci := 0) (v := va_rf up) (ty := .object "StampTables$Block") (C := RB) (T := TB) (N := 3) hx hb hg inB tyB tyB_ok nmB hown hW.1 hP hD hS 0 rfl rfl 1 (by decide) (hg _ kw159) (fun _ h9 => h9) rfl hin rfl (by decide +kernel) (by cases up <;> rfl) (by cases up <;> rfl) (Nat.le_of_ble_eq_true rfl) dB_init_11 (fun H locs hP hD hS => ?_)
  have hP : va_P Γ.1 gC [(h, .inr (0, [va_rf lo, va_rf up, .null]))] H := hP
  have hD : va_D (fun q => q = h) [(h, .inr (0, [va_rf lo, va_rf up, .null]))] := hD
  refine lv_aload_n hx hb dB_init_14 rfl (lv_at hl 0 rfl) ?_
  refine lv_aload_n hx hb dB_init_15 rfl (lv_at hl 3 rfl) ?_
  refine va_putF (D := Γ.1) (ci := 0) (v := .ref tk) (ty := .array .long) (C := RB) (T := TB) (N := 3) hx hb hg inB tyB tyB_ok nmB hown hW.1 hP hD hS 0 rfl rfl 2 (by decide) (hg _ kw161) (fun _ h9 => h9) rfl hin rfl (by decide +kernel) rfl rfl (Nat.le_of_ble_eq_true rfl) dB_init_16 (fun H locs hP hD hS => ?_)
  have hP : va_P Γ.1 gC [(h, .inr (0, [va_rf lo, va_rf up, .ref tk]))] H := hP
  have hD : va_D (fun q => q = h) [(h, .inr (0, [va_rf lo, va_rf up, .ref tk]))] := hD
  exact W.vret hx hb hr (fun t ht hW9 => ⟨⟨(), rfl, trivial, by subst ht; exact o1 hP⟩, hS.F ht⟩) (fun q hq => hS.2.2 q hq) dB_init_19
set_option maxHeartbeats 4000000 in
set_option maxRecDepth 100000 in
theorem c_S_leafWithNumber (l : Launch) (Γ : gE) (H : Heap) {k : Nat} {v : Int64} {st : Int32} (hz : gb0 Γ ≤ H.size) : Met l yS_leafWithNumber wS_leafWithNumber ({ frames := 3, cells := 2, slots := 8, locals := 300 }) (gP Γ H [.int (nI k), .long v, .int st]) (va_Qq (fun r y => r = some y) (fun (y : Nat) t => ∃ F, bT Γ t.heap (some y) F ∧ F 0 = 1 ∧ F 1 = v ∧ F 2 = (nI k).toInt64 ∧ F 3 = (nI k).toInt64 ∧ F 4 = st.toInt64) (fun _ => False)) 2 8 (fun q => H.size ≤ q) := by
  refine Met.ofW (cc := cS_leafWithNumber) (maxL := 5) (ret := (some (.object "StampTables$Block"))) (by decide) rfl ?_
  intro p e s m args below meth c s₁ B hml hv
  obtain ⟨rfl, rfl, hW⟩ := hv
  have hx := B.exec
  have hb := B.bytes
  have hr := B.returns
  have hg : ∀ w ∈ gW, w.before _ s = true := fun w h => atoms_spec (ws := wS_leafWithNumber) B.pre w (List.mem_cons_of_mem _ h)
  have hown : s.vm.findClass RS = some m.cls := findClass_of_methodNamed B.named
  have hlocks := B.notSynchronized
  have hS : va_S (gA Γ) s.heap s.heap [] := va_S.rf
  have hl := lv_entry ([.int (nI k), .long v, .int st]) (n := 5) (Nat.le_of_ble_eq_true rfl)
  rw [lg_entry_eq]
  generalize (lg_sl ([.int (nI k), .long v, .int st]) ++ List.replicate (5 - (lg_sl ([.int (nI k), .long v, .int st])).length) Slot.unset).toArray = ls at hl ⊢
  have hl : lv_has ls 5 [(0, .int (nI k)), (1, .long v), (3, .int st)] := hl
  have hS : va_S (nA s) s.heap s.heap [] := va_S.rf
  have hA : ∀ q, s.heap.size ≤ q → nA s q := fun _ h => h
  refine lv_iconst (v := 5) hx hb dS_leafWithNumber_0 (by decide) ?_
  refine va_newa (atype := .long) (D := Γ.1) (cl := gC) (tys := gT Γ) (ws := []) (ty := .long) (a0 := (5, .inr (.inl (fun _ => 0)))) (N' := 5) hx hb (hg _ kw170) rfl hW.1 p0 d0 hS hA (fun cA => rfl) (by decide) (by decide) (by decide) (Nat.le_of_ble_eq_true rfl) (Nat.le_of_ble_eq_true rfl) dS_leafWithNumber_1 (fun tk cA H hK hP hD hS => ?_)
  have eA := kJ_eq hW.1 hK
  subst eA
  have hP : va_P Γ.1 gC [(tk, .inl (kJ Γ, 5, .inr (.inl ((fun _ => 0)))))] H := hP
  have hD : va_D (nA s) [(tk, .inl (kJ Γ, 5, .inr (.inl ((fun _ => 0)))))] := hD
  refine lv_dup hx hb dS_leafWithNumber_3 rfl ?_
  refine lv_iconst (v := 0) hx hb dS_leafWithNumber_4 (by decide) ?_
  refine lv_lconst (v := 1) hx hb dS_leafWithNumber_5 (by decide) ?_
  refine va_last (D := Γ.1) (cl := gC) (tys := gT Γ) hx hb hW.1 hP hD hS 0 0 rfl rfl (by unfold vp_in; decide) dS_leafWithNumber_6 (fun H locs hP hD hS => ?_)
  have hP : va_P Γ.1 gC [(tk, .inl (kJ Γ, 5, .inr (.inl (vp_updL ((fun _ => 0)) (0 : Int32).toNatClampNeg (1)))))] H := hP
  have hD : va_D (nA s) [(tk, .inl (kJ Γ, 5, .inr (.inl (vp_updL ((fun _ => 0)) (0 : Int32).toNatClampNeg (1)))))] := hD
  refine lv_dup hx hb dS_leafWithNumber_7 rfl ?_
  refine lv_iconst (v := 1) hx hb dS_leafWithNumber_8 (by decide) ?_
  refine lv_lload_n hx hb dS_leafWithNumber_9 rfl (lv_at hl 1 rfl) ?_
  refine va_last (D := Γ.1) (cl := gC) (tys := gT Γ) hx hb hW.1 hP hD hS 0 0 rfl rfl (by unfold vp_in; decide) dS_leafWithNumber_10 (fun H locs hP hD hS => ?_)
  have hP : va_P Γ.1 gC [(tk, .inl (kJ Γ, 5, .inr (.inl (vp_updL (vp_updL ((fun _ => 0)) (0 : Int32).toNatClampNeg (1)) (1 : Int32).toNatClampNeg (v)))))] H := hP
  have hD : va_D (nA s) [(tk, .inl (kJ Γ, 5, .inr (.inl (vp_updL (vp_updL ((fun _ => 0)) (0 : Int32).toNatClampNeg (1)) (1 : Int32).toNatClampNeg (v)))))] := hD
  refine lv_dup hx hb dS_leafWithNumber_11 rfl ?_
  refine lv_iconst (v := 2) hx hb dS_leafWithNumber_12 (by decide) ?_
  refine lv_iload_n hx hb dS_leafWithNumber_13 rfl (lv_at hl 0 rfl) ?_
  refine lv_i2l (v := (nI k).toInt64) hx hb dS_leafWithNumber_14 rfl ?_
  refine va_last (D := Γ.1) (cl := gC) (tys := gT Γ) hx hb hW.1 hP hD hS 0 0 rfl rfl (by unfold vp_in; decide) dS_leafWithNumber_15 (fun H locs hP hD hS => ?_)
  have hP : va_P Γ.1 gC [(tk, .inl (kJ Γ, 5, .inr (.inl (vp_updL (vp_updL (vp_updL ((fun _ => 0)) (0 : Int32).toNatClampNeg (1)) (1 : Int32).toNatClampNeg (v)) (2 : Int32).toNatClampNeg ((nI k).toInt64)))))] H := hP
  have hD : va_D (nA s) [(tk, .inl (kJ Γ, 5, .inr (.inl (vp_updL (vp_updL (vp_updL ((fun _ => 0)) (0 : Int32).toNatClampNeg (1)) (1 : Int32).toNatClampNeg (v)) (2 : Int32).toNatClampNeg ((nI k).toInt64)))))] := hD
  refine lv_dup hx hb dS_leafWithNumber_16 rfl ?_
  refine lv_iconst (v := 3) hx hb dS_leafWithNumber_17 (by decide) ?_
  refine lv_iload_n hx hb dS_leafWithNumber_18 rfl (lv_at hl 0 rfl) ?_
  refine lv_i2l (v := (nI k).toInt64) hx hb dS_leafWithNumber_19 rfl ?_
  refine va_last (D := Γ.1) (cl := gC) (tys := gT Γ) hx hb hW.1 hP hD hS 0 0 rfl rfl (by unfold vp_in; decide) dS_leafWithNumber_20 (fun H locs hP hD hS => ?_)
  have hP : va_P Γ.1 gC [(tk, .inl (kJ Γ, 5, .inr (.inl (vp_updL (vp_updL (vp_updL (vp_updL ((fun _ => 0)) (0 : Int32).toNatClampNeg (1)) (1 : Int32).toNatClampNeg (v)) (2 : Int32).toNatClampNeg ((nI k).toInt64)) (3 : Int32).toNatClampNeg ((nI k).toInt64)))))] H := hP
  have hD : va_D (nA s) [(tk, .inl (kJ Γ, 5, .inr (.inl (vp_updL (vp_updL (vp_updL (vp_updL ((fun _ => 0)) (0 : Int32).toNatClampNeg (1)) (1 : Int32).toNatClampNeg (v)) (2 : Int32).toNatClampNeg ((nI k).toInt64)) (3 : Int32).toNatClampNeg ((nI k).toInt64)))))] := hD
  refine lv_dup hx hb dS_leafWithNumber_21 rfl ?_
  refine lv_iconst (v := 4) hx hb dS_leafWithNumber_22 (by decide) ?_
  refine lv_iload_n hx hb dS_leafWithNumber_23 rfl (lv_at hl 2 rfl) ?_
  refine lv_i2l (v := st.toInt64) hx hb dS_leafWithNumber_24 rfl ?_
  refine va_last (D := Γ.1) (cl := gC) (tys := gT Γ) hx hb hW.1 hP hD hS 0 0 rfl rfl (by unfold vp_in; decide) dS_leafWithNumber_25 (fun H locs hP hD hS => ?_)
  have hP : va_P Γ.1 gC [(tk, .inl (kJ Γ, 5, .inr (.inl (vp_updL (vp_updL (vp_updL (vp_updL (vp_updL ((fun _ => 0)) (0 : Int32).toNatClampNeg (1)) (1 : Int32).toNatClampNeg (v)) (2 : Int32).toNatClampNeg ((nI k).toInt64)) (3 : Int32).toNatClampNeg ((nI k).toInt64)) (4 : Int32).toNatClampNeg (st.toInt64)))))] H := hP
  have hD : va_D (nA s) [(tk, .inl (kJ Γ, 5, .inr (.inl (vp_updL (vp_updL (vp_updL (vp_updL (vp_updL ((fun _ => 0)) (0 : Int32).toNatClampNeg (1)) (1 : Int32).toNatClampNeg (v)) (2 : Int32).toNatClampNeg ((nI k).toInt64)) (3 : Int32).toNatClampNeg ((nI k).toInt64)) (4 : Int32).toNatClampNeg (st.toInt64)))))] := hD
  refine lv_astore (lv' := [(4, .ref tk), (0, .int (nI k)), (1, .long v), (3, .int st)]) hx hb dS_leafWithNumber_26 hl (by decide) rfl (fun ls hl => ?_)
  refine va_new (ci := 0) (fs := [.null, .null, .null]) (C := RB) (T := TB) (N := 3) hx hb hg inB tyB tyB_ok hown (hg _ kw29) (hg _ kw152) (hg _ kw18) hW.1 hP hD hS hA rfl (fun j hj => by rcases (show j = 0 ∨ j = 1 ∨ j = 2 by omega) with rfl | rfl | rfl <;> rfl) (Nat.le_of_ble_eq_true rfl) (Nat.le_of_ble_eq_true rfl) dS_leafWithNumber_28 (fun y H hP hD hS => ?_)
  have hP : va_P Γ.1 gC [(tk, .inl (kJ Γ, 5, .inr (.inl (vp_updL (vp_updL (vp_updL (vp_updL (vp_updL ((fun _ => 0)) (0 : Int32).toNatClampNeg (1)) (1 : Int32).toNatClampNeg (v)) (2 : Int32).toNatClampNeg ((nI k).toInt64)) (3 : Int32).toNatClampNeg ((nI k).toInt64)) (4 : Int32).toNatClampNeg (st.toInt64))))), (y, .inr (0, [.null, .null, .null]))] H := hP
  have hD : va_D (nA s) [(tk, .inl (kJ Γ, 5, .inr (.inl (vp_updL (vp_updL (vp_updL (vp_updL (vp_updL ((fun _ => 0)) (0 : Int32).toNatClampNeg (1)) (1 : Int32).toNatClampNeg (v)) (2 : Int32).toNatClampNeg ((nI k).toInt64)) (3 : Int32).toNatClampNeg ((nI k).toInt64)) (4 : Int32).toNatClampNeg (st.toInt64))))), (y, .inr (0, [.null, .null, .null]))] := hD
  refine lv_dup hx hb dS_leafWithNumber_31 rfl ?_
  refine lv_null hx hb dS_leafWithNumber_32 ?_
  refine lv_null hx hb dS_leafWithNumber_33 ?_
  refine lv_aload hx hb dS_leafWithNumber_34 (lv_at hl 0 rfl) ?_
  have hO : va_at Γ.1 gC (y, .inr (0, [.null, .null, .null])) H := hP 1 _ rfl
  have hJ : oJ Γ H tk 5 (vp_updL (vp_updL (vp_updL (vp_updL (vp_updL ((fun _ => 0)) (0 : Int32).toNatClampNeg (1)) (1 : Int32).toNatClampNeg (v)) (2 : Int32).toNatClampNeg ((nI k).toInt64)) (3 : Int32).toNatClampNeg ((nI k).toInt64)) (4 : Int32).toNatClampNeg (st.toInt64)) := hP 0 _ rfl
  have hy : nA s y := hD.2 1 _ rfl
  have ht : nA s tk := hD.2 0 _ rfl
  have hty : ¬ tk = y := fun h => absurd (hD.1 0 1 _ _ rfl rfl h) (by decide)
  refine va_callv (va_runIN (As := [.null, .null, .ref tk]) (rest := [.ref y]) ⟨hx, hb, hml, hown, hg⟩ (c_B_init l Γ H (lo := none) (up := none) hO) ⟨va_cnB 3 hg (gI kw155) rfl rfl rfl (hW.2.1.1 _ (List.mem_of_getElem? (i := 0) rfl)) (hg _ kw18) (by decide +kernel) ⟨Nat.le_of_ble_eq_true rfl, Nat.le_of_ble_eq_true rfl⟩, rfl, hg _ kw154⟩ (gP_S hW (vS_g hW hS)) rfl rfl hl.1 rfl (lv_room (Nat.le_of_ble_eq_true rfl)) dS_leafWithNumber_36 ⟨Nat.le_of_ble_eq_true rfl, Nat.le_of_ble_eq_true rfl⟩) hS (fun q _ h => by rw [show q = y from h]; exact hy) (fun q h => by rw [show q = y from h]; exact hy) (fun u t9 H1 locs1 ht9 hvm hu hB hz1 hk1 hS => ?_)
  rw [ht9] at hB
  have hJ : oJ Γ H1 tk 5 (vp_updL (vp_updL (vp_updL (vp_updL (vp_updL ((fun _ => 0)) (0 : Int32).toNatClampNeg (1)) (1 : Int32).toNatClampNeg (v)) (2 : Int32).toNatClampNeg ((nI k).toInt64)) (3 : Int32).toNatClampNeg ((nI k).toInt64)) (4 : Int32).toNatClampNeg (st.toInt64)) := hJ.kept (hk1 tk hJ.lt hty)
  exact W.aret (v := .ref y) hx hb hr (Or.inl ⟨_, rfl⟩) (Or.inr ⟨_, rfl⟩) (fun t ht8 hW9 => ⟨⟨some y, y, rfl, rfl, _, by subst ht8; exact ⟨Nat.le_trans hz hy, none, none, tk, hB, Nat.le_trans hz ht, hJ⟩, rfl, rfl, rfl, rfl, rfl⟩, vS_F hS ht8⟩) (fun q hq => hS.2.2 q hq) dS_leafWithNumber_39
set_option maxHeartbeats 4000000 in
set_option maxRecDepth 100000 in
theorem c_S_leafWithoutNumber (l : Launch) (Γ : gE) (H : Heap) {st : Int32} (hz : gb0 Γ ≤ H.size) : Met l yS_leafWithoutNumber wS_leafWithoutNumber ({ frames := 3, cells := 2, slots := 8, locals := 300 }) (gP Γ H [.int st]) (va_Qq (fun r y => r = some y) (fun (y : Nat) t => ∃ F, bT Γ t.heap (some y) F ∧ F 0 = 0 ∧ F 1 = 0 ∧ F 2 = -1 ∧ F 3 = -1 ∧ F 4 = st.toInt64) (fun _ => False)) 2 8 (fun q => H.size ≤ q) := by
  refine Met.ofW (cc := cS_leafWithoutNumber) (maxL := 2) (ret := (some (.object "StampTables$Block"))) (by decide) rfl ?_
  intro p e s m args below meth c s₁ B hml hv
  obtain ⟨rfl, rfl, hW⟩ := hv
  have hx := B.exec
  have hb := B.bytes
  have hr := B.returns
  have hg : ∀ w ∈ gW, w.before _ s = true := fun w h => atoms_spec (ws := wS_leafWithoutNumber) B.pre w (List.mem_cons_of_mem _ h)
  have hown : s.vm.findClass RS = some m.cls := findClass_of_methodNamed B.named
  have hlocks := B.notSynchronized
  have hS : va_S (gA Γ) s.heap s.heap [] := va_S.rf
  have hl := lv_entry ([.int st]) (n := 2) (Nat.le_of_ble_eq_true rfl)
  rw [lg_entry_eq]
  generalize (lg_sl ([.int st]) ++ List.replicate (2 - (lg_sl ([.int st])).length) Slot.unset).toArray = ls at hl ⊢
  have hl : lv_has ls 2 [(0, .int st)] := hl
  have hS : va_S (nA s) s.heap s.heap [] := va_S.rf
  have hA : ∀ q, s.heap.size ≤ q → nA s q := fun _ h => h
  refine lv_iconst (v := 5) hx hb dS_leafWithoutNumber_0 (by decide) ?_
  refine va_newa (atype := .long) (D := Γ.1) (cl := gC) (tys := gT Γ) (ws := []) (ty := .long) (a0 := (5, .inr (.inl (fun _ => 0)))) (N' := 5) hx hb (hg _ kw170) rfl hW.1 p0 d0 hS hA (fun cA => rfl) (by decide) (by decide) (by decide) (Nat.le_of_ble_eq_true rfl) (Nat.le_of_ble_eq_true rfl) dS_leafWithoutNumber_1 (fun tk cA H hK hP hD hS => ?_)
  have eA := kJ_eq hW.1 hK
  subst eA
  have hP : va_P Γ.1 gC [(tk, .inl (kJ Γ, 5, .inr (.inl ((fun _ => 0)))))] H := hP
  have hD : va_D (nA s) [(tk, .inl (kJ Γ, 5, .inr (.inl ((fun _ => 0)))))] := hD
  refine lv_dup hx hb dS_leafWithoutNumber_3 rfl ?_
  refine lv_iconst (v := 0) hx hb dS_leafWithoutNumber_4 (by decide) ?_
  refine lv_lconst (v := 0) hx hb dS_leafWithoutNumber_5 (by decide) ?_
  refine va_last (D := Γ.1) (cl := gC) (tys := gT Γ) hx hb hW.1 hP hD hS 0 0 rfl rfl (by unfold vp_in; decide) dS_leafWithoutNumber_6 (fun H locs hP hD hS => ?_)
  have hP : va_P Γ.1 gC [(tk, .inl (kJ Γ, 5, .inr (.inl (vp_updL ((fun _ => 0)) (0 : Int32).toNatClampNeg (0)))))] H := hP
  have hD : va_D (nA s) [(tk, .inl (kJ Γ, 5, .inr (.inl (vp_updL ((fun _ => 0)) (0 : Int32).toNatClampNeg (0)))))] := hD
  refine lv_dup hx hb dS_leafWithoutNumber_7 rfl ?_
  refine lv_iconst (v := 1) hx hb dS_leafWithoutNumber_8 (by decide) ?_
  refine lv_lconst (v := 0) hx hb dS_leafWithoutNumber_9 (by decide) ?_
  refine va_last (D := Γ.1) (cl := gC) (tys := gT Γ) hx hb hW.1 hP hD hS 0 0 rfl rfl (by unfold vp_in; decide) dS_leafWithoutNumber_10 (fun H locs hP hD hS => ?_)
  have hP : va_P Γ.1 gC [(tk, .inl (kJ Γ, 5, .inr (.inl (vp_updL (vp_updL ((fun _ => 0)) (0 : Int32).toNatClampNeg (0)) (1 : Int32).toNatClampNeg (0)))))] H := hP
  have hD : va_D (nA s) [(tk, .inl (kJ Γ, 5, .inr (.inl (vp_updL (vp_updL ((fun _ => 0)) (0 : Int32).toNatClampNeg (0)) (1 : Int32).toNatClampNeg (0)))))] := hD
  refine lv_dup hx hb dS_leafWithoutNumber_11 rfl ?_
  refine lv_iconst (v := 2) hx hb dS_leafWithoutNumber_12 (by decide) ?_
  refine lv_ldc2 (v := (-1)) hx hb hown (hg _ kw196) dS_leafWithoutNumber_13 ?_
  refine va_last (D := Γ.1) (cl := gC) (tys := gT Γ) hx hb hW.1 hP hD hS 0 0 rfl rfl (by unfold vp_in; decide) dS_leafWithoutNumber_16 (fun H locs hP hD hS => ?_)
  have hP : va_P Γ.1 gC [(tk, .inl (kJ Γ, 5, .inr (.inl (vp_updL (vp_updL (vp_updL ((fun _ => 0)) (0 : Int32).toNatClampNeg (0)) (1 : Int32).toNatClampNeg (0)) (2 : Int32).toNatClampNeg (-1)))))] H := hP
  have hD : va_D (nA s) [(tk, .inl (kJ Γ, 5, .inr (.inl (vp_updL (vp_updL (vp_updL ((fun _ => 0)) (0 : Int32).toNatClampNeg (0)) (1 : Int32).toNatClampNeg (0)) (2 : Int32).toNatClampNeg (-1)))))] := hD
  refine lv_dup hx hb dS_leafWithoutNumber_17 rfl ?_
  refine lv_iconst (v := 3) hx hb dS_leafWithoutNumber_18 (by decide) ?_
  refine lv_ldc2 (v := (-1)) hx hb hown (hg _ kw196) dS_leafWithoutNumber_19 ?_
  refine va_last (D := Γ.1) (cl := gC) (tys := gT Γ) hx hb hW.1 hP hD hS 0 0 rfl rfl (by unfold vp_in; decide) dS_leafWithoutNumber_22 (fun H locs hP hD hS => ?_)
  have hP : va_P Γ.1 gC [(tk, .inl (kJ Γ, 5, .inr (.inl (vp_updL (vp_updL (vp_updL (vp_updL ((fun _ => 0)) (0 : Int32).toNatClampNeg (0)) (1 : Int32).toNatClampNeg (0)) (2 : Int32).toNatClampNeg (-1)) (3 : Int32).toNatClampNeg (-1)))))] H := hP
  have hD : va_D (nA s) [(tk, .inl (kJ Γ, 5, .inr (.inl (vp_updL (vp_updL (vp_updL (vp_updL ((fun _ => 0)) (0 : Int32).toNatClampNeg (0)) (1 : Int32).toNatClampNeg (0)) (2 : Int32).toNatClampNeg (-1)) (3 : Int32).toNatClampNeg (-1)))))] := hD
  refine lv_dup hx hb dS_leafWithoutNumber_23 rfl ?_
  refine lv_iconst (v := 4) hx hb dS_leafWithoutNumber_24 (by decide) ?_
  refine lv_iload_n hx hb dS_leafWithoutNumber_25 rfl (lv_at hl 0 rfl) ?_
  refine lv_i2l (v := st.toInt64) hx hb dS_leafWithoutNumber_26 rfl ?_
  refine va_last (D := Γ.1) (cl := gC) (tys := gT Γ) hx hb hW.1 hP hD hS 0 0 rfl rfl (by unfold vp_in; decide) dS_leafWithoutNumber_27 (fun H locs hP hD hS => ?_)
  have hP : va_P Γ.1 gC [(tk, .inl (kJ Γ, 5, .inr (.inl (vp_updL (vp_updL (vp_updL (vp_updL (vp_updL ((fun _ => 0)) (0 : Int32).toNatClampNeg (0)) (1 : Int32).toNatClampNeg (0)) (2 : Int32).toNatClampNeg (-1)) (3 : Int32).toNatClampNeg (-1)) (4 : Int32).toNatClampNeg (st.toInt64)))))] H := hP
  have hD : va_D (nA s) [(tk, .inl (kJ Γ, 5, .inr (.inl (vp_updL (vp_updL (vp_updL (vp_updL (vp_updL ((fun _ => 0)) (0 : Int32).toNatClampNeg (0)) (1 : Int32).toNatClampNeg (0)) (2 : Int32).toNatClampNeg (-1)) (3 : Int32).toNatClampNeg (-1)) (4 : Int32).toNatClampNeg (st.toInt64)))))] := hD
  refine lv_astore_n (lv' := [(1, .ref tk), (0, .int st)]) hx hb dS_leafWithoutNumber_28 rfl hl (by decide) rfl (fun ls hl => ?_)
  refine va_new (ci := 0) (fs := [.null, .null, .null]) (C := RB) (T := TB) (N := 3) hx hb hg inB tyB tyB_ok hown (hg _ kw29) (hg _ kw152) (hg _ kw18) hW.1 hP hD hS hA rfl (fun j hj => by rcases (show j = 0 ∨ j = 1 ∨ j = 2 by omega) with rfl | rfl | rfl <;> rfl) (Nat.le_of_ble_eq_true rfl) (Nat.le_of_ble_eq_true rfl) dS_leafWithoutNumber_29 (fun y H hP hD hS => ?_)
  have hP : va_P Γ.1 gC [(tk, .inl (kJ Γ, 5, .inr (.inl (vp_updL (vp_updL (vp_updL (vp_updL (vp_updL ((fun _ => 0)) (0 : Int32).toNatClampNeg (0)) (1 : Int32).toNatClampNeg (0)) (2 : Int32).toNatClampNeg (-1)) (3 : Int32).toNatClampNeg (-1)) (4 : Int32).toNatClampNeg (st.toInt64))))), (y, .inr (0, [.null, .null, .null]))] H := hP
  have hD : va_D (nA s) [(tk, .inl (kJ Γ, 5, .inr (.inl (vp_updL (vp_updL (vp_updL (vp_updL (vp_updL ((fun _ => 0)) (0 : Int32).toNatClampNeg (0)) (1 : Int32).toNatClampNeg (0)) (2 : Int32).toNatClampNeg (-1)) (3 : Int32).toNatClampNeg (-1)) (4 : Int32).toNatClampNeg (st.toInt64))))), (y, .inr (0, [.null, .null, .null]))] := hD
  refine lv_dup hx hb dS_leafWithoutNumber_32 rfl ?_
  refine lv_null hx hb dS_leafWithoutNumber_33 ?_
  refine lv_null hx hb dS_leafWithoutNumber_34 ?_
  refine lv_aload_n hx hb dS_leafWithoutNumber_35 rfl (lv_at hl 0 rfl) ?_
  have hO : va_at Γ.1 gC (y, .inr (0, [.null, .null, .null])) H := hP 1 _ rfl
  have hJ : oJ Γ H tk 5 (vp_updL (vp_updL (vp_updL (vp_updL (vp_updL ((fun _ => 0)) (0 : Int32).toNatClampNeg (0)) (1 : Int32).toNatClampNeg (0)) (2 : Int32).toNatClampNeg (-1)) (3 : Int32).toNatClampNeg (-1)) (4 : Int32).toNatClampNeg (st.toInt64)) := hP 0 _ rfl
  have hy : nA s y := hD.2 1 _ rfl
  have ht : nA s tk := hD.2 0 _ rfl
  have hty : ¬ tk = y := fun h => absurd (hD.1 0 1 _ _ rfl rfl h) (by decide)
  refine va_callv (va_runIN (As := [.null, .null, .ref tk]) (rest := [.ref y]) ⟨hx, hb, hml, hown, hg⟩ (c_B_init l Γ H (lo := none) (up := none) hO) ⟨va_cnB 3 hg (gI kw155) rfl rfl rfl (hW.2.1.1 _ (List.mem_of_getElem? (i := 0) rfl)) (hg _ kw18) (by decide +kernel) ⟨Nat.le_of_ble_eq_true rfl, Nat.le_of_ble_eq_true rfl⟩, rfl, hg _ kw154⟩ (gP_S hW (vS_g hW hS)) rfl rfl hl.1 rfl (lv_room (Nat.le_of_ble_eq_true rfl)) dS_leafWithoutNumber_36 ⟨Nat.le_of_ble_eq_true rfl, Nat.le_of_ble_eq_true rfl⟩) hS (fun q _ h => by rw [show q = y from h]; exact hy) (fun q h => by rw [show q = y from h]; exact hy) (fun u t9 H1 locs1 ht9 hvm hu hB hz1 hk1 hS => ?_)
  rw [ht9] at hB
  have hJ : oJ Γ H1 tk 5 (vp_updL (vp_updL (vp_updL (vp_updL (vp_updL ((fun _ => 0)) (0 : Int32).toNatClampNeg (0)) (1 : Int32).toNatClampNeg (0)) (2 : Int32).toNatClampNeg (-1)) (3 : Int32).toNatClampNeg (-1)) (4 : Int32).toNatClampNeg (st.toInt64)) := hJ.kept (hk1 tk hJ.lt hty)
  exact W.aret (v := .ref y) hx hb hr (Or.inl ⟨_, rfl⟩) (Or.inr ⟨_, rfl⟩) (fun t ht8 hW9 => ⟨⟨some y, y, rfl, rfl, _, by subst ht8; exact ⟨Nat.le_trans hz hy, none, none, tk, hB, Nat.le_trans hz ht, hJ⟩, rfl, rfl, rfl, rfl, rfl⟩, vS_F hS ht8⟩) (fun q hq => hS.2.2 q hq) dS_leafWithoutNumber_39
set_option maxHeartbeats 4000000 in
set_option maxRecDepth 100000 in
theorem c_S_joined (l : Launch) (Γ : gE) (H : Heap) {lo up : Option Nat} {f1 f2 : Nat → Int64} (hz : gb0 Γ ≤ H.size) (hf1 : bT Γ H lo f1) (hf2 : bT Γ H up f2) : Met l yS_joined wS_joined ({ frames := 3, cells := 2, slots := 8, locals := 300 }) (gP Γ H [va_rf lo, va_rf up]) (va_Qq (fun r y => r = some y) (fun (y : Nat) t => ∃ F, bT Γ t.heap (some y) F ∧ bL Γ t.heap (some y) lo up ∧ ∀ w, w ≤ 4 → F w = cmb w (f1 w) (f2 w)) (fun _ => False)) 2 8 (fun q => H.size ≤ q) := by
  refine Met.ofW (cc := cS_joined) (maxL := 4) (ret := (some (.object "StampTables$Block"))) (by decide) rfl ?_
  intro p e s m args below meth c s₁ B hml hv
  obtain ⟨rfl, rfl, hW⟩ := hv
  have hx := B.exec
  have hb := B.bytes
  have hr := B.returns
  have hg : ∀ w ∈ gW, w.before _ s = true := fun w h => atoms_spec (ws := wS_joined) B.pre w (List.mem_cons_of_mem _ h)
  have hown : s.vm.findClass RS = some m.cls := findClass_of_methodNamed B.named
  have hlocks := B.notSynchronized
  have hS : va_S (gA Γ) s.heap s.heap [] := va_S.rf
  have hl := lv_entry ([va_rf lo, va_rf up]) (n := 4) (by cases lo <;> cases up <;> exact Nat.le_of_ble_eq_true rfl)
  rw [lg_entry_eq]
  generalize (lg_sl ([va_rf lo, va_rf up]) ++ List.replicate (4 - (lg_sl ([va_rf lo, va_rf up])).length) Slot.unset).toArray = ls at hl ⊢
  have hl : lv_has ls 4 [(0, va_rf lo), (1, va_rf up)] := by cases lo <;> cases up <;> exact hl
  have hS : va_S (nA s) s.heap s.heap [] := va_S.rf
  have hA : ∀ q, s.heap.size ≤ q → nA s q := fun _ h => h
  refine lv_iconst (v := 5) hx hb dS_joined_0 (by decide) ?_
  refine va_newa (atype := .long) (D := Γ.1) (cl := gC) (tys := gT Γ) (ws := []) (ty := .long) (a0 := (5, .inr (.inl (fun _ => 0)))) (N' := 5) hx hb (hg _ kw170) rfl hW.1 p0 d0 hS hA (fun cA => rfl) (by decide) (by decide) (by decide) (Nat.le_of_ble_eq_true rfl) (Nat.le_of_ble_eq_true rfl) dS_joined_1 (fun tk cA H hK hP hD hS => ?_)
  have eA := kJ_eq hW.1 hK
  subst eA
  have hP : va_P Γ.1 gC [(tk, .inl (kJ Γ, 5, .inr (.inl ((fun _ => 0)))))] H := hP
  have hD : va_D (nA s) [(tk, .inl (kJ Γ, 5, .inr (.inl ((fun _ => 0)))))] := hD
  refine lv_astore_n (lv' := [(2, .ref tk), (0, va_rf lo), (1, va_rf up)]) hx hb dS_joined_3 rfl hl (by decide) (by cases up <;> rfl) (fun ls hl => ?_)
  refine lv_iconst (v := 0) hx hb dS_joined_4 (by decide) ?_
  refine lv_istore_n (lv' := [(3, .int 0), (2, .ref tk), (0, va_rf lo), (1, va_rf up)]) hx hb dS_joined_5 rfl hl (by decide) rfl (fun ls hl => ?_)
  have key : ∀ (n i : Nat) (g : Nat → Int64) (H : Heap) (locs : List Loc) (ls : Array Slot), i + n = 5 → (∀ w, w < i → g w = cmb w (f1 w) (f2 w)) → va_P Γ.1 gC [(tk, .inl (kJ Γ, 5, .inr (.inl g)))] H → va_D (nA s) [(tk, .inl (kJ Γ, 5, .inr (.inl g)))] → va_S (nA s) s.heap H locs → lv_has ls 4 [(3, .int (nI i)), (2, .ref tk), (0, va_rf lo), (1, va_rf up)] → W p l e (headSpec wS_joined ({ frames := 3, cells := 2, slots := 8, locals := 300 })).room s m [va_rf lo, va_rf up].toArray below meth c H locs (0 + 1) (0 + 5) (MQ below (va_Qq (fun r y => r = some y) (fun (y : Nat) t => ∃ F, bT Γ t.heap (some y) F ∧ bL Γ t.heap (some y) lo up ∧ ∀ w, w ≤ 4 → F w = cmb w (f1 w) (f2 w)) (fun _ => False)) [va_rf lo, va_rf up].toArray s 2 8 (fun q => s.heap.size ≤ q)) (F0 m 6 ls []) := by
    intro n
    induction n with
    | zero =>
      intro i g H locs ls hi hg5 hP hD hS hl
      refine lv_iload_n hx hb dS_joined_6 rfl (lv_at hl 0 rfl) ?_
      refine lv_iconst (v := 4) hx hb dS_joined_7 (by decide) ?_
      refine lv_icmp_gt (tgt := 34) hx hb dS_joined_8 (by decide) (fun c1 => ?_) (fun c1 => ?_)
      · refine va_new (ci := 0) (fs := [.null, .null, .null]) (C := RB) (T := TB) (N := 3) hx hb hg inB tyB tyB_ok hown (hg _ kw29) (hg _ kw152) (hg _ kw18) hW.1 hP hD hS hA rfl (fun j hj => by rcases (show j = 0 ∨ j = 1 ∨ j = 2 by omega) with rfl | rfl | rfl <;> rfl) (Nat.le_of_ble_eq_true rfl) (Nat.le_of_ble_eq_true rfl) dS_joined_34 (fun y H hP hD hS => ?_)
        have hP : va_P Γ.1 gC [(tk, .inl (kJ Γ, 5, .inr (.inl (g)))), (y, .inr (0, [.null, .null, .null]))] H := hP
        have hD : va_D (nA s) [(tk, .inl (kJ Γ, 5, .inr (.inl (g)))), (y, .inr (0, [.null, .null, .null]))] := hD
        refine lv_dup hx hb dS_joined_37 rfl ?_
        refine q_aload_n hx hb dS_joined_38 rfl (lv_at hl 2 rfl) ?_
        refine q_aload_n hx hb dS_joined_39 rfl (lv_at hl 3 rfl) ?_
        refine lv_aload_n hx hb dS_joined_40 rfl (lv_at hl 1 rfl) ?_
        have hO : va_at Γ.1 gC (y, .inr (0, [.null, .null, .null])) H := hP 1 _ rfl
        have hJ : oJ Γ H tk 5 (g) := hP 0 _ rfl
        have hy : nA s y := hD.2 1 _ rfl
        have ht : nA s tk := hD.2 0 _ rfl
        have hty : ¬ tk = y := fun h => absurd (hD.1 0 1 _ _ rfl rfl h) (by decide)
        refine va_callv (va_runIN (As := [va_rf lo, va_rf up, .ref tk]) (rest := [.ref y]) ⟨hx, hb, hml, hown, hg⟩ (c_B_init l Γ H (lo := lo) (up := up) hO) ⟨va_cnB 3 hg (gI kw155) rfl rfl rfl (hW.2.1.1 _ (List.mem_of_getElem? (i := 0) rfl)) (hg _ kw18) (by decide +kernel) ⟨Nat.le_of_ble_eq_true rfl, Nat.le_of_ble_eq_true rfl⟩, rfl, hg _ kw154⟩ (gP_S hW (vS_g hW hS)) rfl rfl hl.1 rfl (lv_room (Nat.le_of_ble_eq_true rfl)) dS_joined_41 ⟨Nat.le_of_ble_eq_true rfl, Nat.le_of_ble_eq_true rfl⟩) hS (fun q _ h => by rw [show q = y from h]; exact hy) (fun q h => by rw [show q = y from h]; exact hy) (fun u t9 H1 locs1 ht9 hvm hu hB hz1 hk1 hS => ?_)
        rw [ht9] at hB
        have hJ : oJ Γ H1 tk 5 (g) := hJ.kept (hk1 tk hJ.lt hty)
        exact W.aret (v := .ref y) hx hb hr (Or.inl ⟨_, rfl⟩) (Or.inr ⟨_, rfl⟩) (fun t ht8 hW9 => ⟨⟨some y, y, rfl, rfl, g, by subst ht8; exact ⟨Nat.le_trans hz hy, lo, up, tk, hB, Nat.le_trans hz ht, hJ⟩, by subst ht8; exact ⟨Nat.le_trans hz hy, tk, hB⟩, fun w hw => hg5 w (by omega)⟩, vS_F hS ht8⟩) (fun q hq => hS.2.2 q hq) dS_joined_44
      · exact absurd (show (4 : Int32) < nI i from nI_lt (a := 4) (by omega) (by omega)) c1
    | succ n ih =>
      intro i g H locs ls hi hg5 hP hD hS hl
      refine lv_iload_n hx hb dS_joined_6 rfl (lv_at hl 0 rfl) ?_
      refine lv_iconst (v := 4) hx hb dS_joined_7 (by decide) ?_
      refine lv_icmp_gt (tgt := 34) hx hb dS_joined_8 (by decide) (fun c1 => ?_) (fun c1 => ?_)
      · exact absurd c1 (nI_nlt (b := i) (a := 4) (by omega) (by omega))
      · have h1 := hf1.kept (hX_hb (vS_X hS))
        have h2 := hf2.kept (hX_hb (vS_X hS))
        refine lv_aload_n hx hb dS_joined_11 rfl (lv_at hl 1 rfl) ?_
        refine lv_iload_n hx hb dS_joined_12 rfl (lv_at hl 0 rfl) ?_
        refine q_aload_n hx hb dS_joined_13 rfl (lv_at hl 2 rfl) ?_
        refine lv_iload_n hx hb dS_joined_14 rfl (lv_at hl 0 rfl) ?_
        refine vp_callSl (W.runS (As := [va_rf lo, .int (nI i)]) (rest := [.int (nI i), .ref tk]) ⟨hx, hb, hml, hown, hg⟩ (c_S_takenOf l Γ H (w := i) (by omega) h1) (va_cwS 2 hg gS_46 rfl rfl rfl (by decide +kernel) ⟨Nat.le_of_ble_eq_true rfl, Nat.le_of_ble_eq_true rfl⟩) (gP_S hW (vS_g hW hS)) rfl rfl hl.1 rfl (lv_room (Nat.le_of_ble_eq_true rfl)) dS_joined_15 ⟨Nat.le_of_ble_eq_true rfl, Nat.le_of_ble_eq_true rfl⟩) (fun a1 ha1 => ?_)
        refine q_aload_n hx hb dS_joined_18 rfl (lv_at hl 3 rfl) ?_
        refine lv_iload_n hx hb dS_joined_19 rfl (lv_at hl 0 rfl) ?_
        refine vp_callSl (W.runS (As := [va_rf up, .int (nI i)]) (rest := [.long a1, .int (nI i), .ref tk]) ⟨hx, hb, hml, hown, hg⟩ (c_S_takenOf l Γ H (w := i) (by omega) h2) (va_cwS 2 hg gS_46 rfl rfl rfl (by decide +kernel) ⟨Nat.le_of_ble_eq_true rfl, Nat.le_of_ble_eq_true rfl⟩) (gP_S hW (vS_g hW hS)) rfl rfl hl.1 rfl (lv_room (Nat.le_of_ble_eq_true rfl)) dS_joined_20 ⟨Nat.le_of_ble_eq_true rfl, Nat.le_of_ble_eq_true rfl⟩) (fun a2 ha2 => ?_)
        refine lv_iload_n hx hb dS_joined_23 rfl (lv_at hl 0 rfl) ?_
        refine vp_callSl (W.runS (As := [.long a1, .long a2, .int (nI i)]) (rest := [.int (nI i), .ref tk]) ⟨hx, hb, hml, hown, hg⟩ (c_S_takenTogether l Γ H (w := i) a1 a2 (by omega)) (va_cwS 3 hg gS_120 rfl rfl rfl (by decide +kernel) ⟨Nat.le_of_ble_eq_true rfl, Nat.le_of_ble_eq_true rfl⟩) (gP_S hW (vS_g hW hS)) rfl rfl hl.1 rfl (lv_room (Nat.le_of_ble_eq_true rfl)) dS_joined_24 ⟨Nat.le_of_ble_eq_true rfl, Nat.le_of_ble_eq_true rfl⟩) (fun a3 ha3 => ?_)
        refine va_last (D := Γ.1) (cl := gC) (tys := gT Γ) hx hb hW.1 hP hD hS 0 0 rfl rfl (vp_in_nI (by omega) (by omega)) dS_joined_27 (fun H locs hP hD hS => ?_)
        have hP : va_P Γ.1 gC [(tk, .inl (kJ Γ, 5, .inr (.inl (vp_updL (g) (nI i : Int32).toNatClampNeg (a3)))))] H := hP
        have hD : va_D (nA s) [(tk, .inl (kJ Γ, 5, .inr (.inl (vp_updL (g) (nI i : Int32).toNatClampNeg (a3)))))] := hD
        refine lv_iinc (v := nI (i + 1)) (lv' := [(3, .int (nI (i + 1))), (2, .ref tk), (0, va_rf lo), (1, va_rf up)]) hx hb dS_joined_28 hl (k := 0) rfl (nI_1 i) (by decide) rfl (fun ls hl => ?_)
        refine lv_goto (tgt := 6) hx hb dS_joined_31 (by decide) ?_
        refine ih (i + 1) _ H locs ls (by omega) ?_ hP hD hS (lv_sub hl [0, 1, 2, 3] rfl)
        intro w hw
        rw [nI_clamp (by omega)]
        by_cases hwi : w = i
        · rw [hwi, pk_uLs, ha3, ha1, ha2]
        · rw [pk_uLn hwi]; exact hg5 w (by omega)
  exact key 5 0 _ H [] ls rfl (fun w hw => absurd hw (by omega)) hP hD hS (lv_sub hl [0, 1, 2, 3] rfl)
end
section
/-! a table is made -/
set_option maxHeartbeats 4000000 in
set_option maxRecDepth 100000 in
theorem c_S_rewritten (l : Launch) (Γ : gE) {V V' : Nat → Option Int64} {S S' : Nat → Int32} {k : Nat} (hwf : wfS S') (hk : k < 1024) (hoff : ∀ j, j ≠ k → V j = V' j ∧ S j = S' j) : ∀ (L : Nat) (H : Heap) (r : Option Nat) (lf : Nat), L ≤ 10 → gb0 Γ ≤ H.size → TR Γ H V S L (k / 2 ^ L * 2 ^ L) r → TR Γ H V' S' 0 k (some lf) → Met l yS_rewritten wS_rewritten ({ frames := L + 5, cells := 2 * (L), slots := 8 * (L), locals := 100 * (L) + 500 }) (gP Γ H [va_rf r, .int (nI (L)), .int (nI k), .ref lf]) (va_Qq (fun r y => r = some y) (fun (y : Nat) t => TR Γ t.heap V' S' L (k / 2 ^ (L) * 2 ^ (L)) (some y)) (fun _ => False)) (2 * L) (8 * L) (fun q => H.size ≤ q) := by
  intro L
  induction L with
  | zero =>
      intro H r lf hL hz hT hlf
      refine Met.ofW (cc := cS_rewritten) (maxL := 6) (ret := (some (.object "StampTables$Block"))) (by decide) rfl ?_
      intro p e s m args below meth c s₁ B hml hv
      obtain ⟨rfl, rfl, hW⟩ := hv
      have hx := B.exec
      have hb := B.bytes
      have hr := B.returns
      have hg : ∀ w ∈ gW, w.before _ s = true := fun w h => atoms_spec (ws := wS_rewritten) B.pre w (List.mem_cons_of_mem _ h)
      have hown : s.vm.findClass RS = some m.cls := findClass_of_methodNamed B.named
      have hlocks := B.notSynchronized
      have hS : va_S (gA Γ) s.heap s.heap [] := va_S.rf
      have hl := lv_entry ([va_rf r, .int (nI (0)), .int (nI k), .ref lf]) (n := 6) (by cases r <;> exact Nat.le_of_ble_eq_true rfl)
      rw [lg_entry_eq]
      generalize (lg_sl ([va_rf r, .int (nI (0)), .int (nI k), .ref lf]) ++ List.replicate (6 - (lg_sl ([va_rf r, .int (nI (0)), .int (nI k), .ref lf])).length) Slot.unset).toArray = ls at hl ⊢
      have hl : lv_has ls 6 [(0, va_rf r), (1, .int (nI (0))), (2, .int (nI k)), (3, .ref lf)] := by cases r <;> exact hl
      have hS : va_S (nA s) s.heap s.heap [] := va_S.rf
      have hA : ∀ q, s.heap.size ≤ q → nA s q := fun _ h => h
      refine lv_iload_n hx hb dS_rewritten_0 rfl (lv_at hl 1 rfl) ?_
      refine lv_if_gt (tgt := 6) hx hb dS_rewritten_1 (by decide) (fun c1 => ?_) (fun c1 => ?_)
      · exact absurd c1 (by decide)
      · refine lv_aload_n hx hb dS_rewritten_4 rfl (lv_at hl 3 rfl) ?_
        exact W.aret (v := .ref lf) hx hb hr (Or.inl ⟨_, rfl⟩) (Or.inr ⟨_, rfl⟩) (fun t ht8 hW9 => ⟨⟨some lf, lf, rfl, rfl, by show TR Γ t.heap V' S' 0 (k / 2 ^ 0 * 2 ^ 0) (some lf); rw [ht8, show k / 2 ^ 0 * 2 ^ 0 = k by simp]; exact hlf⟩, vS_F hS ht8⟩) (fun q hq => hS.2.2 q hq) dS_rewritten_5
  | succ L ih =>
      intro H r lf hL hz hT hlf
      refine Met.ofW (cc := cS_rewritten) (maxL := 6) (ret := (some (.object "StampTables$Block"))) (by decide) rfl ?_
      intro p e s m args below meth c s₁ B hml hv
      obtain ⟨rfl, rfl, hW⟩ := hv
      have hx := B.exec
      have hb := B.bytes
      have hr := B.returns
      have hg : ∀ w ∈ gW, w.before _ s = true := fun w h => atoms_spec (ws := wS_rewritten) B.pre w (List.mem_cons_of_mem _ h)
      have hown : s.vm.findClass RS = some m.cls := findClass_of_methodNamed B.named
      have hlocks := B.notSynchronized
      have hS : va_S (gA Γ) s.heap s.heap [] := va_S.rf
      have hl := lv_entry ([va_rf r, .int (nI (L + 1)), .int (nI k), .ref lf]) (n := 6) (by cases r <;> exact Nat.le_of_ble_eq_true rfl)
      rw [lg_entry_eq]
      generalize (lg_sl ([va_rf r, .int (nI (L + 1)), .int (nI k), .ref lf]) ++ List.replicate (6 - (lg_sl ([va_rf r, .int (nI (L + 1)), .int (nI k), .ref lf])).length) Slot.unset).toArray = ls at hl ⊢
      have hl : lv_has ls 6 [(0, va_rf r), (1, .int (nI (L + 1))), (2, .int (nI k)), (3, .ref lf)] := by cases r <;> exact hl
      have hS : va_S (nA s) s.heap s.heap [] := va_S.rf
      have hA : ∀ q, s.heap.size ≤ q → nA s q := fun _ h => h
      refine lv_iload_n hx hb dS_rewritten_0 rfl (lv_at hl 1 rfl) ?_
      refine lv_if_gt (tgt := 6) hx hb dS_rewritten_1 (by decide) (fun c1 => ?_) (fun c1 => ?_)
      · obtain ⟨-, lo, up, hbl, hlo, hup⟩ := hT
        have hp := pow2_s L
        have e1 := half_eq k L
        have hkL : k / 2 ^ L * 2 ^ L ≤ k := Nat.div_mul_le_self k (2 ^ L)
        have hkL2 : k < k / 2 ^ L * 2 ^ L + 2 ^ L := by have := Nat.lt_div_mul_add (a := k) (Nat.two_pow_pos L); omega
        generalize hqa : k / 2 ^ (L + 1) * 2 ^ (L + 1) = qa at *
        refine q_aload_n hx hb dS_rewritten_6 rfl (lv_at hl 0 rfl) ?_
        refine va_csq (W.runS (As := [va_rf r]) (rest := []) ⟨hx, hb, hml, hown, hg⟩ (c_S_lowerOf l Γ s.heap hbl) (va_cwS 1 hg gS_94 rfl rfl rfl (by decide +kernel) ⟨by show 0 + 1 ≤ L + 1 + 5; omega, by show 8 + (1 + 11) + 0 ≤ 100 * (L + 1) + 500; omega⟩) (gP_S hW (vS_g hW hS)) rfl rfl hl.1 rfl (lv_room (Nat.le_of_ble_eq_true rfl)) dS_rewritten_7 ⟨Nat.zero_le _, Nat.zero_le _⟩) (fun x1 hx1 => ?_)
        subst hx1
        refine q_astore (lv' := [(4, va_rf x1), (0, va_rf r), (1, .int (nI (L + 1))), (2, .int (nI k)), (3, .ref lf)]) hx hb dS_rewritten_10 hl (by decide) rfl (fun ls hl => ?_)
        refine q_aload_n hx hb dS_rewritten_12 rfl (lv_at hl 1 rfl) ?_
        refine va_csq (W.runS (As := [va_rf r]) (rest := []) ⟨hx, hb, hml, hown, hg⟩ (c_S_upperOf l Γ s.heap hbl) (va_cwS 1 hg gS_98 rfl rfl rfl (by decide +kernel) ⟨by show 0 + 1 ≤ L + 1 + 5; omega, by show 8 + (1 + 11) + 0 ≤ 100 * (L + 1) + 500; omega⟩) (gP_S hW (vS_g hW hS)) rfl rfl hl.1 rfl (lv_room (Nat.le_of_ble_eq_true rfl)) dS_rewritten_13 ⟨Nat.le_of_ble_eq_true rfl, Nat.le_of_ble_eq_true rfl⟩) (fun x2 hx2 => ?_)
        subst hx2
        refine q_astore (lv' := [(5, va_rf x2), (4, va_rf x1), (0, va_rf r), (1, .int (nI (L + 1))), (2, .int (nI k)), (3, .ref lf)]) hx hb dS_rewritten_16 hl (by decide) (by cases x1 <;> rfl) (fun ls hl => ?_)
        refine lv_iload_n hx hb dS_rewritten_18 rfl (lv_at hl 4 rfl) ?_
        refine lv_iload_n hx hb dS_rewritten_19 rfl (lv_at hl 3 rfl) ?_
        refine vp_callSi (W.runS (As := [.int (nI k), .int (nI (L + 1))]) (rest := []) ⟨hx, hb, hml, hown, hg⟩ (c_S_isInUpperHalf l Γ s.heap (k := k) (L := L) hk (by omega)) (va_cwS 2 hg gS_101 rfl rfl rfl (by decide +kernel) ⟨by show 0 + 1 ≤ L + 1 + 5; omega, by show 8 + (2 + 11) + 0 ≤ 100 * (L + 1) + 500; omega⟩) (gP_S hW (vS_g hW hS)) rfl rfl hl.1 rfl (lv_room (Nat.le_of_ble_eq_true rfl)) dS_rewritten_20 ⟨Nat.le_of_ble_eq_true rfl, Nat.le_of_ble_eq_true rfl⟩) (fun r1 hr1 => ?_)
        refine lv_if_eq (tgt := 41) hx hb dS_rewritten_23 (by decide) (fun c2 => ?_) (fun c2 => ?_)
        · have h1 : ¬ k / 2 ^ L % 2 = 1 := fun h => by rw [hr1, if_pos h] at c2; exact absurd c2 (by decide)
          rw [if_neg h1, Nat.add_zero] at e1
          refine q_aload hx hb dS_rewritten_41 (lv_at hl 1 rfl) ?_
          refine lv_iload_n hx hb dS_rewritten_43 rfl (lv_at hl 3 rfl) ?_
          refine lv_iconst (v := 1) hx hb dS_rewritten_44 (by decide) ?_
          refine lv_isub hx hb dS_rewritten_45 ?_
          refine lv_topi (fun v ev => ?_)
          have ev : v = nI L := ev.trans (nI_pred L)
          subst ev
          refine lv_iload_n hx hb dS_rewritten_46 rfl (lv_at hl 4 rfl) ?_
          refine lv_aload_n hx hb dS_rewritten_47 rfl (lv_at hl 5 rfl) ?_
          refine va_callq (va_runS (As := [va_rf x1, .int (nI L), .int (nI k), .ref lf]) (rest := []) ⟨hx, hb, hml, hown, hg⟩ (ih s.heap x1 lf (by omega) hz (by rw [e1]; exact hlo) hlf) (va_cwS 4 hg gS_90 rfl rfl rfl (by decide +kernel) ⟨by show L + 5 + 1 ≤ L + 1 + 5; omega, by show 8 + (6 + 11) + (100 * L + 500) ≤ 100 * (L + 1) + 500; omega⟩) (gP_S hW (vS_g hW hS)) rfl rfl hl.1 rfl (lv_room (Nat.le_of_ble_eq_true rfl)) dS_rewritten_48 ⟨by show 0 + 2 * L ≤ 2 * (L + 1); omega, by show 0 + 8 * L ≤ 8 * (L + 1); omega⟩) hS (fun q _ h => h.elim) (fun q h => Nat.le_trans hS.1 h) (fun r3 y3 t H1 locs1 ht hvm hp3 hB hz1 hk1 hS => ?_)
          subst hp3
          have hN : TR Γ H1 V' S' L (k / 2 ^ L * 2 ^ L) (some y3) := by subst ht; exact hB
          rw [e1] at hN
          have hXX : hX (fun _ => False) s.heap H1 := ⟨hz1, fun q h1 h2 => hk1 q h1 h2⟩
          refine lv_astore (lv' := [(4, .ref y3), (5, va_rf x2), (0, va_rf r), (1, .int (nI (L + 1))), (2, .int (nI k)), (3, .ref lf)]) hx hb dS_rewritten_51 hl (by decide) rfl (fun ls hl => ?_)
          refine lv_aload hx hb dS_rewritten_53 (lv_at hl 0 rfl) ?_
          refine q_aload hx hb dS_rewritten_55 (lv_at hl 1 rfl) ?_
          have hU : TR Γ H1 V' S' L (qa + 2 ^ L) x2 := (hup.kept (hX_hb hXX)).congr (fun j h3 h4 => hoff j (by omega))
          obtain ⟨f1, hf1, hv1⟩ := hN.f
          obtain ⟨f2, hf2, hv2⟩ := hU.f
          refine va_callq (va_runS (As := [.ref y3, va_rf x2]) (rest := []) ⟨hx, hb, hml, hown, hg⟩ (c_S_joined l Γ H1 (lo := (some y3)) (up := x2) (Nat.le_trans hz hz1) hf1 hf2) (va_cwS 2 hg gS_105 rfl rfl rfl (by decide +kernel) ⟨by show 3 + 1 ≤ L + 1 + 5; omega, by show 8 + (4 + 11) + 300 ≤ 100 * (L + 1) + 500; omega⟩) (gP_S hW (vS_g hW hS)) rfl rfl hl.1 rfl (lv_room (Nat.le_of_ble_eq_true rfl)) dS_rewritten_57 ⟨by show 0 + 2 * L + 2 ≤ 2 * (L + 1); omega, by show 0 + 8 * L + 8 ≤ 8 * (L + 1); omega⟩) hS (fun q _ h => h.elim) (fun q h => Nat.le_trans hS.1 h) (fun r4 y4 t4 H2 locs2 ht4 hvm4 hp4 hB4 hz2 hk2 hS => ?_)
          subst hp4
          have hXY : hX (fun _ => False) H1 H2 := ⟨hz2, fun q h1 h2 => hk2 q h1 h2⟩
          rw [ht4] at hB4
          obtain ⟨F4, hF4, hL4, hV4⟩ := hB4
          refine W.widen (k := 2 * (L + 1)) (n := 8 * (L + 1)) (by omega) (by omega) ?_
          exact W.aret (v := .ref y4) hx hb hr (Or.inl ⟨_, rfl⟩) (Or.inr ⟨_, rfl⟩) (fun t8 ht8 hW9 => ⟨⟨some y4, y4, rfl, rfl, by subst ht8; exact ⟨⟨F4, hF4, fun w hw => by rw [hV4 w hw, hv1 w hw, hv2 w hw, hp, ag_split hwf hw]⟩, (some y3), x2, hL4, hN.kept (hX_hb hXY), hU.kept (hX_hb hXY)⟩⟩, vS_F hS ht8⟩) (fun q hq => hS.2.2 q hq) dS_rewritten_60
        · have h1 : k / 2 ^ L % 2 = 1 := by
            by_cases h : k / 2 ^ L % 2 = 1
            · exact h
            · rw [hr1, if_neg h] at c2
              exact absurd rfl c2
          rw [if_pos h1] at e1
          refine q_aload hx hb dS_rewritten_26 (lv_at hl 0 rfl) ?_
          refine lv_iload_n hx hb dS_rewritten_28 rfl (lv_at hl 3 rfl) ?_
          refine lv_iconst (v := 1) hx hb dS_rewritten_29 (by decide) ?_
          refine lv_isub hx hb dS_rewritten_30 ?_
          refine lv_topi (fun v ev => ?_)
          have ev : v = nI L := ev.trans (nI_pred L)
          subst ev
          refine lv_iload_n hx hb dS_rewritten_31 rfl (lv_at hl 4 rfl) ?_
          refine lv_aload_n hx hb dS_rewritten_32 rfl (lv_at hl 5 rfl) ?_
          refine va_callq (va_runS (As := [va_rf x2, .int (nI L), .int (nI k), .ref lf]) (rest := []) ⟨hx, hb, hml, hown, hg⟩ (ih s.heap x2 lf (by omega) hz (by rw [e1]; exact hup) hlf) (va_cwS 4 hg gS_90 rfl rfl rfl (by decide +kernel) ⟨by show L + 5 + 1 ≤ L + 1 + 5; omega, by show 8 + (6 + 11) + (100 * L + 500) ≤ 100 * (L + 1) + 500; omega⟩) (gP_S hW (vS_g hW hS)) rfl rfl hl.1 rfl (lv_room (Nat.le_of_ble_eq_true rfl)) dS_rewritten_33 ⟨by show 0 + 2 * L ≤ 2 * (L + 1); omega, by show 0 + 8 * L ≤ 8 * (L + 1); omega⟩) hS (fun q _ h => h.elim) (fun q h => Nat.le_trans hS.1 h) (fun r3 y3 t H1 locs1 ht hvm hp3 hB hz1 hk1 hS => ?_)
          subst hp3
          have hN : TR Γ H1 V' S' L (k / 2 ^ L * 2 ^ L) (some y3) := by subst ht; exact hB
          rw [e1] at hN
          have hXX : hX (fun _ => False) s.heap H1 := ⟨hz1, fun q h1 h2 => hk1 q h1 h2⟩
          refine lv_astore (lv' := [(5, .ref y3), (4, va_rf x1), (0, va_rf r), (1, .int (nI (L + 1))), (2, .int (nI k)), (3, .ref lf)]) hx hb dS_rewritten_36 hl (by decide) (by cases x1 <;> rfl) (fun ls hl => ?_)
          refine lv_goto (tgt := 53) hx hb dS_rewritten_38 (by decide) ?_
          refine q_aload hx hb dS_rewritten_53 (lv_at hl 1 rfl) ?_
          refine lv_aload hx hb dS_rewritten_55 (lv_at hl 0 rfl) ?_
          have hU : TR Γ H1 V' S' L qa x1 := (hlo.kept (hX_hb hXX)).congr (fun j h3 h4 => hoff j (by omega))
          obtain ⟨f1, hf1, hv1⟩ := hU.f
          obtain ⟨f2, hf2, hv2⟩ := hN.f
          refine va_callq (va_runS (As := [va_rf x1, .ref y3]) (rest := []) ⟨hx, hb, hml, hown, hg⟩ (c_S_joined l Γ H1 (lo := x1) (up := (some y3)) (Nat.le_trans hz hz1) hf1 hf2) (va_cwS 2 hg gS_105 rfl rfl rfl (by decide +kernel) ⟨by show 3 + 1 ≤ L + 1 + 5; omega, by show 8 + (4 + 11) + 300 ≤ 100 * (L + 1) + 500; omega⟩) (gP_S hW (vS_g hW hS)) rfl rfl hl.1 rfl (lv_room (Nat.le_of_ble_eq_true rfl)) dS_rewritten_57 ⟨by show 0 + 2 * L + 2 ≤ 2 * (L + 1); omega, by show 0 + 8 * L + 8 ≤ 8 * (L + 1); omega⟩) hS (fun q _ h => h.elim) (fun q h => Nat.le_trans hS.1 h) (fun r4 y4 t4 H2 locs2 ht4 hvm4 hp4 hB4 hz2 hk2 hS => ?_)
          subst hp4
          have hXY : hX (fun _ => False) H1 H2 := ⟨hz2, fun q h1 h2 => hk2 q h1 h2⟩
          rw [ht4] at hB4
          obtain ⟨F4, hF4, hL4, hV4⟩ := hB4
          refine W.widen (k := 2 * (L + 1)) (n := 8 * (L + 1)) (by omega) (by omega) ?_
          exact W.aret (v := .ref y4) hx hb hr (Or.inl ⟨_, rfl⟩) (Or.inr ⟨_, rfl⟩) (fun t8 ht8 hW9 => ⟨⟨some y4, y4, rfl, rfl, by subst ht8; exact ⟨⟨F4, hF4, fun w hw => by rw [hV4 w hw, hv1 w hw, hv2 w hw, hp, ag_split hwf hw]⟩, x1, (some y3), hL4, hU.kept (hX_hb hXY), hN.kept (hX_hb hXY)⟩⟩, vS_F hS ht8⟩) (fun q hq => hS.2.2 q hq) dS_rewritten_60
      · exact absurd (show (0 : Int32) < nI (L + 1) from by rw [← nI_0]; exact nI_lt (by omega) (by omega)) c1
end
section
/-! the object: its constructor, a new table, the checks, put and delete -/
theorem d2 {A : Nat → Prop} {p q : Nat × va_E} (hp : A p.1) (hq : A q.1) (hne : p.1 ≠ q.1) : va_D A [p, q] := by
  refine ⟨fun i j x y hi hj hxy => ?_, fun k x hx => ?_⟩
  · have h1 : i < 2 := (List.getElem?_eq_some_iff.mp hi).1
    have h2 : j < 2 := (List.getElem?_eq_some_iff.mp hj).1
    rcases (show i = 0 ∨ i = 1 by omega) with rfl | rfl <;> rcases (show j = 0 ∨ j = 1 by omega) with rfl | rfl <;> cases hi <;> cases hj
    · rfl
    · exact absurd hxy hne
    · exact absurd hxy.symm hne
    · rfl
  · have hz : k < 2 := (List.getElem?_eq_some_iff.mp hx).1
    rcases (show k = 0 ∨ k = 1 by omega) with rfl | rfl <;> cases hx <;> assumption
theorem kO_eq {Γ : gE} {s : State} {cA : ClassId} (h : va_K Γ.1 gC (gT Γ) s) (h2 : va_K Γ.1 gC (gT Γ ++ [(cA, .object RB)]) s) : cA = kO Γ := by
  obtain ⟨k1, c1, -, -, -, h3⟩ := (h2.2 4 _ rfl).2
  obtain ⟨k2, c2, -, -, -, h4⟩ := (h.2 1 _ rfl).2
  exact Option.some.inj (h3.symm.trans h4)
theorem anyB {Γ : gE} {s : State} {H : Heap} {y tk : Nat} {lo up : Option Nat} (h : va_K Γ.1 gC (gT Γ) s) (hB : oB Γ H y lo up tk) : va_Any RB s H y := by
  refine va_rAny (q0 := 0) (ci := 0) h (p1 hB) rfl rfl (fun comp c0 h1 h2 => ?_)
  have hc := (h.1 0 _ rfl).2
  cases Option.some.inj (h1.symm.trans h2)
  cases Option.some.inj (h1.symm.trans hc.1)
  exact va_assign hc
set_option maxHeartbeats 4000000 in
set_option maxRecDepth 100000 in
theorem c_S_init (l : Launch) (Γ : gE) (H : Heap) {x : Nat} (hO : va_at Γ.1 gC (x, .inr (1, [.null, .int 0])) H) : Met l yS_init wS_init ({ frames := 1, cells := 1, slots := 400, locals := 12 }) (gP Γ H [.ref x]) (va_Qv (fun (ro : Nat) => H.size ≤ ro) (fun ro t => oS Γ t.heap x ro (nI 1) ∧ oO Γ t.heap ro 400 (fun _ => none)) (fun q => q = x)) 1 400 (fun q => q = x ∨ H.size ≤ q) := by
  refine Met.ofW (cc := cS_init) (maxL := 1) (ret := none) (by decide) rfl ?_
  intro p e s m args below meth c s₁ B hml hv
  obtain ⟨rfl, rfl, hW⟩ := hv
  have hx := B.exec
  have hb := B.bytes
  have hr := B.returns
  have hg : ∀ w ∈ gW, w.before _ s = true := fun w h => atoms_spec (ws := wS_init) B.pre w (List.mem_cons_of_mem _ h)
  have hown : s.vm.findClass RS = some m.cls := findClass_of_methodNamed B.named
  have hlocks := B.notSynchronized
  have hS : va_S (gA Γ) s.heap s.heap [] := va_S.rf
  have hl := lv_entry ([.ref x]) (n := 1) (Nat.le_of_ble_eq_true rfl)
  rw [lg_entry_eq]
  generalize (lg_sl ([.ref x]) ++ List.replicate (1 - (lg_sl ([.ref x])).length) Slot.unset).toArray = ls at hl ⊢
  have hl : lv_has ls 1 [(0, .ref x)] := hl
  have hin : meth.name = "<init>" := (name_of_methodNamed B.named B.method).1
  have hA : ∀ q, s.heap.size ≤ q → (fun q => q = x ∨ s.heap.size ≤ q) q := fun _ h => Or.inr h
  have hS : va_S (fun q => q = x ∨ s.heap.size ≤ q) s.heap s.heap [] := va_S.rf
  have hP := p1 hO
  have hD : va_D (fun q => q = x ∨ s.heap.size ≤ q) [(x, .inr (1, [.null, .int 0]))] := d1 (Or.inl rfl)
  refine lv_aload_n hx hb dS_init_0 rfl (lv_at hl 0 rfl) ?_
  refine W.objInit hx hb hown (hg _ kw26) (hg _ kw27) (hg _ kw28) rfl (by rw [hml]; exact hl.1) rfl dS_init_1 (Nat.le_of_ble_eq_true rfl) (Nat.le_of_ble_eq_true rfl) ?_
  refine W.eq (g2 := F0 m 4 ls []) rfl ?_
  refine lv_aload_n hx hb dS_init_4 rfl (lv_at hl 0 rfl) ?_
  refine lv_sipush (v := 400) hx hb dS_init_5 (by decide) ?_
  refine va_newq (own := RS) (C := RB) (D := Γ.1) (cl := gC) (tys := gT Γ) (N' := 400) hx hb hown (hg _ kw29) hW.2.1.2.2.2 hW.1 hP hD hS hA (by decide) (by decide) (by decide) (Nat.le_of_ble_eq_true rfl) (Nat.le_of_ble_eq_true rfl) dS_init_8 (fun ro cA H hK hP hD hS => ?_)
  have eA := kO_eq hW.1 hK
  subst eA
  have hP : va_P Γ.1 gC [(x, .inr (1, [.null, .int 0])), (ro, .inl (kO Γ, 400, .inr (.inr (.inr (.inr (fun _ => none))))))] H := hP
  have hD : va_D (fun q => q = x ∨ s.heap.size ≤ q) [(x, .inr (1, [.null, .int 0])), (ro, .inl (kO Γ, 400, .inr (.inr (.inr (.inr (fun _ => none))))))] := hD
  refine va_putF (D := Γ.1) (ci := 1) (v := .ref ro) (ty := .array (.object "StampTables$Block")) (C := RS) (T := TS) (N := 2) hx hb hg inS tyS tyS_ok nmS hown hW.1 hP hD hS 0 rfl rfl 0 (by decide) (hg _ kw31) (fun _ h9 => h9) rfl hin rfl (by decide +kernel) rfl rfl (Nat.le_of_ble_eq_true rfl) dS_init_11 (fun H locs hP hD hS => ?_)
  have hP : va_P Γ.1 gC [(x, .inr (1, [.ref ro, .int 0])), (ro, .inl (kO Γ, 400, .inr (.inr (.inr (.inr (fun _ => none))))))] H := hP
  have hD : va_D (fun q => q = x ∨ s.heap.size ≤ q) [(x, .inr (1, [.ref ro, .int 0])), (ro, .inl (kO Γ, 400, .inr (.inr (.inr (.inr (fun _ => none))))))] := hD
  refine lv_aload_n hx hb dS_init_14 rfl (lv_at hl 0 rfl) ?_
  refine lv_iconst (v := 1) hx hb dS_init_15 (by decide) ?_
  refine va_put (D := Γ.1) (ci := 1) (v := .int 1) (ty := .int) (C := RS) (T := TS) (N := 2) hx hb hg inS tyS tyS_ok nmS hown hW.1 hP hD hS 0 rfl rfl 1 (by decide) (hg _ kw32) (fun _ h9 => h9) rfl (by decide +kernel) rfl rfl (Nat.le_of_ble_eq_true rfl) dS_init_16 (fun H locs hP hD hS => ?_)
  have hP : va_P Γ.1 gC [(x, .inr (1, [.ref ro, .int 1])), (ro, .inl (kO Γ, 400, .inr (.inr (.inr (.inr (fun _ => none))))))] H := hP
  have hD : va_D (fun q => q = x ∨ s.heap.size ≤ q) [(x, .inr (1, [.ref ro, .int 1])), (ro, .inl (kO Γ, 400, .inr (.inr (.inr (.inr (fun _ => none))))))] := hD
  have hro : s.heap.size ≤ ro := (hD.2 1 _ rfl).elim (fun h => absurd (hD.1 0 1 _ _ rfl rfl h.symm) (by decide)) id
  exact W.vret hx hb hr (fun t ht hW9 => ⟨⟨ro, rfl, hro, by subst ht; exact ⟨hP 0 _ rfl, hP 1 _ rfl⟩⟩, ⟨by rw [ht]; exact hS.1, fun q h1 h2 => by rw [ht]; exact hS.2.1 q h1 (fun h => h.elim h2 (fun h => absurd h (Nat.not_le.mpr h1)))⟩⟩) (fun q hq => hS.2.2 q hq) dS_init_19
set_option maxHeartbeats 4000000 in
set_option maxRecDepth 100000 in
theorem c_S_addTable (l : Launch) (Γ : gE) (H : Heap) {x ro md t k lf : Nat} {rt : Nat → Option Nat} {V V' : Nat → Option Int64} {S S' : Nat → Int32} (hO : oS Γ H x ro (nI md)) (hR : oO Γ H ro 400 rt) (hxro : x ≠ ro) (hx0 : x < gb0 Γ) (hr0 : ro < gb0 Γ) (hz : gb0 Γ ≤ H.size) (hmd : md < 400) (ht : t < md) (hwf : wfS S') (hk : k < 1024) (hoff : ∀ j, j ≠ k → V j = V' j ∧ S j = S' j) (hT : TR Γ H V S 10 0 (rt t)) (hlf : TR Γ H V' S' 0 k (some lf)) : Met l yS_addTable wS_addTable ({ frames := 20, cells := 20, slots := 80, locals := 2000 }) (gP Γ H [.ref x, .int (nI t), .int (nI k), .ref lf]) (va_Qi (fun r (_ : Nat) => r = nI md) (fun y t' => oS Γ t'.heap x ro (nI (md + 1)) ∧ oO Γ t'.heap ro 400 (va_up rt md (some y)) ∧ TR Γ t'.heap V' S' 10 0 (some y)) (fun q => q = x ∨ q = ro)) 20 80 (fun q => q = x ∨ q = ro) := by
  refine Met.ofW (cc := cS_addTable) (maxL := 5) (ret := (some .int)) (by decide) rfl ?_
  intro p e s m args below meth c s₁ B hml hv
  obtain ⟨rfl, rfl, hW⟩ := hv
  have hx := B.exec
  have hb := B.bytes
  have hr := B.returns
  have hg : ∀ w ∈ gW, w.before _ s = true := fun w h => atoms_spec (ws := wS_addTable) B.pre w (List.mem_cons_of_mem _ h)
  have hown : s.vm.findClass RS = some m.cls := findClass_of_methodNamed B.named
  have hlocks := B.notSynchronized
  have hS : va_S (gA Γ) s.heap s.heap [] := va_S.rf
  have hl := lv_entry ([.ref x, .int (nI t), .int (nI k), .ref lf]) (n := 5) (Nat.le_of_ble_eq_true rfl)
  rw [lg_entry_eq]
  generalize (lg_sl ([.ref x, .int (nI t), .int (nI k), .ref lf]) ++ List.replicate (5 - (lg_sl ([.ref x, .int (nI t), .int (nI k), .ref lf])).length) Slot.unset).toArray = ls at hl ⊢
  have hl : lv_has ls 5 [(0, .ref x), (1, .int (nI t)), (2, .int (nI k)), (3, .ref lf)] := hl
  have hS : va_S (nA s) s.heap s.heap [] := va_S.rf
  have hA : ∀ q, s.heap.size ≤ q → nA s q := fun _ h => h
  refine lv_aload_n hx hb dS_addTable_0 rfl (lv_at hl 0 rfl) ?_
  refine va_get (D := Γ.1) (ci := 1) (v := .int (nI md)) (C := RS) (T := TS) (N := 2) hx hb hg inS hown hW.1 (p1 hO) 0 rfl rfl 1 (by decide) (hg _ kw32) (fun _ h9 => h9) rfl dS_addTable_1 ?_
  refine lv_istore (lv' := [(4, .int (nI md)), (0, .ref x), (1, .int (nI t)), (2, .int (nI k)), (3, .ref lf)]) hx hb dS_addTable_4 hl (by decide) rfl (fun ls hl => ?_)
  refine lv_aload_n hx hb dS_addTable_6 rfl (lv_at hl 1 rfl) ?_
  refine va_get (D := Γ.1) (ci := 1) (v := .ref ro) (C := RS) (T := TS) (N := 2) hx hb hg inS hown hW.1 (p1 hO) 0 rfl rfl 0 (by decide) (hg _ kw31) (fun _ h9 => h9) rfl dS_addTable_7 ?_
  refine lv_iload hx hb dS_addTable_10 (lv_at hl 0 rfl) ?_
  refine lv_aload_n hx hb dS_addTable_12 rfl (lv_at hl 1 rfl) ?_
  refine va_get (D := Γ.1) (ci := 1) (v := .ref ro) (C := RS) (T := TS) (N := 2) hx hb hg inS hown hW.1 (p1 hO) 0 rfl rfl 0 (by decide) (hg _ kw31) (fun _ h9 => h9) rfl dS_addTable_13 ?_
  refine lv_iload_n hx hb dS_addTable_16 rfl (lv_at hl 2 rfl) ?_
  refine va_aldq (D := Γ.1) (cl := gC) (tys := gT Γ) hx hb hW.1 (p1 hR) 0 1 rfl rfl (vp_in_nI (show t < 400 by omega) (by omega)) dS_addTable_17 ?_
  rw [nI_clamp (show t < 2 ^ 31 by omega)]
  refine lv_bipush (v := 10) hx hb dS_addTable_18 (by decide) ?_
  refine lv_iload_n hx hb dS_addTable_20 rfl (lv_at hl 3 rfl) ?_
  refine lv_aload_n hx hb dS_addTable_21 rfl (lv_at hl 4 rfl) ?_
  refine va_callq (va_runS (As := [va_rf (rt t), .int 10, .int (nI k), .ref lf]) (rest := [.int (nI md), .ref ro]) ⟨hx, hb, hml, hown, hg⟩ (c_S_rewritten l Γ hwf hk hoff 10 s.heap (rt t) lf (Nat.le_refl _) hz (by rw [show k / 2 ^ 10 * 2 ^ 10 = 0 by omega]; exact hT) hlf) (va_cwS 4 hg gS_90 rfl rfl rfl (by decide +kernel) ⟨Nat.le_of_ble_eq_true rfl, Nat.le_of_ble_eq_true rfl⟩) (gP_S hW (vS_g hW hS)) rfl rfl hl.1 rfl (lv_room (Nat.le_of_ble_eq_true rfl)) dS_addTable_22 ⟨Nat.le_of_ble_eq_true rfl, Nat.le_of_ble_eq_true rfl⟩) hS (fun q _ h => h.elim) (fun q h => Nat.le_trans hS.1 h) (fun r3 y3 t3 H1 locs1 ht3 hvm hp3 hB hz1 hk1 hS => ?_)
  subst hp3
  have hN : TR Γ H1 V' S' 10 0 (some y3) := by
    have h9 : TR Γ H1 V' S' 10 (k / 2 ^ 10 * 2 ^ 10) (some y3) := by subst ht3; exact hB
    rw [show k / 2 ^ 10 * 2 ^ 10 = 0 by omega] at h9
    exact h9
  have hXX : hX (fun _ => False) s.heap H1 := ⟨hz1, fun q h1 h2 => hk1 q h1 h2⟩
  refine va_forget (fun q hq => hS.2.2 q hq) ?_
  have hP := (p1 (hXX.at hO (fun h => h))).app (p1 (hXX.at hR (fun h => h)))
  have hD : va_D (fun q => q = x ∨ q = ro) [(x, .inr (1, [.ref ro, .int (nI md)])), (ro, .inl (kO Γ, 400, .inr (.inr (.inr (.inr rt)))))] := d2 (Or.inl rfl) (Or.inr rfl) hxro
  have hP : va_P Γ.1 gC [(x, .inr (1, [.ref ro, .int (nI md)])), (ro, .inl (kO Γ, 400, .inr (.inr (.inr (.inr (rt))))))] H1 := hP
  have hD : va_D (fun q => q = x ∨ q = ro) [(x, .inr (1, [.ref ro, .int (nI md)])), (ro, .inl (kO Γ, 400, .inr (.inr (.inr (.inr (rt))))))] := hD
  have hS : va_S (fun q => q = x ∨ q = ro) H1 H1 [] := va_S.rf
  obtain ⟨F3, ⟨hz3, lo3, up3, tk3, hB3, -, -⟩, -⟩ := hN.f
  refine va_astqM (E := RB) (D := Γ.1) (cl := gC) (tys := gT Γ) hx hb hW.1 hP hD hS 1 1 rfl rfl (anyB hW.1 hB3) (vp_in_nI (show md < 400 by omega) (by omega)) dS_addTable_25 (fun H locs hP hD hS => ?_)
  rw [nI_clamp (show md < 2 ^ 31 by omega)] at hP hD
  have hP : va_P Γ.1 gC [(x, .inr (1, [.ref ro, .int (nI md)])), (ro, .inl (kO Γ, 400, .inr (.inr (.inr (.inr (va_up rt md (some y3)))))))] H := hP
  have hD : va_D (fun q => q = x ∨ q = ro) [(x, .inr (1, [.ref ro, .int (nI md)])), (ro, .inl (kO Γ, 400, .inr (.inr (.inr (.inr (va_up rt md (some y3)))))))] := hD
  refine lv_aload_n hx hb dS_addTable_26 rfl (lv_at hl 1 rfl) ?_
  refine lv_dup hx hb dS_addTable_27 rfl ?_
  refine va_get (D := Γ.1) (ci := 1) (v := .int (nI md)) (C := RS) (T := TS) (N := 2) hx hb hg inS hown hW.1 (p1 (hP 0 _ rfl)) 0 rfl rfl 1 (by decide) (hg _ kw32) (fun _ h9 => h9) rfl dS_addTable_28 ?_
  refine lv_iconst (v := 1) hx hb dS_addTable_31 (by decide) ?_
  refine lv_iadd hx hb dS_addTable_32 ?_
  refine lv_topi (fun v ev => ?_)
  have ev : v = nI (md + 1) := ev.trans (nI_1 md)
  subst ev
  refine va_put (D := Γ.1) (ci := 1) (v := .int (nI (md + 1))) (ty := .int) (C := RS) (T := TS) (N := 2) hx hb hg inS tyS tyS_ok nmS hown hW.1 hP hD hS 0 rfl rfl 1 (by decide) (hg _ kw32) (fun _ h9 => h9) rfl (by decide +kernel) rfl rfl (Nat.le_of_ble_eq_true rfl) dS_addTable_33 (fun H locs hP hD hS => ?_)
  have hP : va_P Γ.1 gC [(x, .inr (1, [.ref ro, .int (nI (md + 1))])), (ro, .inl (kO Γ, 400, .inr (.inr (.inr (.inr (va_up rt md (some y3)))))))] H := hP
  have hD : va_D (fun q => q = x ∨ q = ro) [(x, .inr (1, [.ref ro, .int (nI (md + 1))])), (ro, .inl (kO Γ, 400, .inr (.inr (.inr (.inr (va_up rt md (some y3)))))))] := hD
  refine lv_iload hx hb dS_addTable_36 (lv_at hl 0 rfl) ?_
  have hbb : hX (fun q => q < gb0 Γ) H1 H := ⟨hS.1, fun q h1 h2 => hS.2.1 q h1 (fun h => h.elim (fun h => h2 (by rw [h]; exact hx0)) (fun h => h2 (by rw [h]; exact hr0)))⟩
  exact W.iret (v := nI md) hx hb hr (fun t9 ht9 hW9 => ⟨⟨nI md, y3, rfl, rfl, by subst ht9; exact ⟨hP 0 _ rfl, hP 1 _ rfl, hN.kept hbb⟩⟩, ⟨by rw [ht9]; exact Nat.le_trans hz1 hS.1, fun q h1 h2 => by rw [ht9, hS.2.1 q (Nat.lt_of_lt_of_le h1 hz1) h2]; exact hk1 q h1 id⟩⟩) (fun q hq => hS.2.2 q hq) dS_addTable_38
end
section
/-! the checks, put and delete: they return or throw -/
def inT (t : Int32) (n : Nat) : Prop := ∃ j, j < n ∧ t = nI j
theorem inT_no {t : Int32} {n : Nat} (hn : n < 2 ^ 31) : ¬ inT t n ↔ t < 0 ∨ nI n ≤ t := by
  constructor
  · intro h
    rcases pk_ix t hn with h1 | h1 | h1
    · exact Or.inl h1
    · exact Or.inr h1
    · exact absurd h1 h
  · rintro (h | h) ⟨j, hj, rfl⟩
    · exact nI_pos (by omega) h
    · exact nI_ge hj hn h
theorem inT_of {t : Int32} {n : Nat} (hn : n < 2 ^ 31) (h1 : ¬ t < 0) (h2 : t < nI n) : inT t n := by
  rcases pk_ix t hn with h | h | h
  · exact absurd h h1
  · exact absurd h2 (Int32.not_lt.mpr h)
  · exact h
theorem inT_k {k : Int32} (h1 : ¬ k < 0) (h2 : k ≤ 1023) : inT k 1024 := by
  rcases pk_ix k (show 1024 < 2 ^ 31 by omega) with h | h | h
  · exact absurd h h1
  · exact absurd (Int32.le_trans h h2) (by decide)
  · exact h
def okS (st : Int32) : Prop := 0 ≤ st ∧ st ≤ 1000000000
set_option maxHeartbeats 4000000 in
set_option maxRecDepth 100000 in
theorem c_S_checkTable (l : Launch) (hnt : l.stackTraces = false) (Γ : gE) (H : Heap) {x ro md : Nat} {t : Int32} (hO : oS Γ H x ro (nI md)) (hmd : md ≤ 400) : vx_Met l yS_checkTable wS_checkTable ({ frames := 8, cells := 1, slots := 6, locals := 200 }) (gP Γ H [.ref x, .int t]) (va_Qv (fun _ : Unit => inT t md) (fun _ t' => t'.heap = H) (fun _ => False)) (xT (fun E => E = xIA ∧ ¬ inT t md)) 1 6 (fun q => H.size ≤ q) := by
  refine vx_ofW (cc := cS_checkTable) (maxL := 2) (ret := none) (by decide) rfl ?_
  intro p e s m args below meth c s₁ B hml htab hv
  obtain ⟨rfl, rfl, hW⟩ := hv
  have hx := B.exec
  have hb := B.bytes
  have hr := B.returns
  have hg : ∀ w ∈ gW, w.before _ s = true := fun w h => atoms_spec (ws := wS_checkTable) B.pre w (List.mem_cons_of_mem _ h)
  have hown : s.vm.findClass RS = some m.cls := findClass_of_methodNamed B.named
  have hlocks := B.notSynchronized
  have hS : va_S (gA Γ) s.heap s.heap [] := va_S.rf
  have hl := lv_entry ([.ref x, .int t]) (n := 2) (Nat.le_of_ble_eq_true rfl)
  rw [lg_entry_eq]
  generalize (lg_sl ([.ref x, .int t]) ++ List.replicate (2 - (lg_sl ([.ref x, .int t])).length) Slot.unset).toArray = ls at hl ⊢
  have hl : lv_has ls 2 [(0, .ref x), (1, .int t)] := hl
  have hS : va_S (nA s) s.heap s.heap [] := va_S.rf
  refine lv_iload_n hx hb dS_checkTable_0 rfl (lv_at hl 1 rfl) ?_
  refine lv_if_lt (tgt := 12) hx hb dS_checkTable_1 (by decide) (fun c1 => ?_) (fun c1 => ?_)
  · obtain ⟨sa, hstr⟩ := hW.2.1.2.1 (81, "no such table") (List.mem_of_getElem? (i := 0) rfl)
    exact vx_throwS (own := RS) (cls := xIA) (text := "no such table") (names := xNs) (ik := 57) (is := 81) (ic := 61) (mc := 1) (ms := 6) (sa := sa) (A := gA Γ) hx hb hnt hown (by decide) (by decide) (hg _ kw59) (hg _ kw16) hstr (x_hat xw_IA xb_IA hg hW.2.1) xg_IA hW.2.2.2.1 hW.2.2.2.2 (vS_g hW hS) (by rw [hml]; exact hl.1) dS_checkTable_12 dS_checkTable_15 dS_checkTable_16 dS_checkTable_18 dS_checkTable_21 (fun x h => (htab x h).elim) (Nat.lt_of_succ_le (Nat.le_of_ble_eq_true rfl)) (Nat.le_of_ble_eq_true rfl) (Nat.le_of_ble_eq_true rfl) (Nat.le_of_ble_eq_true rfl) hlocks (fun t9 _ h1 h2 => ⟨(), trivial, ⟨rfl, (inT_no (by omega)).mpr (Or.inl c1)⟩, Nat.le_trans hS.1 h1, fun q hq _ => (h2 q (Nat.lt_of_lt_of_le hq hS.1)).trans (hS.2.1 q hq (Nat.not_le.mpr hq))⟩) (fun z hz => hS.2.2 z hz) (Nat.le_of_ble_eq_true rfl) (Nat.le_of_ble_eq_true rfl)
  · refine lv_iload_n hx hb dS_checkTable_4 rfl (lv_at hl 1 rfl) ?_
    refine lv_aload_n hx hb dS_checkTable_5 rfl (lv_at hl 0 rfl) ?_
    refine va_get (D := Γ.1) (ci := 1) (v := .int (nI md)) (C := RS) (T := TS) (N := 2) hx hb hg inS hown hW.1 (p1 hO) 0 rfl rfl 1 (by decide) (hg _ kw32) (fun _ h9 => h9) rfl dS_checkTable_6 ?_
    refine lv_icmp_lt (tgt := 22) hx hb dS_checkTable_9 (by decide) (fun c2 => ?_) (fun c2 => ?_)
    · refine W.widen (k := 1) (n := 6) (Nat.le_of_ble_eq_true rfl) (Nat.le_of_ble_eq_true rfl) ?_
      refine vx_ret ?_
      exact W.vret hx hb hr (fun t ht hW9 => ⟨⟨(), rfl, inT_of (by omega) c1 c2, ht⟩, vS_F hS ht⟩) (fun q hq => hS.2.2 q hq) dS_checkTable_22
    · obtain ⟨sa, hstr⟩ := hW.2.1.2.1 (81, "no such table") (List.mem_of_getElem? (i := 0) rfl)
      exact vx_throwS (own := RS) (cls := xIA) (text := "no such table") (names := xNs) (ik := 57) (is := 81) (ic := 61) (mc := 1) (ms := 6) (sa := sa) (A := gA Γ) hx hb hnt hown (by decide) (by decide) (hg _ kw59) (hg _ kw16) hstr (x_hat xw_IA xb_IA hg hW.2.1) xg_IA hW.2.2.2.1 hW.2.2.2.2 (vS_g hW hS) (by rw [hml]; exact hl.1) dS_checkTable_12 dS_checkTable_15 dS_checkTable_16 dS_checkTable_18 dS_checkTable_21 (fun x h => (htab x h).elim) (Nat.lt_of_succ_le (Nat.le_of_ble_eq_true rfl)) (Nat.le_of_ble_eq_true rfl) (Nat.le_of_ble_eq_true rfl) (Nat.le_of_ble_eq_true rfl) hlocks (fun t9 _ h1 h2 => ⟨(), trivial, ⟨rfl, (inT_no (by omega)).mpr (Or.inr (Int32.not_lt.mp c2))⟩, Nat.le_trans hS.1 h1, fun q hq _ => (h2 q (Nat.lt_of_lt_of_le hq hS.1)).trans (hS.2.1 q hq (Nat.not_le.mpr hq))⟩) (fun z hz => hS.2.2 z hz) (Nat.le_of_ble_eq_true rfl) (Nat.le_of_ble_eq_true rfl)
set_option maxHeartbeats 4000000 in
set_option maxRecDepth 100000 in
theorem c_S_checkKey (l : Launch) (hnt : l.stackTraces = false) (Γ : gE) (H : Heap) {k : Int32} : vx_Met l yS_checkKey wS_checkKey ({ frames := 8, cells := 1, slots := 6, locals := 200 }) (gP Γ H [.int k]) (va_Qv (fun _ : Unit => inT k 1024) (fun _ t' => t'.heap = H) (fun _ => False)) (xT (fun E => E = xIA ∧ ¬ inT k 1024)) 1 6 (fun q => H.size ≤ q) := by
  refine vx_ofW (cc := cS_checkKey) (maxL := 1) (ret := none) (by decide) rfl ?_
  intro p e s m args below meth c s₁ B hml htab hv
  obtain ⟨rfl, rfl, hW⟩ := hv
  have hx := B.exec
  have hb := B.bytes
  have hr := B.returns
  have hg : ∀ w ∈ gW, w.before _ s = true := fun w h => atoms_spec (ws := wS_checkKey) B.pre w (List.mem_cons_of_mem _ h)
  have hown : s.vm.findClass RS = some m.cls := findClass_of_methodNamed B.named
  have hlocks := B.notSynchronized
  have hS : va_S (gA Γ) s.heap s.heap [] := va_S.rf
  have hl := lv_entry ([.int k]) (n := 1) (Nat.le_of_ble_eq_true rfl)
  rw [lg_entry_eq]
  generalize (lg_sl ([.int k]) ++ List.replicate (1 - (lg_sl ([.int k])).length) Slot.unset).toArray = ls at hl ⊢
  have hl : lv_has ls 1 [(0, .int k)] := hl
  have hS : va_S (nA s) s.heap s.heap [] := va_S.rf
  refine lv_iload_n hx hb dS_checkKey_0 rfl (lv_at hl 0 rfl) ?_
  refine lv_if_lt (tgt := 11) hx hb dS_checkKey_1 (by decide) (fun c1 => ?_) (fun c1 => ?_)
  · obtain ⟨sa, hstr⟩ := hW.2.1.2.1 (83, "no such key") (List.mem_of_getElem? (i := 1) rfl)
    exact vx_throwS (own := RS) (cls := xIA) (text := "no such key") (names := xNs) (ik := 57) (is := 83) (ic := 61) (mc := 1) (ms := 6) (sa := sa) (A := gA Γ) hx hb hnt hown (by decide) (by decide) (hg _ kw59) (hg _ kw16) hstr (x_hat xw_IA xb_IA hg hW.2.1) xg_IA hW.2.2.2.1 hW.2.2.2.2 (vS_g hW hS) (by rw [hml]; exact hl.1) dS_checkKey_11 dS_checkKey_14 dS_checkKey_15 dS_checkKey_17 dS_checkKey_20 (fun x h => (htab x h).elim) (Nat.lt_of_succ_le (Nat.le_of_ble_eq_true rfl)) (Nat.le_of_ble_eq_true rfl) (Nat.le_of_ble_eq_true rfl) (Nat.le_of_ble_eq_true rfl) hlocks (fun t9 _ h1 h2 => ⟨(), trivial, ⟨rfl, (inT_no (by omega)).mpr (Or.inl c1)⟩, Nat.le_trans hS.1 h1, fun q hq _ => (h2 q (Nat.lt_of_lt_of_le hq hS.1)).trans (hS.2.1 q hq (Nat.not_le.mpr hq))⟩) (fun z hz => hS.2.2 z hz) (Nat.le_of_ble_eq_true rfl) (Nat.le_of_ble_eq_true rfl)
  · refine lv_iload_n hx hb dS_checkKey_4 rfl (lv_at hl 0 rfl) ?_
    refine lv_sipush (v := 1023) hx hb dS_checkKey_5 (by decide) ?_
    refine lv_icmp_le (tgt := 21) hx hb dS_checkKey_8 (by decide) (fun c2 => ?_) (fun c2 => ?_)
    · refine W.widen (k := 1) (n := 6) (Nat.le_of_ble_eq_true rfl) (Nat.le_of_ble_eq_true rfl) ?_
      refine vx_ret ?_
      exact W.vret hx hb hr (fun t ht hW9 => ⟨⟨(), rfl, inT_k c1 c2, ht⟩, vS_F hS ht⟩) (fun q hq => hS.2.2 q hq) dS_checkKey_21
    · obtain ⟨sa, hstr⟩ := hW.2.1.2.1 (83, "no such key") (List.mem_of_getElem? (i := 1) rfl)
      exact vx_throwS (own := RS) (cls := xIA) (text := "no such key") (names := xNs) (ik := 57) (is := 83) (ic := 61) (mc := 1) (ms := 6) (sa := sa) (A := gA Γ) hx hb hnt hown (by decide) (by decide) (hg _ kw59) (hg _ kw16) hstr (x_hat xw_IA xb_IA hg hW.2.1) xg_IA hW.2.2.2.1 hW.2.2.2.2 (vS_g hW hS) (by rw [hml]; exact hl.1) dS_checkKey_11 dS_checkKey_14 dS_checkKey_15 dS_checkKey_17 dS_checkKey_20 (fun x h => (htab x h).elim) (Nat.lt_of_succ_le (Nat.le_of_ble_eq_true rfl)) (Nat.le_of_ble_eq_true rfl) (Nat.le_of_ble_eq_true rfl) (Nat.le_of_ble_eq_true rfl) hlocks (fun t9 _ h1 h2 => ⟨(), trivial, ⟨rfl, fun h9 => by obtain ⟨j, hj, rfl⟩ := h9; exact c2 (nI_le (a := j) (b := 1023) (by omega) (by omega))⟩, Nat.le_trans hS.1 h1, fun q hq _ => (h2 q (Nat.lt_of_lt_of_le hq hS.1)).trans (hS.2.1 q hq (Nat.not_le.mpr hq))⟩) (fun z hz => hS.2.2 z hz) (Nat.le_of_ble_eq_true rfl) (Nat.le_of_ble_eq_true rfl)
set_option maxHeartbeats 4000000 in
set_option maxRecDepth 100000 in
theorem c_S_checkChange (l : Launch) (hnt : l.stackTraces = false) (Γ : gE) (H : Heap) {x ro md : Nat} {t k st : Int32} (hO : oS Γ H x ro (nI md)) (hmd : md ≤ 400) : vx_Met l yS_checkChange wS_checkChange ({ frames := 12, cells := 4, slots := 24, locals := 500 }) (gP Γ H [.ref x, .int t, .int k, .int st]) (va_Qv (fun _ : Unit => (inT t md ∧ inT k 1024 ∧ okS st) ∧ md < 400) (fun _ t' => t'.heap = H) (fun _ => False)) (xT (fun E => (E = xIA ∧ ¬ (inT t md ∧ inT k 1024 ∧ okS st)) ∨ (E = xIO ∧ (inT t md ∧ inT k 1024 ∧ okS st) ∧ ¬ md < 400))) 4 24 (fun q => H.size ≤ q) := by
  refine vx_ofW (cc := cS_checkChange) (maxL := 4) (ret := none) (by decide) rfl ?_
  intro p e s m args below meth c s₁ B hml htab hv
  obtain ⟨rfl, rfl, hW⟩ := hv
  have hx := B.exec
  have hb := B.bytes
  have hr := B.returns
  have hg : ∀ w ∈ gW, w.before _ s = true := fun w h => atoms_spec (ws := wS_checkChange) B.pre w (List.mem_cons_of_mem _ h)
  have hown : s.vm.findClass RS = some m.cls := findClass_of_methodNamed B.named
  have hlocks := B.notSynchronized
  have hS : va_S (gA Γ) s.heap s.heap [] := va_S.rf
  have hl := lv_entry ([.ref x, .int t, .int k, .int st]) (n := 4) (Nat.le_of_ble_eq_true rfl)
  rw [lg_entry_eq]
  generalize (lg_sl ([.ref x, .int t, .int k, .int st]) ++ List.replicate (4 - (lg_sl ([.ref x, .int t, .int k, .int st])).length) Slot.unset).toArray = ls at hl ⊢
  have hl : lv_has ls 4 [(0, .ref x), (1, .int t), (2, .int k), (3, .int st)] := hl
  have hS : va_S (nA s) s.heap s.heap [] := va_S.rf
  refine lv_aload_n hx hb dS_checkChange_0 rfl (lv_at hl 0 rfl) ?_
  refine lv_iload_n hx hb dS_checkChange_1 rfl (lv_at hl 1 rfl) ?_
  refine vx_callv (vx_runV (As := [.int t]) (rest := []) ⟨hx, hb, hml, hown, hg⟩ (c_S_checkTable l hnt Γ s.heap (t := t) hO (by omega)) (cwV 1 hg gS_35 rfl rfl rfl (by decide +kernel) ⟨Nat.le_of_ble_eq_true rfl, Nat.le_of_ble_eq_true rfl⟩) (gP_V hW (vS_g hW hS) (ci := 1) rfl hO) rfl rfl hl.1 rfl (lv_room (Nat.le_of_ble_eq_true rfl)) dS_checkChange_2 ⟨Nat.le_of_ble_eq_true rfl, Nat.le_of_ble_eq_true rfl⟩) hS (fun q _ h => h.elim) (fun q h => Nat.le_trans hS.1 h) (fun q _ h => h.elim) (fun E ce q9 u tx H1 locs1 ht hvm hpx hBX hz1 hk1 hS hcell hcv hcl => ?_) (fun u t9 H1 locs1 ht hvm hp hB hz1 hk1 hS => ?_)
  · exact vx_out (E := E) (mc := 4) (ms := 24) (fun x h => (htab x h).elim) hlocks hcell hcv hcl (fun t9 h9 _ => ⟨(), trivial, Or.inl ⟨hBX.1, fun h => hBX.2 h.1⟩, by rw [h9]; exact hS.1, fun q hq _ => by rw [h9]; exact hS.2.1 q hq (Nat.not_le.mpr hq)⟩) (fun z hz => hS.2.2 z hz) (Nat.le_of_ble_eq_true rfl) (Nat.le_of_ble_eq_true rfl)
  have hHH : H1 = s.heap := ht.symm.trans hB
  subst hHH
  have h1 := hp
  refine lv_iload_n hx hb dS_checkChange_5 rfl (lv_at hl 2 rfl) ?_
  refine vx_callv (vx_runS (As := [.int k]) (rest := []) ⟨hx, hb, hml, hown, hg⟩ (c_S_checkKey l hnt Γ s.heap (k := k)) (va_cwS 1 hg gS_39 rfl rfl rfl (by decide +kernel) ⟨Nat.le_of_ble_eq_true rfl, Nat.le_of_ble_eq_true rfl⟩) (gP_S hW (vS_g hW hS)) rfl rfl hl.1 rfl (lv_room (Nat.le_of_ble_eq_true rfl)) dS_checkChange_6 ⟨Nat.le_of_ble_eq_true rfl, Nat.le_of_ble_eq_true rfl⟩) hS (fun q _ h => h.elim) (fun q h => Nat.le_trans hS.1 h) (fun q _ h => h.elim) (fun E ce q9 u tx H1 locs1 ht hvm hpx hBX hz1 hk1 hS hcell hcv hcl => ?_) (fun u t9 H1 locs1 ht hvm hp hB hz1 hk1 hS => ?_)
  · exact vx_out (E := E) (mc := 4) (ms := 24) (fun x h => (htab x h).elim) hlocks hcell hcv hcl (fun t9 h9 _ => ⟨(), trivial, Or.inl ⟨hBX.1, fun h => hBX.2 h.2.1⟩, by rw [h9]; exact hS.1, fun q hq _ => by rw [h9]; exact hS.2.1 q hq (Nat.not_le.mpr hq)⟩) (fun z hz => hS.2.2 z hz) (Nat.le_of_ble_eq_true rfl) (Nat.le_of_ble_eq_true rfl)
  have hHH : H1 = s.heap := ht.symm.trans hB
  subst hHH
  have h2 := hp
  refine lv_iload_n hx hb dS_checkChange_9 rfl (lv_at hl 3 rfl) ?_
  refine lv_if_lt (tgt := 19) hx hb dS_checkChange_10 (by decide) (fun c1 => ?_) (fun c1 => ?_)
  · obtain ⟨sa, hstr⟩ := hW.2.1.2.1 (86, "no such stamp") (List.mem_of_getElem? (i := 2) rfl)
    exact vx_throwS (own := RS) (cls := xIA) (text := "no such stamp") (names := xNs) (ik := 57) (is := 86) (ic := 61) (mc := 4) (ms := 24) (sa := sa) (A := gA Γ) hx hb hnt hown (by decide) (by decide) (hg _ kw59) (hg _ kw16) hstr (x_hat xw_IA xb_IA hg hW.2.1) xg_IA hW.2.2.2.1 hW.2.2.2.2 (vS_g hW hS) (by rw [hml]; exact hl.1) dS_checkChange_19 dS_checkChange_22 dS_checkChange_23 dS_checkChange_25 dS_checkChange_28 (fun x h => (htab x h).elim) (Nat.lt_of_succ_le (Nat.le_of_ble_eq_true rfl)) (Nat.le_of_ble_eq_true rfl) (Nat.le_of_ble_eq_true rfl) (Nat.le_of_ble_eq_true rfl) hlocks (fun t9 _ h1 h2 => ⟨(), trivial, Or.inl ⟨rfl, fun h => absurd c1 (Int32.not_lt.mpr h.2.2.1)⟩, Nat.le_trans hS.1 h1, fun q hq _ => (h2 q (Nat.lt_of_lt_of_le hq hS.1)).trans (hS.2.1 q hq (Nat.not_le.mpr hq))⟩) (fun z hz => hS.2.2 z hz) (Nat.le_of_ble_eq_true rfl) (Nat.le_of_ble_eq_true rfl)
  · refine lv_iload_n hx hb dS_checkChange_13 rfl (lv_at hl 3 rfl) ?_
    refine lv_ldc (v := 1000000000) hx hb hown (hg _ kw131) dS_checkChange_14 ?_
    refine lv_icmp_le (tgt := 29) hx hb dS_checkChange_16 (by decide) (fun c2 => ?_) (fun c2 => ?_)
    · have hok : inT t md ∧ inT k 1024 ∧ okS st := ⟨h1, h2, Int32.not_lt.mp c1, c2⟩
      refine lv_aload_n hx hb dS_checkChange_29 rfl (lv_at hl 0 rfl) ?_
      refine va_get (D := Γ.1) (ci := 1) (v := .int (nI md)) (C := RS) (T := TS) (N := 2) hx hb hg inS hown hW.1 (p1 hO) 0 rfl rfl 1 (by decide) (hg _ kw32) (fun _ h9 => h9) rfl dS_checkChange_30 ?_
      refine lv_sipush (v := 400) hx hb dS_checkChange_33 (by decide) ?_
      refine lv_icmp_lt (tgt := 49) hx hb dS_checkChange_36 (by decide) (fun c3 => ?_) (fun c3 => ?_)
      · refine W.widen (k := 4) (n := 24) (Nat.le_of_ble_eq_true rfl) (Nat.le_of_ble_eq_true rfl) ?_
        refine vx_ret ?_
        exact W.vret hx hb hr (fun t ht hW9 => ⟨⟨(), rfl, ⟨hok, (nI_ltI (a := md) (b := 400) (by omega) (by omega)).mp c3⟩, ht⟩, vS_F hS ht⟩) (fun q hq => hS.2.2 q hq) dS_checkChange_49
      · obtain ⟨sa, hstr⟩ := hW.2.1.2.1 (88, "there are 400 tables") (List.mem_of_getElem? (i := 3) rfl)
        exact vx_throwS (own := RS) (cls := xIO) (text := "there are 400 tables") (names := xNs) (ik := 68) (is := 88) (ic := 72) (mc := 4) (ms := 24) (sa := sa) (A := gA Γ) hx hb hnt hown (by decide) (by decide) (hg _ kw133) (hg _ kw17) hstr (x_hat xw_IO xb_IO hg hW.2.1) xg_IO hW.2.2.2.1 hW.2.2.2.2 (vS_g hW hS) (by rw [hml]; exact hl.1) dS_checkChange_39 dS_checkChange_42 dS_checkChange_43 dS_checkChange_45 dS_checkChange_48 (fun x h => (htab x h).elim) (Nat.lt_of_succ_le (Nat.le_of_ble_eq_true rfl)) (Nat.le_of_ble_eq_true rfl) (Nat.le_of_ble_eq_true rfl) (Nat.le_of_ble_eq_true rfl) hlocks (fun t9 _ h1 h2 => ⟨(), trivial, Or.inr ⟨rfl, hok, fun h => c3 (nI_lt (a := md) (b := 400) h (by omega))⟩, Nat.le_trans hS.1 h1, fun q hq _ => (h2 q (Nat.lt_of_lt_of_le hq hS.1)).trans (hS.2.1 q hq (Nat.not_le.mpr hq))⟩) (fun z hz => hS.2.2 z hz) (Nat.le_of_ble_eq_true rfl) (Nat.le_of_ble_eq_true rfl)
    · obtain ⟨sa, hstr⟩ := hW.2.1.2.1 (86, "no such stamp") (List.mem_of_getElem? (i := 2) rfl)
      exact vx_throwS (own := RS) (cls := xIA) (text := "no such stamp") (names := xNs) (ik := 57) (is := 86) (ic := 61) (mc := 4) (ms := 24) (sa := sa) (A := gA Γ) hx hb hnt hown (by decide) (by decide) (hg _ kw59) (hg _ kw16) hstr (x_hat xw_IA xb_IA hg hW.2.1) xg_IA hW.2.2.2.1 hW.2.2.2.2 (vS_g hW hS) (by rw [hml]; exact hl.1) dS_checkChange_19 dS_checkChange_22 dS_checkChange_23 dS_checkChange_25 dS_checkChange_28 (fun x h => (htab x h).elim) (Nat.lt_of_succ_le (Nat.le_of_ble_eq_true rfl)) (Nat.le_of_ble_eq_true rfl) (Nat.le_of_ble_eq_true rfl) (Nat.le_of_ble_eq_true rfl) hlocks (fun t9 _ h1 h2 => ⟨(), trivial, Or.inl ⟨rfl, fun h => c2 h.2.2.2⟩, Nat.le_trans hS.1 h1, fun q hq _ => (h2 q (Nat.lt_of_lt_of_le hq hS.1)).trans (hS.2.1 q hq (Nat.not_le.mpr hq))⟩) (fun z hz => hS.2.2 z hz) (Nat.le_of_ble_eq_true rfl) (Nat.le_of_ble_eq_true rfl)
end
section
/-! the public methods of StampTables -/
theorem vS_mono {A B : Nat → Prop} {H0 H : Heap} {locs : List Loc} (h : va_S A H0 H locs) (hAB : ∀ q, A q → B q) : va_S B H0 H locs := ⟨h.1, fun q h1 h2 => h.2.1 q h1 (fun h3 => h2 (hAB q h3)), fun q hq => hAB _ (h.2.2 q hq)⟩
theorem leafTR {Γ : gE} {H : Heap} {V : Nat → Option Int64} {S : Nat → Int32} {k y : Nat} {F : Nat → Int64} (hwf : wfS S) (hF : bT Γ H (some y) F) (h0 : F 0 = lfv V S 0 k) (h1 : F 1 = lfv V S 1 k) (h2 : F 2 = lfv V S 2 k) (h3 : F 3 = lfv V S 3 k) (h4 : F 4 = lfv V S 4 k) : TR Γ H V S 0 k (some y) := by
  refine ⟨⟨F, hF, fun w hw => ?_⟩, fun h => nomatch h⟩
  rw [ag_one hwf hw]
  rcases (show w = 0 ∨ w = 1 ∨ w = 2 ∨ w = 3 ∨ w = 4 by omega) with rfl | rfl | rfl | rfl | rfl <;> assumption
theorem wfS_up {S : Nat → Int32} {k : Nat} {st : Int32} (h : wfS S) (hst : okS st) : wfS (va_up S k st) := by
  intro j
  unfold va_up
  split
  · have := Int32.le_iff_toInt_le.mp hst.1
    simp at this
    omega
  · exact h j
theorem up_off {V : Nat → Option Int64} {S : Nat → Int32} {k : Nat} {v : Option Int64} {st : Int32} : ∀ j, j ≠ k → V j = va_up V k v j ∧ S j = va_up S k st j := fun j hj => ⟨(va_up_ne V v hj).symm, (va_up_ne S st hj).symm⟩
/-- the object holds these tables -/
def SX (Γ : gE) (H : Heap) (x ro md : Nat) (rt : Nat → Option Nat) (Vs : Nat → Nat → Option Int64) (Ss : Nat → Nat → Int32) : Prop := oS Γ H x ro (nI md) ∧ oO Γ H ro 400 rt ∧ md ≤ 400 ∧ ∀ t, t < md → wfS (Ss t) ∧ TR Γ H (Vs t) (Ss t) 10 0 (rt t)
set_option maxHeartbeats 4000000 in
set_option maxRecDepth 100000 in
theorem c_S_put (l : Launch) (hnt : l.stackTraces = false) (Γ : gE) (H : Heap) {x ro md : Nat} {rt : Nat → Option Nat} {Vs : Nat → Nat → Option Int64} {Ss : Nat → Nat → Int32} {t k st : Int32} {v : Int64} (hX0 : SX Γ H x ro md rt Vs Ss) (hxro : x ≠ ro) (hzx : gz Γ ≤ x) (hzr : gz Γ ≤ ro) (hx0 : x < gb0 Γ) (hr0 : ro < gb0 Γ) (hz : gb0 Γ ≤ H.size) : vx_Met l yS_put wS_put ({ frames := 40, cells := 26, slots := 112, locals := 4000 }) (gP Γ H [.ref x, .int t, .int k, .long v, .int st]) (va_Qi (fun r (u : Nat × Nat × Nat) => u.1 < md ∧ t = nI u.1 ∧ u.2.1 < 1024 ∧ k = nI u.2.1 ∧ okS st ∧ md < 400 ∧ r = nI md) (fun u t' => oS Γ t'.heap x ro (nI (md + 1)) ∧ oO Γ t'.heap ro 400 (va_up rt md (some u.2.2)) ∧ TR Γ t'.heap (va_up (Vs u.1) u.2.1 (some v)) (va_up (Ss u.1) u.2.1 st) 10 0 (some u.2.2)) (fun q => q = x ∨ q = ro)) (xT (fun E => (E = xIA ∧ ¬ (inT t md ∧ inT k 1024 ∧ okS st)) ∨ (E = xIO ∧ (inT t md ∧ inT k 1024 ∧ okS st) ∧ ¬ md < 400))) 26 112 (fun q => q = x ∨ q = ro ∨ H.size ≤ q) := by
  refine vx_ofW (cc := cS_put) (maxL := 6) (ret := (some .int)) (by decide) rfl ?_
  intro p e s m args below meth c s₁ B hml htab hv
  obtain ⟨rfl, rfl, hW⟩ := hv
  have hx := B.exec
  have hb := B.bytes
  have hr := B.returns
  have hg : ∀ w ∈ gW, w.before _ s = true := fun w h => atoms_spec (ws := wS_put) B.pre w (List.mem_cons_of_mem _ h)
  have hown : s.vm.findClass RS = some m.cls := findClass_of_methodNamed B.named
  have hlocks := B.notSynchronized
  have hS : va_S (gA Γ) s.heap s.heap [] := va_S.rf
  have hl := lv_entry ([.ref x, .int t, .int k, .long v, .int st]) (n := 6) (Nat.le_of_ble_eq_true rfl)
  rw [lg_entry_eq]
  generalize (lg_sl ([.ref x, .int t, .int k, .long v, .int st]) ++ List.replicate (6 - (lg_sl ([.ref x, .int t, .int k, .long v, .int st])).length) Slot.unset).toArray = ls at hl ⊢
  have hl : lv_has ls 6 [(0, .ref x), (1, .int t), (2, .int k), (3, .long v), (5, .int st)] := hl
  have hS : va_S (nA s) s.heap s.heap [] := va_S.rf
  obtain ⟨hO, hR, hmd, hT⟩ := hX0
  refine lv_aload_n hx hb dS_put_0 rfl (lv_at hl 0 rfl) ?_
  refine lv_iload_n hx hb dS_put_1 rfl (lv_at hl 1 rfl) ?_
  refine lv_iload_n hx hb dS_put_2 rfl (lv_at hl 2 rfl) ?_
  refine lv_iload hx hb dS_put_3 (lv_at hl 4 rfl) ?_
  refine vx_callv (vx_runV (As := [.int t, .int k, .int st]) (rest := []) ⟨hx, hb, hml, hown, hg⟩ (c_S_checkChange l hnt Γ s.heap (t := t) (k := k) (st := st) hO hmd) (cwV 3 hg gS_19 rfl rfl rfl (by decide +kernel) ⟨Nat.le_of_ble_eq_true rfl, Nat.le_of_ble_eq_true rfl⟩) (gP_V hW (vS_g hW hS) (ci := 1) rfl hO) rfl rfl hl.1 rfl (lv_room (Nat.le_of_ble_eq_true rfl)) dS_put_5 ⟨Nat.le_of_ble_eq_true rfl, Nat.le_of_ble_eq_true rfl⟩) hS (fun q _ h => h.elim) (fun q h => Nat.le_trans hS.1 h) (fun q _ h => h.elim) (fun E ce q9 u tx H1 locs1 ht hvm hpx hBX hz1 hk1 hS hcell hcv hcl => ?_) (fun u t9 H1 locs1 ht hvm hp hB hz1 hk1 hS => ?_)
  · exact vx_out (E := E) (mc := 26) (ms := 112) (fun x h => (htab x h).elim) hlocks hcell hcv hcl (fun t9 h9 _ => ⟨(), trivial, hBX, by rw [h9]; exact hS.1, fun q hq _ => by rw [h9]; exact hS.2.1 q hq (Nat.not_le.mpr hq)⟩) (fun z hz => Or.inr (Or.inr (hS.2.2 z hz))) (Nat.le_of_ble_eq_true rfl) (Nat.le_of_ble_eq_true rfl)
  have hHH : H1 = s.heap := ht.symm.trans hB
  subst hHH
  have h1 := hp
  obtain ⟨⟨⟨tj, htj, rfl⟩, ⟨kj, hkj, rfl⟩, hst⟩, hmd4⟩ := h1
  refine lv_aload_n hx hb dS_put_8 rfl (lv_at hl 0 rfl) ?_
  refine lv_iload_n hx hb dS_put_9 rfl (lv_at hl 1 rfl) ?_
  refine lv_iload_n hx hb dS_put_10 rfl (lv_at hl 2 rfl) ?_
  refine lv_iload_n hx hb dS_put_11 rfl (lv_at hl 2 rfl) ?_
  refine lv_lload_n hx hb dS_put_12 rfl (lv_at hl 3 rfl) ?_
  refine lv_iload hx hb dS_put_13 (lv_at hl 4 rfl) ?_
  refine va_callq (va_runS (As := [.int (nI kj), .long v, .int st]) (rest := [.int (nI kj), .int (nI tj), .ref x]) ⟨hx, hb, hml, hown, hg⟩ (c_S_leafWithNumber l Γ s.heap (k := kj) (v := v) (st := st) hz) (va_cwS 3 hg gS_23 rfl rfl rfl (by decide +kernel) ⟨Nat.le_of_ble_eq_true rfl, Nat.le_of_ble_eq_true rfl⟩) (gP_S hW (vS_g hW hS)) rfl rfl hl.1 rfl (lv_room (Nat.le_of_ble_eq_true rfl)) dS_put_15 ⟨Nat.le_of_ble_eq_true rfl, Nat.le_of_ble_eq_true rfl⟩) hS (fun q _ h => h.elim) (fun q h => Nat.le_trans hS.1 h) (fun r2 y2 t2 H2 locs2 ht2 hvm2 hp2 hB2 hz2 hk2 hS => ?_)
  subst hp2
  rw [ht2] at hB2
  obtain ⟨F, hF, hF0, hF1, hF2, hF3, hF4⟩ := hB2
  have hXX : hX (fun _ => False) s.heap H2 := ⟨hz2, fun q h1 h2 => hk2 q h1 h2⟩
  have hwf : wfS (va_up (Ss tj) kj st) := wfS_up (hT tj htj).1 hst
  have hlf : TR Γ H2 (va_up (Vs tj) kj (some v)) (va_up (Ss tj) kj st) 0 kj (some y2) := leafTR hwf hF (by rw [hF0]; simp [lfv, va_up]) (by rw [hF1]; simp [lfv, va_up]) (by rw [hF2, nI_l (by omega)]; simp [lfv, va_up]) (by rw [hF3, nI_l (by omega)]; simp [lfv, va_up]) (by rw [hF4]; simp [lfv, va_up])
  have hS := vS_mono (B := fun q => q = x ∨ q = ro ∨ s.heap.size ≤ q) hS (fun q h => Or.inr (Or.inr h))
  refine va_calli (va_runV (As := [.int (nI tj), .int (nI kj), .ref y2]) (rest := []) ⟨hx, hb, hml, hown, hg⟩ (c_S_addTable l Γ H2 (hXX.at hO (fun h => h)) (hXX.at hR (fun h => h)) hxro hx0 hr0 (Nat.le_trans hz hz2) hmd4 htj hwf hkj up_off ((hT tj htj).2.kept (hX_hb hXX)) hlf) (cwV 3 hg gS_27 rfl rfl rfl (by decide +kernel) ⟨Nat.le_of_ble_eq_true rfl, Nat.le_of_ble_eq_true rfl⟩) (gP_V hW (vS_mono hS (fun q h => h.elim (fun h => by rw [h]; exact hzx) (fun h => h.elim (fun h => by rw [h]; exact hzr) (fun h => Nat.le_trans hW.2.2.1 h)))) (ci := 1) rfl (hXX.at hO (fun h => h))) rfl rfl hl.1 rfl (lv_room (Nat.le_of_ble_eq_true rfl)) dS_put_18 ⟨Nat.le_of_ble_eq_true rfl, Nat.le_of_ble_eq_true rfl⟩) hS (fun q _ h => h.elim Or.inl (fun h => Or.inr (Or.inl h))) (fun q h => h.elim Or.inl (fun h => Or.inr (Or.inl h))) (fun r3 y3 t3 H3 locs3 ht3 hvm3 hp3 hB3 hz3 hk3 hS => ?_)
  refine vx_ret ?_
  exact W.iret (v := r3) hx hb hr (fun t8 ht8 hW9 => ⟨⟨r3, (tj, kj, y3), rfl, ⟨htj, rfl, hkj, rfl, hst, hmd4, hp3⟩, by rw [← ht3] at ht8; rw [← ht8] at hB3; exact hB3⟩, ⟨by rw [ht8]; exact hS.1, fun q h1 h2 => by rw [ht8]; exact hS.2.1 q h1 (fun h => h.elim (fun h => h2 (Or.inl h)) (fun h => h.elim (fun h => h2 (Or.inr h)) (fun h => absurd h (Nat.not_le.mpr h1))))⟩⟩) (fun q hq => hS.2.2 q hq) dS_put_21
set_option maxHeartbeats 4000000 in
set_option maxRecDepth 100000 in
theorem c_S_delete (l : Launch) (hnt : l.stackTraces = false) (Γ : gE) (H : Heap) {x ro md : Nat} {rt : Nat → Option Nat} {Vs : Nat → Nat → Option Int64} {Ss : Nat → Nat → Int32} {t k st : Int32} (hX0 : SX Γ H x ro md rt Vs Ss) (hxro : x ≠ ro) (hzx : gz Γ ≤ x) (hzr : gz Γ ≤ ro) (hx0 : x < gb0 Γ) (hr0 : ro < gb0 Γ) (hz : gb0 Γ ≤ H.size) : vx_Met l yS_delete wS_delete ({ frames := 40, cells := 26, slots := 112, locals := 4000 }) (gP Γ H [.ref x, .int t, .int k, .int st]) (va_Qi (fun r (u : Nat × Nat × Nat) => u.1 < md ∧ t = nI u.1 ∧ u.2.1 < 1024 ∧ k = nI u.2.1 ∧ okS st ∧ md < 400 ∧ r = nI md) (fun u t' => oS Γ t'.heap x ro (nI (md + 1)) ∧ oO Γ t'.heap ro 400 (va_up rt md (some u.2.2)) ∧ TR Γ t'.heap (va_up (Vs u.1) u.2.1 (none)) (va_up (Ss u.1) u.2.1 st) 10 0 (some u.2.2)) (fun q => q = x ∨ q = ro)) (xT (fun E => (E = xIA ∧ ¬ (inT t md ∧ inT k 1024 ∧ okS st)) ∨ (E = xIO ∧ (inT t md ∧ inT k 1024 ∧ okS st) ∧ ¬ md < 400))) 26 112 (fun q => q = x ∨ q = ro ∨ H.size ≤ q) := by
  refine vx_ofW (cc := cS_delete) (maxL := 4) (ret := (some .int)) (by decide) rfl ?_
  intro p e s m args below meth c s₁ B hml htab hv
  obtain ⟨rfl, rfl, hW⟩ := hv
  have hx := B.exec
  have hb := B.bytes
  have hr := B.returns
  have hg : ∀ w ∈ gW, w.before _ s = true := fun w h => atoms_spec (ws := wS_delete) B.pre w (List.mem_cons_of_mem _ h)
  have hown : s.vm.findClass RS = some m.cls := findClass_of_methodNamed B.named
  have hlocks := B.notSynchronized
  have hS : va_S (gA Γ) s.heap s.heap [] := va_S.rf
  have hl := lv_entry ([.ref x, .int t, .int k, .int st]) (n := 4) (Nat.le_of_ble_eq_true rfl)
  rw [lg_entry_eq]
  generalize (lg_sl ([.ref x, .int t, .int k, .int st]) ++ List.replicate (4 - (lg_sl ([.ref x, .int t, .int k, .int st])).length) Slot.unset).toArray = ls at hl ⊢
  have hl : lv_has ls 4 [(0, .ref x), (1, .int t), (2, .int k), (3, .int st)] := hl
  have hS : va_S (nA s) s.heap s.heap [] := va_S.rf
  obtain ⟨hO, hR, hmd, hT⟩ := hX0
  refine lv_aload_n hx hb dS_delete_0 rfl (lv_at hl 0 rfl) ?_
  refine lv_iload_n hx hb dS_delete_1 rfl (lv_at hl 1 rfl) ?_
  refine lv_iload_n hx hb dS_delete_2 rfl (lv_at hl 2 rfl) ?_
  refine lv_iload_n hx hb dS_delete_3 rfl (lv_at hl 3 rfl) ?_
  refine vx_callv (vx_runV (As := [.int t, .int k, .int st]) (rest := []) ⟨hx, hb, hml, hown, hg⟩ (c_S_checkChange l hnt Γ s.heap (t := t) (k := k) (st := st) hO hmd) (cwV 3 hg gS_19 rfl rfl rfl (by decide +kernel) ⟨Nat.le_of_ble_eq_true rfl, Nat.le_of_ble_eq_true rfl⟩) (gP_V hW (vS_g hW hS) (ci := 1) rfl hO) rfl rfl hl.1 rfl (lv_room (Nat.le_of_ble_eq_true rfl)) dS_delete_4 ⟨Nat.le_of_ble_eq_true rfl, Nat.le_of_ble_eq_true rfl⟩) hS (fun q _ h => h.elim) (fun q h => Nat.le_trans hS.1 h) (fun q _ h => h.elim) (fun E ce q9 u tx H1 locs1 ht hvm hpx hBX hz1 hk1 hS hcell hcv hcl => ?_) (fun u t9 H1 locs1 ht hvm hp hB hz1 hk1 hS => ?_)
  · exact vx_out (E := E) (mc := 26) (ms := 112) (fun x h => (htab x h).elim) hlocks hcell hcv hcl (fun t9 h9 _ => ⟨(), trivial, hBX, by rw [h9]; exact hS.1, fun q hq _ => by rw [h9]; exact hS.2.1 q hq (Nat.not_le.mpr hq)⟩) (fun z hz => Or.inr (Or.inr (hS.2.2 z hz))) (Nat.le_of_ble_eq_true rfl) (Nat.le_of_ble_eq_true rfl)
  have hHH : H1 = s.heap := ht.symm.trans hB
  subst hHH
  have h1 := hp
  obtain ⟨⟨⟨tj, htj, rfl⟩, ⟨kj, hkj, rfl⟩, hst⟩, hmd4⟩ := h1
  refine lv_aload_n hx hb dS_delete_7 rfl (lv_at hl 0 rfl) ?_
  refine lv_iload_n hx hb dS_delete_8 rfl (lv_at hl 1 rfl) ?_
  refine lv_iload_n hx hb dS_delete_9 rfl (lv_at hl 2 rfl) ?_
  refine lv_iload_n hx hb dS_delete_10 rfl (lv_at hl 3 rfl) ?_
  refine va_callq (va_runS (As := [.int st]) (rest := [.int (nI kj), .int (nI tj), .ref x]) ⟨hx, hb, hml, hown, hg⟩ (c_S_leafWithoutNumber l Γ s.heap (st := st) hz) (va_cwS 1 hg gS_31 rfl rfl rfl (by decide +kernel) ⟨Nat.le_of_ble_eq_true rfl, Nat.le_of_ble_eq_true rfl⟩) (gP_S hW (vS_g hW hS)) rfl rfl hl.1 rfl (lv_room (Nat.le_of_ble_eq_true rfl)) dS_delete_11 ⟨Nat.le_of_ble_eq_true rfl, Nat.le_of_ble_eq_true rfl⟩) hS (fun q _ h => h.elim) (fun q h => Nat.le_trans hS.1 h) (fun r2 y2 t2 H2 locs2 ht2 hvm2 hp2 hB2 hz2 hk2 hS => ?_)
  subst hp2
  rw [ht2] at hB2
  obtain ⟨F, hF, hF0, hF1, hF2, hF3, hF4⟩ := hB2
  have hXX : hX (fun _ => False) s.heap H2 := ⟨hz2, fun q h1 h2 => hk2 q h1 h2⟩
  have hwf : wfS (va_up (Ss tj) kj st) := wfS_up (hT tj htj).1 hst
  have hlf : TR Γ H2 (va_up (Vs tj) kj (none)) (va_up (Ss tj) kj st) 0 kj (some y2) := leafTR hwf hF (by rw [hF0]; simp [lfv, va_up]) (by rw [hF1]; simp [lfv, va_up]) (by rw [hF2]; simp [lfv, va_up]) (by rw [hF3]; simp [lfv, va_up]) (by rw [hF4]; simp [lfv, va_up])
  have hS := vS_mono (B := fun q => q = x ∨ q = ro ∨ s.heap.size ≤ q) hS (fun q h => Or.inr (Or.inr h))
  refine va_calli (va_runV (As := [.int (nI tj), .int (nI kj), .ref y2]) (rest := []) ⟨hx, hb, hml, hown, hg⟩ (c_S_addTable l Γ H2 (hXX.at hO (fun h => h)) (hXX.at hR (fun h => h)) hxro hx0 hr0 (Nat.le_trans hz hz2) hmd4 htj hwf hkj up_off ((hT tj htj).2.kept (hX_hb hXX)) hlf) (cwV 3 hg gS_27 rfl rfl rfl (by decide +kernel) ⟨Nat.le_of_ble_eq_true rfl, Nat.le_of_ble_eq_true rfl⟩) (gP_V hW (vS_mono hS (fun q h => h.elim (fun h => by rw [h]; exact hzx) (fun h => h.elim (fun h => by rw [h]; exact hzr) (fun h => Nat.le_trans hW.2.2.1 h)))) (ci := 1) rfl (hXX.at hO (fun h => h))) rfl rfl hl.1 rfl (lv_room (Nat.le_of_ble_eq_true rfl)) dS_delete_14 ⟨Nat.le_of_ble_eq_true rfl, Nat.le_of_ble_eq_true rfl⟩) hS (fun q _ h => h.elim Or.inl (fun h => Or.inr (Or.inl h))) (fun q h => h.elim Or.inl (fun h => Or.inr (Or.inl h))) (fun r3 y3 t3 H3 locs3 ht3 hvm3 hp3 hB3 hz3 hk3 hS => ?_)
  refine vx_ret ?_
  exact W.iret (v := r3) hx hb hr (fun t8 ht8 hW9 => ⟨⟨r3, (tj, kj, y3), rfl, ⟨htj, rfl, hkj, rfl, hst, hmd4, hp3⟩, by rw [← ht3] at ht8; rw [← ht8] at hB3; exact hB3⟩, ⟨by rw [ht8]; exact hS.1, fun q h1 h2 => by rw [ht8]; exact hS.2.1 q h1 (fun h => h.elim (fun h => h2 (Or.inl h)) (fun h => h.elim (fun h => h2 (Or.inr h)) (fun h => absurd h (Nat.not_le.mpr h1))))⟩⟩) (fun q hq => hS.2.2 q hq) dS_delete_17
end
section
/-! the public reads -/
set_option maxHeartbeats 4000000 in
set_option maxRecDepth 100000 in
theorem c_S_get (l : Launch) (hnt : l.stackTraces = false) (Γ : gE) (H : Heap) {x ro md : Nat} {rt : Nat → Option Nat} {Vs : Nat → Nat → Option Int64} {Ss : Nat → Nat → Int32} {t k : Int32} (hX0 : SX Γ H x ro md rt Vs Ss) : vx_Met l yS_get wS_get ({ frames := 20, cells := 3, slots := 18, locals := 1000 }) (gP Γ H [.ref x, .int t, .int k]) (va_Ql (fun r (u : Nat × Nat) => u.1 < md ∧ t = nI u.1 ∧ u.2 < 1024 ∧ k = nI u.2 ∧ Vs u.1 u.2 = some r) (fun _ t' => t'.heap = H) (fun _ => False)) (xT (fun E => (E = xIA ∧ ¬ (inT t md ∧ inT k 1024)) ∨ (E = xUO ∧ ∃ tj kj, tj < md ∧ t = nI tj ∧ kj < 1024 ∧ k = nI kj ∧ Vs tj kj = none))) 3 18 (fun q => H.size ≤ q) := by
  refine vx_ofW (cc := cS_get) (maxL := 4) (ret := (some .long)) (by decide) rfl ?_
  intro p e s m args below meth c s₁ B hml htab hv
  obtain ⟨rfl, rfl, hW⟩ := hv
  have hx := B.exec
  have hb := B.bytes
  have hr := B.returns
  have hg : ∀ w ∈ gW, w.before _ s = true := fun w h => atoms_spec (ws := wS_get) B.pre w (List.mem_cons_of_mem _ h)
  have hown : s.vm.findClass RS = some m.cls := findClass_of_methodNamed B.named
  have hlocks := B.notSynchronized
  have hS : va_S (gA Γ) s.heap s.heap [] := va_S.rf
  have hl := lv_entry ([.ref x, .int t, .int k]) (n := 4) (Nat.le_of_ble_eq_true rfl)
  rw [lg_entry_eq]
  generalize (lg_sl ([.ref x, .int t, .int k]) ++ List.replicate (4 - (lg_sl ([.ref x, .int t, .int k])).length) Slot.unset).toArray = ls at hl ⊢
  have hl : lv_has ls 4 [(0, .ref x), (1, .int t), (2, .int k)] := hl
  have hS : va_S (nA s) s.heap s.heap [] := va_S.rf
  obtain ⟨hO, hR, hmd, hT⟩ := hX0
  refine lv_aload_n hx hb dS_get_0 rfl (lv_at hl 0 rfl) ?_
  refine lv_iload_n hx hb dS_get_1 rfl (lv_at hl 1 rfl) ?_
  refine vx_callv (vx_runV (As := [.int t]) (rest := []) ⟨hx, hb, hml, hown, hg⟩ (c_S_checkTable l hnt Γ s.heap (t := t) hO (by omega)) (cwV 1 hg gS_35 rfl rfl rfl (by decide +kernel) ⟨Nat.le_of_ble_eq_true rfl, Nat.le_of_ble_eq_true rfl⟩) (gP_V hW (vS_g hW hS) (ci := 1) rfl hO) rfl rfl hl.1 rfl (lv_room (Nat.le_of_ble_eq_true rfl)) dS_get_2 ⟨Nat.le_of_ble_eq_true rfl, Nat.le_of_ble_eq_true rfl⟩) hS (fun q _ h => h.elim) (fun q h => Nat.le_trans hS.1 h) (fun q _ h => h.elim) (fun E ce q9 u tx H1 locs1 ht hvm hpx hBX hz1 hk1 hS hcell hcv hcl => ?_) (fun u t9 H1 locs1 ht hvm hp hB hz1 hk1 hS => ?_)
  · exact vx_out (E := E) (mc := 3) (ms := 18) (fun x h => (htab x h).elim) hlocks hcell hcv hcl (fun t9 h9 _ => ⟨(), trivial, Or.inl ⟨hBX.1, fun h => hBX.2 h.1⟩, by rw [h9]; exact hS.1, fun q hq _ => by rw [h9]; exact hS.2.1 q hq (Nat.not_le.mpr hq)⟩) (fun z hz => hS.2.2 z hz) (Nat.le_of_ble_eq_true rfl) (Nat.le_of_ble_eq_true rfl)
  have hHH : H1 = s.heap := ht.symm.trans hB
  subst hHH
  have h1 := hp
  refine lv_iload_n hx hb dS_get_5 rfl (lv_at hl 2 rfl) ?_
  refine vx_callv (vx_runS (As := [.int k]) (rest := []) ⟨hx, hb, hml, hown, hg⟩ (c_S_checkKey l hnt Γ s.heap (k := k)) (va_cwS 1 hg gS_39 rfl rfl rfl (by decide +kernel) ⟨Nat.le_of_ble_eq_true rfl, Nat.le_of_ble_eq_true rfl⟩) (gP_S hW (vS_g hW hS)) rfl rfl hl.1 rfl (lv_room (Nat.le_of_ble_eq_true rfl)) dS_get_6 ⟨Nat.le_of_ble_eq_true rfl, Nat.le_of_ble_eq_true rfl⟩) hS (fun q _ h => h.elim) (fun q h => Nat.le_trans hS.1 h) (fun q _ h => h.elim) (fun E ce q9 u tx H1 locs1 ht hvm hpx hBX hz1 hk1 hS hcell hcv hcl => ?_) (fun u t9 H1 locs1 ht hvm hp hB hz1 hk1 hS => ?_)
  · exact vx_out (E := E) (mc := 3) (ms := 18) (fun x h => (htab x h).elim) hlocks hcell hcv hcl (fun t9 h9 _ => ⟨(), trivial, Or.inl ⟨hBX.1, fun h => hBX.2 h.2⟩, by rw [h9]; exact hS.1, fun q hq _ => by rw [h9]; exact hS.2.1 q hq (Nat.not_le.mpr hq)⟩) (fun z hz => hS.2.2 z hz) (Nat.le_of_ble_eq_true rfl) (Nat.le_of_ble_eq_true rfl)
  have hHH : H1 = s.heap := ht.symm.trans hB
  subst hHH
  have h2 := hp
  obtain ⟨tj, htj, rfl⟩ := h1
  obtain ⟨kj, hkj, rfl⟩ := h2
  refine lv_aload_n hx hb dS_get_9 rfl (lv_at hl 0 rfl) ?_
  refine va_get (D := Γ.1) (ci := 1) (v := .ref ro) (C := RS) (T := TS) (N := 2) hx hb hg inS hown hW.1 (p1 hO) 0 rfl rfl 0 (by decide) (hg _ kw31) (fun _ h9 => h9) rfl dS_get_10 ?_
  refine lv_iload_n hx hb dS_get_13 rfl (lv_at hl 1 rfl) ?_
  refine va_aldq (D := Γ.1) (cl := gC) (tys := gT Γ) hx hb hW.1 (p1 hR) 0 1 rfl rfl (vp_in_nI (show tj < 400 by omega) (by omega)) dS_get_14 ?_
  rw [nI_clamp (show tj < 2 ^ 31 by omega)]
  refine lv_iload_n hx hb dS_get_15 rfl (lv_at hl 2 rfl) ?_
  refine va_csq (W.runS (As := [va_rf (rt tj), .int (nI kj)]) (rest := []) ⟨hx, hb, hml, hown, hg⟩ (c_S_leafOf l Γ s.heap (hT tj htj).2 hkj) (va_cwS 2 hg gS_42 rfl rfl rfl (by decide +kernel) ⟨Nat.le_of_ble_eq_true rfl, Nat.le_of_ble_eq_true rfl⟩) (gP_S hW (vS_g hW hS)) rfl rfl hl.1 rfl (lv_room (Nat.le_of_ble_eq_true rfl)) dS_get_16 ⟨Nat.le_of_ble_eq_true rfl, Nat.le_of_ble_eq_true rfl⟩) (fun r1 hr1 => ?_)
  obtain ⟨f, hf, hv⟩ := hr1.f
  have hv : ∀ w, w ≤ 4 → f w = lfv (Vs tj) (Ss tj) w kj := fun w hw => (hv w hw).trans (ag_one (hT tj htj).1 hw kj)
  refine q_astore_n (lv' := [(3, va_rf r1), (0, .ref x), (1, .int (nI tj)), (2, .int (nI kj))]) hx hb dS_get_19 rfl hl (by decide) rfl (fun ls hl => ?_)
  refine q_aload_n hx hb dS_get_20 rfl (lv_at hl 0 rfl) ?_
  refine lv_iconst (v := 0) hx hb dS_get_21 (by decide) ?_
  refine vp_callSl (W.runS (As := [va_rf r1, .int 0]) (rest := []) ⟨hx, hb, hml, hown, hg⟩ (c_S_takenOf l Γ s.heap (w := 0) (by omega) hf) (va_cwS 2 hg gS_46 rfl rfl rfl (by decide +kernel) ⟨Nat.le_of_ble_eq_true rfl, Nat.le_of_ble_eq_true rfl⟩) (gP_S hW (vS_g hW hS)) rfl rfl hl.1 rfl (lv_room (Nat.le_of_ble_eq_true rfl)) dS_get_22 ⟨Nat.le_of_ble_eq_true rfl, Nat.le_of_ble_eq_true rfl⟩) (fun x0 hx0 => ?_)
  refine lv_lconst (v := 0) hx hb dS_get_25 (by decide) ?_
  refine W.lcmp hx hb dS_get_26 ?_
  refine lv_if_ne (tgt := 40) hx hb dS_get_27 (by decide) (fun c1 => ?_) (fun c1 => ?_)
  · have h3 : (Vs tj kj).isSome = true := by
      by_cases h : (Vs tj kj).isSome = true
      · exact h
      · exact absurd ((lg_cmp_eq _ _).mpr (by rw [hx0, hv 0 (by omega)]; simp [lfv, h])) c1
    refine q_aload_n hx hb dS_get_40 rfl (lv_at hl 0 rfl) ?_
    refine lv_iconst (v := 1) hx hb dS_get_41 (by decide) ?_
    refine vp_callSl (W.runS (As := [va_rf r1, .int 1]) (rest := []) ⟨hx, hb, hml, hown, hg⟩ (c_S_takenOf l Γ s.heap (w := 1) (by omega) hf) (va_cwS 2 hg gS_46 rfl rfl rfl (by decide +kernel) ⟨Nat.le_of_ble_eq_true rfl, Nat.le_of_ble_eq_true rfl⟩) (gP_S hW (vS_g hW hS)) rfl rfl hl.1 rfl (lv_room (Nat.le_of_ble_eq_true rfl)) dS_get_42 ⟨Nat.le_of_ble_eq_true rfl, Nat.le_of_ble_eq_true rfl⟩) (fun x1 hx1 => ?_)
    have h4 : Vs tj kj = some x1 := by
      obtain ⟨v, hv9⟩ := Option.isSome_iff_exists.mp h3
      rw [hx1, hv 1 (by omega), hv9]; simp [lfv, hv9]
    refine W.widen (k := 3) (n := 18) (Nat.le_of_ble_eq_true rfl) (Nat.le_of_ble_eq_true rfl) ?_
    refine vx_ret ?_
    exact W.lret (v := x1) hx hb hr (fun t8 ht8 hW9 => ⟨⟨x1, (tj, kj), rfl, ⟨htj, rfl, hkj, rfl, h4⟩, ht8⟩, vS_F hS ht8⟩) (fun q hq => hS.2.2 q hq) dS_get_45
  · have h3 : Vs tj kj = none := by
      have h4 := (lg_cmp_eq _ _).mp c1
      rw [hx0, hv 0 (by omega)] at h4
      cases hvv : Vs tj kj with
      | none => rfl
      | some v => simp [lfv, hvv] at h4
    obtain ⟨sa, hstr⟩ := hW.2.1.2.1 (52, "the key has no number") (List.mem_of_getElem? (i := 4) rfl)
    exact vx_throwS (own := RS) (cls := xUO) (text := "the key has no number") (names := xNs) (ik := 50) (is := 52) (ic := 54) (mc := 3) (ms := 18) (sa := sa) (A := gA Γ) hx hb hnt hown (by decide) (by decide) (hg _ kw224) (hg _ kw20) hstr (x_hat xw_UO xb_UO hg hW.2.1) xg_UO hW.2.2.2.1 hW.2.2.2.2 (vS_g hW hS) (by rw [hml]; exact hl.1) dS_get_30 dS_get_33 dS_get_34 dS_get_36 dS_get_39 (fun x h => (htab x h).elim) (Nat.lt_of_succ_le (Nat.le_of_ble_eq_true rfl)) (Nat.le_of_ble_eq_true rfl) (Nat.le_of_ble_eq_true rfl) (Nat.le_of_ble_eq_true rfl) hlocks (fun t9 _ h1 h2 => ⟨(), trivial, Or.inr ⟨rfl, tj, kj, htj, rfl, hkj, rfl, h3⟩, Nat.le_trans hS.1 h1, fun q hq _ => (h2 q (Nat.lt_of_lt_of_le hq hS.1)).trans (hS.2.1 q hq (Nat.not_le.mpr hq))⟩) (fun z hz => hS.2.2 z hz) (Nat.le_of_ble_eq_true rfl) (Nat.le_of_ble_eq_true rfl)
set_option maxHeartbeats 4000000 in
set_option maxRecDepth 100000 in
theorem c_S_stamp (l : Launch) (hnt : l.stackTraces = false) (Γ : gE) (H : Heap) {x ro md : Nat} {rt : Nat → Option Nat} {Vs : Nat → Nat → Option Int64} {Ss : Nat → Nat → Int32} {t k : Int32} (hX0 : SX Γ H x ro md rt Vs Ss) : vx_Met l yS_stamp wS_stamp ({ frames := 20, cells := 3, slots := 18, locals := 1000 }) (gP Γ H [.ref x, .int t, .int k]) (va_Qi (fun r (u : Nat × Nat) => u.1 < md ∧ t = nI u.1 ∧ u.2 < 1024 ∧ k = nI u.2 ∧ r = Ss u.1 u.2) (fun _ t' => t'.heap = H) (fun _ => False)) (xT (fun E => E = xIA ∧ ¬ (inT t md ∧ inT k 1024))) 3 18 (fun q => H.size ≤ q) := by
  refine vx_ofW (cc := cS_stamp) (maxL := 3) (ret := (some .int)) (by decide) rfl ?_
  intro p e s m args below meth c s₁ B hml htab hv
  obtain ⟨rfl, rfl, hW⟩ := hv
  have hx := B.exec
  have hb := B.bytes
  have hr := B.returns
  have hg : ∀ w ∈ gW, w.before _ s = true := fun w h => atoms_spec (ws := wS_stamp) B.pre w (List.mem_cons_of_mem _ h)
  have hown : s.vm.findClass RS = some m.cls := findClass_of_methodNamed B.named
  have hlocks := B.notSynchronized
  have hS : va_S (gA Γ) s.heap s.heap [] := va_S.rf
  have hl := lv_entry ([.ref x, .int t, .int k]) (n := 3) (Nat.le_of_ble_eq_true rfl)
  rw [lg_entry_eq]
  generalize (lg_sl ([.ref x, .int t, .int k]) ++ List.replicate (3 - (lg_sl ([.ref x, .int t, .int k])).length) Slot.unset).toArray = ls at hl ⊢
  have hl : lv_has ls 3 [(0, .ref x), (1, .int t), (2, .int k)] := hl
  have hS : va_S (nA s) s.heap s.heap [] := va_S.rf
  obtain ⟨hO, hR, hmd, hT⟩ := hX0
  refine lv_aload_n hx hb dS_stamp_0 rfl (lv_at hl 0 rfl) ?_
  refine lv_iload_n hx hb dS_stamp_1 rfl (lv_at hl 1 rfl) ?_
  refine vx_callv (vx_runV (As := [.int t]) (rest := []) ⟨hx, hb, hml, hown, hg⟩ (c_S_checkTable l hnt Γ s.heap (t := t) hO (by omega)) (cwV 1 hg gS_35 rfl rfl rfl (by decide +kernel) ⟨Nat.le_of_ble_eq_true rfl, Nat.le_of_ble_eq_true rfl⟩) (gP_V hW (vS_g hW hS) (ci := 1) rfl hO) rfl rfl hl.1 rfl (lv_room (Nat.le_of_ble_eq_true rfl)) dS_stamp_2 ⟨Nat.le_of_ble_eq_true rfl, Nat.le_of_ble_eq_true rfl⟩) hS (fun q _ h => h.elim) (fun q h => Nat.le_trans hS.1 h) (fun q _ h => h.elim) (fun E ce q9 u tx H1 locs1 ht hvm hpx hBX hz1 hk1 hS hcell hcv hcl => ?_) (fun u t9 H1 locs1 ht hvm hp hB hz1 hk1 hS => ?_)
  · exact vx_out (E := E) (mc := 3) (ms := 18) (fun x h => (htab x h).elim) hlocks hcell hcv hcl (fun t9 h9 _ => ⟨(), trivial, ⟨hBX.1, fun h => hBX.2 h.1⟩, by rw [h9]; exact hS.1, fun q hq _ => by rw [h9]; exact hS.2.1 q hq (Nat.not_le.mpr hq)⟩) (fun z hz => hS.2.2 z hz) (Nat.le_of_ble_eq_true rfl) (Nat.le_of_ble_eq_true rfl)
  have hHH : H1 = s.heap := ht.symm.trans hB
  subst hHH
  have h1 := hp
  refine lv_iload_n hx hb dS_stamp_5 rfl (lv_at hl 2 rfl) ?_
  refine vx_callv (vx_runS (As := [.int k]) (rest := []) ⟨hx, hb, hml, hown, hg⟩ (c_S_checkKey l hnt Γ s.heap (k := k)) (va_cwS 1 hg gS_39 rfl rfl rfl (by decide +kernel) ⟨Nat.le_of_ble_eq_true rfl, Nat.le_of_ble_eq_true rfl⟩) (gP_S hW (vS_g hW hS)) rfl rfl hl.1 rfl (lv_room (Nat.le_of_ble_eq_true rfl)) dS_stamp_6 ⟨Nat.le_of_ble_eq_true rfl, Nat.le_of_ble_eq_true rfl⟩) hS (fun q _ h => h.elim) (fun q h => Nat.le_trans hS.1 h) (fun q _ h => h.elim) (fun E ce q9 u tx H1 locs1 ht hvm hpx hBX hz1 hk1 hS hcell hcv hcl => ?_) (fun u t9 H1 locs1 ht hvm hp hB hz1 hk1 hS => ?_)
  · exact vx_out (E := E) (mc := 3) (ms := 18) (fun x h => (htab x h).elim) hlocks hcell hcv hcl (fun t9 h9 _ => ⟨(), trivial, ⟨hBX.1, fun h => hBX.2 h.2⟩, by rw [h9]; exact hS.1, fun q hq _ => by rw [h9]; exact hS.2.1 q hq (Nat.not_le.mpr hq)⟩) (fun z hz => hS.2.2 z hz) (Nat.le_of_ble_eq_true rfl) (Nat.le_of_ble_eq_true rfl)
  have hHH : H1 = s.heap := ht.symm.trans hB
  subst hHH
  have h2 := hp
  obtain ⟨tj, htj, rfl⟩ := h1
  obtain ⟨kj, hkj, rfl⟩ := h2
  refine lv_aload_n hx hb dS_stamp_9 rfl (lv_at hl 0 rfl) ?_
  refine va_get (D := Γ.1) (ci := 1) (v := .ref ro) (C := RS) (T := TS) (N := 2) hx hb hg inS hown hW.1 (p1 hO) 0 rfl rfl 0 (by decide) (hg _ kw31) (fun _ h9 => h9) rfl dS_stamp_10 ?_
  refine lv_iload_n hx hb dS_stamp_13 rfl (lv_at hl 1 rfl) ?_
  refine va_aldq (D := Γ.1) (cl := gC) (tys := gT Γ) hx hb hW.1 (p1 hR) 0 1 rfl rfl (vp_in_nI (show tj < 400 by omega) (by omega)) dS_stamp_14 ?_
  rw [nI_clamp (show tj < 2 ^ 31 by omega)]
  refine lv_iload_n hx hb dS_stamp_15 rfl (lv_at hl 2 rfl) ?_
  refine va_csq (W.runS (As := [va_rf (rt tj), .int (nI kj)]) (rest := []) ⟨hx, hb, hml, hown, hg⟩ (c_S_leafOf l Γ s.heap (hT tj htj).2 hkj) (va_cwS 2 hg gS_42 rfl rfl rfl (by decide +kernel) ⟨Nat.le_of_ble_eq_true rfl, Nat.le_of_ble_eq_true rfl⟩) (gP_S hW (vS_g hW hS)) rfl rfl hl.1 rfl (lv_room (Nat.le_of_ble_eq_true rfl)) dS_stamp_16 ⟨Nat.le_of_ble_eq_true rfl, Nat.le_of_ble_eq_true rfl⟩) (fun r1 hr1 => ?_)
  obtain ⟨f, hf, hv⟩ := hr1.f
  have hv : ∀ w, w ≤ 4 → f w = lfv (Vs tj) (Ss tj) w kj := fun w hw => (hv w hw).trans (ag_one (hT tj htj).1 hw kj)
  refine lv_iconst (v := 4) hx hb dS_stamp_19 (by decide) ?_
  refine vp_callSl (W.runS (As := [va_rf r1, .int 4]) (rest := []) ⟨hx, hb, hml, hown, hg⟩ (c_S_takenOf l Γ s.heap (w := 4) (by omega) hf) (va_cwS 2 hg gS_46 rfl rfl rfl (by decide +kernel) ⟨Nat.le_of_ble_eq_true rfl, Nat.le_of_ble_eq_true rfl⟩) (gP_S hW (vS_g hW hS)) rfl rfl hl.1 rfl (lv_room (Nat.le_of_ble_eq_true rfl)) dS_stamp_20 ⟨Nat.le_of_ble_eq_true rfl, Nat.le_of_ble_eq_true rfl⟩) (fun x0 hx0 => ?_)
  refine lv_l2i (v := x0.toInt32) hx hb dS_stamp_23 rfl ?_
  refine W.widen (k := 3) (n := 18) (Nat.le_of_ble_eq_true rfl) (Nat.le_of_ble_eq_true rfl) ?_
  refine vx_ret ?_
  exact W.iret (v := x0.toInt32) hx hb hr (fun t8 ht8 hW9 => ⟨⟨x0.toInt32, (tj, kj), rfl, ⟨htj, rfl, hkj, rfl, by rw [hx0, hv 4 (by omega)]; simp [lfv]⟩, ht8⟩, vS_F hS ht8⟩) (fun q hq => hS.2.2 q hq) dS_stamp_24
set_option maxHeartbeats 4000000 in
set_option maxRecDepth 100000 in
theorem c_S_part (l : Launch) (hnt : l.stackTraces = false) (Γ : gE) (H : Heap) {x ro md : Nat} {rt : Nat → Option Nat} {Vs : Nat → Nat → Option Int64} {Ss : Nat → Nat → Int32} {t lo hi wh : Int32} (hX0 : SX Γ H x ro md rt Vs Ss) : vx_Met l yS_part wS_part ({ frames := 40, cells := 4, slots := 24, locals := 4000 }) (gP Γ H [.ref x, .int t, .int lo, .int hi, .int wh]) (va_Ql (fun r (u : Nat × Nat × Nat × Nat) => u.1 < md ∧ t = nI u.1 ∧ u.2.1 < 1024 ∧ lo = nI u.2.1 ∧ u.2.2.1 < 1024 ∧ hi = nI u.2.2.1 ∧ u.2.2.2 < 5 ∧ wh = nI u.2.2.2 ∧ u.2.1 ≤ u.2.2.1 ∧ r = ag (Vs u.1) (Ss u.1) u.2.2.2 u.2.1 (u.2.2.1 + 1 - u.2.1)) (fun _ t' => t'.heap = H) (fun _ => False)) (xT (fun E => E = xIA ∧ ¬ (inT t md ∧ inT lo 1024 ∧ inT hi 1024 ∧ lo ≤ hi ∧ inT wh 5))) 4 24 (fun q => H.size ≤ q) := by
  refine vx_ofW (cc := cS_part) (maxL := 5) (ret := (some .long)) (by decide) rfl ?_
  intro p e s m args below meth c s₁ B hml htab hv
  obtain ⟨rfl, rfl, hW⟩ := hv
  have hx := B.exec
  have hb := B.bytes
  have hr := B.returns
  have hg : ∀ w ∈ gW, w.before _ s = true := fun w h => atoms_spec (ws := wS_part) B.pre w (List.mem_cons_of_mem _ h)
  have hown : s.vm.findClass RS = some m.cls := findClass_of_methodNamed B.named
  have hlocks := B.notSynchronized
  have hS : va_S (gA Γ) s.heap s.heap [] := va_S.rf
  have hl := lv_entry ([.ref x, .int t, .int lo, .int hi, .int wh]) (n := 5) (Nat.le_of_ble_eq_true rfl)
  rw [lg_entry_eq]
  generalize (lg_sl ([.ref x, .int t, .int lo, .int hi, .int wh]) ++ List.replicate (5 - (lg_sl ([.ref x, .int t, .int lo, .int hi, .int wh])).length) Slot.unset).toArray = ls at hl ⊢
  have hl : lv_has ls 5 [(0, .ref x), (1, .int t), (2, .int lo), (3, .int hi), (4, .int wh)] := hl
  have hS : va_S (nA s) s.heap s.heap [] := va_S.rf
  obtain ⟨hO, hR, hmd, hT⟩ := hX0
  refine lv_aload_n hx hb dS_part_0 rfl (lv_at hl 0 rfl) ?_
  refine lv_iload_n hx hb dS_part_1 rfl (lv_at hl 1 rfl) ?_
  refine vx_callv (vx_runV (As := [.int t]) (rest := []) ⟨hx, hb, hml, hown, hg⟩ (c_S_checkTable l hnt Γ s.heap (t := t) hO (by omega)) (cwV 1 hg gS_35 rfl rfl rfl (by decide +kernel) ⟨Nat.le_of_ble_eq_true rfl, Nat.le_of_ble_eq_true rfl⟩) (gP_V hW (vS_g hW hS) (ci := 1) rfl hO) rfl rfl hl.1 rfl (lv_room (Nat.le_of_ble_eq_true rfl)) dS_part_2 ⟨Nat.le_of_ble_eq_true rfl, Nat.le_of_ble_eq_true rfl⟩) hS (fun q _ h => h.elim) (fun q h => Nat.le_trans hS.1 h) (fun q _ h => h.elim) (fun E ce q9 u tx H1 locs1 ht hvm hpx hBX hz1 hk1 hS hcell hcv hcl => ?_) (fun u t9 H1 locs1 ht hvm hp hB hz1 hk1 hS => ?_)
  · exact vx_out (E := E) (mc := 4) (ms := 24) (fun x h => (htab x h).elim) hlocks hcell hcv hcl (fun t9 h9 _ => ⟨(), trivial, ⟨hBX.1, fun h => hBX.2 h.1⟩, by rw [h9]; exact hS.1, fun q hq _ => by rw [h9]; exact hS.2.1 q hq (Nat.not_le.mpr hq)⟩) (fun z hz => hS.2.2 z hz) (Nat.le_of_ble_eq_true rfl) (Nat.le_of_ble_eq_true rfl)
  have hHH : H1 = s.heap := ht.symm.trans hB
  subst hHH
  have h1 := hp
  refine lv_iload_n hx hb dS_part_5 rfl (lv_at hl 2 rfl) ?_
  refine vx_callv (vx_runS (As := [.int lo]) (rest := []) ⟨hx, hb, hml, hown, hg⟩ (c_S_checkKey l hnt Γ s.heap (k := lo)) (va_cwS 1 hg gS_39 rfl rfl rfl (by decide +kernel) ⟨Nat.le_of_ble_eq_true rfl, Nat.le_of_ble_eq_true rfl⟩) (gP_S hW (vS_g hW hS)) rfl rfl hl.1 rfl (lv_room (Nat.le_of_ble_eq_true rfl)) dS_part_6 ⟨Nat.le_of_ble_eq_true rfl, Nat.le_of_ble_eq_true rfl⟩) hS (fun q _ h => h.elim) (fun q h => Nat.le_trans hS.1 h) (fun q _ h => h.elim) (fun E ce q9 u tx H1 locs1 ht hvm hpx hBX hz1 hk1 hS hcell hcv hcl => ?_) (fun u t9 H1 locs1 ht hvm hp hB hz1 hk1 hS => ?_)
  · exact vx_out (E := E) (mc := 4) (ms := 24) (fun x h => (htab x h).elim) hlocks hcell hcv hcl (fun t9 h9 _ => ⟨(), trivial, ⟨hBX.1, fun h => hBX.2 h.2.1⟩, by rw [h9]; exact hS.1, fun q hq _ => by rw [h9]; exact hS.2.1 q hq (Nat.not_le.mpr hq)⟩) (fun z hz => hS.2.2 z hz) (Nat.le_of_ble_eq_true rfl) (Nat.le_of_ble_eq_true rfl)
  have hHH : H1 = s.heap := ht.symm.trans hB
  subst hHH
  have h2 := hp
  refine lv_iload_n hx hb dS_part_9 rfl (lv_at hl 3 rfl) ?_
  refine vx_callv (vx_runS (As := [.int hi]) (rest := []) ⟨hx, hb, hml, hown, hg⟩ (c_S_checkKey l hnt Γ s.heap (k := hi)) (va_cwS 1 hg gS_39 rfl rfl rfl (by decide +kernel) ⟨Nat.le_of_ble_eq_true rfl, Nat.le_of_ble_eq_true rfl⟩) (gP_S hW (vS_g hW hS)) rfl rfl hl.1 rfl (lv_room (Nat.le_of_ble_eq_true rfl)) dS_part_10 ⟨Nat.le_of_ble_eq_true rfl, Nat.le_of_ble_eq_true rfl⟩) hS (fun q _ h => h.elim) (fun q h => Nat.le_trans hS.1 h) (fun q _ h => h.elim) (fun E ce q9 u tx H1 locs1 ht hvm hpx hBX hz1 hk1 hS hcell hcv hcl => ?_) (fun u t9 H1 locs1 ht hvm hp hB hz1 hk1 hS => ?_)
  · exact vx_out (E := E) (mc := 4) (ms := 24) (fun x h => (htab x h).elim) hlocks hcell hcv hcl (fun t9 h9 _ => ⟨(), trivial, ⟨hBX.1, fun h => hBX.2 h.2.2.1⟩, by rw [h9]; exact hS.1, fun q hq _ => by rw [h9]; exact hS.2.1 q hq (Nat.not_le.mpr hq)⟩) (fun z hz => hS.2.2 z hz) (Nat.le_of_ble_eq_true rfl) (Nat.le_of_ble_eq_true rfl)
  have hHH : H1 = s.heap := ht.symm.trans hB
  subst hHH
  have h3 := hp
  refine lv_iload_n hx hb dS_part_13 rfl (lv_at hl 2 rfl) ?_
  refine lv_iload_n hx hb dS_part_14 rfl (lv_at hl 3 rfl) ?_
  refine lv_icmp_le (tgt := 28) hx hb dS_part_15 (by decide) (fun c1 => ?_) (fun c1 => ?_)
  · refine lv_iload hx hb dS_part_28 (lv_at hl 4 rfl) ?_
    refine lv_if_lt (tgt := 39) hx hb dS_part_30 (by decide) (fun c2 => ?_) (fun c2 => ?_)
    · obtain ⟨sa, hstr⟩ := hW.2.1.2.1 (62, "no such what") (List.mem_of_getElem? (i := 6) rfl)
      exact vx_throwS (own := RS) (cls := xIA) (text := "no such what") (names := xNs) (ik := 57) (is := 62) (ic := 61) (mc := 4) (ms := 24) (sa := sa) (A := gA Γ) hx hb hnt hown (by decide) (by decide) (hg _ kw59) (hg _ kw16) hstr (x_hat xw_IA xb_IA hg hW.2.1) xg_IA hW.2.2.2.1 hW.2.2.2.2 (vS_g hW hS) (by rw [hml]; exact hl.1) dS_part_39 dS_part_42 dS_part_43 dS_part_45 dS_part_48 (fun x h => (htab x h).elim) (Nat.lt_of_succ_le (Nat.le_of_ble_eq_true rfl)) (Nat.le_of_ble_eq_true rfl) (Nat.le_of_ble_eq_true rfl) (Nat.le_of_ble_eq_true rfl) hlocks (fun t9 _ h1 h2 => ⟨(), trivial, ⟨rfl, fun h => (inT_no (by omega)).mpr (Or.inl c2) h.2.2.2.2⟩, Nat.le_trans hS.1 h1, fun q hq _ => (h2 q (Nat.lt_of_lt_of_le hq hS.1)).trans (hS.2.1 q hq (Nat.not_le.mpr hq))⟩) (fun z hz => hS.2.2 z hz) (Nat.le_of_ble_eq_true rfl) (Nat.le_of_ble_eq_true rfl)
    · refine lv_iload hx hb dS_part_33 (lv_at hl 4 rfl) ?_
      refine lv_iconst (v := 4) hx hb dS_part_35 (by decide) ?_
      refine lv_icmp_le (tgt := 49) hx hb dS_part_36 (by decide) (fun c3 => ?_) (fun c3 => ?_)
      · have h5 : inT wh 5 := by
          rcases pk_ix wh (show 5 < 2 ^ 31 by omega) with h | h | h
          · exact absurd h c2
          · exact absurd (Int32.le_trans h c3) (by decide)
          · exact h
        obtain ⟨tj, htj, rfl⟩ := h1
        obtain ⟨lj, hlj, rfl⟩ := h2
        obtain ⟨hj, hhj, rfl⟩ := h3
        obtain ⟨wj, hwj, rfl⟩ := h5
        have hle : lj ≤ hj := (nI_leI (by omega) (by omega)).mp c1
        refine lv_aload_n hx hb dS_part_49 rfl (lv_at hl 0 rfl) ?_
        refine va_get (D := Γ.1) (ci := 1) (v := .ref ro) (C := RS) (T := TS) (N := 2) hx hb hg inS hown hW.1 (p1 hO) 0 rfl rfl 0 (by decide) (hg _ kw31) (fun _ h9 => h9) rfl dS_part_50 ?_
        refine lv_iload_n hx hb dS_part_53 rfl (lv_at hl 1 rfl) ?_
        refine va_aldq (D := Γ.1) (cl := gC) (tys := gT Γ) hx hb hW.1 (p1 hR) 0 1 rfl rfl (vp_in_nI (show tj < 400 by omega) (by omega)) dS_part_54 ?_
        rw [nI_clamp (show tj < 2 ^ 31 by omega)]
        refine lv_bipush (v := 10) hx hb dS_part_55 (by decide) ?_
        refine lv_iconst (v := 0) hx hb dS_part_57 (by decide) ?_
        refine lv_iload_n hx hb dS_part_58 rfl (lv_at hl 2 rfl) ?_
        refine lv_iload_n hx hb dS_part_59 rfl (lv_at hl 3 rfl) ?_
        refine lv_iload hx hb dS_part_60 (lv_at hl 4 rfl) ?_
        refine vp_callSl (W.runS (As := [va_rf (rt tj), .int 10, .int 0, .int (nI lj), .int (nI hj), .int (nI wj)]) (rest := []) ⟨hx, hb, hml, hown, hg⟩ (c_S_takenWithin l Γ s.heap (lo := lj) (hi := hj) (w := wj) (hT tj htj).1 (by omega) hlj hhj 10 0 (rt tj) (Nat.le_refl _) (by decide) (hT tj htj).2) (va_cwS 6 hg gS_64 rfl rfl rfl (by decide +kernel) ⟨Nat.le_of_ble_eq_true rfl, Nat.le_of_ble_eq_true rfl⟩) (gP_S hW (vS_g hW hS)) rfl rfl hl.1 rfl (lv_room (Nat.le_of_ble_eq_true rfl)) dS_part_62 ⟨Nat.le_of_ble_eq_true rfl, Nat.le_of_ble_eq_true rfl⟩) (fun x0 hx0 => ?_)
        refine W.widen (k := 4) (n := 24) (Nat.le_of_ble_eq_true rfl) (Nat.le_of_ble_eq_true rfl) ?_
        refine vx_ret ?_
        exact W.lret (v := x0) hx hb hr (fun t8 ht8 hW9 => ⟨⟨x0, (tj, lj, hj, wj), rfl, ⟨htj, rfl, hlj, rfl, hhj, rfl, hwj, rfl, hle, hx0.trans (ag_r_all (hT tj htj).1 (by omega) hle hhj)⟩, ht8⟩, vS_F hS ht8⟩) (fun q hq => hS.2.2 q hq) dS_part_65
      · obtain ⟨sa, hstr⟩ := hW.2.1.2.1 (62, "no such what") (List.mem_of_getElem? (i := 6) rfl)
        exact vx_throwS (own := RS) (cls := xIA) (text := "no such what") (names := xNs) (ik := 57) (is := 62) (ic := 61) (mc := 4) (ms := 24) (sa := sa) (A := gA Γ) hx hb hnt hown (by decide) (by decide) (hg _ kw59) (hg _ kw16) hstr (x_hat xw_IA xb_IA hg hW.2.1) xg_IA hW.2.2.2.1 hW.2.2.2.2 (vS_g hW hS) (by rw [hml]; exact hl.1) dS_part_39 dS_part_42 dS_part_43 dS_part_45 dS_part_48 (fun x h => (htab x h).elim) (Nat.lt_of_succ_le (Nat.le_of_ble_eq_true rfl)) (Nat.le_of_ble_eq_true rfl) (Nat.le_of_ble_eq_true rfl) (Nat.le_of_ble_eq_true rfl) hlocks (fun t9 _ h1 h2 => ⟨(), trivial, ⟨rfl, fun h => by obtain ⟨j, hj, rfl⟩ := h.2.2.2.2; exact c3 (nI_le (a := j) (b := 4) (by omega) (by omega))⟩, Nat.le_trans hS.1 h1, fun q hq _ => (h2 q (Nat.lt_of_lt_of_le hq hS.1)).trans (hS.2.1 q hq (Nat.not_le.mpr hq))⟩) (fun z hz => hS.2.2 z hz) (Nat.le_of_ble_eq_true rfl) (Nat.le_of_ble_eq_true rfl)
  · obtain ⟨sa, hstr⟩ := hW.2.1.2.1 (59, "low is above high") (List.mem_of_getElem? (i := 5) rfl)
    exact vx_throwS (own := RS) (cls := xIA) (text := "low is above high") (names := xNs) (ik := 57) (is := 59) (ic := 61) (mc := 4) (ms := 24) (sa := sa) (A := gA Γ) hx hb hnt hown (by decide) (by decide) (hg _ kw59) (hg _ kw16) hstr (x_hat xw_IA xb_IA hg hW.2.1) xg_IA hW.2.2.2.1 hW.2.2.2.2 (vS_g hW hS) (by rw [hml]; exact hl.1) dS_part_18 dS_part_21 dS_part_22 dS_part_24 dS_part_27 (fun x h => (htab x h).elim) (Nat.lt_of_succ_le (Nat.le_of_ble_eq_true rfl)) (Nat.le_of_ble_eq_true rfl) (Nat.le_of_ble_eq_true rfl) (Nat.le_of_ble_eq_true rfl) hlocks (fun t9 _ h1 h2 => ⟨(), trivial, ⟨rfl, fun h => c1 h.2.2.2.1⟩, Nat.le_trans hS.1 h1, fun q hq _ => (h2 q (Nat.lt_of_lt_of_le hq hS.1)).trans (hS.2.1 q hq (Nat.not_le.mpr hq))⟩) (fun z hz => hS.2.2 z hz) (Nat.le_of_ble_eq_true rfl) (Nat.le_of_ble_eq_true rfl)
set_option maxHeartbeats 4000000 in
set_option maxRecDepth 100000 in
theorem c_S_at (l : Launch) (hnt : l.stackTraces = false) (Γ : gE) (H : Heap) {x ro md : Nat} {rt : Nat → Option Nat} {Vs : Nat → Nat → Option Int64} {Ss : Nat → Nat → Int32} {t k : Int32} (hX0 : SX Γ H x ro md rt Vs Ss) : vx_Met l yS_at wS_at ({ frames := 40, cells := 2, slots := 12, locals := 4000 }) (gP Γ H [.ref x, .int t, .int k]) (va_Qi (fun r (u : Nat × Nat) => u.1 < md ∧ t = nI u.1 ∧ u.2 < 1024 ∧ r = nI u.2 ∧ (Vs u.1 u.2).isSome = true ∧ k = nI (cnt (Vs u.1) 0 u.2)) (fun _ t' => t'.heap = H) (fun _ => False)) (xT (fun E => (E = xIA ∧ ¬ inT t md) ∨ (E = xIO ∧ ∃ tj, tj < md ∧ t = nI tj ∧ ¬ inT k (cnt (Vs tj) 0 1024)))) 2 12 (fun q => H.size ≤ q) := by
  refine vx_ofW (cc := cS_at) (maxL := 4) (ret := (some .int)) (by decide) rfl ?_
  intro p e s m args below meth c s₁ B hml htab hv
  obtain ⟨rfl, rfl, hW⟩ := hv
  have hx := B.exec
  have hb := B.bytes
  have hr := B.returns
  have hg : ∀ w ∈ gW, w.before _ s = true := fun w h => atoms_spec (ws := wS_at) B.pre w (List.mem_cons_of_mem _ h)
  have hown : s.vm.findClass RS = some m.cls := findClass_of_methodNamed B.named
  have hlocks := B.notSynchronized
  have hS : va_S (gA Γ) s.heap s.heap [] := va_S.rf
  have hl := lv_entry ([.ref x, .int t, .int k]) (n := 4) (Nat.le_of_ble_eq_true rfl)
  rw [lg_entry_eq]
  generalize (lg_sl ([.ref x, .int t, .int k]) ++ List.replicate (4 - (lg_sl ([.ref x, .int t, .int k])).length) Slot.unset).toArray = ls at hl ⊢
  have hl : lv_has ls 4 [(0, .ref x), (1, .int t), (2, .int k)] := hl
  have hS : va_S (nA s) s.heap s.heap [] := va_S.rf
  obtain ⟨hO, hR, hmd, hT⟩ := hX0
  refine lv_aload_n hx hb dS_at_0 rfl (lv_at hl 0 rfl) ?_
  refine lv_iload_n hx hb dS_at_1 rfl (lv_at hl 1 rfl) ?_
  refine vx_callv (vx_runV (As := [.int t]) (rest := []) ⟨hx, hb, hml, hown, hg⟩ (c_S_checkTable l hnt Γ s.heap (t := t) hO (by omega)) (cwV 1 hg gS_35 rfl rfl rfl (by decide +kernel) ⟨Nat.le_of_ble_eq_true rfl, Nat.le_of_ble_eq_true rfl⟩) (gP_V hW (vS_g hW hS) (ci := 1) rfl hO) rfl rfl hl.1 rfl (lv_room (Nat.le_of_ble_eq_true rfl)) dS_at_2 ⟨Nat.le_of_ble_eq_true rfl, Nat.le_of_ble_eq_true rfl⟩) hS (fun q _ h => h.elim) (fun q h => Nat.le_trans hS.1 h) (fun q _ h => h.elim) (fun E ce q9 u tx H1 locs1 ht hvm hpx hBX hz1 hk1 hS hcell hcv hcl => ?_) (fun u t9 H1 locs1 ht hvm hp hB hz1 hk1 hS => ?_)
  · exact vx_out (E := E) (mc := 2) (ms := 12) (fun x h => (htab x h).elim) hlocks hcell hcv hcl (fun t9 h9 _ => ⟨(), trivial, Or.inl hBX, by rw [h9]; exact hS.1, fun q hq _ => by rw [h9]; exact hS.2.1 q hq (Nat.not_le.mpr hq)⟩) (fun z hz => hS.2.2 z hz) (Nat.le_of_ble_eq_true rfl) (Nat.le_of_ble_eq_true rfl)
  have hHH : H1 = s.heap := ht.symm.trans hB
  subst hHH
  have h1 := hp
  obtain ⟨tj, htj, rfl⟩ := h1
  refine lv_aload_n hx hb dS_at_5 rfl (lv_at hl 0 rfl) ?_
  refine va_get (D := Γ.1) (ci := 1) (v := .ref ro) (C := RS) (T := TS) (N := 2) hx hb hg inS hown hW.1 (p1 hO) 0 rfl rfl 0 (by decide) (hg _ kw31) (fun _ h9 => h9) rfl dS_at_6 ?_
  refine lv_iload_n hx hb dS_at_9 rfl (lv_at hl 1 rfl) ?_
  refine va_aldq (D := Γ.1) (cl := gC) (tys := gT Γ) hx hb hW.1 (p1 hR) 0 1 rfl rfl (vp_in_nI (show tj < 400 by omega) (by omega)) dS_at_10 ?_
  rw [nI_clamp (show tj < 2 ^ 31 by omega)]
  have hTt := (hT tj htj).2
  have hwt := (hT tj htj).1
  generalize rt tj = r1 at hTt ⊢
  obtain ⟨f, hf, hv⟩ := hTt.f
  have hc9 := cnt_le (Vs tj) 0 1024
  refine q_astore_n (lv' := [(3, va_rf r1), (0, .ref x), (1, .int (nI tj)), (2, .int k)]) hx hb dS_at_11 rfl hl (by decide) rfl (fun ls hl => ?_)
  refine lv_iload_n hx hb dS_at_12 rfl (lv_at hl 3 rfl) ?_
  refine lv_if_lt (tgt := 27) hx hb dS_at_13 (by decide) (fun c1 => ?_) (fun c1 => ?_)
  · obtain ⟨sa, hstr⟩ := hW.2.1.2.1 (70, "no key has so many keys with numbers below it") (List.mem_of_getElem? (i := 7) rfl)
    exact vx_throwS (own := RS) (cls := xIO) (text := "no key has so many keys with numbers below it") (names := xNs) (ik := 68) (is := 70) (ic := 72) (mc := 2) (ms := 12) (sa := sa) (A := gA Γ) hx hb hnt hown (by decide) (by decide) (hg _ kw133) (hg _ kw17) hstr (x_hat xw_IO xb_IO hg hW.2.1) xg_IO hW.2.2.2.1 hW.2.2.2.2 (vS_g hW hS) (by rw [hml]; exact hl.1) dS_at_27 dS_at_30 dS_at_31 dS_at_33 dS_at_36 (fun x h => (htab x h).elim) (Nat.lt_of_succ_le (Nat.le_of_ble_eq_true rfl)) (Nat.le_of_ble_eq_true rfl) (Nat.le_of_ble_eq_true rfl) (Nat.le_of_ble_eq_true rfl) hlocks (fun t9 _ h1 h2 => ⟨(), trivial, Or.inr ⟨rfl, tj, htj, rfl, (inT_no (by omega)).mpr (Or.inl c1)⟩, Nat.le_trans hS.1 h1, fun q hq _ => (h2 q (Nat.lt_of_lt_of_le hq hS.1)).trans (hS.2.1 q hq (Nat.not_le.mpr hq))⟩) (fun z hz => hS.2.2 z hz) (Nat.le_of_ble_eq_true rfl) (Nat.le_of_ble_eq_true rfl)
  · obtain ⟨kn, hkn, rfl⟩ := nI_of c1
    refine lv_iload_n hx hb dS_at_16 rfl (lv_at hl 3 rfl) ?_
    refine lv_i2l (v := (nI kn).toInt64) hx hb dS_at_17 rfl ?_
    refine q_aload_n hx hb dS_at_18 rfl (lv_at hl 0 rfl) ?_
    refine lv_iconst (v := 0) hx hb dS_at_19 (by decide) ?_
    refine vp_callSl (W.runS (As := [va_rf r1, .int 0]) (rest := [.long ((nI kn).toInt64)]) ⟨hx, hb, hml, hown, hg⟩ (c_S_takenOf l Γ s.heap (w := 0) (by omega) hf) (va_cwS 2 hg gS_46 rfl rfl rfl (by decide +kernel) ⟨Nat.le_of_ble_eq_true rfl, Nat.le_of_ble_eq_true rfl⟩) (gP_S hW (vS_g hW hS)) rfl rfl hl.1 rfl (lv_room (Nat.le_of_ble_eq_true rfl)) dS_at_20 ⟨Nat.le_of_ble_eq_true rfl, Nat.le_of_ble_eq_true rfl⟩) (fun x0 hx0 => ?_)
    have e0 : x0 = lN (cnt (Vs tj) 0 1024) := by rw [hx0, hv 0 (by omega), ag_cnt]
    subst e0
    refine W.lcmp hx hb dS_at_23 ?_
    refine lv_if_lt (tgt := 37) hx hb dS_at_24 (by decide) (fun c2 => ?_) (fun c2 => ?_)
    · have h2 : kn < cnt (Vs tj) 0 1024 := by
        have h3 := (lg_cmp_lt _ _).mp c2
        rw [nI_l hkn] at h3
        exact (lN_lt hkn (by omega)).mp h3
      refine q_aload_n hx hb dS_at_37 rfl (lv_at hl 0 rfl) ?_
      refine lv_iload_n hx hb dS_at_38 rfl (lv_at hl 3 rfl) ?_
      refine vp_callSi (W.runS (As := [va_rf r1, .int (nI kn)]) (rest := []) ⟨hx, hb, hml, hown, hg⟩ (c_S_keyBehind l Γ s.heap hwt hTt h2) (va_cwS 2 hg gS_73 rfl rfl rfl (by decide +kernel) ⟨Nat.le_of_ble_eq_true rfl, Nat.le_of_ble_eq_true rfl⟩) (gP_S hW (vS_g hW hS)) rfl rfl hl.1 rfl (lv_room (Nat.le_of_ble_eq_true rfl)) dS_at_39 ⟨Nat.le_of_ble_eq_true rfl, Nat.le_of_ble_eq_true rfl⟩) (fun x1 hx1 => ?_)
      obtain ⟨K, hK, eK, hsK, hcK⟩ := hx1
      refine W.widen (k := 2) (n := 12) (Nat.le_of_ble_eq_true rfl) (Nat.le_of_ble_eq_true rfl) ?_
      refine vx_ret ?_
      exact W.iret (v := x1) hx hb hr (fun t8 ht8 hW9 => ⟨⟨x1, (tj, K), rfl, ⟨htj, rfl, hK, eK, hsK, by rw [hcK]⟩, ht8⟩, vS_F hS ht8⟩) (fun q hq => hS.2.2 q hq) dS_at_42
    · obtain ⟨sa, hstr⟩ := hW.2.1.2.1 (70, "no key has so many keys with numbers below it") (List.mem_of_getElem? (i := 7) rfl)
      exact vx_throwS (own := RS) (cls := xIO) (text := "no key has so many keys with numbers below it") (names := xNs) (ik := 68) (is := 70) (ic := 72) (mc := 2) (ms := 12) (sa := sa) (A := gA Γ) hx hb hnt hown (by decide) (by decide) (hg _ kw133) (hg _ kw17) hstr (x_hat xw_IO xb_IO hg hW.2.1) xg_IO hW.2.2.2.1 hW.2.2.2.2 (vS_g hW hS) (by rw [hml]; exact hl.1) dS_at_27 dS_at_30 dS_at_31 dS_at_33 dS_at_36 (fun x h => (htab x h).elim) (Nat.lt_of_succ_le (Nat.le_of_ble_eq_true rfl)) (Nat.le_of_ble_eq_true rfl) (Nat.le_of_ble_eq_true rfl) (Nat.le_of_ble_eq_true rfl) hlocks (fun t9 _ h1 h2 => ⟨(), trivial, Or.inr ⟨rfl, tj, htj, rfl, fun h => by obtain ⟨j, hj, ej⟩ := h; rw [(nI_eq hkn (by omega)).mp ej] at c2; exact c2 ((lg_cmp_lt _ _).mpr (by rw [nI_l (by omega)]; exact (lN_lt (by omega) (by omega)).mpr hj))⟩, Nat.le_trans hS.1 h1, fun q hq _ => (h2 q (Nat.lt_of_lt_of_le hq hS.1)).trans (hS.2.1 q hq (Nat.not_le.mpr hq))⟩) (fun z hz => hS.2.2 z hz) (Nat.le_of_ble_eq_true rfl) (Nat.le_of_ble_eq_true rfl)
set_option maxHeartbeats 4000000 in
set_option maxRecDepth 100000 in
theorem c_S_differ (l : Launch) (hnt : l.stackTraces = false) (Γ : gE) (H : Heap) {x ro md : Nat} {rt : Nat → Option Nat} {Vs : Nat → Nat → Option Int64} {Ss : Nat → Nat → Int32} {a b : Int32} (hX0 : SX Γ H x ro md rt Vs Ss) : vx_Met l yS_differ wS_differ ({ frames := 40, cells := 2, slots := 12, locals := 4000 }) (gP Γ H [.ref x, .int a, .int b]) (va_Qi (fun r (u : Nat × Nat) => u.1 < md ∧ a = nI u.1 ∧ u.2 < md ∧ b = nI u.2 ∧ r = nI (dcn (Vs u.1) (Vs u.2) 0 1024)) (fun _ t' => t'.heap = H) (fun _ => False)) (xT (fun E => E = xIA ∧ ¬ (inT a md ∧ inT b md))) 2 12 (fun q => H.size ≤ q) := by
  refine vx_ofW (cc := cS_differ) (maxL := 3) (ret := (some .int)) (by decide) rfl ?_
  intro p e s m args below meth c s₁ B hml htab hv
  obtain ⟨rfl, rfl, hW⟩ := hv
  have hx := B.exec
  have hb := B.bytes
  have hr := B.returns
  have hg : ∀ w ∈ gW, w.before _ s = true := fun w h => atoms_spec (ws := wS_differ) B.pre w (List.mem_cons_of_mem _ h)
  have hown : s.vm.findClass RS = some m.cls := findClass_of_methodNamed B.named
  have hlocks := B.notSynchronized
  have hS : va_S (gA Γ) s.heap s.heap [] := va_S.rf
  have hl := lv_entry ([.ref x, .int a, .int b]) (n := 3) (Nat.le_of_ble_eq_true rfl)
  rw [lg_entry_eq]
  generalize (lg_sl ([.ref x, .int a, .int b]) ++ List.replicate (3 - (lg_sl ([.ref x, .int a, .int b])).length) Slot.unset).toArray = ls at hl ⊢
  have hl : lv_has ls 3 [(0, .ref x), (1, .int a), (2, .int b)] := hl
  have hS : va_S (nA s) s.heap s.heap [] := va_S.rf
  obtain ⟨hO, hR, hmd, hT⟩ := hX0
  refine lv_aload_n hx hb dS_differ_0 rfl (lv_at hl 0 rfl) ?_
  refine lv_iload_n hx hb dS_differ_1 rfl (lv_at hl 1 rfl) ?_
  refine vx_callv (vx_runV (As := [.int a]) (rest := []) ⟨hx, hb, hml, hown, hg⟩ (c_S_checkTable l hnt Γ s.heap (t := a) hO (by omega)) (cwV 1 hg gS_35 rfl rfl rfl (by decide +kernel) ⟨Nat.le_of_ble_eq_true rfl, Nat.le_of_ble_eq_true rfl⟩) (gP_V hW (vS_g hW hS) (ci := 1) rfl hO) rfl rfl hl.1 rfl (lv_room (Nat.le_of_ble_eq_true rfl)) dS_differ_2 ⟨Nat.le_of_ble_eq_true rfl, Nat.le_of_ble_eq_true rfl⟩) hS (fun q _ h => h.elim) (fun q h => Nat.le_trans hS.1 h) (fun q _ h => h.elim) (fun E ce q9 u tx H1 locs1 ht hvm hpx hBX hz1 hk1 hS hcell hcv hcl => ?_) (fun u t9 H1 locs1 ht hvm hp hB hz1 hk1 hS => ?_)
  · exact vx_out (E := E) (mc := 2) (ms := 12) (fun x h => (htab x h).elim) hlocks hcell hcv hcl (fun t9 h9 _ => ⟨(), trivial, ⟨hBX.1, fun h => hBX.2 h.1⟩, by rw [h9]; exact hS.1, fun q hq _ => by rw [h9]; exact hS.2.1 q hq (Nat.not_le.mpr hq)⟩) (fun z hz => hS.2.2 z hz) (Nat.le_of_ble_eq_true rfl) (Nat.le_of_ble_eq_true rfl)
  have hHH : H1 = s.heap := ht.symm.trans hB
  subst hHH
  have h1 := hp
  refine lv_aload_n hx hb dS_differ_5 rfl (lv_at hl 0 rfl) ?_
  refine lv_iload_n hx hb dS_differ_6 rfl (lv_at hl 2 rfl) ?_
  refine vx_callv (vx_runV (As := [.int b]) (rest := []) ⟨hx, hb, hml, hown, hg⟩ (c_S_checkTable l hnt Γ s.heap (t := b) hO (by omega)) (cwV 1 hg gS_35 rfl rfl rfl (by decide +kernel) ⟨Nat.le_of_ble_eq_true rfl, Nat.le_of_ble_eq_true rfl⟩) (gP_V hW (vS_g hW hS) (ci := 1) rfl hO) rfl rfl hl.1 rfl (lv_room (Nat.le_of_ble_eq_true rfl)) dS_differ_7 ⟨Nat.le_of_ble_eq_true rfl, Nat.le_of_ble_eq_true rfl⟩) hS (fun q _ h => h.elim) (fun q h => Nat.le_trans hS.1 h) (fun q _ h => h.elim) (fun E ce q9 u tx H1 locs1 ht hvm hpx hBX hz1 hk1 hS hcell hcv hcl => ?_) (fun u t9 H1 locs1 ht hvm hp hB hz1 hk1 hS => ?_)
  · exact vx_out (E := E) (mc := 2) (ms := 12) (fun x h => (htab x h).elim) hlocks hcell hcv hcl (fun t9 h9 _ => ⟨(), trivial, ⟨hBX.1, fun h => hBX.2 h.2⟩, by rw [h9]; exact hS.1, fun q hq _ => by rw [h9]; exact hS.2.1 q hq (Nat.not_le.mpr hq)⟩) (fun z hz => hS.2.2 z hz) (Nat.le_of_ble_eq_true rfl) (Nat.le_of_ble_eq_true rfl)
  have hHH : H1 = s.heap := ht.symm.trans hB
  subst hHH
  have h2 := hp
  obtain ⟨aj, haj, rfl⟩ := h1
  obtain ⟨bj, hbj, rfl⟩ := h2
  refine lv_aload_n hx hb dS_differ_10 rfl (lv_at hl 0 rfl) ?_
  refine va_get (D := Γ.1) (ci := 1) (v := .ref ro) (C := RS) (T := TS) (N := 2) hx hb hg inS hown hW.1 (p1 hO) 0 rfl rfl 0 (by decide) (hg _ kw31) (fun _ h9 => h9) rfl dS_differ_11 ?_
  refine lv_iload_n hx hb dS_differ_14 rfl (lv_at hl 1 rfl) ?_
  refine va_aldq (D := Γ.1) (cl := gC) (tys := gT Γ) hx hb hW.1 (p1 hR) 0 1 rfl rfl (vp_in_nI (show aj < 400 by omega) (by omega)) dS_differ_15 ?_
  rw [nI_clamp (show aj < 2 ^ 31 by omega)]
  refine lv_aload_n hx hb dS_differ_16 rfl (lv_at hl 0 rfl) ?_
  refine va_get (D := Γ.1) (ci := 1) (v := .ref ro) (C := RS) (T := TS) (N := 2) hx hb hg inS hown hW.1 (p1 hO) 0 rfl rfl 0 (by decide) (hg _ kw31) (fun _ h9 => h9) rfl dS_differ_17 ?_
  refine lv_iload_n hx hb dS_differ_20 rfl (lv_at hl 2 rfl) ?_
  refine va_aldq (D := Γ.1) (cl := gC) (tys := gT Γ) hx hb hW.1 (p1 hR) 0 1 rfl rfl (vp_in_nI (show bj < 400 by omega) (by omega)) dS_differ_21 ?_
  rw [nI_clamp (show bj < 2 ^ 31 by omega)]
  refine lv_bipush (v := 10) hx hb dS_differ_22 (by decide) ?_
  refine vp_callSi (W.runS (As := [va_rf (rt aj), va_rf (rt bj), .int 10]) (rest := []) ⟨hx, hb, hml, hown, hg⟩ (c_S_differences l Γ s.heap (hT aj haj).1 (hT bj hbj).1 10 0 (rt aj) (rt bj) (Nat.le_refl _) (hT aj haj).2 (hT bj hbj).2) (va_cwS 3 hg gS_77 rfl rfl rfl (by decide +kernel) ⟨Nat.le_of_ble_eq_true rfl, Nat.le_of_ble_eq_true rfl⟩) (gP_S hW (vS_g hW hS)) rfl rfl hl.1 rfl (lv_room (Nat.le_of_ble_eq_true rfl)) dS_differ_24 ⟨Nat.le_of_ble_eq_true rfl, Nat.le_of_ble_eq_true rfl⟩) (fun x0 hx0 => ?_)
  refine W.widen (k := 2) (n := 12) (Nat.le_of_ble_eq_true rfl) (Nat.le_of_ble_eq_true rfl) ?_
  refine vx_ret ?_
  exact W.iret (v := x0) hx hb hr (fun t8 ht8 hW9 => ⟨⟨x0, (aj, bj), rfl, ⟨haj, rfl, hbj, rfl, hx0⟩, ht8⟩, vS_F hS ht8⟩) (fun q hq => hS.2.2 q hq) dS_differ_27
set_option maxHeartbeats 4000000 in
set_option maxRecDepth 100000 in
theorem c_S_tables (l : Launch) (Γ : gE) (H : Heap) {x ro md : Nat} (hO : oS Γ H x ro (nI md)) : Met l yS_tables wS_tables ({ frames := 0, cells := 0, slots := 0, locals := 0 }) (gP Γ H [.ref x]) (vp_Si (fun r => r = nI md)) 0 0 (fun _ => False) := by
  refine Met.ofW (cc := cS_tables) (maxL := 1) (ret := (some .int)) (by decide) rfl ?_
  intro p e s m args below meth c s₁ B hml hv
  obtain ⟨rfl, rfl, hW⟩ := hv
  have hx := B.exec
  have hb := B.bytes
  have hr := B.returns
  have hg : ∀ w ∈ gW, w.before _ s = true := fun w h => atoms_spec (ws := wS_tables) B.pre w (List.mem_cons_of_mem _ h)
  have hown : s.vm.findClass RS = some m.cls := findClass_of_methodNamed B.named
  have hlocks := B.notSynchronized
  have hS : va_S (gA Γ) s.heap s.heap [] := va_S.rf
  have hl := lv_entry ([.ref x]) (n := 1) (Nat.le_of_ble_eq_true rfl)
  rw [lg_entry_eq]
  generalize (lg_sl ([.ref x]) ++ List.replicate (1 - (lg_sl ([.ref x])).length) Slot.unset).toArray = ls at hl ⊢
  have hl : lv_has ls 1 [(0, .ref x)] := hl
  refine lv_aload_n hx hb dS_tables_0 rfl (lv_at hl 0 rfl) ?_
  refine va_get (D := Γ.1) (ci := 1) (v := .int (nI md)) (C := RS) (T := TS) (N := 2) hx hb hg inS hown hW.1 (p1 hO) 0 rfl rfl 1 (by decide) (hg _ kw32) (fun _ h9 => h9) rfl dS_tables_1 ?_
  exact W.iret (v := nI md) hx hb hr (fun t ht hW9 => ⟨_, rfl, rfl, ht⟩) (fun _ h => nomatch h) dS_tables_4
end
section
/-! the reference's tables, as its arrays tell them -/
def MI (mn : Nat) (fof fke fst fno : Nat → Int32) : Prop := ∀ c, 0 < c → c < mn → (∃ p, p < c ∧ fof c = nI p) ∧ (∃ k, k < 1024 ∧ fke c = nI k) ∧ okS (fst c) ∧ (fno c = 0 ∨ fno c = 1)
/-- the entry that wrote key k last, from c back: 0 is none -/
def wr (fof fke : Nat → Int32) (k : Nat) : Nat → Nat → Nat
  | 0, _ => 0
  | n + 1, c => if c = 0 then 0 else if fke c = nI k then c else wr fof fke k n (fof c).toNatClampNeg
theorem wr_fuel {mn : Nat} {fof fke fst fno : Nat → Int32} (hmn : mn ≤ 400) (h : MI mn fof fke fst fno) (k : Nat) : ∀ (n n' c : Nat), c < n → c < n' → c < mn → wr fof fke k n c = wr fof fke k n' c := by
  intro n
  induction n with
  | zero => intro n' c h1; omega
  | succ n ih =>
    intro n' c h1 h2 h3
    obtain ⟨n', rfl⟩ : ∃ x, n' = x + 1 := ⟨n' - 1, by omega⟩
    by_cases h0 : c = 0
    · simp [wr, h0]
    · obtain ⟨⟨p, hp, ep⟩, -⟩ := h c (by omega) h3
      have hc : (fof c).toNatClampNeg = p := by rw [ep]; exact nI_clamp (by omega)
      simp only [wr, h0, if_false, hc]
      rw [ih n' p (by omega) (by omega) (by omega)]
def wq (fof fke : Nat → Int32) (t k : Nat) : Nat := wr fof fke k 400 t
theorem wq_0 (fof fke : Nat → Int32) (k : Nat) : wq fof fke 0 k = 0 := by simp [wq, wr]
theorem wq_hit {fof fke : Nat → Int32} {c k : Nat} (hc : 0 < c) (h : fke c = nI k) : wq fof fke c k = c := by
  simp [wq, wr, h, show ¬ c = 0 by omega]
theorem wq_miss {mn : Nat} {fof fke fst fno : Nat → Int32} (hmn : mn ≤ 400) (h : MI mn fof fke fst fno) {c p k : Nat} (hc : 0 < c) (hcm : c < mn) (hp : p < c) (ep : fof c = nI p) (hk : ¬ fke c = nI k) : wq fof fke c k = wq fof fke p k := by
  have hcl : (fof c).toNatClampNeg = p := by rw [ep]; exact nI_clamp (by omega)
  unfold wq
  have hst : wr fof fke k (399 + 1) c = wr fof fke k 399 p := by rw [wr, if_neg (show ¬ c = 0 by omega), if_neg hk, hcl]
  rw [show wr fof fke k 400 c = wr fof fke k 399 p from hst]
  exact wr_fuel hmn h k 399 400 p (by omega) (by omega) (by omega)
theorem wq_ok {mn : Nat} {fof fke fst fno : Nat → Int32} (hmn : mn ≤ 400) (h : MI mn fof fke fst fno) (k : Nat) : ∀ c, c < mn → wq fof fke c k ≤ c ∧ (wq fof fke c k ≠ 0 → fke (wq fof fke c k) = nI k) := by
  intro c
  induction c using Nat.strongRecOn with
  | _ c ih =>
    intro hc
    by_cases h0 : c = 0
    · subst h0
      rw [wq_0]
      exact ⟨Nat.le_refl _, fun h => absurd rfl h⟩
    · obtain ⟨⟨p, hp, ep⟩, -⟩ := h c (by omega) hc
      by_cases hk : fke c = nI k
      · rw [wq_hit (by omega) hk]
        exact ⟨Nat.le_refl _, fun _ => hk⟩
      · rw [wq_miss hmn h (by omega) hc hp ep hk]
        obtain ⟨h1, h2⟩ := ih p hp (by omega)
        exact ⟨by omega, h2⟩
theorem wr_congr {mn : Nat} {fof fke fst fno fof' fke' : Nat → Int32} (hmn : mn ≤ 400) (h : MI mn fof fke fst fno) (he : ∀ c, c < mn → fof c = fof' c ∧ fke c = fke' c) (k : Nat) : ∀ (n c : Nat), c < mn → wr fof fke k n c = wr fof' fke' k n c := by
  intro n
  induction n with
  | zero => intro c _; rfl
  | succ n ih =>
    intro c hc
    by_cases h0 : c = 0
    · simp [wr, h0]
    · obtain ⟨⟨p, hp, ep⟩, -⟩ := h c (by omega) hc
      obtain ⟨e1, e2⟩ := he c hc
      have hcl : (fof c).toNatClampNeg = p := by rw [ep]; exact nI_clamp (by omega)
      simp only [wr, h0, if_false, ← e2, ← e1, hcl]
      rw [ih p (by omega)]
def mV (fof fke : Nat → Int32) (fnu : Nat → Int64) (fno : Nat → Int32) (t k : Nat) : Option Int64 := if wq fof fke t k = 0 then none else if fno (wq fof fke t k) = 0 then some (fnu (wq fof fke t k)) else none
def mSt (fof fke fst : Nat → Int32) (t k : Nat) : Int32 := if wq fof fke t k = 0 then -1 else fst (wq fof fke t k)
theorem mSt_wf {mn : Nat} {fof fke fst fno : Nat → Int32} (hmn : mn ≤ 400) (h : MI mn fof fke fst fno) {t : Nat} (ht : t < mn) : wfS (mSt fof fke fst t) := by
  intro k
  unfold mSt
  have h1 := wq_ok hmn h k t ht
  by_cases h0 : wq fof fke t k = 0
  · rw [if_pos h0]; decide
  · rw [if_neg h0]
    obtain ⟨-, -, h3, -⟩ := h _ (by omega) (Nat.lt_of_le_of_lt h1.1 ht)
    have := Int32.le_iff_toInt_le.mp h3.1
    simp at this
    omega
/-- a new entry -/
theorem new_MI {mn t k : Nat} {fof fke fst fno : Nat → Int32} {st no : Int32} (h : MI mn fof fke fst fno) (ht : t < mn) (hk : k < 1024) (hst : okS st) (hno : no = 0 ∨ no = 1) : MI (mn + 1) (upd fof mn (nI t)) (upd fke mn (nI k)) (upd fst mn st) (upd fno mn no) := by
  intro c h0 hc
  by_cases e : c = mn
  · subst e
    rw [pk_us, pk_us, pk_us, pk_us]
    exact ⟨⟨t, ht, rfl⟩, ⟨k, hk, rfl⟩, hst, hno⟩
  · rw [pk_un e, pk_un e, pk_un e, pk_un e]
    exact h c h0 (by omega)
theorem new_wq {mn t k : Nat} {fof fke fst fno : Nat → Int32} (hmn : mn < 400) (h1 : 1 ≤ mn) (h : MI mn fof fke fst fno) (ht : t < mn) (hk : k < 1024) (k' : Nat) (hk' : k' < 1024) :
    (∀ t', t' < mn → wq (upd fof mn (nI t)) (upd fke mn (nI k)) t' k' = wq fof fke t' k') ∧ wq (upd fof mn (nI t)) (upd fke mn (nI k)) mn k' = (if k' = k then mn else wq fof fke t k') := by
  have hag : ∀ t', t' < mn → wq (upd fof mn (nI t)) (upd fke mn (nI k)) t' k' = wq fof fke t' k' := fun t' ht' =>
    (wr_congr (by omega) h (fun c hc => ⟨(pk_un (by omega)).symm, (pk_un (by omega)).symm⟩) k' 400 t' ht').symm
  refine ⟨hag, ?_⟩
  have hM := new_MI (st := 0) (no := 0) h ht hk ⟨by decide, by decide⟩ (Or.inl rfl)
  by_cases e : k' = k
  · rw [if_pos e, wq_hit (by omega) (by rw [pk_us, e])]
  · rw [if_neg e, wq_miss (by omega) hM (by omega) (by omega) ht pk_us (by rw [pk_us]; exact fun q => e ((nI_eq (by omega) (by omega)).mp q).symm), hag t ht]
theorem new_V {mn t k : Nat} {fof fke fst fno : Nat → Int32} {fnu : Nat → Int64} {v : Int64} {no : Int32} (hmn : mn < 400) (h1 : 1 ≤ mn) (h : MI mn fof fke fst fno) (ht : t < mn) (hk : k < 1024) (k' : Nat) (hk' : k' < 1024) :
    (∀ t', t' < mn → mV (upd fof mn (nI t)) (upd fke mn (nI k)) (vp_updL fnu mn v) (upd fno mn no) t' k' = mV fof fke fnu fno t' k') ∧ mV (upd fof mn (nI t)) (upd fke mn (nI k)) (vp_updL fnu mn v) (upd fno mn no) mn k' = va_up (mV fof fke fnu fno t) k (if no = 0 then some v else none) k' := by
  obtain ⟨ha, hb⟩ := new_wq hmn h1 h ht hk k' hk'
  have hlt : ∀ t', t' < mn → wq fof fke t' k' ≠ mn := fun t' ht' => by have := (wq_ok (by omega) h k' t' ht').1; omega
  constructor
  · intro t' ht'
    unfold mV
    rw [ha t' ht', pk_un (hlt t' ht'), pk_uLn (hlt t' ht')]
  · unfold mV
    rw [hb]
    by_cases e : k' = k
    · subst e
      rw [if_pos rfl, va_up_self, if_neg (by omega), pk_us, pk_uLs]
    · rw [if_neg e, va_up_ne _ _ e, pk_un (hlt t ht), pk_uLn (hlt t ht)]
theorem new_S {mn t k : Nat} {fof fke fst fno : Nat → Int32} {st : Int32} (hmn : mn < 400) (h1 : 1 ≤ mn) (h : MI mn fof fke fst fno) (ht : t < mn) (hk : k < 1024) (k' : Nat) (hk' : k' < 1024) :
    (∀ t', t' < mn → mSt (upd fof mn (nI t)) (upd fke mn (nI k)) (upd fst mn st) t' k' = mSt fof fke fst t' k') ∧ mSt (upd fof mn (nI t)) (upd fke mn (nI k)) (upd fst mn st) mn k' = va_up (mSt fof fke fst t) k st k' := by
  obtain ⟨ha, hb⟩ := new_wq hmn h1 h ht hk k' hk'
  have hlt : ∀ t', t' < mn → wq fof fke t' k' ≠ mn := fun t' ht' => by have := (wq_ok (by omega) h k' t' ht').1; omega
  constructor
  · intro t' ht'
    unfold mSt
    rw [ha t' ht', pk_un (hlt t' ht')]
  · unfold mSt
    rw [hb]
    by_cases e : k' = k
    · subst e
      rw [if_pos rfl, va_up_self, if_neg (by omega), pk_us]
    · rw [if_neg e, va_up_ne _ _ e, pk_un (hlt t ht)]
/-- the reference's world -/
def mA (Γ : gE) : Nat → Prop := fun q => gm0 Γ ≤ q ∧ q < gm1 Γ
abbrev wM (Γ : gE) (A : Nat → Nat) (er mn : Int32) (fof fke fst : Nat → Int32) (fnu : Nat → Int64) (fno fla fot : Nat → Int32) : va_W :=
  [(A 0, .inr (2, [.int er, .ref (A 1), .ref (A 2), .ref (A 3), .ref (A 4), .ref (A 5), .ref (A 6), .ref (A 7), .int mn])), (A 1, .inl (kI Γ, 400, .inl fof)), (A 2, .inl (kI Γ, 400, .inl fke)), (A 3, .inl (kI Γ, 400, .inl fst)), (A 4, .inl (kJ Γ, 400, .inr (.inl fnu))), (A 5, .inl (kZ Γ, 400, .inl fno)), (A 6, .inl (kI Γ, 1024, .inl fla)), (A 7, .inl (kI Γ, 1024, .inl fot))]
theorem vD_map {A : Nat → Prop} {ws ws' : va_W} (h : ws.map Prod.fst = ws'.map Prod.fst) (hD : va_D A ws) : va_D A ws' := by
  have key : ∀ (k : Nat) (q : Nat × va_E), ws'[k]? = some q → ∃ q0, ws[k]? = some q0 ∧ q0.1 = q.1 := by
    intro k q hk
    have h1 : (ws'.map Prod.fst)[k]? = some q.1 := by rw [List.getElem?_map, hk]; rfl
    rw [← h, List.getElem?_map] at h1
    cases hw : ws[k]? with
    | none => rw [hw] at h1; cases h1
    | some q0 => rw [hw] at h1; exact ⟨q0, rfl, Option.some.inj h1⟩
  refine ⟨fun i j x y hi hj hxy => ?_, fun k q hk => ?_⟩
  · obtain ⟨x0, h1, h2⟩ := key i x hi
    obtain ⟨y0, h3, h4⟩ := key j y hj
    exact hD.1 i j x0 y0 h1 h3 (h2.trans (hxy.trans h4.symm))
  · obtain ⟨q0, h1, h2⟩ := key k q hk
    rw [← h2]
    exact hD.2 k q0 h1
theorem vS_m {Γ : gE} {s : State} {H : Heap} {locs : List Loc} (hm : gz Γ ≤ gm0 Γ) (hS : va_S (mA Γ) s.heap H locs) : va_S (gA Γ) s.heap H locs := vS_mono hS (fun q h => Nat.le_trans hm h.1)
end
section
/-! the reference: small methods -/
set_option maxHeartbeats 4000000 in
set_option maxRecDepth 100000 in
theorem c_M_thrown (l : Launch) (Γ : gE) (H : Heap) {A : Nat → Nat} {er : Int32} {mn : Nat} {fof fke fst fno fla fot : Nat → Int32} {fnu : Nat → Int64} (hP : va_P Γ.1 gC (wM Γ A (er) (nI mn) (fof) (fke) (fst) (fnu) (fno) (fla) (fot)) H) : Met l yM_thrown wM_thrown ({ frames := 0, cells := 0, slots := 0, locals := 0 }) (gP Γ H [.ref (A 0)]) (vp_Si (fun r => r = er)) 0 0 (fun _ => False) := by
  refine Met.ofW (cc := cM_thrown) (maxL := 1) (ret := (some .int)) (by decide) rfl ?_
  intro p e s m args below meth c s₁ B hml hv
  obtain ⟨rfl, rfl, hW⟩ := hv
  have hx := B.exec
  have hb := B.bytes
  have hr := B.returns
  have hg : ∀ w ∈ gW, w.before _ s = true := fun w h => atoms_spec (ws := wM_thrown) B.pre w (List.mem_cons_of_mem _ h)
  have hown : s.vm.findClass RM = some m.cls := findClass_of_methodNamed B.named
  have hlocks := B.notSynchronized
  have hS : va_S (gA Γ) s.heap s.heap [] := va_S.rf
  have hl := lv_entry ([.ref (A 0)]) (n := 1) (Nat.le_of_ble_eq_true rfl)
  rw [lg_entry_eq]
  generalize (lg_sl ([.ref (A 0)]) ++ List.replicate (1 - (lg_sl ([.ref (A 0)])).length) Slot.unset).toArray = ls at hl ⊢
  have hl : lv_has ls 1 [(0, .ref (A 0))] := hl
  refine lv_aload_n hx hb dM_thrown_0 rfl (lv_at hl 0 rfl) ?_
  refine va_get (D := Γ.1) (ci := 2) (v := .int (er)) (C := RM) (T := TM) (N := 9) hx hb hg inM hown hW.1 hP 0 rfl rfl 0 (by decide) (hg _ kw289) (fun _ h9 => h9) rfl dM_thrown_1 ?_
  exact W.iret (v := er) hx hb hr (fun t ht hW9 => ⟨_, rfl, rfl, ht⟩) (fun _ h => nomatch h) dM_thrown_4
set_option maxHeartbeats 4000000 in
set_option maxRecDepth 100000 in
theorem c_M_noTable (l : Launch) (Γ : gE) (H : Heap) {A : Nat → Nat} {er : Int32} {mn : Nat} {fof fke fst fno fla fot : Nat → Int32} {fnu : Nat → Int64} {t : Int32} (hP : va_P Γ.1 gC (wM Γ A (er) (nI mn) (fof) (fke) (fst) (fnu) (fno) (fla) (fot)) H) (hmn : mn ≤ 400) : Met l yM_noTable wM_noTable ({ frames := 0, cells := 0, slots := 0, locals := 0 }) (gP Γ H [.ref (A 0), .int t]) (vp_Si (fun r => (r = 0 ∧ inT t mn) ∨ (r = 1 ∧ ¬ inT t mn))) 0 0 (fun _ => False) := by
  refine Met.ofW (cc := cM_noTable) (maxL := 2) (ret := (some .boolean)) (by decide) rfl ?_
  intro p e s m args below meth c s₁ B hml hv
  obtain ⟨rfl, rfl, hW⟩ := hv
  have hx := B.exec
  have hb := B.bytes
  have hr := B.returns
  have hg : ∀ w ∈ gW, w.before _ s = true := fun w h => atoms_spec (ws := wM_noTable) B.pre w (List.mem_cons_of_mem _ h)
  have hown : s.vm.findClass RM = some m.cls := findClass_of_methodNamed B.named
  have hlocks := B.notSynchronized
  have hS : va_S (gA Γ) s.heap s.heap [] := va_S.rf
  have hl := lv_entry ([.ref (A 0), .int t]) (n := 2) (Nat.le_of_ble_eq_true rfl)
  rw [lg_entry_eq]
  generalize (lg_sl ([.ref (A 0), .int t]) ++ List.replicate (2 - (lg_sl ([.ref (A 0), .int t])).length) Slot.unset).toArray = ls at hl ⊢
  have hl : lv_has ls 2 [(0, .ref (A 0)), (1, .int t)] := hl
  refine lv_iload_n hx hb dM_noTable_0 rfl (lv_at hl 1 rfl) ?_
  refine lv_if_lt (tgt := 12) hx hb dM_noTable_1 (by decide) (fun c1 => ?_) (fun c1 => ?_)
  · refine lv_iconst (v := 1) hx hb dM_noTable_12 (by decide) ?_
    refine lv_goto (tgt := 17) hx hb dM_noTable_13 (by decide) ?_
    exact W.zret (v := 1) hx hb hr (by decide) (fun t ht hW9 => ⟨_, rfl, Or.inr ⟨rfl, (inT_no (by omega)).mpr (Or.inl c1)⟩, ht⟩) (fun _ h => nomatch h) dM_noTable_17
  · refine lv_iload_n hx hb dM_noTable_4 rfl (lv_at hl 1 rfl) ?_
    refine lv_aload_n hx hb dM_noTable_5 rfl (lv_at hl 0 rfl) ?_
    refine va_get (D := Γ.1) (ci := 2) (v := .int (nI mn)) (C := RM) (T := TM) (N := 9) hx hb hg inM hown hW.1 hP 0 rfl rfl 8 (by decide) (hg _ kw297) (fun _ h9 => h9) rfl dM_noTable_6 ?_
    refine lv_icmp_lt (tgt := 16) hx hb dM_noTable_9 (by decide) (fun c2 => ?_) (fun c2 => ?_)
    · refine lv_iconst (v := 0) hx hb dM_noTable_16 (by decide) ?_
      exact W.zret (v := 0) hx hb hr (by decide) (fun t ht hW9 => ⟨_, rfl, Or.inl ⟨rfl, inT_of (by omega) c1 c2⟩, ht⟩) (fun _ h => nomatch h) dM_noTable_17
    · refine lv_iconst (v := 1) hx hb dM_noTable_12 (by decide) ?_
      refine lv_goto (tgt := 17) hx hb dM_noTable_13 (by decide) ?_
      exact W.zret (v := 1) hx hb hr (by decide) (fun t ht hW9 => ⟨_, rfl, Or.inr ⟨rfl, (inT_no (by omega)).mpr (Or.inr (Int32.not_lt.mp c2))⟩, ht⟩) (fun _ h => nomatch h) dM_noTable_17
set_option maxHeartbeats 4000000 in
set_option maxRecDepth 100000 in
theorem c_M_noKey (l : Launch) (Γ : gE) (H : Heap) {k : Int32} : Met l yM_noKey wM_noKey ({ frames := 0, cells := 0, slots := 0, locals := 0 }) (gP Γ H [.int k]) (vp_Si (fun r => (r = 0 ∧ inT k 1024) ∨ (r = 1 ∧ ¬ inT k 1024))) 0 0 (fun _ => False) := by
  refine Met.ofW (cc := cM_noKey) (maxL := 1) (ret := (some .boolean)) (by decide) rfl ?_
  intro p e s m args below meth c s₁ B hml hv
  obtain ⟨rfl, rfl, hW⟩ := hv
  have hx := B.exec
  have hb := B.bytes
  have hr := B.returns
  have hg : ∀ w ∈ gW, w.before _ s = true := fun w h => atoms_spec (ws := wM_noKey) B.pre w (List.mem_cons_of_mem _ h)
  have hown : s.vm.findClass RM = some m.cls := findClass_of_methodNamed B.named
  have hlocks := B.notSynchronized
  have hS : va_S (gA Γ) s.heap s.heap [] := va_S.rf
  have hl := lv_entry ([.int k]) (n := 1) (Nat.le_of_ble_eq_true rfl)
  rw [lg_entry_eq]
  generalize (lg_sl ([.int k]) ++ List.replicate (1 - (lg_sl ([.int k])).length) Slot.unset).toArray = ls at hl ⊢
  have hl : lv_has ls 1 [(0, .int k)] := hl
  refine lv_iload_n hx hb dM_noKey_0 rfl (lv_at hl 0 rfl) ?_
  refine lv_if_lt (tgt := 11) hx hb dM_noKey_1 (by decide) (fun c1 => ?_) (fun c1 => ?_)
  · refine lv_iconst (v := 1) hx hb dM_noKey_11 (by decide) ?_
    refine lv_goto (tgt := 16) hx hb dM_noKey_12 (by decide) ?_
    exact W.zret (v := 1) hx hb hr (by decide) (fun t ht hW9 => ⟨_, rfl, Or.inr ⟨rfl, (inT_no (by omega)).mpr (Or.inl c1)⟩, ht⟩) (fun _ h => nomatch h) dM_noKey_16
  · refine lv_iload_n hx hb dM_noKey_4 rfl (lv_at hl 0 rfl) ?_
    refine lv_sipush (v := 1024) hx hb dM_noKey_5 (by decide) ?_
    refine lv_icmp_lt (tgt := 15) hx hb dM_noKey_8 (by decide) (fun c2 => ?_) (fun c2 => ?_)
    · refine lv_iconst (v := 0) hx hb dM_noKey_15 (by decide) ?_
      exact W.zret (v := 0) hx hb hr (by decide) (fun t ht hW9 => ⟨_, rfl, Or.inl ⟨rfl, inT_of (n := 1024) (by omega) c1 c2⟩, ht⟩) (fun _ h => nomatch h) dM_noKey_16
    · refine lv_iconst (v := 1) hx hb dM_noKey_11 (by decide) ?_
      refine lv_goto (tgt := 16) hx hb dM_noKey_12 (by decide) ?_
      exact W.zret (v := 1) hx hb hr (by decide) (fun t ht hW9 => ⟨_, rfl, Or.inr ⟨rfl, (inT_no (n := 1024) (by omega)).mpr (Or.inr (Int32.not_lt.mp c2))⟩, ht⟩) (fun _ h => nomatch h) dM_noKey_16
set_option maxHeartbeats 4000000 in
set_option maxRecDepth 100000 in
theorem c_M_has (l : Launch) (Γ : gE) (H : Heap) {A : Nat → Nat} {er : Int32} {mn : Nat} {fof fke fst fno fla fot : Nat → Int32} {fnu : Nat → Int64} {ci : Nat} (hP : va_P Γ.1 gC (wM Γ A (er) (nI mn) (fof) (fke) (fst) (fnu) (fno) (fla) (fot)) H) (hci : ci < 400) : Met l yM_has wM_has ({ frames := 0, cells := 0, slots := 0, locals := 0 }) (gP Γ H [.ref (A 0), .int (nI ci)]) (vp_Si (fun r => r = if ci ≠ 0 ∧ fno ci = 0 then 1 else 0)) 0 0 (fun _ => False) := by
  refine Met.ofW (cc := cM_has) (maxL := 2) (ret := (some .boolean)) (by decide) rfl ?_
  intro p e s m args below meth c s₁ B hml hv
  obtain ⟨rfl, rfl, hW⟩ := hv
  have hx := B.exec
  have hb := B.bytes
  have hr := B.returns
  have hg : ∀ w ∈ gW, w.before _ s = true := fun w h => atoms_spec (ws := wM_has) B.pre w (List.mem_cons_of_mem _ h)
  have hown : s.vm.findClass RM = some m.cls := findClass_of_methodNamed B.named
  have hlocks := B.notSynchronized
  have hS : va_S (gA Γ) s.heap s.heap [] := va_S.rf
  have hl := lv_entry ([.ref (A 0), .int (nI ci)]) (n := 2) (Nat.le_of_ble_eq_true rfl)
  rw [lg_entry_eq]
  generalize (lg_sl ([.ref (A 0), .int (nI ci)]) ++ List.replicate (2 - (lg_sl ([.ref (A 0), .int (nI ci)])).length) Slot.unset).toArray = ls at hl ⊢
  have hl : lv_has ls 2 [(0, .ref (A 0)), (1, .int (nI ci))] := hl
  refine lv_iload_n hx hb dM_has_0 rfl (lv_at hl 1 rfl) ?_
  refine lv_if_eq (tgt := 17) hx hb dM_has_1 (by decide) (fun c1 => ?_) (fun c1 => ?_)
  · have h0 : ci = 0 := (nI_eq (by omega) (by omega)).mp (c1.trans nI_0.symm)
    refine lv_iconst (v := 0) hx hb dM_has_17 (by decide) ?_
    exact W.zret (v := 0) hx hb hr (by decide) (fun t ht hW9 => ⟨_, rfl, by simp [h0], ht⟩) (fun _ h => nomatch h) dM_has_18
  · have h0 : ¬ ci = 0 := fun h => c1 (by rw [h]; exact nI_0)
    refine lv_aload_n hx hb dM_has_4 rfl (lv_at hl 0 rfl) ?_
    refine va_get (D := Γ.1) (ci := 2) (v := .ref (A 5)) (C := RM) (T := TM) (N := 9) hx hb hg inM hown hW.1 hP 0 rfl rfl 5 (by decide) (hg _ kw294) (fun _ h9 => h9) rfl dM_has_5 ?_
    refine lv_iload_n hx hb dM_has_8 rfl (lv_at hl 1 rfl) ?_
    refine va_zald (D := Γ.1) (cl := gC) (tys := gT Γ) hx hb hW.1 hP 5 3 rfl rfl (vp_in_nI (show ci < 400 by omega) (by omega)) dM_has_9 ?_
    rw [nI_clamp (show ci < 2 ^ 31 by omega)]
    refine lv_if_ne (tgt := 17) hx hb dM_has_10 (by decide) (fun c2 => ?_) (fun c2 => ?_)
    · refine lv_iconst (v := 0) hx hb dM_has_17 (by decide) ?_
      exact W.zret (v := 0) hx hb hr (by decide) (fun t ht hW9 => ⟨_, rfl, by simp [c2], ht⟩) (fun _ h => nomatch h) dM_has_18
    · refine lv_iconst (v := 1) hx hb dM_has_13 (by decide) ?_
      refine lv_goto (tgt := 18) hx hb dM_has_14 (by decide) ?_
      exact W.zret (v := 1) hx hb hr (by decide) (fun t ht hW9 => ⟨_, rfl, by simp [h0, c2], ht⟩) (fun _ h => nomatch h) dM_has_18
set_option maxHeartbeats 4000000 in
set_option maxRecDepth 100000 in
theorem c_M_fails0 (l : Launch) (Γ : gE) (H : Heap) {A : Nat → Nat} {er : Int32} {mn : Nat} {fof fke fst fno fla fot : Nat → Int32} {fnu : Nat → Int64} {why : Int32} (hP : va_P Γ.1 gC (wM Γ A (er) (nI mn) (fof) (fke) (fst) (fnu) (fno) (fla) (fot)) H) (hD : va_D (mA Γ) (wM Γ A (er) (nI mn) (fof) (fke) (fst) (fnu) (fno) (fla) (fot))) (hm : gz Γ ≤ gm0 Γ) : Met l yM_fails wM_fails ({ frames := 0, cells := 0, slots := 0, locals := 0 }) (gP Γ H [.ref (A 0), .int 0, .int why]) (va_Qi (fun r (_ : Unit) => r = 0) (fun _ t => va_P Γ.1 gC (wM Γ A (0) (nI mn) (fof) (fke) (fst) (fnu) (fno) (fla) (fot)) t.heap) (mA Γ)) 0 0 (mA Γ) := by
  refine Met.ofW (cc := cM_fails) (maxL := 3) (ret := (some .boolean)) (by decide) rfl ?_
  intro p e s m args below meth c s₁ B hml hv
  obtain ⟨rfl, rfl, hW⟩ := hv
  have hx := B.exec
  have hb := B.bytes
  have hr := B.returns
  have hg : ∀ w ∈ gW, w.before _ s = true := fun w h => atoms_spec (ws := wM_fails) B.pre w (List.mem_cons_of_mem _ h)
  have hown : s.vm.findClass RM = some m.cls := findClass_of_methodNamed B.named
  have hlocks := B.notSynchronized
  have hS : va_S (gA Γ) s.heap s.heap [] := va_S.rf
  have hl := lv_entry ([.ref (A 0), .int 0, .int why]) (n := 3) (Nat.le_of_ble_eq_true rfl)
  rw [lg_entry_eq]
  generalize (lg_sl ([.ref (A 0), .int 0, .int why]) ++ List.replicate (3 - (lg_sl ([.ref (A 0), .int 0, .int why])).length) Slot.unset).toArray = ls at hl ⊢
  have hl : lv_has ls 3 [(0, .ref (A 0)), (1, .int 0), (2, .int why)] := hl
  have hS : va_S (mA Γ) s.heap s.heap [] := va_S.rf
  refine lv_aload_n hx hb dM_fails_0 rfl (lv_at hl 0 rfl) ?_
  refine lv_iload_n hx hb dM_fails_1 rfl (lv_at hl 1 rfl) ?_
  refine lv_if_eq (tgt := 9) hx hb dM_fails_2 (by decide) (fun c1 => ?_) (fun c1 => ?_)
  · refine lv_iconst (v := 0) hx hb dM_fails_9 (by decide) ?_
    refine va_put (D := Γ.1) (ci := 2) (v := .int (0)) (ty := .int) (C := RM) (T := TM) (N := 9) hx hb hg inM tyM tyM_ok nmM hown hW.1 hP hD hS 0 rfl rfl 0 (by decide) (hg _ kw289) (fun _ h9 => h9) rfl (by decide +kernel) rfl rfl (Nat.le_of_ble_eq_true rfl) dM_fails_10 (fun H locs hP hD hS => ?_)
    have hP : va_P Γ.1 gC (wM Γ A (0) (nI mn) (fof) (fke) (fst) (fnu) (fno) (fla) (fot)) H := hP
    have hD : va_D (mA Γ) (wM Γ A (0) (nI mn) (fof) (fke) (fst) (fnu) (fno) (fla) (fot)) := hD
    refine lv_iload_n hx hb dM_fails_13 rfl (lv_at hl 1 rfl) ?_
    exact W.zret (v := 0) hx hb hr (by decide) (fun t8 ht8 hW9 => ⟨⟨0, (), rfl, rfl, by subst ht8; exact hP⟩, hS.F ht8⟩) (fun q hq => hS.2.2 q hq) dM_fails_14
  · exact absurd rfl c1
set_option maxHeartbeats 4000000 in
set_option maxRecDepth 100000 in
theorem c_M_fails1 (l : Launch) (Γ : gE) (H : Heap) {A : Nat → Nat} {er : Int32} {mn : Nat} {fof fke fst fno fla fot : Nat → Int32} {fnu : Nat → Int64} {why : Int32} (hP : va_P Γ.1 gC (wM Γ A (er) (nI mn) (fof) (fke) (fst) (fnu) (fno) (fla) (fot)) H) (hD : va_D (mA Γ) (wM Γ A (er) (nI mn) (fof) (fke) (fst) (fnu) (fno) (fla) (fot))) (hm : gz Γ ≤ gm0 Γ) : Met l yM_fails wM_fails ({ frames := 0, cells := 0, slots := 0, locals := 0 }) (gP Γ H [.ref (A 0), .int 1, .int why]) (va_Qi (fun r (_ : Unit) => r = 1) (fun _ t => va_P Γ.1 gC (wM Γ A (why) (nI mn) (fof) (fke) (fst) (fnu) (fno) (fla) (fot)) t.heap) (mA Γ)) 0 0 (mA Γ) := by
  refine Met.ofW (cc := cM_fails) (maxL := 3) (ret := (some .boolean)) (by decide) rfl ?_
  intro p e s m args below meth c s₁ B hml hv
  obtain ⟨rfl, rfl, hW⟩ := hv
  have hx := B.exec
  have hb := B.bytes
  have hr := B.returns
  have hg : ∀ w ∈ gW, w.before _ s = true := fun w h => atoms_spec (ws := wM_fails) B.pre w (List.mem_cons_of_mem _ h)
  have hown : s.vm.findClass RM = some m.cls := findClass_of_methodNamed B.named
  have hlocks := B.notSynchronized
  have hS : va_S (gA Γ) s.heap s.heap [] := va_S.rf
  have hl := lv_entry ([.ref (A 0), .int 1, .int why]) (n := 3) (Nat.le_of_ble_eq_true rfl)
  rw [lg_entry_eq]
  generalize (lg_sl ([.ref (A 0), .int 1, .int why]) ++ List.replicate (3 - (lg_sl ([.ref (A 0), .int 1, .int why])).length) Slot.unset).toArray = ls at hl ⊢
  have hl : lv_has ls 3 [(0, .ref (A 0)), (1, .int 1), (2, .int why)] := hl
  have hS : va_S (mA Γ) s.heap s.heap [] := va_S.rf
  refine lv_aload_n hx hb dM_fails_0 rfl (lv_at hl 0 rfl) ?_
  refine lv_iload_n hx hb dM_fails_1 rfl (lv_at hl 1 rfl) ?_
  refine lv_if_eq (tgt := 9) hx hb dM_fails_2 (by decide) (fun c1 => ?_) (fun c1 => ?_)
  · exact absurd c1 (by decide)
  · refine lv_iload_n hx hb dM_fails_5 rfl (lv_at hl 2 rfl) ?_
    refine lv_goto (tgt := 10) hx hb dM_fails_6 (by decide) ?_
    refine va_put (D := Γ.1) (ci := 2) (v := .int (why)) (ty := .int) (C := RM) (T := TM) (N := 9) hx hb hg inM tyM tyM_ok nmM hown hW.1 hP hD hS 0 rfl rfl 0 (by decide) (hg _ kw289) (fun _ h9 => h9) rfl (by decide +kernel) rfl rfl (Nat.le_of_ble_eq_true rfl) dM_fails_10 (fun H locs hP hD hS => ?_)
    have hP : va_P Γ.1 gC (wM Γ A (why) (nI mn) (fof) (fke) (fst) (fnu) (fno) (fla) (fot)) H := hP
    have hD : va_D (mA Γ) (wM Γ A (why) (nI mn) (fof) (fke) (fst) (fnu) (fno) (fla) (fot)) := hD
    refine lv_iload_n hx hb dM_fails_13 rfl (lv_at hl 1 rfl) ?_
    exact W.zret (v := 1) hx hb hr (by decide) (fun t8 ht8 hW9 => ⟨⟨1, (), rfl, rfl, by subst ht8; exact hP⟩, hS.F ht8⟩) (fun q hq => hS.2.2 q hq) dM_fails_14
set_option maxHeartbeats 4000000 in
set_option maxRecDepth 100000 in
theorem c_M_tables (l : Launch) (Γ : gE) (H : Heap) {A : Nat → Nat} {er : Int32} {mn : Nat} {fof fke fst fno fla fot : Nat → Int32} {fnu : Nat → Int64} (hP : va_P Γ.1 gC (wM Γ A (er) (nI mn) (fof) (fke) (fst) (fnu) (fno) (fla) (fot)) H) (hD : va_D (mA Γ) (wM Γ A (er) (nI mn) (fof) (fke) (fst) (fnu) (fno) (fla) (fot))) (hm : gz Γ ≤ gm0 Γ) : Met l yM_tables wM_tables ({ frames := 0, cells := 0, slots := 0, locals := 0 }) (gP Γ H [.ref (A 0)]) (va_Qi (fun r (_ : Unit) => r = nI mn) (fun _ t => va_P Γ.1 gC (wM Γ A (0) (nI mn) (fof) (fke) (fst) (fnu) (fno) (fla) (fot)) t.heap) (mA Γ)) 0 0 (mA Γ) := by
  refine Met.ofW (cc := cM_tables) (maxL := 1) (ret := (some .int)) (by decide) rfl ?_
  intro p e s m args below meth c s₁ B hml hv
  obtain ⟨rfl, rfl, hW⟩ := hv
  have hx := B.exec
  have hb := B.bytes
  have hr := B.returns
  have hg : ∀ w ∈ gW, w.before _ s = true := fun w h => atoms_spec (ws := wM_tables) B.pre w (List.mem_cons_of_mem _ h)
  have hown : s.vm.findClass RM = some m.cls := findClass_of_methodNamed B.named
  have hlocks := B.notSynchronized
  have hS : va_S (gA Γ) s.heap s.heap [] := va_S.rf
  have hl := lv_entry ([.ref (A 0)]) (n := 1) (Nat.le_of_ble_eq_true rfl)
  rw [lg_entry_eq]
  generalize (lg_sl ([.ref (A 0)]) ++ List.replicate (1 - (lg_sl ([.ref (A 0)])).length) Slot.unset).toArray = ls at hl ⊢
  have hl : lv_has ls 1 [(0, .ref (A 0))] := hl
  have hS : va_S (mA Γ) s.heap s.heap [] := va_S.rf
  refine lv_aload_n hx hb dM_tables_0 rfl (lv_at hl 0 rfl) ?_
  refine lv_iconst (v := 0) hx hb dM_tables_1 (by decide) ?_
  refine va_put (D := Γ.1) (ci := 2) (v := .int (0)) (ty := .int) (C := RM) (T := TM) (N := 9) hx hb hg inM tyM tyM_ok nmM hown hW.1 hP hD hS 0 rfl rfl 0 (by decide) (hg _ kw289) (fun _ h9 => h9) rfl (by decide +kernel) rfl rfl (Nat.le_of_ble_eq_true rfl) dM_tables_2 (fun H locs hP hD hS => ?_)
  have hP : va_P Γ.1 gC (wM Γ A (0) (nI mn) (fof) (fke) (fst) (fnu) (fno) (fla) (fot)) H := hP
  have hD : va_D (mA Γ) (wM Γ A (0) (nI mn) (fof) (fke) (fst) (fnu) (fno) (fla) (fot)) := hD
  refine lv_aload_n hx hb dM_tables_5 rfl (lv_at hl 0 rfl) ?_
  refine va_get (D := Γ.1) (ci := 2) (v := .int (nI mn)) (C := RM) (T := TM) (N := 9) hx hb hg inM hown hW.1 hP 0 rfl rfl 8 (by decide) (hg _ kw297) (fun _ h9 => h9) rfl dM_tables_6 ?_
  exact W.iret (v := nI mn) hx hb hr (fun t8 ht8 hW9 => ⟨⟨nI mn, (), rfl, rfl, by subst ht8; exact hP⟩, hS.F ht8⟩) (fun q hq => hS.2.2 q hq) dM_tables_9
set_option maxHeartbeats 4000000 in
set_option maxRecDepth 100000 in
theorem c_M_wrote (l : Launch) (Γ : gE) (H : Heap) {A : Nat → Nat} {er : Int32} {mn : Nat} {fof fke fst fno fla fot : Nat → Int32} {fnu : Nat → Int64} {t k : Nat} (hP : va_P Γ.1 gC (wM Γ A (er) (nI mn) (fof) (fke) (fst) (fnu) (fno) (fla) (fot)) H) (hmn : mn ≤ 400) (hMI : MI mn fof fke fst fno) (ht : t < mn) : Met l yM_wrote wM_wrote ({ frames := 0, cells := 0, slots := 0, locals := 0 }) (gP Γ H [.ref (A 0), .int (nI t), .int (nI k)]) (vp_Si (fun r => r = nI (wq fof fke t k))) 0 0 (fun _ => False) := by
  refine Met.ofW (cc := cM_wrote) (maxL := 4) (ret := (some .int)) (by decide) rfl ?_
  intro p e s m args below meth c s₁ B hml hv
  obtain ⟨rfl, rfl, hW⟩ := hv
  have hx := B.exec
  have hb := B.bytes
  have hr := B.returns
  have hg : ∀ w ∈ gW, w.before _ s = true := fun w h => atoms_spec (ws := wM_wrote) B.pre w (List.mem_cons_of_mem _ h)
  have hown : s.vm.findClass RM = some m.cls := findClass_of_methodNamed B.named
  have hlocks := B.notSynchronized
  have hS : va_S (gA Γ) s.heap s.heap [] := va_S.rf
  have hl := lv_entry ([.ref (A 0), .int (nI t), .int (nI k)]) (n := 4) (Nat.le_of_ble_eq_true rfl)
  rw [lg_entry_eq]
  generalize (lg_sl ([.ref (A 0), .int (nI t), .int (nI k)]) ++ List.replicate (4 - (lg_sl ([.ref (A 0), .int (nI t), .int (nI k)])).length) Slot.unset).toArray = ls at hl ⊢
  have hl : lv_has ls 4 [(0, .ref (A 0)), (1, .int (nI t)), (2, .int (nI k))] := hl
  have key : ∀ (n ci : Nat) (ls : Array Slot), ci < n → ci < mn → wq fof fke ci k = wq fof fke t k → lv_has ls 4 [(3, .int (nI ci)), (0, .ref (A 0)), (1, .int (nI t)), (2, .int (nI k))] → W p l e (headSpec wM_wrote ({ frames := 0, cells := 0, slots := 0, locals := 0 })).room s m [.ref (A 0), .int (nI t), .int (nI k)].toArray below meth c s.heap [] 0 0 (MQ below (vp_Si (fun r => r = nI (wq fof fke t k))) [.ref (A 0), .int (nI t), .int (nI k)].toArray s 0 0 (fun _ => False)) (F0 m 2 ls []) := by
    intro n
    induction n with
    | zero =>
      intro ci ls h
      omega
    | succ n ih =>
      intro ci ls hcn hcm heq hl
      refine lv_iload_n hx hb dM_wrote_2 rfl (lv_at hl 0 rfl) ?_
      refine lv_if_eq (tgt := 26) hx hb dM_wrote_3 (by decide) (fun c1 => ?_) (fun c1 => ?_)
      · have h0 : ci = 0 := (nI_eq (by omega) (by omega)).mp (c1.trans nI_0.symm)
        refine lv_iload_n hx hb dM_wrote_26 rfl (lv_at hl 0 rfl) ?_
        exact W.iret (v := nI ci) hx hb hr (fun t ht hW9 => ⟨_, rfl, by rw [← heq, h0, wq_0], ht⟩) (fun _ h => nomatch h) dM_wrote_27
      · have h0 : 0 < ci := Nat.pos_of_ne_zero (fun h => c1 (by rw [h]; exact nI_0))
        obtain ⟨⟨pp, hpp, epp⟩, -⟩ := hMI ci h0 hcm
        refine lv_aload_n hx hb dM_wrote_6 rfl (lv_at hl 1 rfl) ?_
        refine va_get (D := Γ.1) (ci := 2) (v := .ref (A 2)) (C := RM) (T := TM) (N := 9) hx hb hg inM hown hW.1 hP 0 rfl rfl 2 (by decide) (hg _ kw291) (fun _ h9 => h9) rfl dM_wrote_7 ?_
        refine lv_iload_n hx hb dM_wrote_10 rfl (lv_at hl 0 rfl) ?_
        refine va_iald (D := Γ.1) (cl := gC) (tys := gT Γ) hx hb hW.1 hP 2 2 rfl rfl (vp_in_nI (show ci < 400 by omega) (by omega)) dM_wrote_11 ?_
        rw [nI_clamp (show ci < 2 ^ 31 by omega)]
        refine lv_iload_n hx hb dM_wrote_12 rfl (lv_at hl 3 rfl) ?_
        refine lv_icmp_eq (tgt := 26) hx hb dM_wrote_13 (by decide) (fun c2 => ?_) (fun c2 => ?_)
        · refine lv_iload_n hx hb dM_wrote_26 rfl (lv_at hl 0 rfl) ?_
          exact W.iret (v := nI ci) hx hb hr (fun t ht hW9 => ⟨_, rfl, by rw [← heq, wq_hit h0 c2], ht⟩) (fun _ h => nomatch h) dM_wrote_27
        · refine lv_aload_n hx hb dM_wrote_16 rfl (lv_at hl 1 rfl) ?_
          refine va_get (D := Γ.1) (ci := 2) (v := .ref (A 1)) (C := RM) (T := TM) (N := 9) hx hb hg inM hown hW.1 hP 0 rfl rfl 1 (by decide) (hg _ kw290) (fun _ h9 => h9) rfl dM_wrote_17 ?_
          refine lv_iload_n hx hb dM_wrote_20 rfl (lv_at hl 0 rfl) ?_
          refine va_iald (D := Γ.1) (cl := gC) (tys := gT Γ) hx hb hW.1 hP 1 2 rfl rfl (vp_in_nI (show ci < 400 by omega) (by omega)) dM_wrote_21 ?_
          rw [nI_clamp (show ci < 2 ^ 31 by omega)]
          rw [epp]
          refine lv_istore_n (lv' := [(3, .int (nI pp)), (0, .ref (A 0)), (1, .int (nI t)), (2, .int (nI k))]) hx hb dM_wrote_22 rfl hl (by decide) rfl (fun ls hl => ?_)
          refine lv_goto (tgt := 2) hx hb dM_wrote_23 (by decide) ?_
          exact ih pp ls (by omega) (by omega) ((wq_miss hmn hMI h0 hcm hpp epp c2).symm.trans heq) (lv_sub hl [0, 1, 2, 3] rfl)
  refine lv_iload_n hx hb dM_wrote_0 rfl (lv_at hl 1 rfl) ?_
  refine lv_istore_n (lv' := [(3, .int (nI t)), (0, .ref (A 0)), (1, .int (nI t)), (2, .int (nI k))]) hx hb dM_wrote_1 rfl hl (by decide) rfl (fun ls hl => ?_)
  exact key (t + 1) t ls (by omega) ht rfl (lv_sub hl [0, 1, 2, 3] rfl)
end
section
/-! the reference: constructor, whole, change, get, stamp -/
set_option maxHeartbeats 4000000 in
set_option maxRecDepth 100000 in
theorem c_M_whole6 (l : Launch) (Γ : gE) (H : Heap) {A : Nat → Nat} {er : Int32} {mn : Nat} {fof fke fst fno fla fot : Nat → Int32} {fnu : Nat → Int64} {t : Nat} (hP : va_P Γ.1 gC (wM Γ A (er) (nI mn) (fof) (fke) (fst) (fnu) (fno) (fla) (fot)) H) (hD : va_D (mA Γ) (wM Γ A (er) (nI mn) (fof) (fke) (fst) (fnu) (fno) (fla) (fot))) (hm : gz Γ ≤ gm0 Γ) (hmn : mn ≤ 400) (hMI : MI mn fof fke fst fno) (ht : t < mn) : Met l yM_whole wM_whole ({ frames := 0, cells := 0, slots := 0, locals := 0 }) (gP Γ H [.ref (A 0), .int (nI t), .ref (A 6)]) (va_Qv (fun (g : Nat → Int32) => ∀ k, k < 1024 → g k = nI (wq fof fke t k)) (fun g t => va_P Γ.1 gC (wM Γ A (er) (nI mn) (fof) (fke) (fst) (fnu) (fno) (g) (fot)) t.heap) (mA Γ)) 0 0 (mA Γ) := by
  refine Met.ofW (cc := cM_whole) (maxL := 4) (ret := none) (by decide) rfl ?_
  intro p e s m args below meth c s₁ B hml hv
  obtain ⟨rfl, rfl, hW⟩ := hv
  have hx := B.exec
  have hb := B.bytes
  have hr := B.returns
  have hg : ∀ w ∈ gW, w.before _ s = true := fun w h => atoms_spec (ws := wM_whole) B.pre w (List.mem_cons_of_mem _ h)
  have hown : s.vm.findClass RM = some m.cls := findClass_of_methodNamed B.named
  have hlocks := B.notSynchronized
  have hS : va_S (gA Γ) s.heap s.heap [] := va_S.rf
  have hl := lv_entry ([.ref (A 0), .int (nI t), .ref (A 6)]) (n := 4) (Nat.le_of_ble_eq_true rfl)
  rw [lg_entry_eq]
  generalize (lg_sl ([.ref (A 0), .int (nI t), .ref (A 6)]) ++ List.replicate (4 - (lg_sl ([.ref (A 0), .int (nI t), .ref (A 6)])).length) Slot.unset).toArray = ls at hl ⊢
  have hl : lv_has ls 4 [(0, .ref (A 0)), (1, .int (nI t)), (2, .ref (A 6))] := hl
  have hS : va_S (mA Γ) s.heap s.heap [] := va_S.rf
  have key2 : ∀ (n ci : Nat) (g : Nat → Int32) (H : Heap) (locs : List Loc) (ls : Array Slot), ci < n → ci < mn → (∀ k, k < 1024 → (g k = 0 ∧ wq fof fke t k = wq fof fke ci k) ∨ (wq fof fke t k ≠ 0 ∧ g k = nI (wq fof fke t k))) → va_P Γ.1 gC (wM Γ A (er) (nI mn) (fof) (fke) (fst) (fnu) (fno) (g) (fot)) H → va_D (mA Γ) (wM Γ A (er) (nI mn) (fof) (fke) (fst) (fnu) (fno) (g) (fot)) → va_S (mA Γ) s.heap H locs → lv_has ls 4 [(3, .int (nI ci)), (0, .ref (A 0)), (1, .int (nI t)), (2, .ref (A 6))] → W p l e (headSpec wM_whole ({ frames := 0, cells := 0, slots := 0, locals := 0 })).room s m [.ref (A 0), .int (nI t), .ref (A 6)].toArray below meth c H locs 0 0 (MQ below (va_Qv (fun (g : Nat → Int32) => ∀ k, k < 1024 → g k = nI (wq fof fke t k)) (fun g t => va_P Γ.1 gC (wM Γ A (er) (nI mn) (fof) (fke) (fst) (fnu) (fno) (g) (fot)) t.heap) (mA Γ)) [.ref (A 0), .int (nI t), .ref (A 6)].toArray s 0 0 (mA Γ)) (F0 m 21 ls []) := by
    intro n
    induction n with
    | zero =>
      intro ci g H locs ls h
      omega
    | succ n ih =>
      intro ci g H locs ls hcn hcm hinv hP hD hS hl
      refine lv_iload_n hx hb dM_whole_21 rfl (lv_at hl 0 rfl) ?_
      refine lv_if_eq (tgt := 55) hx hb dM_whole_22 (by decide) (fun c1 => ?_) (fun c1 => ?_)
      · have h0 : ci = 0 := (nI_eq (by omega) (by omega)).mp (c1.trans nI_0.symm)
        exact W.vret hx hb hr (fun t8 ht8 hW9 => ⟨⟨g, rfl, fun k hk => (hinv k hk).elim (fun e => by rw [e.1, e.2, h0, wq_0]; rfl) (fun e => e.2), by subst ht8; exact hP⟩, hS.F ht8⟩) (fun q hq => hS.2.2 q hq) dM_whole_55
      · have h0 : 0 < ci := Nat.pos_of_ne_zero (fun h => c1 (by rw [h]; exact nI_0))
        obtain ⟨⟨pp, hpp, epp⟩, ⟨kc, hkc, ekc⟩, -⟩ := hMI ci h0 hcm
        have hmiss : ∀ k, k < 1024 → k ≠ kc → wq fof fke ci k = wq fof fke pp k := fun k hk hne => wq_miss hmn hMI h0 hcm hpp epp (by rw [ekc]; exact fun q => hne ((nI_eq (by omega) (by omega)).mp q).symm)
        refine lv_aload_n hx hb dM_whole_25 rfl (lv_at hl 3 rfl) ?_
        refine lv_aload_n hx hb dM_whole_26 rfl (lv_at hl 1 rfl) ?_
        refine va_get (D := Γ.1) (ci := 2) (v := .ref (A 2)) (C := RM) (T := TM) (N := 9) hx hb hg inM hown hW.1 hP 0 rfl rfl 2 (by decide) (hg _ kw291) (fun _ h9 => h9) rfl dM_whole_27 ?_
        refine lv_iload_n hx hb dM_whole_30 rfl (lv_at hl 0 rfl) ?_
        refine va_iald (D := Γ.1) (cl := gC) (tys := gT Γ) hx hb hW.1 hP 2 2 rfl rfl (vp_in_nI (show ci < 400 by omega) (by omega)) dM_whole_31 ?_
        rw [nI_clamp (show ci < 2 ^ 31 by omega)]
        rw [ekc]
        refine va_iald (D := Γ.1) (cl := gC) (tys := gT Γ) hx hb hW.1 hP 6 2 rfl rfl (vp_in_nI (show kc < 1024 by omega) (by omega)) dM_whole_32 ?_
        rw [nI_clamp (show kc < 2 ^ 31 by omega)]
        refine lv_if_ne (tgt := 45) hx hb dM_whole_33 (by decide) (fun c2 => ?_) (fun c2 => ?_)
        · refine lv_aload_n hx hb dM_whole_45 rfl (lv_at hl 1 rfl) ?_
          refine va_get (D := Γ.1) (ci := 2) (v := .ref (A 1)) (C := RM) (T := TM) (N := 9) hx hb hg inM hown hW.1 hP 0 rfl rfl 1 (by decide) (hg _ kw290) (fun _ h9 => h9) rfl dM_whole_46 ?_
          refine lv_iload_n hx hb dM_whole_49 rfl (lv_at hl 0 rfl) ?_
          refine va_iald (D := Γ.1) (cl := gC) (tys := gT Γ) hx hb hW.1 hP 1 2 rfl rfl (vp_in_nI (show ci < 400 by omega) (by omega)) dM_whole_50 ?_
          rw [nI_clamp (show ci < 2 ^ 31 by omega)]
          rw [epp]
          refine lv_istore_n (lv' := [(3, .int (nI pp)), (0, .ref (A 0)), (1, .int (nI t)), (2, .ref (A 6))]) hx hb dM_whole_51 rfl hl (by decide) rfl (fun ls hl => ?_)
          refine lv_goto (tgt := 21) hx hb dM_whole_52 (by decide) ?_
          refine ih pp g H locs ls (by omega) (by omega) (fun k hk => ?_) hP hD hS (lv_sub hl [0, 1, 2, 3] rfl)
          rcases hinv k hk with ⟨e1, e2⟩ | e1
          · have hne : k ≠ kc := fun q => c2 (by rw [← q]; exact e1)
            exact Or.inl ⟨e1, e2.trans (hmiss k hk hne)⟩
          · exact Or.inr e1
        · have hd : wq fof fke t kc = ci := by
            rcases hinv kc hkc with ⟨e1, e2⟩ | ⟨e1, e2⟩
            · rw [e2, wq_hit h0 ekc]
            · have h9 := wq_ok hmn hMI kc t ht
              rw [c2] at e2
              exact absurd ((nI_eq (by omega) (by omega)).mp (nI_0.trans e2)).symm e1
          refine lv_aload_n hx hb dM_whole_36 rfl (lv_at hl 3 rfl) ?_
          refine lv_aload_n hx hb dM_whole_37 rfl (lv_at hl 1 rfl) ?_
          refine va_get (D := Γ.1) (ci := 2) (v := .ref (A 2)) (C := RM) (T := TM) (N := 9) hx hb hg inM hown hW.1 hP 0 rfl rfl 2 (by decide) (hg _ kw291) (fun _ h9 => h9) rfl dM_whole_38 ?_
          refine lv_iload_n hx hb dM_whole_41 rfl (lv_at hl 0 rfl) ?_
          refine va_iald (D := Γ.1) (cl := gC) (tys := gT Γ) hx hb hW.1 hP 2 2 rfl rfl (vp_in_nI (show ci < 400 by omega) (by omega)) dM_whole_42 ?_
          rw [nI_clamp (show ci < 2 ^ 31 by omega)]
          rw [ekc]
          refine lv_iload_n hx hb dM_whole_43 rfl (lv_at hl 0 rfl) ?_
          refine va_iast (D := Γ.1) (cl := gC) (tys := gT Γ) hx hb hW.1 hP hD hS 6 2 rfl rfl (vp_in_nI (show kc < 1024 by omega) (by omega)) dM_whole_44 (fun H locs hP hD hS => ?_)
          rw [nI_clamp (show kc < 2 ^ 31 by omega)] at hP hD
          have hP : va_P Γ.1 gC (wM Γ A (er) (nI mn) (fof) (fke) (fst) (fnu) (fno) (upd g kc (nI ci)) (fot)) H := hP
          have hD : va_D (mA Γ) (wM Γ A (er) (nI mn) (fof) (fke) (fst) (fnu) (fno) (upd g kc (nI ci)) (fot)) := hD
          refine lv_aload_n hx hb dM_whole_45 rfl (lv_at hl 1 rfl) ?_
          refine va_get (D := Γ.1) (ci := 2) (v := .ref (A 1)) (C := RM) (T := TM) (N := 9) hx hb hg inM hown hW.1 hP 0 rfl rfl 1 (by decide) (hg _ kw290) (fun _ h9 => h9) rfl dM_whole_46 ?_
          refine lv_iload_n hx hb dM_whole_49 rfl (lv_at hl 0 rfl) ?_
          refine va_iald (D := Γ.1) (cl := gC) (tys := gT Γ) hx hb hW.1 hP 1 2 rfl rfl (vp_in_nI (show ci < 400 by omega) (by omega)) dM_whole_50 ?_
          rw [nI_clamp (show ci < 2 ^ 31 by omega)]
          rw [epp]
          refine lv_istore_n (lv' := [(3, .int (nI pp)), (0, .ref (A 0)), (1, .int (nI t)), (2, .ref (A 6))]) hx hb dM_whole_51 rfl hl (by decide) rfl (fun ls hl => ?_)
          refine lv_goto (tgt := 21) hx hb dM_whole_52 (by decide) ?_
          refine ih pp _ H locs ls (by omega) (by omega) (fun k hk => ?_) hP hD hS (lv_sub hl [0, 1, 2, 3] rfl)
          by_cases hne : k = kc
          · subst hne
            exact Or.inr ⟨by omega, by rw [pk_us, hd]⟩
          · rw [pk_un hne]
            rcases hinv k hk with ⟨e1, e2⟩ | e1
            · exact Or.inl ⟨e1, e2.trans (hmiss k hk hne)⟩
            · exact Or.inr e1
  have key1 : ∀ (n i : Nat) (g : Nat → Int32) (H : Heap) (locs : List Loc) (ls : Array Slot), i + n = 1024 → (∀ k, k < i → g k = 0) → va_P Γ.1 gC (wM Γ A (er) (nI mn) (fof) (fke) (fst) (fnu) (fno) (g) (fot)) H → va_D (mA Γ) (wM Γ A (er) (nI mn) (fof) (fke) (fst) (fnu) (fno) (g) (fot)) → va_S (mA Γ) s.heap H locs → lv_has ls 4 [(3, .int (nI i)), (0, .ref (A 0)), (1, .int (nI t)), (2, .ref (A 6))] → W p l e (headSpec wM_whole ({ frames := 0, cells := 0, slots := 0, locals := 0 })).room s m [.ref (A 0), .int (nI t), .ref (A 6)].toArray below meth c H locs 0 0 (MQ below (va_Qv (fun (g : Nat → Int32) => ∀ k, k < 1024 → g k = nI (wq fof fke t k)) (fun g t => va_P Γ.1 gC (wM Γ A (er) (nI mn) (fof) (fke) (fst) (fnu) (fno) (g) (fot)) t.heap) (mA Γ)) [.ref (A 0), .int (nI t), .ref (A 6)].toArray s 0 0 (mA Γ)) (F0 m 2 ls []) := by
    intro n
    induction n with
    | zero =>
      intro i g H locs ls hi hg0 hP hD hS hl
      refine lv_iload_n hx hb dM_whole_2 rfl (lv_at hl 0 rfl) ?_
      refine lv_sipush (v := 1024) hx hb dM_whole_3 (by decide) ?_
      refine lv_icmp_ge (tgt := 19) hx hb dM_whole_6 (by decide) (fun c1 => ?_) (fun c1 => ?_)
      · refine lv_iload_n hx hb dM_whole_19 rfl (lv_at hl 2 rfl) ?_
        refine lv_istore_n (lv' := [(3, .int (nI t)), (0, .ref (A 0)), (1, .int (nI t)), (2, .ref (A 6))]) hx hb dM_whole_20 rfl hl (by decide) rfl (fun ls hl => ?_)
        exact key2 (t + 1) t g H locs ls (by omega) ht (fun k hk => Or.inl ⟨hg0 k (by omega), rfl⟩) hP hD hS (lv_sub hl [0, 1, 2, 3] rfl)
      · exact absurd (show (1024 : Int32) ≤ nI i from nI_le (a := 1024) (by omega) (by omega)) c1
    | succ n ih =>
      intro i g H locs ls hi hg0 hP hD hS hl
      refine lv_iload_n hx hb dM_whole_2 rfl (lv_at hl 0 rfl) ?_
      refine lv_sipush (v := 1024) hx hb dM_whole_3 (by decide) ?_
      refine lv_icmp_ge (tgt := 19) hx hb dM_whole_6 (by decide) (fun c1 => ?_) (fun c1 => ?_)
      · exact absurd c1 (nI_ge (a := i) (b := 1024) (by omega) (by omega))
      · refine lv_aload_n hx hb dM_whole_9 rfl (lv_at hl 3 rfl) ?_
        refine lv_iload_n hx hb dM_whole_10 rfl (lv_at hl 0 rfl) ?_
        refine lv_iconst (v := 0) hx hb dM_whole_11 (by decide) ?_
        refine va_iast (D := Γ.1) (cl := gC) (tys := gT Γ) hx hb hW.1 hP hD hS 6 2 rfl rfl (vp_in_nI (show i < 1024 by omega) (by omega)) dM_whole_12 (fun H locs hP hD hS => ?_)
        rw [nI_clamp (show i < 2 ^ 31 by omega)] at hP hD
        have hP : va_P Γ.1 gC (wM Γ A (er) (nI mn) (fof) (fke) (fst) (fnu) (fno) (upd g i 0) (fot)) H := hP
        have hD : va_D (mA Γ) (wM Γ A (er) (nI mn) (fof) (fke) (fst) (fnu) (fno) (upd g i 0) (fot)) := hD
        refine lv_iinc (v := nI (i + 1)) (lv' := [(3, .int (nI (i + 1))), (0, .ref (A 0)), (1, .int (nI t)), (2, .ref (A 6))]) hx hb dM_whole_13 hl (k := 0) rfl (nI_1 i) (by decide) rfl (fun ls hl => ?_)
        refine lv_goto (tgt := 2) hx hb dM_whole_16 (by decide) ?_
        refine ih (i + 1) _ H locs ls (by omega) (fun k hk => ?_) hP hD hS (lv_sub hl [0, 1, 2, 3] rfl)
        by_cases e1 : k = i
        · rw [e1, pk_us]
        · rw [pk_un e1]; exact hg0 k (by omega)
  refine lv_iconst (v := 0) hx hb dM_whole_0 (by decide) ?_
  refine lv_istore_n (lv' := [(3, .int 0), (0, .ref (A 0)), (1, .int (nI t)), (2, .ref (A 6))]) hx hb dM_whole_1 rfl hl (by decide) rfl (fun ls hl => ?_)
  exact key1 1024 0 _ s.heap [] ls rfl (fun k hk => absurd hk (by omega)) hP hD hS (lv_sub hl [0, 1, 2, 3] rfl)
set_option maxHeartbeats 4000000 in
set_option maxRecDepth 100000 in
theorem c_M_whole7 (l : Launch) (Γ : gE) (H : Heap) {A : Nat → Nat} {er : Int32} {mn : Nat} {fof fke fst fno fla fot : Nat → Int32} {fnu : Nat → Int64} {t : Nat} (hP : va_P Γ.1 gC (wM Γ A (er) (nI mn) (fof) (fke) (fst) (fnu) (fno) (fla) (fot)) H) (hD : va_D (mA Γ) (wM Γ A (er) (nI mn) (fof) (fke) (fst) (fnu) (fno) (fla) (fot))) (hm : gz Γ ≤ gm0 Γ) (hmn : mn ≤ 400) (hMI : MI mn fof fke fst fno) (ht : t < mn) : Met l yM_whole wM_whole ({ frames := 0, cells := 0, slots := 0, locals := 0 }) (gP Γ H [.ref (A 0), .int (nI t), .ref (A 7)]) (va_Qv (fun (g : Nat → Int32) => ∀ k, k < 1024 → g k = nI (wq fof fke t k)) (fun g t => va_P Γ.1 gC (wM Γ A (er) (nI mn) (fof) (fke) (fst) (fnu) (fno) (fla) (g)) t.heap) (mA Γ)) 0 0 (mA Γ) := by
  refine Met.ofW (cc := cM_whole) (maxL := 4) (ret := none) (by decide) rfl ?_
  intro p e s m args below meth c s₁ B hml hv
  obtain ⟨rfl, rfl, hW⟩ := hv
  have hx := B.exec
  have hb := B.bytes
  have hr := B.returns
  have hg : ∀ w ∈ gW, w.before _ s = true := fun w h => atoms_spec (ws := wM_whole) B.pre w (List.mem_cons_of_mem _ h)
  have hown : s.vm.findClass RM = some m.cls := findClass_of_methodNamed B.named
  have hlocks := B.notSynchronized
  have hS : va_S (gA Γ) s.heap s.heap [] := va_S.rf
  have hl := lv_entry ([.ref (A 0), .int (nI t), .ref (A 7)]) (n := 4) (Nat.le_of_ble_eq_true rfl)
  rw [lg_entry_eq]
  generalize (lg_sl ([.ref (A 0), .int (nI t), .ref (A 7)]) ++ List.replicate (4 - (lg_sl ([.ref (A 0), .int (nI t), .ref (A 7)])).length) Slot.unset).toArray = ls at hl ⊢
  have hl : lv_has ls 4 [(0, .ref (A 0)), (1, .int (nI t)), (2, .ref (A 7))] := hl
  have hS : va_S (mA Γ) s.heap s.heap [] := va_S.rf
  have key2 : ∀ (n ci : Nat) (g : Nat → Int32) (H : Heap) (locs : List Loc) (ls : Array Slot), ci < n → ci < mn → (∀ k, k < 1024 → (g k = 0 ∧ wq fof fke t k = wq fof fke ci k) ∨ (wq fof fke t k ≠ 0 ∧ g k = nI (wq fof fke t k))) → va_P Γ.1 gC (wM Γ A (er) (nI mn) (fof) (fke) (fst) (fnu) (fno) (fla) (g)) H → va_D (mA Γ) (wM Γ A (er) (nI mn) (fof) (fke) (fst) (fnu) (fno) (fla) (g)) → va_S (mA Γ) s.heap H locs → lv_has ls 4 [(3, .int (nI ci)), (0, .ref (A 0)), (1, .int (nI t)), (2, .ref (A 7))] → W p l e (headSpec wM_whole ({ frames := 0, cells := 0, slots := 0, locals := 0 })).room s m [.ref (A 0), .int (nI t), .ref (A 7)].toArray below meth c H locs 0 0 (MQ below (va_Qv (fun (g : Nat → Int32) => ∀ k, k < 1024 → g k = nI (wq fof fke t k)) (fun g t => va_P Γ.1 gC (wM Γ A (er) (nI mn) (fof) (fke) (fst) (fnu) (fno) (fla) (g)) t.heap) (mA Γ)) [.ref (A 0), .int (nI t), .ref (A 7)].toArray s 0 0 (mA Γ)) (F0 m 21 ls []) := by
    intro n
    induction n with
    | zero =>
      intro ci g H locs ls h
      omega
    | succ n ih =>
      intro ci g H locs ls hcn hcm hinv hP hD hS hl
      refine lv_iload_n hx hb dM_whole_21 rfl (lv_at hl 0 rfl) ?_
      refine lv_if_eq (tgt := 55) hx hb dM_whole_22 (by decide) (fun c1 => ?_) (fun c1 => ?_)
      · have h0 : ci = 0 := (nI_eq (by omega) (by omega)).mp (c1.trans nI_0.symm)
        exact W.vret hx hb hr (fun t8 ht8 hW9 => ⟨⟨g, rfl, fun k hk => (hinv k hk).elim (fun e => by rw [e.1, e.2, h0, wq_0]; rfl) (fun e => e.2), by subst ht8; exact hP⟩, hS.F ht8⟩) (fun q hq => hS.2.2 q hq) dM_whole_55
      · have h0 : 0 < ci := Nat.pos_of_ne_zero (fun h => c1 (by rw [h]; exact nI_0))
        obtain ⟨⟨pp, hpp, epp⟩, ⟨kc, hkc, ekc⟩, -⟩ := hMI ci h0 hcm
        have hmiss : ∀ k, k < 1024 → k ≠ kc → wq fof fke ci k = wq fof fke pp k := fun k hk hne => wq_miss hmn hMI h0 hcm hpp epp (by rw [ekc]; exact fun q => hne ((nI_eq (by omega) (by omega)).mp q).symm)
        refine lv_aload_n hx hb dM_whole_25 rfl (lv_at hl 3 rfl) ?_
        refine lv_aload_n hx hb dM_whole_26 rfl (lv_at hl 1 rfl) ?_
        refine va_get (D := Γ.1) (ci := 2) (v := .ref (A 2)) (C := RM) (T := TM) (N := 9) hx hb hg inM hown hW.1 hP 0 rfl rfl 2 (by decide) (hg _ kw291) (fun _ h9 => h9) rfl dM_whole_27 ?_
        refine lv_iload_n hx hb dM_whole_30 rfl (lv_at hl 0 rfl) ?_
        refine va_iald (D := Γ.1) (cl := gC) (tys := gT Γ) hx hb hW.1 hP 2 2 rfl rfl (vp_in_nI (show ci < 400 by omega) (by omega)) dM_whole_31 ?_
        rw [nI_clamp (show ci < 2 ^ 31 by omega)]
        rw [ekc]
        refine va_iald (D := Γ.1) (cl := gC) (tys := gT Γ) hx hb hW.1 hP 7 2 rfl rfl (vp_in_nI (show kc < 1024 by omega) (by omega)) dM_whole_32 ?_
        rw [nI_clamp (show kc < 2 ^ 31 by omega)]
        refine lv_if_ne (tgt := 45) hx hb dM_whole_33 (by decide) (fun c2 => ?_) (fun c2 => ?_)
        · refine lv_aload_n hx hb dM_whole_45 rfl (lv_at hl 1 rfl) ?_
          refine va_get (D := Γ.1) (ci := 2) (v := .ref (A 1)) (C := RM) (T := TM) (N := 9) hx hb hg inM hown hW.1 hP 0 rfl rfl 1 (by decide) (hg _ kw290) (fun _ h9 => h9) rfl dM_whole_46 ?_
          refine lv_iload_n hx hb dM_whole_49 rfl (lv_at hl 0 rfl) ?_
          refine va_iald (D := Γ.1) (cl := gC) (tys := gT Γ) hx hb hW.1 hP 1 2 rfl rfl (vp_in_nI (show ci < 400 by omega) (by omega)) dM_whole_50 ?_
          rw [nI_clamp (show ci < 2 ^ 31 by omega)]
          rw [epp]
          refine lv_istore_n (lv' := [(3, .int (nI pp)), (0, .ref (A 0)), (1, .int (nI t)), (2, .ref (A 7))]) hx hb dM_whole_51 rfl hl (by decide) rfl (fun ls hl => ?_)
          refine lv_goto (tgt := 21) hx hb dM_whole_52 (by decide) ?_
          refine ih pp g H locs ls (by omega) (by omega) (fun k hk => ?_) hP hD hS (lv_sub hl [0, 1, 2, 3] rfl)
          rcases hinv k hk with ⟨e1, e2⟩ | e1
          · have hne : k ≠ kc := fun q => c2 (by rw [← q]; exact e1)
            exact Or.inl ⟨e1, e2.trans (hmiss k hk hne)⟩
          · exact Or.inr e1
        · have hd : wq fof fke t kc = ci := by
            rcases hinv kc hkc with ⟨e1, e2⟩ | ⟨e1, e2⟩
            · rw [e2, wq_hit h0 ekc]
            · have h9 := wq_ok hmn hMI kc t ht
              rw [c2] at e2
              exact absurd ((nI_eq (by omega) (by omega)).mp (nI_0.trans e2)).symm e1
          refine lv_aload_n hx hb dM_whole_36 rfl (lv_at hl 3 rfl) ?_
          refine lv_aload_n hx hb dM_whole_37 rfl (lv_at hl 1 rfl) ?_
          refine va_get (D := Γ.1) (ci := 2) (v := .ref (A 2)) (C := RM) (T := TM) (N := 9) hx hb hg inM hown hW.1 hP 0 rfl rfl 2 (by decide) (hg _ kw291) (fun _ h9 => h9) rfl dM_whole_38 ?_
          refine lv_iload_n hx hb dM_whole_41 rfl (lv_at hl 0 rfl) ?_
          refine va_iald (D := Γ.1) (cl := gC) (tys := gT Γ) hx hb hW.1 hP 2 2 rfl rfl (vp_in_nI (show ci < 400 by omega) (by omega)) dM_whole_42 ?_
          rw [nI_clamp (show ci < 2 ^ 31 by omega)]
          rw [ekc]
          refine lv_iload_n hx hb dM_whole_43 rfl (lv_at hl 0 rfl) ?_
          refine va_iast (D := Γ.1) (cl := gC) (tys := gT Γ) hx hb hW.1 hP hD hS 7 2 rfl rfl (vp_in_nI (show kc < 1024 by omega) (by omega)) dM_whole_44 (fun H locs hP hD hS => ?_)
          rw [nI_clamp (show kc < 2 ^ 31 by omega)] at hP hD
          have hP : va_P Γ.1 gC (wM Γ A (er) (nI mn) (fof) (fke) (fst) (fnu) (fno) (fla) (upd g kc (nI ci))) H := hP
          have hD : va_D (mA Γ) (wM Γ A (er) (nI mn) (fof) (fke) (fst) (fnu) (fno) (fla) (upd g kc (nI ci))) := hD
          refine lv_aload_n hx hb dM_whole_45 rfl (lv_at hl 1 rfl) ?_
          refine va_get (D := Γ.1) (ci := 2) (v := .ref (A 1)) (C := RM) (T := TM) (N := 9) hx hb hg inM hown hW.1 hP 0 rfl rfl 1 (by decide) (hg _ kw290) (fun _ h9 => h9) rfl dM_whole_46 ?_
          refine lv_iload_n hx hb dM_whole_49 rfl (lv_at hl 0 rfl) ?_
          refine va_iald (D := Γ.1) (cl := gC) (tys := gT Γ) hx hb hW.1 hP 1 2 rfl rfl (vp_in_nI (show ci < 400 by omega) (by omega)) dM_whole_50 ?_
          rw [nI_clamp (show ci < 2 ^ 31 by omega)]
          rw [epp]
          refine lv_istore_n (lv' := [(3, .int (nI pp)), (0, .ref (A 0)), (1, .int (nI t)), (2, .ref (A 7))]) hx hb dM_whole_51 rfl hl (by decide) rfl (fun ls hl => ?_)
          refine lv_goto (tgt := 21) hx hb dM_whole_52 (by decide) ?_
          refine ih pp _ H locs ls (by omega) (by omega) (fun k hk => ?_) hP hD hS (lv_sub hl [0, 1, 2, 3] rfl)
          by_cases hne : k = kc
          · subst hne
            exact Or.inr ⟨by omega, by rw [pk_us, hd]⟩
          · rw [pk_un hne]
            rcases hinv k hk with ⟨e1, e2⟩ | e1
            · exact Or.inl ⟨e1, e2.trans (hmiss k hk hne)⟩
            · exact Or.inr e1
  have key1 : ∀ (n i : Nat) (g : Nat → Int32) (H : Heap) (locs : List Loc) (ls : Array Slot), i + n = 1024 → (∀ k, k < i → g k = 0) → va_P Γ.1 gC (wM Γ A (er) (nI mn) (fof) (fke) (fst) (fnu) (fno) (fla) (g)) H → va_D (mA Γ) (wM Γ A (er) (nI mn) (fof) (fke) (fst) (fnu) (fno) (fla) (g)) → va_S (mA Γ) s.heap H locs → lv_has ls 4 [(3, .int (nI i)), (0, .ref (A 0)), (1, .int (nI t)), (2, .ref (A 7))] → W p l e (headSpec wM_whole ({ frames := 0, cells := 0, slots := 0, locals := 0 })).room s m [.ref (A 0), .int (nI t), .ref (A 7)].toArray below meth c H locs 0 0 (MQ below (va_Qv (fun (g : Nat → Int32) => ∀ k, k < 1024 → g k = nI (wq fof fke t k)) (fun g t => va_P Γ.1 gC (wM Γ A (er) (nI mn) (fof) (fke) (fst) (fnu) (fno) (fla) (g)) t.heap) (mA Γ)) [.ref (A 0), .int (nI t), .ref (A 7)].toArray s 0 0 (mA Γ)) (F0 m 2 ls []) := by
    intro n
    induction n with
    | zero =>
      intro i g H locs ls hi hg0 hP hD hS hl
      refine lv_iload_n hx hb dM_whole_2 rfl (lv_at hl 0 rfl) ?_
      refine lv_sipush (v := 1024) hx hb dM_whole_3 (by decide) ?_
      refine lv_icmp_ge (tgt := 19) hx hb dM_whole_6 (by decide) (fun c1 => ?_) (fun c1 => ?_)
      · refine lv_iload_n hx hb dM_whole_19 rfl (lv_at hl 2 rfl) ?_
        refine lv_istore_n (lv' := [(3, .int (nI t)), (0, .ref (A 0)), (1, .int (nI t)), (2, .ref (A 7))]) hx hb dM_whole_20 rfl hl (by decide) rfl (fun ls hl => ?_)
        exact key2 (t + 1) t g H locs ls (by omega) ht (fun k hk => Or.inl ⟨hg0 k (by omega), rfl⟩) hP hD hS (lv_sub hl [0, 1, 2, 3] rfl)
      · exact absurd (show (1024 : Int32) ≤ nI i from nI_le (a := 1024) (by omega) (by omega)) c1
    | succ n ih =>
      intro i g H locs ls hi hg0 hP hD hS hl
      refine lv_iload_n hx hb dM_whole_2 rfl (lv_at hl 0 rfl) ?_
      refine lv_sipush (v := 1024) hx hb dM_whole_3 (by decide) ?_
      refine lv_icmp_ge (tgt := 19) hx hb dM_whole_6 (by decide) (fun c1 => ?_) (fun c1 => ?_)
      · exact absurd c1 (nI_ge (a := i) (b := 1024) (by omega) (by omega))
      · refine lv_aload_n hx hb dM_whole_9 rfl (lv_at hl 3 rfl) ?_
        refine lv_iload_n hx hb dM_whole_10 rfl (lv_at hl 0 rfl) ?_
        refine lv_iconst (v := 0) hx hb dM_whole_11 (by decide) ?_
        refine va_iast (D := Γ.1) (cl := gC) (tys := gT Γ) hx hb hW.1 hP hD hS 7 2 rfl rfl (vp_in_nI (show i < 1024 by omega) (by omega)) dM_whole_12 (fun H locs hP hD hS => ?_)
        rw [nI_clamp (show i < 2 ^ 31 by omega)] at hP hD
        have hP : va_P Γ.1 gC (wM Γ A (er) (nI mn) (fof) (fke) (fst) (fnu) (fno) (fla) (upd g i 0)) H := hP
        have hD : va_D (mA Γ) (wM Γ A (er) (nI mn) (fof) (fke) (fst) (fnu) (fno) (fla) (upd g i 0)) := hD
        refine lv_iinc (v := nI (i + 1)) (lv' := [(3, .int (nI (i + 1))), (0, .ref (A 0)), (1, .int (nI t)), (2, .ref (A 7))]) hx hb dM_whole_13 hl (k := 0) rfl (nI_1 i) (by decide) rfl (fun ls hl => ?_)
        refine lv_goto (tgt := 2) hx hb dM_whole_16 (by decide) ?_
        refine ih (i + 1) _ H locs ls (by omega) (fun k hk => ?_) hP hD hS (lv_sub hl [0, 1, 2, 3] rfl)
        by_cases e1 : k = i
        · rw [e1, pk_us]
        · rw [pk_un e1]; exact hg0 k (by omega)
  refine lv_iconst (v := 0) hx hb dM_whole_0 (by decide) ?_
  refine lv_istore_n (lv' := [(3, .int 0), (0, .ref (A 0)), (1, .int (nI t)), (2, .ref (A 7))]) hx hb dM_whole_1 rfl hl (by decide) rfl (fun ls hl => ?_)
  exact key1 1024 0 _ s.heap [] ls rfl (fun k hk => absurd hk (by omega)) hP hD hS (lv_sub hl [0, 1, 2, 3] rfl)
set_option maxHeartbeats 4000000 in
set_option maxRecDepth 100000 in
theorem c_M_change (l : Launch) (Γ : gE) (H : Heap) {A : Nat → Nat} {er : Int32} {mn : Nat} {fof fke fst fno fla fot : Nat → Int32} {fnu : Nat → Int64} {t k st gone : Int32} {v : Int64} (hP : va_P Γ.1 gC (wM Γ A (er) (nI mn) (fof) (fke) (fst) (fnu) (fno) (fla) (fot)) H) (hD : va_D (mA Γ) (wM Γ A (er) (nI mn) (fof) (fke) (fst) (fnu) (fno) (fla) (fot))) (hm : gz Γ ≤ gm0 Γ) (hmn : mn ≤ 400) (hgo : vp_nar .boolean gone = gone) : Met l yM_change wM_change ({ frames := 2, cells := 0, slots := 0, locals := 200 }) (gP Γ H [.ref (A 0), .int t, .int k, .long v, .int st, .int gone]) (va_Qi (fun r (u : Nat) => (u = 0 ∧ ¬ (inT t mn ∧ inT k 1024 ∧ okS st) ∧ r = 0) ∨ (u = 1 ∧ (inT t mn ∧ inT k 1024 ∧ okS st) ∧ mn = 400 ∧ r = 0) ∨ (u = 2 ∧ (inT t mn ∧ inT k 1024 ∧ okS st) ∧ mn < 400 ∧ r = nI mn)) (fun u t' => va_P Γ.1 gC (match u with | 0 => wM Γ A (1) (nI mn) (fof) (fke) (fst) (fnu) (fno) (fla) (fot) | 1 => wM Γ A (2) (nI mn) (fof) (fke) (fst) (fnu) (fno) (fla) (fot) | _ => wM Γ A (0) (nI (mn + 1)) (upd fof mn t) (upd fke mn k) (upd fst mn st) (vp_updL fnu mn v) (upd fno mn gone) (fla) (fot)) t'.heap) (mA Γ)) 0 0 (mA Γ) := by
  refine Met.ofW (cc := cM_change) (maxL := 7) (ret := (some .int)) (by decide) rfl ?_
  intro p e s m args below meth c s₁ B hml hv
  obtain ⟨rfl, rfl, hW⟩ := hv
  have hx := B.exec
  have hb := B.bytes
  have hr := B.returns
  have hg : ∀ w ∈ gW, w.before _ s = true := fun w h => atoms_spec (ws := wM_change) B.pre w (List.mem_cons_of_mem _ h)
  have hown : s.vm.findClass RM = some m.cls := findClass_of_methodNamed B.named
  have hlocks := B.notSynchronized
  have hS : va_S (gA Γ) s.heap s.heap [] := va_S.rf
  have hl := lv_entry ([.ref (A 0), .int t, .int k, .long v, .int st, .int gone]) (n := 7) (Nat.le_of_ble_eq_true rfl)
  rw [lg_entry_eq]
  generalize (lg_sl ([.ref (A 0), .int t, .int k, .long v, .int st, .int gone]) ++ List.replicate (7 - (lg_sl ([.ref (A 0), .int t, .int k, .long v, .int st, .int gone])).length) Slot.unset).toArray = ls at hl ⊢
  have hl : lv_has ls 7 [(0, .ref (A 0)), (1, .int t), (2, .int k), (3, .long v), (5, .int st), (6, .int gone)] := hl
  have hS : va_S (mA Γ) s.heap s.heap [] := va_S.rf
  refine lv_aload_n hx hb dM_change_0 rfl (lv_at hl 0 rfl) ?_
  refine lv_aload_n hx hb dM_change_1 rfl (lv_at hl 0 rfl) ?_
  refine lv_iload_n hx hb dM_change_2 rfl (lv_at hl 1 rfl) ?_
  refine vp_callSi (W.runV (As := [.int t]) (rest := [.ref (A 0)]) ⟨hx, hb, hml, hown, hg⟩ (c_M_noTable l Γ s.heap (t := t) hP (by omega)) (cwV 1 hg gM_40 rfl rfl rfl (by decide +kernel) ⟨Nat.le_of_ble_eq_true rfl, Nat.le_of_ble_eq_true rfl⟩) (gP_V hW (vS_m hm hS) (ci := 2) rfl (hP 0 _ rfl)) rfl rfl hl.1 rfl (lv_room (Nat.le_of_ble_eq_true rfl)) dM_change_3 ⟨Nat.le_of_ble_eq_true rfl, Nat.le_of_ble_eq_true rfl⟩) (fun r1 hr1 => ?_)
  rcases hr1 with ⟨rfl, h1⟩ | ⟨rfl, h1⟩
  · refine lv_if_ne (tgt := 28) hx hb dM_change_6 (by decide) (fun c1 => ?_) (fun c1 => ?_)
    · exact absurd rfl c1
    · refine lv_iload_n hx hb dM_change_9 rfl (lv_at hl 2 rfl) ?_
      refine vp_callSi (W.runS (As := [.int k]) (rest := [.ref (A 0)]) ⟨hx, hb, hml, hown, hg⟩ (c_M_noKey l Γ s.heap (k := k)) (va_cwS 1 hg gM_44 rfl rfl rfl (by decide +kernel) ⟨Nat.le_of_ble_eq_true rfl, Nat.le_of_ble_eq_true rfl⟩) (gP_S hW (vS_m hm hS)) rfl rfl hl.1 rfl (lv_room (Nat.le_of_ble_eq_true rfl)) dM_change_10 ⟨Nat.le_of_ble_eq_true rfl, Nat.le_of_ble_eq_true rfl⟩) (fun r1 hr1 => ?_)
      rcases hr1 with ⟨rfl, h2⟩ | ⟨rfl, h2⟩
      · refine lv_if_ne (tgt := 28) hx hb dM_change_13 (by decide) (fun c2 => ?_) (fun c2 => ?_)
        · exact absurd rfl c2
        · refine lv_iload hx hb dM_change_16 (lv_at hl 4 rfl) ?_
          refine lv_if_lt (tgt := 28) hx hb dM_change_18 (by decide) (fun c3 => ?_) (fun c3 => ?_)
          · refine lv_iconst (v := 1) hx hb dM_change_28 (by decide) ?_
            refine lv_goto (tgt := 33) hx hb dM_change_29 (by decide) ?_
            refine lv_iconst (v := 1) hx hb dM_change_33 (by decide) ?_
            refine va_calli (va_runV (As := [.int 1, .int 1]) (rest := []) ⟨hx, hb, hml, hown, hg⟩ (c_M_fails1 l Γ s.heap hP hD hm) (cwV 2 hg gM_48 rfl rfl rfl (by decide +kernel) ⟨Nat.le_of_ble_eq_true rfl, Nat.le_of_ble_eq_true rfl⟩) (gP_V hW (vS_m hm hS) (ci := 2) rfl (hP 0 _ rfl)) rfl rfl hl.1 rfl (lv_room (Nat.le_of_ble_eq_true rfl)) dM_change_34 ⟨Nat.le_of_ble_eq_true rfl, Nat.le_of_ble_eq_true rfl⟩) hS (fun q _ h => h) (fun q h => h) (fun r u t9 H1 locs1 ht hvm hp hB hz1 hk1 hS => ?_)
            subst hp
            rw [ht] at hB
            have hP : va_P Γ.1 gC (wM Γ A (1) (nI mn) (fof) (fke) (fst) (fnu) (fno) (fla) (fot)) H1 := hB
            have hD : va_D (mA Γ) (wM Γ A (1) (nI mn) (fof) (fke) (fst) (fnu) (fno) (fla) (fot)) := vD_map (by rfl) hD
            generalize H1 = H at hP hS ⊢
            clear hk1 hz1 ht hB
            refine lv_if_eq (tgt := 42) hx hb dM_change_37 (by decide) (fun c9 => ?_) (fun c9 => ?_)
            · exact absurd c9 (by decide)
            · refine lv_iconst (v := 0) hx hb dM_change_40 (by decide) ?_
              exact W.iret (v := 0) hx hb hr (fun t8 ht8 hW9 => ⟨⟨0, 0, rfl, Or.inl ⟨rfl, fun h => absurd c3 (Int32.not_lt.mpr h.2.2.1), rfl⟩, by subst ht8; exact hP⟩, hS.F ht8⟩) (fun q hq => hS.2.2 q hq) dM_change_41
          · refine lv_iload hx hb dM_change_21 (lv_at hl 4 rfl) ?_
            refine lv_ldc (v := 1000000000) hx hb hown (hg _ kw338) dM_change_23 ?_
            refine lv_icmp_le (tgt := 32) hx hb dM_change_25 (by decide) (fun c4 => ?_) (fun c4 => ?_)
            · have hok : inT t mn ∧ inT k 1024 ∧ okS st := ⟨h1, h2, Int32.not_lt.mp c3, c4⟩
              refine lv_iconst (v := 0) hx hb dM_change_32 (by decide) ?_
              refine lv_iconst (v := 1) hx hb dM_change_33 (by decide) ?_
              refine va_calli (va_runV (As := [.int 0, .int 1]) (rest := []) ⟨hx, hb, hml, hown, hg⟩ (c_M_fails0 l Γ s.heap hP hD hm) (cwV 2 hg gM_48 rfl rfl rfl (by decide +kernel) ⟨Nat.le_of_ble_eq_true rfl, Nat.le_of_ble_eq_true rfl⟩) (gP_V hW (vS_m hm hS) (ci := 2) rfl (hP 0 _ rfl)) rfl rfl hl.1 rfl (lv_room (Nat.le_of_ble_eq_true rfl)) dM_change_34 ⟨Nat.le_of_ble_eq_true rfl, Nat.le_of_ble_eq_true rfl⟩) hS (fun q _ h => h) (fun q h => h) (fun r u t9 H1 locs1 ht hvm hp hB hz1 hk1 hS => ?_)
              subst hp
              rw [ht] at hB
              have hP : va_P Γ.1 gC (wM Γ A (0) (nI mn) (fof) (fke) (fst) (fnu) (fno) (fla) (fot)) H1 := hB
              have hD : va_D (mA Γ) (wM Γ A (0) (nI mn) (fof) (fke) (fst) (fnu) (fno) (fla) (fot)) := vD_map (by rfl) hD
              generalize H1 = H at hP hS ⊢
              clear hk1 hz1 ht hB
              refine lv_if_eq (tgt := 42) hx hb dM_change_37 (by decide) (fun c5 => ?_) (fun c5 => ?_)
              · refine lv_aload_n hx hb dM_change_42 rfl (lv_at hl 0 rfl) ?_
                refine lv_aload_n hx hb dM_change_43 rfl (lv_at hl 0 rfl) ?_
                refine va_get (D := Γ.1) (ci := 2) (v := .int (nI mn)) (C := RM) (T := TM) (N := 9) hx hb hg inM hown hW.1 hP 0 rfl rfl 8 (by decide) (hg _ kw297) (fun _ h9 => h9) rfl dM_change_44 ?_
                refine lv_sipush (v := 400) hx hb dM_change_47 (by decide) ?_
                refine lv_icmp_ne (tgt := 57) hx hb dM_change_50 (by decide) (fun c6 => ?_) (fun c6 => ?_)
                · have hlt : mn < 400 := by
                    rcases Nat.lt_or_ge mn 400 with h | h
                    · exact h
                    · exact absurd (by rw [show mn = 400 by omega]; rfl) c6
                  refine lv_iconst (v := 0) hx hb dM_change_57 (by decide) ?_
                  refine lv_iconst (v := 2) hx hb dM_change_58 (by decide) ?_
                  refine va_calli (va_runV (As := [.int 0, .int 2]) (rest := []) ⟨hx, hb, hml, hown, hg⟩ (c_M_fails0 l Γ H hP hD hm) (cwV 2 hg gM_48 rfl rfl rfl (by decide +kernel) ⟨Nat.le_of_ble_eq_true rfl, Nat.le_of_ble_eq_true rfl⟩) (gP_V hW (vS_m hm hS) (ci := 2) rfl (hP 0 _ rfl)) rfl rfl hl.1 rfl (lv_room (Nat.le_of_ble_eq_true rfl)) dM_change_59 ⟨Nat.le_of_ble_eq_true rfl, Nat.le_of_ble_eq_true rfl⟩) hS (fun q _ h => h) (fun q h => h) (fun r u t9 H1 locs1 ht hvm hp hB hz1 hk1 hS => ?_)
                  subst hp
                  rw [ht] at hB
                  have hP : va_P Γ.1 gC (wM Γ A (0) (nI mn) (fof) (fke) (fst) (fnu) (fno) (fla) (fot)) H1 := hB
                  have hD : va_D (mA Γ) (wM Γ A (0) (nI mn) (fof) (fke) (fst) (fnu) (fno) (fla) (fot)) := vD_map (by rfl) hD
                  generalize H1 = H at hP hS ⊢
                  clear hk1 hz1 ht hB
                  refine lv_if_eq (tgt := 67) hx hb dM_change_62 (by decide) (fun c7 => ?_) (fun c7 => ?_)
                  · refine lv_aload_n hx hb dM_change_67 rfl (lv_at hl 0 rfl) ?_
                    refine va_get (D := Γ.1) (ci := 2) (v := .ref (A 1)) (C := RM) (T := TM) (N := 9) hx hb hg inM hown hW.1 hP 0 rfl rfl 1 (by decide) (hg _ kw290) (fun _ h9 => h9) rfl dM_change_68 ?_
                    refine lv_aload_n hx hb dM_change_71 rfl (lv_at hl 0 rfl) ?_
                    refine va_get (D := Γ.1) (ci := 2) (v := .int (nI mn)) (C := RM) (T := TM) (N := 9) hx hb hg inM hown hW.1 hP 0 rfl rfl 8 (by decide) (hg _ kw297) (fun _ h9 => h9) rfl dM_change_72 ?_
                    refine lv_iload_n hx hb dM_change_75 rfl (lv_at hl 1 rfl) ?_
                    refine va_iast (D := Γ.1) (cl := gC) (tys := gT Γ) hx hb hW.1 hP hD hS 1 2 rfl rfl (vp_in_nI (show mn < 400 by omega) (by omega)) dM_change_76 (fun H locs hP hD hS => ?_)
                    rw [nI_clamp (show mn < 2 ^ 31 by omega)] at hP hD
                    have hP : va_P Γ.1 gC (wM Γ A (0) (nI mn) (upd fof mn t) (fke) (fst) (fnu) (fno) (fla) (fot)) H := hP
                    have hD : va_D (mA Γ) (wM Γ A (0) (nI mn) (upd fof mn t) (fke) (fst) (fnu) (fno) (fla) (fot)) := hD
                    refine lv_aload_n hx hb dM_change_77 rfl (lv_at hl 0 rfl) ?_
                    refine va_get (D := Γ.1) (ci := 2) (v := .ref (A 2)) (C := RM) (T := TM) (N := 9) hx hb hg inM hown hW.1 hP 0 rfl rfl 2 (by decide) (hg _ kw291) (fun _ h9 => h9) rfl dM_change_78 ?_
                    refine lv_aload_n hx hb dM_change_81 rfl (lv_at hl 0 rfl) ?_
                    refine va_get (D := Γ.1) (ci := 2) (v := .int (nI mn)) (C := RM) (T := TM) (N := 9) hx hb hg inM hown hW.1 hP 0 rfl rfl 8 (by decide) (hg _ kw297) (fun _ h9 => h9) rfl dM_change_82 ?_
                    refine lv_iload_n hx hb dM_change_85 rfl (lv_at hl 2 rfl) ?_
                    refine va_iast (D := Γ.1) (cl := gC) (tys := gT Γ) hx hb hW.1 hP hD hS 2 2 rfl rfl (vp_in_nI (show mn < 400 by omega) (by omega)) dM_change_86 (fun H locs hP hD hS => ?_)
                    rw [nI_clamp (show mn < 2 ^ 31 by omega)] at hP hD
                    have hP : va_P Γ.1 gC (wM Γ A (0) (nI mn) (upd fof mn t) (upd fke mn k) (fst) (fnu) (fno) (fla) (fot)) H := hP
                    have hD : va_D (mA Γ) (wM Γ A (0) (nI mn) (upd fof mn t) (upd fke mn k) (fst) (fnu) (fno) (fla) (fot)) := hD
                    refine lv_aload_n hx hb dM_change_87 rfl (lv_at hl 0 rfl) ?_
                    refine va_get (D := Γ.1) (ci := 2) (v := .ref (A 4)) (C := RM) (T := TM) (N := 9) hx hb hg inM hown hW.1 hP 0 rfl rfl 4 (by decide) (hg _ kw293) (fun _ h9 => h9) rfl dM_change_88 ?_
                    refine lv_aload_n hx hb dM_change_91 rfl (lv_at hl 0 rfl) ?_
                    refine va_get (D := Γ.1) (ci := 2) (v := .int (nI mn)) (C := RM) (T := TM) (N := 9) hx hb hg inM hown hW.1 hP 0 rfl rfl 8 (by decide) (hg _ kw297) (fun _ h9 => h9) rfl dM_change_92 ?_
                    refine lv_lload_n hx hb dM_change_95 rfl (lv_at hl 3 rfl) ?_
                    refine va_last (D := Γ.1) (cl := gC) (tys := gT Γ) hx hb hW.1 hP hD hS 4 0 rfl rfl (vp_in_nI (show mn < 400 by omega) (by omega)) dM_change_96 (fun H locs hP hD hS => ?_)
                    rw [nI_clamp (show mn < 2 ^ 31 by omega)] at hP hD
                    have hP : va_P Γ.1 gC (wM Γ A (0) (nI mn) (upd fof mn t) (upd fke mn k) (fst) (vp_updL fnu mn v) (fno) (fla) (fot)) H := hP
                    have hD : va_D (mA Γ) (wM Γ A (0) (nI mn) (upd fof mn t) (upd fke mn k) (fst) (vp_updL fnu mn v) (fno) (fla) (fot)) := hD
                    refine lv_aload_n hx hb dM_change_97 rfl (lv_at hl 0 rfl) ?_
                    refine va_get (D := Γ.1) (ci := 2) (v := .ref (A 5)) (C := RM) (T := TM) (N := 9) hx hb hg inM hown hW.1 hP 0 rfl rfl 5 (by decide) (hg _ kw294) (fun _ h9 => h9) rfl dM_change_98 ?_
                    refine lv_aload_n hx hb dM_change_101 rfl (lv_at hl 0 rfl) ?_
                    refine va_get (D := Γ.1) (ci := 2) (v := .int (nI mn)) (C := RM) (T := TM) (N := 9) hx hb hg inM hown hW.1 hP 0 rfl rfl 8 (by decide) (hg _ kw297) (fun _ h9 => h9) rfl dM_change_102 ?_
                    refine lv_iload hx hb dM_change_105 (lv_at hl 5 rfl) ?_
                    refine va_zast (D := Γ.1) (cl := gC) (tys := gT Γ) hx hb hW.1 hP hD hS 5 3 rfl rfl (vp_in_nI (show mn < 400 by omega) (by omega)) dM_change_107 (fun H locs hP hD hS => ?_)
                    rw [nI_clamp (show mn < 2 ^ 31 by omega)] at hP hD
                    rw [hgo] at hP hD
                    have hP : va_P Γ.1 gC (wM Γ A (0) (nI mn) (upd fof mn t) (upd fke mn k) (fst) (vp_updL fnu mn v) (upd fno mn gone) (fla) (fot)) H := hP
                    have hD : va_D (mA Γ) (wM Γ A (0) (nI mn) (upd fof mn t) (upd fke mn k) (fst) (vp_updL fnu mn v) (upd fno mn gone) (fla) (fot)) := hD
                    refine lv_aload_n hx hb dM_change_108 rfl (lv_at hl 0 rfl) ?_
                    refine va_get (D := Γ.1) (ci := 2) (v := .ref (A 3)) (C := RM) (T := TM) (N := 9) hx hb hg inM hown hW.1 hP 0 rfl rfl 3 (by decide) (hg _ kw292) (fun _ h9 => h9) rfl dM_change_109 ?_
                    refine lv_aload_n hx hb dM_change_112 rfl (lv_at hl 0 rfl) ?_
                    refine va_get (D := Γ.1) (ci := 2) (v := .int (nI mn)) (C := RM) (T := TM) (N := 9) hx hb hg inM hown hW.1 hP 0 rfl rfl 8 (by decide) (hg _ kw297) (fun _ h9 => h9) rfl dM_change_113 ?_
                    refine lv_iload hx hb dM_change_116 (lv_at hl 4 rfl) ?_
                    refine va_iast (D := Γ.1) (cl := gC) (tys := gT Γ) hx hb hW.1 hP hD hS 3 2 rfl rfl (vp_in_nI (show mn < 400 by omega) (by omega)) dM_change_118 (fun H locs hP hD hS => ?_)
                    rw [nI_clamp (show mn < 2 ^ 31 by omega)] at hP hD
                    have hP : va_P Γ.1 gC (wM Γ A (0) (nI mn) (upd fof mn t) (upd fke mn k) (upd fst mn st) (vp_updL fnu mn v) (upd fno mn gone) (fla) (fot)) H := hP
                    have hD : va_D (mA Γ) (wM Γ A (0) (nI mn) (upd fof mn t) (upd fke mn k) (upd fst mn st) (vp_updL fnu mn v) (upd fno mn gone) (fla) (fot)) := hD
                    refine lv_aload_n hx hb dM_change_119 rfl (lv_at hl 0 rfl) ?_
                    refine lv_dup hx hb dM_change_120 rfl ?_
                    refine va_get (D := Γ.1) (ci := 2) (v := .int (nI mn)) (C := RM) (T := TM) (N := 9) hx hb hg inM hown hW.1 hP 0 rfl rfl 8 (by decide) (hg _ kw297) (fun _ h9 => h9) rfl dM_change_121 ?_
                    refine lv_dup_x1 hx hb dM_change_124 rfl rfl ?_
                    refine lv_iconst (v := 1) hx hb dM_change_125 (by decide) ?_
                    refine lv_iadd hx hb dM_change_126 ?_
                    refine lv_topi (fun vv evv => ?_)
                    have evv : vv = nI (mn + 1) := evv.trans (nI_1 mn)
                    subst evv
                    refine va_put (D := Γ.1) (ci := 2) (v := .int (nI (mn + 1))) (ty := .int) (C := RM) (T := TM) (N := 9) hx hb hg inM tyM tyM_ok nmM hown hW.1 hP hD hS 0 rfl rfl 8 (by decide) (hg _ kw297) (fun _ h9 => h9) rfl (by decide +kernel) rfl rfl (Nat.le_of_ble_eq_true rfl) dM_change_127 (fun H locs hP hD hS => ?_)
                    have hP : va_P Γ.1 gC (wM Γ A (0) (nI (mn + 1)) (upd fof mn t) (upd fke mn k) (upd fst mn st) (vp_updL fnu mn v) (upd fno mn gone) (fla) (fot)) H := hP
                    have hD : va_D (mA Γ) (wM Γ A (0) (nI (mn + 1)) (upd fof mn t) (upd fke mn k) (upd fst mn st) (vp_updL fnu mn v) (upd fno mn gone) (fla) (fot)) := hD
                    exact W.iret (v := nI mn) hx hb hr (fun t8 ht8 hW9 => ⟨⟨nI mn, 2, rfl, Or.inr (Or.inr ⟨rfl, hok, hlt, rfl⟩), by subst ht8; exact hP⟩, hS.F ht8⟩) (fun q hq => hS.2.2 q hq) dM_change_130
                  · exact absurd rfl c7
                · have heq : mn = 400 := (nI_eq (b := 400) (by omega) (by omega)).mp c6
                  refine lv_iconst (v := 1) hx hb dM_change_53 (by decide) ?_
                  refine lv_goto (tgt := 58) hx hb dM_change_54 (by decide) ?_
                  refine lv_iconst (v := 2) hx hb dM_change_58 (by decide) ?_
                  refine va_calli (va_runV (As := [.int 1, .int 2]) (rest := []) ⟨hx, hb, hml, hown, hg⟩ (c_M_fails1 l Γ H hP hD hm) (cwV 2 hg gM_48 rfl rfl rfl (by decide +kernel) ⟨Nat.le_of_ble_eq_true rfl, Nat.le_of_ble_eq_true rfl⟩) (gP_V hW (vS_m hm hS) (ci := 2) rfl (hP 0 _ rfl)) rfl rfl hl.1 rfl (lv_room (Nat.le_of_ble_eq_true rfl)) dM_change_59 ⟨Nat.le_of_ble_eq_true rfl, Nat.le_of_ble_eq_true rfl⟩) hS (fun q _ h => h) (fun q h => h) (fun r u t9 H1 locs1 ht hvm hp hB hz1 hk1 hS => ?_)
                  subst hp
                  rw [ht] at hB
                  have hP : va_P Γ.1 gC (wM Γ A (2) (nI mn) (fof) (fke) (fst) (fnu) (fno) (fla) (fot)) H1 := hB
                  have hD : va_D (mA Γ) (wM Γ A (2) (nI mn) (fof) (fke) (fst) (fnu) (fno) (fla) (fot)) := vD_map (by rfl) hD
                  generalize H1 = H at hP hS ⊢
                  clear hk1 hz1 ht hB
                  refine lv_if_eq (tgt := 67) hx hb dM_change_62 (by decide) (fun c7 => ?_) (fun c7 => ?_)
                  · exact absurd c7 (by decide)
                  · refine lv_iconst (v := 0) hx hb dM_change_65 (by decide) ?_
                    exact W.iret (v := 0) hx hb hr (fun t8 ht8 hW9 => ⟨⟨0, 1, rfl, Or.inr (Or.inl ⟨rfl, hok, heq, rfl⟩), by subst ht8; exact hP⟩, hS.F ht8⟩) (fun q hq => hS.2.2 q hq) dM_change_66
              · exact absurd rfl c5
            · refine lv_iconst (v := 1) hx hb dM_change_28 (by decide) ?_
              refine lv_goto (tgt := 33) hx hb dM_change_29 (by decide) ?_
              refine lv_iconst (v := 1) hx hb dM_change_33 (by decide) ?_
              refine va_calli (va_runV (As := [.int 1, .int 1]) (rest := []) ⟨hx, hb, hml, hown, hg⟩ (c_M_fails1 l Γ s.heap hP hD hm) (cwV 2 hg gM_48 rfl rfl rfl (by decide +kernel) ⟨Nat.le_of_ble_eq_true rfl, Nat.le_of_ble_eq_true rfl⟩) (gP_V hW (vS_m hm hS) (ci := 2) rfl (hP 0 _ rfl)) rfl rfl hl.1 rfl (lv_room (Nat.le_of_ble_eq_true rfl)) dM_change_34 ⟨Nat.le_of_ble_eq_true rfl, Nat.le_of_ble_eq_true rfl⟩) hS (fun q _ h => h) (fun q h => h) (fun r u t9 H1 locs1 ht hvm hp hB hz1 hk1 hS => ?_)
              subst hp
              rw [ht] at hB
              have hP : va_P Γ.1 gC (wM Γ A (1) (nI mn) (fof) (fke) (fst) (fnu) (fno) (fla) (fot)) H1 := hB
              have hD : va_D (mA Γ) (wM Γ A (1) (nI mn) (fof) (fke) (fst) (fnu) (fno) (fla) (fot)) := vD_map (by rfl) hD
              generalize H1 = H at hP hS ⊢
              clear hk1 hz1 ht hB
              refine lv_if_eq (tgt := 42) hx hb dM_change_37 (by decide) (fun c9 => ?_) (fun c9 => ?_)
              · exact absurd c9 (by decide)
              · refine lv_iconst (v := 0) hx hb dM_change_40 (by decide) ?_
                exact W.iret (v := 0) hx hb hr (fun t8 ht8 hW9 => ⟨⟨0, 0, rfl, Or.inl ⟨rfl, fun h => c4 h.2.2.2, rfl⟩, by subst ht8; exact hP⟩, hS.F ht8⟩) (fun q hq => hS.2.2 q hq) dM_change_41
      · refine lv_if_ne (tgt := 28) hx hb dM_change_13 (by decide) (fun c8 => ?_) (fun c8 => ?_)
        · refine lv_iconst (v := 1) hx hb dM_change_28 (by decide) ?_
          refine lv_goto (tgt := 33) hx hb dM_change_29 (by decide) ?_
          refine lv_iconst (v := 1) hx hb dM_change_33 (by decide) ?_
          refine va_calli (va_runV (As := [.int 1, .int 1]) (rest := []) ⟨hx, hb, hml, hown, hg⟩ (c_M_fails1 l Γ s.heap hP hD hm) (cwV 2 hg gM_48 rfl rfl rfl (by decide +kernel) ⟨Nat.le_of_ble_eq_true rfl, Nat.le_of_ble_eq_true rfl⟩) (gP_V hW (vS_m hm hS) (ci := 2) rfl (hP 0 _ rfl)) rfl rfl hl.1 rfl (lv_room (Nat.le_of_ble_eq_true rfl)) dM_change_34 ⟨Nat.le_of_ble_eq_true rfl, Nat.le_of_ble_eq_true rfl⟩) hS (fun q _ h => h) (fun q h => h) (fun r u t9 H1 locs1 ht hvm hp hB hz1 hk1 hS => ?_)
          subst hp
          rw [ht] at hB
          have hP : va_P Γ.1 gC (wM Γ A (1) (nI mn) (fof) (fke) (fst) (fnu) (fno) (fla) (fot)) H1 := hB
          have hD : va_D (mA Γ) (wM Γ A (1) (nI mn) (fof) (fke) (fst) (fnu) (fno) (fla) (fot)) := vD_map (by rfl) hD
          generalize H1 = H at hP hS ⊢
          clear hk1 hz1 ht hB
          refine lv_if_eq (tgt := 42) hx hb dM_change_37 (by decide) (fun c9 => ?_) (fun c9 => ?_)
          · exact absurd c9 (by decide)
          · refine lv_iconst (v := 0) hx hb dM_change_40 (by decide) ?_
            exact W.iret (v := 0) hx hb hr (fun t8 ht8 hW9 => ⟨⟨0, 0, rfl, Or.inl ⟨rfl, fun h => h2 h.2.1, rfl⟩, by subst ht8; exact hP⟩, hS.F ht8⟩) (fun q hq => hS.2.2 q hq) dM_change_41
        · exact absurd c8 (by decide)
  · refine lv_if_ne (tgt := 28) hx hb dM_change_6 (by decide) (fun c8 => ?_) (fun c8 => ?_)
    · refine lv_iconst (v := 1) hx hb dM_change_28 (by decide) ?_
      refine lv_goto (tgt := 33) hx hb dM_change_29 (by decide) ?_
      refine lv_iconst (v := 1) hx hb dM_change_33 (by decide) ?_
      refine va_calli (va_runV (As := [.int 1, .int 1]) (rest := []) ⟨hx, hb, hml, hown, hg⟩ (c_M_fails1 l Γ s.heap hP hD hm) (cwV 2 hg gM_48 rfl rfl rfl (by decide +kernel) ⟨Nat.le_of_ble_eq_true rfl, Nat.le_of_ble_eq_true rfl⟩) (gP_V hW (vS_m hm hS) (ci := 2) rfl (hP 0 _ rfl)) rfl rfl hl.1 rfl (lv_room (Nat.le_of_ble_eq_true rfl)) dM_change_34 ⟨Nat.le_of_ble_eq_true rfl, Nat.le_of_ble_eq_true rfl⟩) hS (fun q _ h => h) (fun q h => h) (fun r u t9 H1 locs1 ht hvm hp hB hz1 hk1 hS => ?_)
      subst hp
      rw [ht] at hB
      have hP : va_P Γ.1 gC (wM Γ A (1) (nI mn) (fof) (fke) (fst) (fnu) (fno) (fla) (fot)) H1 := hB
      have hD : va_D (mA Γ) (wM Γ A (1) (nI mn) (fof) (fke) (fst) (fnu) (fno) (fla) (fot)) := vD_map (by rfl) hD
      generalize H1 = H at hP hS ⊢
      clear hk1 hz1 ht hB
      refine lv_if_eq (tgt := 42) hx hb dM_change_37 (by decide) (fun c9 => ?_) (fun c9 => ?_)
      · exact absurd c9 (by decide)
      · refine lv_iconst (v := 0) hx hb dM_change_40 (by decide) ?_
        exact W.iret (v := 0) hx hb hr (fun t8 ht8 hW9 => ⟨⟨0, 0, rfl, Or.inl ⟨rfl, fun h => h1 h.1, rfl⟩, by subst ht8; exact hP⟩, hS.F ht8⟩) (fun q hq => hS.2.2 q hq) dM_change_41
    · exact absurd c8 (by decide)
set_option maxHeartbeats 4000000 in
set_option maxRecDepth 100000 in
theorem c_M_put (l : Launch) (Γ : gE) (H : Heap) {A : Nat → Nat} {er : Int32} {mn : Nat} {fof fke fst fno fla fot : Nat → Int32} {fnu : Nat → Int64} {t k st : Int32} {v : Int64} (hP : va_P Γ.1 gC (wM Γ A (er) (nI mn) (fof) (fke) (fst) (fnu) (fno) (fla) (fot)) H) (hD : va_D (mA Γ) (wM Γ A (er) (nI mn) (fof) (fke) (fst) (fnu) (fno) (fla) (fot))) (hm : gz Γ ≤ gm0 Γ) (hmn : mn ≤ 400) : Met l yM_put wM_put ({ frames := 4, cells := 0, slots := 0, locals := 400 }) (gP Γ H [.ref (A 0), .int t, .int k, .long v, .int st]) (va_Qi (fun r (u : Nat) => (u = 0 ∧ ¬ (inT t mn ∧ inT k 1024 ∧ okS st) ∧ r = 0) ∨ (u = 1 ∧ (inT t mn ∧ inT k 1024 ∧ okS st) ∧ mn = 400 ∧ r = 0) ∨ (u = 2 ∧ (inT t mn ∧ inT k 1024 ∧ okS st) ∧ mn < 400 ∧ r = nI mn)) (fun u t' => va_P Γ.1 gC (match u with | 0 => wM Γ A (1) (nI mn) (fof) (fke) (fst) (fnu) (fno) (fla) (fot) | 1 => wM Γ A (2) (nI mn) (fof) (fke) (fst) (fnu) (fno) (fla) (fot) | _ => wM Γ A (0) (nI (mn + 1)) (upd fof mn t) (upd fke mn k) (upd fst mn st) (vp_updL fnu mn v) (upd fno mn 0) (fla) (fot)) t'.heap) (mA Γ)) 0 0 (mA Γ) := by
  refine Met.ofW (cc := cM_put) (maxL := 6) (ret := (some .int)) (by decide) rfl ?_
  intro p e s m args below meth c s₁ B hml hv
  obtain ⟨rfl, rfl, hW⟩ := hv
  have hx := B.exec
  have hb := B.bytes
  have hr := B.returns
  have hg : ∀ w ∈ gW, w.before _ s = true := fun w h => atoms_spec (ws := wM_put) B.pre w (List.mem_cons_of_mem _ h)
  have hown : s.vm.findClass RM = some m.cls := findClass_of_methodNamed B.named
  have hlocks := B.notSynchronized
  have hS : va_S (gA Γ) s.heap s.heap [] := va_S.rf
  have hl := lv_entry ([.ref (A 0), .int t, .int k, .long v, .int st]) (n := 6) (Nat.le_of_ble_eq_true rfl)
  rw [lg_entry_eq]
  generalize (lg_sl ([.ref (A 0), .int t, .int k, .long v, .int st]) ++ List.replicate (6 - (lg_sl ([.ref (A 0), .int t, .int k, .long v, .int st])).length) Slot.unset).toArray = ls at hl ⊢
  have hl : lv_has ls 6 [(0, .ref (A 0)), (1, .int t), (2, .int k), (3, .long v), (5, .int st)] := hl
  have hS : va_S (mA Γ) s.heap s.heap [] := va_S.rf
  refine lv_aload_n hx hb dM_put_0 rfl (lv_at hl 0 rfl) ?_
  refine lv_iload_n hx hb dM_put_1 rfl (lv_at hl 1 rfl) ?_
  refine lv_iload_n hx hb dM_put_2 rfl (lv_at hl 2 rfl) ?_
  refine lv_lload_n hx hb dM_put_3 rfl (lv_at hl 3 rfl) ?_
  refine lv_iload hx hb dM_put_4 (lv_at hl 4 rfl) ?_
  refine lv_iconst (v := 0) hx hb dM_put_6 (by decide) ?_
  refine va_calli (va_runV (As := [.int t, .int k, .long v, .int st, .int 0]) (rest := []) ⟨hx, hb, hml, hown, hg⟩ (c_M_change l Γ s.heap (t := t) (k := k) (v := v) (st := st) (gone := 0) hP hD hm hmn (by decide)) (cwV 5 hg gM_52 rfl rfl rfl (by decide +kernel) ⟨Nat.le_of_ble_eq_true rfl, Nat.le_of_ble_eq_true rfl⟩) (gP_V hW (vS_m hm hS) (ci := 2) rfl (hP 0 _ rfl)) rfl rfl hl.1 rfl (lv_room (Nat.le_of_ble_eq_true rfl)) dM_put_7 ⟨Nat.le_of_ble_eq_true rfl, Nat.le_of_ble_eq_true rfl⟩) hS (fun q _ h => h) (fun q h => h) (fun r u t9 H1 locs1 ht hvm hp hB hz1 hk1 hS => ?_)
  exact W.iret (v := r) hx hb hr (fun t8 ht8 hW9 => ⟨⟨r, u, rfl, hp, by rw [ht] at hB; rw [← ht8] at hB; exact hB⟩, hS.F ht8⟩) (fun q hq => hS.2.2 q hq) dM_put_10
set_option maxHeartbeats 4000000 in
set_option maxRecDepth 100000 in
theorem c_M_delete (l : Launch) (Γ : gE) (H : Heap) {A : Nat → Nat} {er : Int32} {mn : Nat} {fof fke fst fno fla fot : Nat → Int32} {fnu : Nat → Int64} {t k st : Int32} (hP : va_P Γ.1 gC (wM Γ A (er) (nI mn) (fof) (fke) (fst) (fnu) (fno) (fla) (fot)) H) (hD : va_D (mA Γ) (wM Γ A (er) (nI mn) (fof) (fke) (fst) (fnu) (fno) (fla) (fot))) (hm : gz Γ ≤ gm0 Γ) (hmn : mn ≤ 400) : Met l yM_delete wM_delete ({ frames := 4, cells := 0, slots := 0, locals := 400 }) (gP Γ H [.ref (A 0), .int t, .int k, .int st]) (va_Qi (fun r (u : Nat) => (u = 0 ∧ ¬ (inT t mn ∧ inT k 1024 ∧ okS st) ∧ r = 0) ∨ (u = 1 ∧ (inT t mn ∧ inT k 1024 ∧ okS st) ∧ mn = 400 ∧ r = 0) ∨ (u = 2 ∧ (inT t mn ∧ inT k 1024 ∧ okS st) ∧ mn < 400 ∧ r = nI mn)) (fun u t' => va_P Γ.1 gC (match u with | 0 => wM Γ A (1) (nI mn) (fof) (fke) (fst) (fnu) (fno) (fla) (fot) | 1 => wM Γ A (2) (nI mn) (fof) (fke) (fst) (fnu) (fno) (fla) (fot) | _ => wM Γ A (0) (nI (mn + 1)) (upd fof mn t) (upd fke mn k) (upd fst mn st) (vp_updL fnu mn 0) (upd fno mn 1) (fla) (fot)) t'.heap) (mA Γ)) 0 0 (mA Γ) := by
  refine Met.ofW (cc := cM_delete) (maxL := 4) (ret := (some .int)) (by decide) rfl ?_
  intro p e s m args below meth c s₁ B hml hv
  obtain ⟨rfl, rfl, hW⟩ := hv
  have hx := B.exec
  have hb := B.bytes
  have hr := B.returns
  have hg : ∀ w ∈ gW, w.before _ s = true := fun w h => atoms_spec (ws := wM_delete) B.pre w (List.mem_cons_of_mem _ h)
  have hown : s.vm.findClass RM = some m.cls := findClass_of_methodNamed B.named
  have hlocks := B.notSynchronized
  have hS : va_S (gA Γ) s.heap s.heap [] := va_S.rf
  have hl := lv_entry ([.ref (A 0), .int t, .int k, .int st]) (n := 4) (Nat.le_of_ble_eq_true rfl)
  rw [lg_entry_eq]
  generalize (lg_sl ([.ref (A 0), .int t, .int k, .int st]) ++ List.replicate (4 - (lg_sl ([.ref (A 0), .int t, .int k, .int st])).length) Slot.unset).toArray = ls at hl ⊢
  have hl : lv_has ls 4 [(0, .ref (A 0)), (1, .int t), (2, .int k), (3, .int st)] := hl
  have hS : va_S (mA Γ) s.heap s.heap [] := va_S.rf
  refine lv_aload_n hx hb dM_delete_0 rfl (lv_at hl 0 rfl) ?_
  refine lv_iload_n hx hb dM_delete_1 rfl (lv_at hl 1 rfl) ?_
  refine lv_iload_n hx hb dM_delete_2 rfl (lv_at hl 2 rfl) ?_
  refine lv_lconst (v := 0) hx hb dM_delete_3 (by decide) ?_
  refine lv_iload_n hx hb dM_delete_4 rfl (lv_at hl 3 rfl) ?_
  refine lv_iconst (v := 1) hx hb dM_delete_5 (by decide) ?_
  refine va_calli (va_runV (As := [.int t, .int k, .long 0, .int st, .int 1]) (rest := []) ⟨hx, hb, hml, hown, hg⟩ (c_M_change l Γ s.heap (t := t) (k := k) (v := 0) (st := st) (gone := 1) hP hD hm hmn (by decide)) (cwV 5 hg gM_52 rfl rfl rfl (by decide +kernel) ⟨Nat.le_of_ble_eq_true rfl, Nat.le_of_ble_eq_true rfl⟩) (gP_V hW (vS_m hm hS) (ci := 2) rfl (hP 0 _ rfl)) rfl rfl hl.1 rfl (lv_room (Nat.le_of_ble_eq_true rfl)) dM_delete_6 ⟨Nat.le_of_ble_eq_true rfl, Nat.le_of_ble_eq_true rfl⟩) hS (fun q _ h => h) (fun q h => h) (fun r u t9 H1 locs1 ht hvm hp hB hz1 hk1 hS => ?_)
  exact W.iret (v := r) hx hb hr (fun t8 ht8 hW9 => ⟨⟨r, u, rfl, hp, by rw [ht] at hB; rw [← ht8] at hB; exact hB⟩, hS.F ht8⟩) (fun q hq => hS.2.2 q hq) dM_delete_9
set_option maxHeartbeats 4000000 in
set_option maxRecDepth 100000 in
theorem c_M_get (l : Launch) (Γ : gE) (H : Heap) {A : Nat → Nat} {er : Int32} {mn : Nat} {fof fke fst fno fla fot : Nat → Int32} {fnu : Nat → Int64} {t k : Int32} (hP : va_P Γ.1 gC (wM Γ A (er) (nI mn) (fof) (fke) (fst) (fnu) (fno) (fla) (fot)) H) (hD : va_D (mA Γ) (wM Γ A (er) (nI mn) (fof) (fke) (fst) (fnu) (fno) (fla) (fot))) (hm : gz Γ ≤ gm0 Γ) (hmn : mn ≤ 400) (hMI : MI mn fof fke fst fno) : Met l yM_get wM_get ({ frames := 2, cells := 0, slots := 0, locals := 200 }) (gP Γ H [.ref (A 0), .int t, .int k]) (va_Ql (fun r (u : Nat) => (u = 0 ∧ ¬ (inT t mn ∧ inT k 1024) ∧ r = 0) ∨ (u = 1 ∧ (∃ tj kj, tj < mn ∧ t = nI tj ∧ kj < 1024 ∧ k = nI kj ∧ mV fof fke fnu fno tj kj = none) ∧ r = 0) ∨ (u = 2 ∧ ∃ tj kj, tj < mn ∧ t = nI tj ∧ kj < 1024 ∧ k = nI kj ∧ mV fof fke fnu fno tj kj = some r)) (fun u t' => va_P Γ.1 gC (match u with | 0 => wM Γ A (1) (nI mn) (fof) (fke) (fst) (fnu) (fno) (fla) (fot) | 1 => wM Γ A (2) (nI mn) (fof) (fke) (fst) (fnu) (fno) (fla) (fot) | _ => wM Γ A (0) (nI mn) (fof) (fke) (fst) (fnu) (fno) (fla) (fot)) t'.heap) (mA Γ)) 0 0 (mA Γ) := by
  refine Met.ofW (cc := cM_get) (maxL := 4) (ret := (some .long)) (by decide) rfl ?_
  intro p e s m args below meth c s₁ B hml hv
  obtain ⟨rfl, rfl, hW⟩ := hv
  have hx := B.exec
  have hb := B.bytes
  have hr := B.returns
  have hg : ∀ w ∈ gW, w.before _ s = true := fun w h => atoms_spec (ws := wM_get) B.pre w (List.mem_cons_of_mem _ h)
  have hown : s.vm.findClass RM = some m.cls := findClass_of_methodNamed B.named
  have hlocks := B.notSynchronized
  have hS : va_S (gA Γ) s.heap s.heap [] := va_S.rf
  have hl := lv_entry ([.ref (A 0), .int t, .int k]) (n := 4) (Nat.le_of_ble_eq_true rfl)
  rw [lg_entry_eq]
  generalize (lg_sl ([.ref (A 0), .int t, .int k]) ++ List.replicate (4 - (lg_sl ([.ref (A 0), .int t, .int k])).length) Slot.unset).toArray = ls at hl ⊢
  have hl : lv_has ls 4 [(0, .ref (A 0)), (1, .int t), (2, .int k)] := hl
  have hS : va_S (mA Γ) s.heap s.heap [] := va_S.rf
  refine lv_aload_n hx hb dM_get_0 rfl (lv_at hl 0 rfl) ?_
  refine lv_aload_n hx hb dM_get_1 rfl (lv_at hl 0 rfl) ?_
  refine lv_iload_n hx hb dM_get_2 rfl (lv_at hl 1 rfl) ?_
  refine vp_callSi (W.runV (As := [.int t]) (rest := [.ref (A 0)]) ⟨hx, hb, hml, hown, hg⟩ (c_M_noTable l Γ s.heap (t := t) hP (by omega)) (cwV 1 hg gM_40 rfl rfl rfl (by decide +kernel) ⟨Nat.le_of_ble_eq_true rfl, Nat.le_of_ble_eq_true rfl⟩) (gP_V hW (vS_m hm hS) (ci := 2) rfl (hP 0 _ rfl)) rfl rfl hl.1 rfl (lv_room (Nat.le_of_ble_eq_true rfl)) dM_get_3 ⟨Nat.le_of_ble_eq_true rfl, Nat.le_of_ble_eq_true rfl⟩) (fun r1 hr1 => ?_)
  rcases hr1 with ⟨rfl, h1⟩ | ⟨rfl, h1⟩
  · refine lv_if_ne (tgt := 16) hx hb dM_get_6 (by decide) (fun c1 => ?_) (fun c1 => ?_)
    · exact absurd rfl c1
    · refine lv_iload_n hx hb dM_get_9 rfl (lv_at hl 2 rfl) ?_
      refine vp_callSi (W.runS (As := [.int k]) (rest := [.ref (A 0)]) ⟨hx, hb, hml, hown, hg⟩ (c_M_noKey l Γ s.heap (k := k)) (va_cwS 1 hg gM_44 rfl rfl rfl (by decide +kernel) ⟨Nat.le_of_ble_eq_true rfl, Nat.le_of_ble_eq_true rfl⟩) (gP_S hW (vS_m hm hS)) rfl rfl hl.1 rfl (lv_room (Nat.le_of_ble_eq_true rfl)) dM_get_10 ⟨Nat.le_of_ble_eq_true rfl, Nat.le_of_ble_eq_true rfl⟩) (fun r1 hr1 => ?_)
      rcases hr1 with ⟨rfl, h2⟩ | ⟨rfl, h2⟩
      · refine lv_if_eq (tgt := 20) hx hb dM_get_13 (by decide) (fun c2 => ?_) (fun c2 => ?_)
        · obtain ⟨tj, htj, rfl⟩ := h1
          obtain ⟨kj, hkj, rfl⟩ := h2
          refine lv_iconst (v := 0) hx hb dM_get_20 (by decide) ?_
          refine lv_iconst (v := 1) hx hb dM_get_21 (by decide) ?_
          refine va_calli (va_runV (As := [.int 0, .int 1]) (rest := []) ⟨hx, hb, hml, hown, hg⟩ (c_M_fails0 l Γ s.heap hP hD hm) (cwV 2 hg gM_48 rfl rfl rfl (by decide +kernel) ⟨Nat.le_of_ble_eq_true rfl, Nat.le_of_ble_eq_true rfl⟩) (gP_V hW (vS_m hm hS) (ci := 2) rfl (hP 0 _ rfl)) rfl rfl hl.1 rfl (lv_room (Nat.le_of_ble_eq_true rfl)) dM_get_22 ⟨Nat.le_of_ble_eq_true rfl, Nat.le_of_ble_eq_true rfl⟩) hS (fun q _ h => h) (fun q h => h) (fun r u t9 H1 locs1 ht hvm hp hB hz1 hk1 hS => ?_)
          subst hp
          rw [ht] at hB
          have hP : va_P Γ.1 gC (wM Γ A (0) (nI mn) (fof) (fke) (fst) (fnu) (fno) (fla) (fot)) H1 := hB
          have hD : va_D (mA Γ) (wM Γ A (0) (nI mn) (fof) (fke) (fst) (fnu) (fno) (fla) (fot)) := vD_map (by rfl) hD
          generalize H1 = H at hP hS ⊢
          clear hk1 hz1 ht hB
          refine lv_if_eq (tgt := 30) hx hb dM_get_25 (by decide) (fun c5 => ?_) (fun c5 => ?_)
          · refine lv_aload_n hx hb dM_get_30 rfl (lv_at hl 0 rfl) ?_
            refine lv_iload_n hx hb dM_get_31 rfl (lv_at hl 1 rfl) ?_
            refine lv_iload_n hx hb dM_get_32 rfl (lv_at hl 2 rfl) ?_
            refine vp_callSi (W.runV (As := [.int (nI tj), .int (nI kj)]) (rest := []) ⟨hx, hb, hml, hown, hg⟩ (c_M_wrote l Γ H (t := tj) (k := kj) hP hmn hMI htj) (cwV 2 hg gM_56 rfl rfl rfl (by decide +kernel) ⟨Nat.le_of_ble_eq_true rfl, Nat.le_of_ble_eq_true rfl⟩) (gP_V hW (vS_m hm hS) (ci := 2) rfl (hP 0 _ rfl)) rfl rfl hl.1 rfl (lv_room (Nat.le_of_ble_eq_true rfl)) dM_get_33 ⟨Nat.le_of_ble_eq_true rfl, Nat.le_of_ble_eq_true rfl⟩) (fun r2 hr2 => ?_)
            subst hr2
            have hwl := (wq_ok hmn hMI kj tj htj).1
            generalize hwq : wq fof fke tj kj = cc at hwl ⊢
            refine lv_istore_n (lv' := [(3, .int (nI cc)), (0, .ref (A 0)), (1, .int (nI tj)), (2, .int (nI kj))]) hx hb dM_get_36 rfl hl (by decide) rfl (fun ls hl => ?_)
            refine lv_aload_n hx hb dM_get_37 rfl (lv_at hl 1 rfl) ?_
            refine lv_iload_n hx hb dM_get_38 rfl (lv_at hl 0 rfl) ?_
            refine lv_if_eq (tgt := 51) hx hb dM_get_39 (by decide) (fun c6 => ?_) (fun c6 => ?_)
            · have h0 : cc = 0 := (nI_eq (by omega) (by omega)).mp (c6.trans nI_0.symm)
              refine lv_iconst (v := 1) hx hb dM_get_51 (by decide) ?_
              refine lv_goto (tgt := 56) hx hb dM_get_52 (by decide) ?_
              refine lv_iconst (v := 2) hx hb dM_get_56 (by decide) ?_
              refine va_calli (va_runV (As := [.int 1, .int 2]) (rest := []) ⟨hx, hb, hml, hown, hg⟩ (c_M_fails1 l Γ H hP hD hm) (cwV 2 hg gM_48 rfl rfl rfl (by decide +kernel) ⟨Nat.le_of_ble_eq_true rfl, Nat.le_of_ble_eq_true rfl⟩) (gP_V hW (vS_m hm hS) (ci := 2) rfl (hP 0 _ rfl)) rfl rfl hl.1 rfl (lv_room (Nat.le_of_ble_eq_true rfl)) dM_get_57 ⟨Nat.le_of_ble_eq_true rfl, Nat.le_of_ble_eq_true rfl⟩) hS (fun q _ h => h) (fun q h => h) (fun r u t9 H1 locs1 ht hvm hp hB hz1 hk1 hS => ?_)
              subst hp
              rw [ht] at hB
              have hP : va_P Γ.1 gC (wM Γ A (2) (nI mn) (fof) (fke) (fst) (fnu) (fno) (fla) (fot)) H1 := hB
              have hD : va_D (mA Γ) (wM Γ A (2) (nI mn) (fof) (fke) (fst) (fnu) (fno) (fla) (fot)) := vD_map (by rfl) hD
              generalize H1 = H at hP hS ⊢
              clear hk1 hz1 ht hB
              refine lv_if_eq (tgt := 67) hx hb dM_get_60 (by decide) (fun c7 => ?_) (fun c7 => ?_)
              · exact absurd c7 (by decide)
              · refine lv_lconst (v := 0) hx hb dM_get_63 (by decide) ?_
                refine lv_goto (tgt := 73) hx hb dM_get_64 (by decide) ?_
                exact W.lret (v := 0) hx hb hr (fun t8 ht8 hW9 => ⟨⟨0, 1, rfl, Or.inr (Or.inl ⟨rfl, ⟨tj, kj, htj, rfl, hkj, rfl, by simp [mV, hwq, h0]⟩, rfl⟩), by subst ht8; exact hP⟩, hS.F ht8⟩) (fun q hq => hS.2.2 q hq) dM_get_73
            · have h0 : ¬ cc = 0 := fun h => c6 (by rw [h]; exact nI_0)
              refine lv_aload_n hx hb dM_get_42 rfl (lv_at hl 1 rfl) ?_
              refine va_get (D := Γ.1) (ci := 2) (v := .ref (A 5)) (C := RM) (T := TM) (N := 9) hx hb hg inM hown hW.1 hP 0 rfl rfl 5 (by decide) (hg _ kw294) (fun _ h9 => h9) rfl dM_get_43 ?_
              refine lv_iload_n hx hb dM_get_46 rfl (lv_at hl 0 rfl) ?_
              refine va_zald (D := Γ.1) (cl := gC) (tys := gT Γ) hx hb hW.1 hP 5 3 rfl rfl (vp_in_nI (show cc < 400 by omega) (by omega)) dM_get_47 ?_
              rw [nI_clamp (show cc < 2 ^ 31 by omega)]
              refine lv_if_eq (tgt := 55) hx hb dM_get_48 (by decide) (fun c10 => ?_) (fun c10 => ?_)
              · refine lv_iconst (v := 0) hx hb dM_get_55 (by decide) ?_
                refine lv_iconst (v := 2) hx hb dM_get_56 (by decide) ?_
                refine va_calli (va_runV (As := [.int 0, .int 2]) (rest := []) ⟨hx, hb, hml, hown, hg⟩ (c_M_fails0 l Γ H hP hD hm) (cwV 2 hg gM_48 rfl rfl rfl (by decide +kernel) ⟨Nat.le_of_ble_eq_true rfl, Nat.le_of_ble_eq_true rfl⟩) (gP_V hW (vS_m hm hS) (ci := 2) rfl (hP 0 _ rfl)) rfl rfl hl.1 rfl (lv_room (Nat.le_of_ble_eq_true rfl)) dM_get_57 ⟨Nat.le_of_ble_eq_true rfl, Nat.le_of_ble_eq_true rfl⟩) hS (fun q _ h => h) (fun q h => h) (fun r u t9 H1 locs1 ht hvm hp hB hz1 hk1 hS => ?_)
                subst hp
                rw [ht] at hB
                have hP : va_P Γ.1 gC (wM Γ A (0) (nI mn) (fof) (fke) (fst) (fnu) (fno) (fla) (fot)) H1 := hB
                have hD : va_D (mA Γ) (wM Γ A (0) (nI mn) (fof) (fke) (fst) (fnu) (fno) (fla) (fot)) := vD_map (by rfl) hD
                generalize H1 = H at hP hS ⊢
                clear hk1 hz1 ht hB
                refine lv_if_eq (tgt := 67) hx hb dM_get_60 (by decide) (fun c7 => ?_) (fun c7 => ?_)
                · refine lv_aload_n hx hb dM_get_67 rfl (lv_at hl 1 rfl) ?_
                  refine va_get (D := Γ.1) (ci := 2) (v := .ref (A 4)) (C := RM) (T := TM) (N := 9) hx hb hg inM hown hW.1 hP 0 rfl rfl 4 (by decide) (hg _ kw293) (fun _ h9 => h9) rfl dM_get_68 ?_
                  refine lv_iload_n hx hb dM_get_71 rfl (lv_at hl 0 rfl) ?_
                  refine va_lald (D := Γ.1) (cl := gC) (tys := gT Γ) hx hb hW.1 hP 4 0 rfl rfl (vp_in_nI (show cc < 400 by omega) (by omega)) dM_get_72 ?_
                  rw [nI_clamp (show cc < 2 ^ 31 by omega)]
                  exact W.lret (v := fnu cc) hx hb hr (fun t8 ht8 hW9 => ⟨⟨fnu cc, 2, rfl, Or.inr (Or.inr ⟨rfl, tj, kj, htj, rfl, hkj, rfl, by simp [mV, hwq, h0, c10]⟩), by subst ht8; exact hP⟩, hS.F ht8⟩) (fun q hq => hS.2.2 q hq) dM_get_73
                · exact absurd rfl c7
              · refine lv_iconst (v := 1) hx hb dM_get_51 (by decide) ?_
                refine lv_goto (tgt := 56) hx hb dM_get_52 (by decide) ?_
                refine lv_iconst (v := 2) hx hb dM_get_56 (by decide) ?_
                refine va_calli (va_runV (As := [.int 1, .int 2]) (rest := []) ⟨hx, hb, hml, hown, hg⟩ (c_M_fails1 l Γ H hP hD hm) (cwV 2 hg gM_48 rfl rfl rfl (by decide +kernel) ⟨Nat.le_of_ble_eq_true rfl, Nat.le_of_ble_eq_true rfl⟩) (gP_V hW (vS_m hm hS) (ci := 2) rfl (hP 0 _ rfl)) rfl rfl hl.1 rfl (lv_room (Nat.le_of_ble_eq_true rfl)) dM_get_57 ⟨Nat.le_of_ble_eq_true rfl, Nat.le_of_ble_eq_true rfl⟩) hS (fun q _ h => h) (fun q h => h) (fun r u t9 H1 locs1 ht hvm hp hB hz1 hk1 hS => ?_)
                subst hp
                rw [ht] at hB
                have hP : va_P Γ.1 gC (wM Γ A (2) (nI mn) (fof) (fke) (fst) (fnu) (fno) (fla) (fot)) H1 := hB
                have hD : va_D (mA Γ) (wM Γ A (2) (nI mn) (fof) (fke) (fst) (fnu) (fno) (fla) (fot)) := vD_map (by rfl) hD
                generalize H1 = H at hP hS ⊢
                clear hk1 hz1 ht hB
                refine lv_if_eq (tgt := 67) hx hb dM_get_60 (by decide) (fun c7 => ?_) (fun c7 => ?_)
                · exact absurd c7 (by decide)
                · refine lv_lconst (v := 0) hx hb dM_get_63 (by decide) ?_
                  refine lv_goto (tgt := 73) hx hb dM_get_64 (by decide) ?_
                  exact W.lret (v := 0) hx hb hr (fun t8 ht8 hW9 => ⟨⟨0, 1, rfl, Or.inr (Or.inl ⟨rfl, ⟨tj, kj, htj, rfl, hkj, rfl, by simp [mV, hwq, c10]⟩, rfl⟩), by subst ht8; exact hP⟩, hS.F ht8⟩) (fun q hq => hS.2.2 q hq) dM_get_73
          · exact absurd rfl c5
        · exact absurd rfl c2
      · refine lv_if_eq (tgt := 20) hx hb dM_get_13 (by decide) (fun c8 => ?_) (fun c8 => ?_)
        · exact absurd c8 (by decide)
        · refine lv_iconst (v := 1) hx hb dM_get_16 (by decide) ?_
          refine lv_goto (tgt := 21) hx hb dM_get_17 (by decide) ?_
          refine lv_iconst (v := 1) hx hb dM_get_21 (by decide) ?_
          refine va_calli (va_runV (As := [.int 1, .int 1]) (rest := []) ⟨hx, hb, hml, hown, hg⟩ (c_M_fails1 l Γ s.heap hP hD hm) (cwV 2 hg gM_48 rfl rfl rfl (by decide +kernel) ⟨Nat.le_of_ble_eq_true rfl, Nat.le_of_ble_eq_true rfl⟩) (gP_V hW (vS_m hm hS) (ci := 2) rfl (hP 0 _ rfl)) rfl rfl hl.1 rfl (lv_room (Nat.le_of_ble_eq_true rfl)) dM_get_22 ⟨Nat.le_of_ble_eq_true rfl, Nat.le_of_ble_eq_true rfl⟩) hS (fun q _ h => h) (fun q h => h) (fun r u t9 H1 locs1 ht hvm hp hB hz1 hk1 hS => ?_)
          subst hp
          rw [ht] at hB
          have hP : va_P Γ.1 gC (wM Γ A (1) (nI mn) (fof) (fke) (fst) (fnu) (fno) (fla) (fot)) H1 := hB
          have hD : va_D (mA Γ) (wM Γ A (1) (nI mn) (fof) (fke) (fst) (fnu) (fno) (fla) (fot)) := vD_map (by rfl) hD
          generalize H1 = H at hP hS ⊢
          clear hk1 hz1 ht hB
          refine lv_if_eq (tgt := 30) hx hb dM_get_25 (by decide) (fun c9 => ?_) (fun c9 => ?_)
          · exact absurd c9 (by decide)
          · refine lv_lconst (v := 0) hx hb dM_get_28 (by decide) ?_
            exact W.lret (v := 0) hx hb hr (fun t8 ht8 hW9 => ⟨⟨0, 0, rfl, Or.inl ⟨rfl, fun h => h2 h.2, rfl⟩, by subst ht8; exact hP⟩, hS.F ht8⟩) (fun q hq => hS.2.2 q hq) dM_get_29
  · refine lv_if_ne (tgt := 16) hx hb dM_get_6 (by decide) (fun c8 => ?_) (fun c8 => ?_)
    · refine lv_iconst (v := 1) hx hb dM_get_16 (by decide) ?_
      refine lv_goto (tgt := 21) hx hb dM_get_17 (by decide) ?_
      refine lv_iconst (v := 1) hx hb dM_get_21 (by decide) ?_
      refine va_calli (va_runV (As := [.int 1, .int 1]) (rest := []) ⟨hx, hb, hml, hown, hg⟩ (c_M_fails1 l Γ s.heap hP hD hm) (cwV 2 hg gM_48 rfl rfl rfl (by decide +kernel) ⟨Nat.le_of_ble_eq_true rfl, Nat.le_of_ble_eq_true rfl⟩) (gP_V hW (vS_m hm hS) (ci := 2) rfl (hP 0 _ rfl)) rfl rfl hl.1 rfl (lv_room (Nat.le_of_ble_eq_true rfl)) dM_get_22 ⟨Nat.le_of_ble_eq_true rfl, Nat.le_of_ble_eq_true rfl⟩) hS (fun q _ h => h) (fun q h => h) (fun r u t9 H1 locs1 ht hvm hp hB hz1 hk1 hS => ?_)
      subst hp
      rw [ht] at hB
      have hP : va_P Γ.1 gC (wM Γ A (1) (nI mn) (fof) (fke) (fst) (fnu) (fno) (fla) (fot)) H1 := hB
      have hD : va_D (mA Γ) (wM Γ A (1) (nI mn) (fof) (fke) (fst) (fnu) (fno) (fla) (fot)) := vD_map (by rfl) hD
      generalize H1 = H at hP hS ⊢
      clear hk1 hz1 ht hB
      refine lv_if_eq (tgt := 30) hx hb dM_get_25 (by decide) (fun c9 => ?_) (fun c9 => ?_)
      · exact absurd c9 (by decide)
      · refine lv_lconst (v := 0) hx hb dM_get_28 (by decide) ?_
        exact W.lret (v := 0) hx hb hr (fun t8 ht8 hW9 => ⟨⟨0, 0, rfl, Or.inl ⟨rfl, fun h => h1 h.1, rfl⟩, by subst ht8; exact hP⟩, hS.F ht8⟩) (fun q hq => hS.2.2 q hq) dM_get_29
    · exact absurd c8 (by decide)
set_option maxHeartbeats 4000000 in
set_option maxRecDepth 100000 in
theorem c_M_stamp (l : Launch) (Γ : gE) (H : Heap) {A : Nat → Nat} {er : Int32} {mn : Nat} {fof fke fst fno fla fot : Nat → Int32} {fnu : Nat → Int64} {t k : Int32} (hP : va_P Γ.1 gC (wM Γ A (er) (nI mn) (fof) (fke) (fst) (fnu) (fno) (fla) (fot)) H) (hD : va_D (mA Γ) (wM Γ A (er) (nI mn) (fof) (fke) (fst) (fnu) (fno) (fla) (fot))) (hm : gz Γ ≤ gm0 Γ) (hmn : mn ≤ 400) (hMI : MI mn fof fke fst fno) : Met l yM_stamp wM_stamp ({ frames := 2, cells := 0, slots := 0, locals := 200 }) (gP Γ H [.ref (A 0), .int t, .int k]) (va_Qi (fun r (u : Nat) => (u = 0 ∧ ¬ (inT t mn ∧ inT k 1024) ∧ r = 0) ∨ (u = 2 ∧ ∃ tj kj, tj < mn ∧ t = nI tj ∧ kj < 1024 ∧ k = nI kj ∧ r = mSt fof fke fst tj kj)) (fun u t' => va_P Γ.1 gC (match u with | 0 => wM Γ A (1) (nI mn) (fof) (fke) (fst) (fnu) (fno) (fla) (fot) | 1 => wM Γ A (2) (nI mn) (fof) (fke) (fst) (fnu) (fno) (fla) (fot) | _ => wM Γ A (0) (nI mn) (fof) (fke) (fst) (fnu) (fno) (fla) (fot)) t'.heap) (mA Γ)) 0 0 (mA Γ) := by
  refine Met.ofW (cc := cM_stamp) (maxL := 4) (ret := (some .int)) (by decide) rfl ?_
  intro p e s m args below meth c s₁ B hml hv
  obtain ⟨rfl, rfl, hW⟩ := hv
  have hx := B.exec
  have hb := B.bytes
  have hr := B.returns
  have hg : ∀ w ∈ gW, w.before _ s = true := fun w h => atoms_spec (ws := wM_stamp) B.pre w (List.mem_cons_of_mem _ h)
  have hown : s.vm.findClass RM = some m.cls := findClass_of_methodNamed B.named
  have hlocks := B.notSynchronized
  have hS : va_S (gA Γ) s.heap s.heap [] := va_S.rf
  have hl := lv_entry ([.ref (A 0), .int t, .int k]) (n := 4) (Nat.le_of_ble_eq_true rfl)
  rw [lg_entry_eq]
  generalize (lg_sl ([.ref (A 0), .int t, .int k]) ++ List.replicate (4 - (lg_sl ([.ref (A 0), .int t, .int k])).length) Slot.unset).toArray = ls at hl ⊢
  have hl : lv_has ls 4 [(0, .ref (A 0)), (1, .int t), (2, .int k)] := hl
  have hS : va_S (mA Γ) s.heap s.heap [] := va_S.rf
  refine lv_aload_n hx hb dM_stamp_0 rfl (lv_at hl 0 rfl) ?_
  refine lv_aload_n hx hb dM_stamp_1 rfl (lv_at hl 0 rfl) ?_
  refine lv_iload_n hx hb dM_stamp_2 rfl (lv_at hl 1 rfl) ?_
  refine vp_callSi (W.runV (As := [.int t]) (rest := [.ref (A 0)]) ⟨hx, hb, hml, hown, hg⟩ (c_M_noTable l Γ s.heap (t := t) hP (by omega)) (cwV 1 hg gM_40 rfl rfl rfl (by decide +kernel) ⟨Nat.le_of_ble_eq_true rfl, Nat.le_of_ble_eq_true rfl⟩) (gP_V hW (vS_m hm hS) (ci := 2) rfl (hP 0 _ rfl)) rfl rfl hl.1 rfl (lv_room (Nat.le_of_ble_eq_true rfl)) dM_stamp_3 ⟨Nat.le_of_ble_eq_true rfl, Nat.le_of_ble_eq_true rfl⟩) (fun r1 hr1 => ?_)
  rcases hr1 with ⟨rfl, h1⟩ | ⟨rfl, h1⟩
  · refine lv_if_ne (tgt := 16) hx hb dM_stamp_6 (by decide) (fun c1 => ?_) (fun c1 => ?_)
    · exact absurd rfl c1
    · refine lv_iload_n hx hb dM_stamp_9 rfl (lv_at hl 2 rfl) ?_
      refine vp_callSi (W.runS (As := [.int k]) (rest := [.ref (A 0)]) ⟨hx, hb, hml, hown, hg⟩ (c_M_noKey l Γ s.heap (k := k)) (va_cwS 1 hg gM_44 rfl rfl rfl (by decide +kernel) ⟨Nat.le_of_ble_eq_true rfl, Nat.le_of_ble_eq_true rfl⟩) (gP_S hW (vS_m hm hS)) rfl rfl hl.1 rfl (lv_room (Nat.le_of_ble_eq_true rfl)) dM_stamp_10 ⟨Nat.le_of_ble_eq_true rfl, Nat.le_of_ble_eq_true rfl⟩) (fun r1 hr1 => ?_)
      rcases hr1 with ⟨rfl, h2⟩ | ⟨rfl, h2⟩
      · refine lv_if_eq (tgt := 20) hx hb dM_stamp_13 (by decide) (fun c2 => ?_) (fun c2 => ?_)
        · obtain ⟨tj, htj, rfl⟩ := h1
          obtain ⟨kj, hkj, rfl⟩ := h2
          refine lv_iconst (v := 0) hx hb dM_stamp_20 (by decide) ?_
          refine lv_iconst (v := 1) hx hb dM_stamp_21 (by decide) ?_
          refine va_calli (va_runV (As := [.int 0, .int 1]) (rest := []) ⟨hx, hb, hml, hown, hg⟩ (c_M_fails0 l Γ s.heap hP hD hm) (cwV 2 hg gM_48 rfl rfl rfl (by decide +kernel) ⟨Nat.le_of_ble_eq_true rfl, Nat.le_of_ble_eq_true rfl⟩) (gP_V hW (vS_m hm hS) (ci := 2) rfl (hP 0 _ rfl)) rfl rfl hl.1 rfl (lv_room (Nat.le_of_ble_eq_true rfl)) dM_stamp_22 ⟨Nat.le_of_ble_eq_true rfl, Nat.le_of_ble_eq_true rfl⟩) hS (fun q _ h => h) (fun q h => h) (fun r u t9 H1 locs1 ht hvm hp hB hz1 hk1 hS => ?_)
          subst hp
          rw [ht] at hB
          have hP : va_P Γ.1 gC (wM Γ A (0) (nI mn) (fof) (fke) (fst) (fnu) (fno) (fla) (fot)) H1 := hB
          have hD : va_D (mA Γ) (wM Γ A (0) (nI mn) (fof) (fke) (fst) (fnu) (fno) (fla) (fot)) := vD_map (by rfl) hD
          generalize H1 = H at hP hS ⊢
          clear hk1 hz1 ht hB
          refine lv_if_eq (tgt := 30) hx hb dM_stamp_25 (by decide) (fun c5 => ?_) (fun c5 => ?_)
          · refine lv_aload_n hx hb dM_stamp_30 rfl (lv_at hl 0 rfl) ?_
            refine lv_iload_n hx hb dM_stamp_31 rfl (lv_at hl 1 rfl) ?_
            refine lv_iload_n hx hb dM_stamp_32 rfl (lv_at hl 2 rfl) ?_
            refine vp_callSi (W.runV (As := [.int (nI tj), .int (nI kj)]) (rest := []) ⟨hx, hb, hml, hown, hg⟩ (c_M_wrote l Γ H (t := tj) (k := kj) hP hmn hMI htj) (cwV 2 hg gM_56 rfl rfl rfl (by decide +kernel) ⟨Nat.le_of_ble_eq_true rfl, Nat.le_of_ble_eq_true rfl⟩) (gP_V hW (vS_m hm hS) (ci := 2) rfl (hP 0 _ rfl)) rfl rfl hl.1 rfl (lv_room (Nat.le_of_ble_eq_true rfl)) dM_stamp_33 ⟨Nat.le_of_ble_eq_true rfl, Nat.le_of_ble_eq_true rfl⟩) (fun r2 hr2 => ?_)
            subst hr2
            have hwl := (wq_ok hmn hMI kj tj htj).1
            generalize hwq : wq fof fke tj kj = cc at hwl ⊢
            refine lv_istore_n (lv' := [(3, .int (nI cc)), (0, .ref (A 0)), (1, .int (nI tj)), (2, .int (nI kj))]) hx hb dM_stamp_36 rfl hl (by decide) rfl (fun ls hl => ?_)
            refine lv_iload_n hx hb dM_stamp_37 rfl (lv_at hl 0 rfl) ?_
            refine lv_if_ne (tgt := 45) hx hb dM_stamp_38 (by decide) (fun c6 => ?_) (fun c6 => ?_)
            · have h0 : ¬ cc = 0 := fun h => c6 (by rw [h]; exact nI_0)
              refine lv_aload_n hx hb dM_stamp_45 rfl (lv_at hl 1 rfl) ?_
              refine va_get (D := Γ.1) (ci := 2) (v := .ref (A 3)) (C := RM) (T := TM) (N := 9) hx hb hg inM hown hW.1 hP 0 rfl rfl 3 (by decide) (hg _ kw292) (fun _ h9 => h9) rfl dM_stamp_46 ?_
              refine lv_iload_n hx hb dM_stamp_49 rfl (lv_at hl 0 rfl) ?_
              refine va_iald (D := Γ.1) (cl := gC) (tys := gT Γ) hx hb hW.1 hP 3 2 rfl rfl (vp_in_nI (show cc < 400 by omega) (by omega)) dM_stamp_50 ?_
              rw [nI_clamp (show cc < 2 ^ 31 by omega)]
              exact W.iret (v := fst cc) hx hb hr (fun t8 ht8 hW9 => ⟨⟨fst cc, 2, rfl, Or.inr ⟨rfl, tj, kj, htj, rfl, hkj, rfl, by simp [mSt, hwq, h0]⟩, by subst ht8; exact hP⟩, hS.F ht8⟩) (fun q hq => hS.2.2 q hq) dM_stamp_51
            · have h0 : cc = 0 := (nI_eq (by omega) (by omega)).mp (c6.trans nI_0.symm)
              refine lv_iconst (v := (-1)) hx hb dM_stamp_41 (by decide) ?_
              refine lv_goto (tgt := 51) hx hb dM_stamp_42 (by decide) ?_
              exact W.iret (v := (-1)) hx hb hr (fun t8 ht8 hW9 => ⟨⟨(-1), 2, rfl, Or.inr ⟨rfl, tj, kj, htj, rfl, hkj, rfl, by simp [mSt, hwq, h0]⟩, by subst ht8; exact hP⟩, hS.F ht8⟩) (fun q hq => hS.2.2 q hq) dM_stamp_51
          · exact absurd rfl c5
        · exact absurd rfl c2
      · refine lv_if_eq (tgt := 20) hx hb dM_stamp_13 (by decide) (fun c8 => ?_) (fun c8 => ?_)
        · exact absurd c8 (by decide)
        · refine lv_iconst (v := 1) hx hb dM_stamp_16 (by decide) ?_
          refine lv_goto (tgt := 21) hx hb dM_stamp_17 (by decide) ?_
          refine lv_iconst (v := 1) hx hb dM_stamp_21 (by decide) ?_
          refine va_calli (va_runV (As := [.int 1, .int 1]) (rest := []) ⟨hx, hb, hml, hown, hg⟩ (c_M_fails1 l Γ s.heap hP hD hm) (cwV 2 hg gM_48 rfl rfl rfl (by decide +kernel) ⟨Nat.le_of_ble_eq_true rfl, Nat.le_of_ble_eq_true rfl⟩) (gP_V hW (vS_m hm hS) (ci := 2) rfl (hP 0 _ rfl)) rfl rfl hl.1 rfl (lv_room (Nat.le_of_ble_eq_true rfl)) dM_stamp_22 ⟨Nat.le_of_ble_eq_true rfl, Nat.le_of_ble_eq_true rfl⟩) hS (fun q _ h => h) (fun q h => h) (fun r u t9 H1 locs1 ht hvm hp hB hz1 hk1 hS => ?_)
          subst hp
          rw [ht] at hB
          have hP : va_P Γ.1 gC (wM Γ A (1) (nI mn) (fof) (fke) (fst) (fnu) (fno) (fla) (fot)) H1 := hB
          have hD : va_D (mA Γ) (wM Γ A (1) (nI mn) (fof) (fke) (fst) (fnu) (fno) (fla) (fot)) := vD_map (by rfl) hD
          generalize H1 = H at hP hS ⊢
          clear hk1 hz1 ht hB
          refine lv_if_eq (tgt := 30) hx hb dM_stamp_25 (by decide) (fun c9 => ?_) (fun c9 => ?_)
          · exact absurd c9 (by decide)
          · refine lv_iconst (v := 0) hx hb dM_stamp_28 (by decide) ?_
            exact W.iret (v := 0) hx hb hr (fun t8 ht8 hW9 => ⟨⟨0, 0, rfl, Or.inl ⟨rfl, fun h => h2 h.2, rfl⟩, by subst ht8; exact hP⟩, hS.F ht8⟩) (fun q hq => hS.2.2 q hq) dM_stamp_29
  · refine lv_if_ne (tgt := 16) hx hb dM_stamp_6 (by decide) (fun c8 => ?_) (fun c8 => ?_)
    · refine lv_iconst (v := 1) hx hb dM_stamp_16 (by decide) ?_
      refine lv_goto (tgt := 21) hx hb dM_stamp_17 (by decide) ?_
      refine lv_iconst (v := 1) hx hb dM_stamp_21 (by decide) ?_
      refine va_calli (va_runV (As := [.int 1, .int 1]) (rest := []) ⟨hx, hb, hml, hown, hg⟩ (c_M_fails1 l Γ s.heap hP hD hm) (cwV 2 hg gM_48 rfl rfl rfl (by decide +kernel) ⟨Nat.le_of_ble_eq_true rfl, Nat.le_of_ble_eq_true rfl⟩) (gP_V hW (vS_m hm hS) (ci := 2) rfl (hP 0 _ rfl)) rfl rfl hl.1 rfl (lv_room (Nat.le_of_ble_eq_true rfl)) dM_stamp_22 ⟨Nat.le_of_ble_eq_true rfl, Nat.le_of_ble_eq_true rfl⟩) hS (fun q _ h => h) (fun q h => h) (fun r u t9 H1 locs1 ht hvm hp hB hz1 hk1 hS => ?_)
      subst hp
      rw [ht] at hB
      have hP : va_P Γ.1 gC (wM Γ A (1) (nI mn) (fof) (fke) (fst) (fnu) (fno) (fla) (fot)) H1 := hB
      have hD : va_D (mA Γ) (wM Γ A (1) (nI mn) (fof) (fke) (fst) (fnu) (fno) (fla) (fot)) := vD_map (by rfl) hD
      generalize H1 = H at hP hS ⊢
      clear hk1 hz1 ht hB
      refine lv_if_eq (tgt := 30) hx hb dM_stamp_25 (by decide) (fun c9 => ?_) (fun c9 => ?_)
      · exact absurd c9 (by decide)
      · refine lv_iconst (v := 0) hx hb dM_stamp_28 (by decide) ?_
        exact W.iret (v := 0) hx hb hr (fun t8 ht8 hW9 => ⟨⟨0, 0, rfl, Or.inl ⟨rfl, fun h => h1 h.1, rfl⟩, by subst ht8; exact hP⟩, hS.F ht8⟩) (fun q hq => hS.2.2 q hq) dM_stamp_29
    · exact absurd c8 (by decide)
end
section
/-! the reference: part, at, differ -/
theorem cmb4_32 (x y : Int32) : cmb 4 x.toInt64 y.toInt64 = (if y ≤ x then x else y).toInt64 := by
  unfold cmb
  rw [if_neg (by decide), if_neg (by decide), if_pos rfl]
  by_cases h1 : y ≤ x
  · rw [if_pos h1]
    by_cases h2 : y.toInt64 < x.toInt64
    · rw [if_pos h2]
    · rw [if_neg h2]
      rw [Int32.le_iff_toInt_le] at h1
      rw [Int64.lt_iff_toInt_lt, Int32.toInt_toInt64, Int32.toInt_toInt64] at h2
      rw [Int32.toInt_inj.mp (show y.toInt = x.toInt by omega)]
  · rw [if_neg h1, if_neg]
    rw [Int32.le_iff_toInt_le] at h1
    rw [Int64.lt_iff_toInt_lt, Int32.toInt_toInt64, Int32.toInt_toInt64]
    omega
theorem mV_some {fof fke fno : Nat → Int32} {fnu : Nat → Int64} {t k c : Nat} (h : wq fof fke t k = c) : (mV fof fke fnu fno t k).isSome = true ↔ (c ≠ 0 ∧ fno c = 0) := by
  unfold mV
  rw [h]
  by_cases h0 : c = 0 <;> by_cases h1 : fno c = 0 <;> simp [h0, h1]
theorem mV_val {fof fke fno : Nat → Int32} {fnu : Nat → Int64} {t k c : Nat} (h : wq fof fke t k = c) (h0 : c ≠ 0) (h1 : fno c = 0) : mV fof fke fnu fno t k = some (fnu c) := by simp [mV, h, h0, h1]
theorem mV_no {fof fke fno : Nat → Int32} {fnu : Nat → Int64} {t k c : Nat} (h : wq fof fke t k = c) (h0 : ¬ (c ≠ 0 ∧ fno c = 0)) : mV fof fke fnu fno t k = none := by
  cases hv : mV fof fke fnu fno t k with
  | none => rfl
  | some v => exact absurd ((mV_some (fnu := fnu) h).mp (by rw [hv]; rfl)) h0
theorem neg1_64 : (-1 : Int32).toInt64 = -1 := by decide
theorem lN_ne {k : Nat} (hk : k < 1024) : ¬ lN k = -1 := by
  intro h
  have h1 := congrArg Int64.toInt h
  rw [lN_toInt (by omega)] at h1
  have h2 : (-1 : Int64).toInt = -1 := by decide
  omega
set_option maxHeartbeats 4000000 in
set_option maxRecDepth 100000 in
theorem c_M_part (l : Launch) (Γ : gE) (H : Heap) {A : Nat → Nat} {er : Int32} {mn : Nat} {fof fke fst fno fla fot : Nat → Int32} {fnu : Nat → Int64} {t lo hi wh : Int32} (hP : va_P Γ.1 gC (wM Γ A (er) (nI mn) (fof) (fke) (fst) (fnu) (fno) (fla) (fot)) H) (hD : va_D (mA Γ) (wM Γ A (er) (nI mn) (fof) (fke) (fst) (fnu) (fno) (fla) (fot))) (hm : gz Γ ≤ gm0 Γ) (hmn : mn ≤ 400) (hMI : MI mn fof fke fst fno) : Met l yM_part wM_part ({ frames := 2, cells := 0, slots := 0, locals := 200 }) (gP Γ H [.ref (A 0), .int t, .int lo, .int hi, .int wh]) (va_Ql (fun r (u : Nat) => (u = 0 ∧ ¬ (inT t mn ∧ inT lo 1024 ∧ inT hi 1024 ∧ lo ≤ hi ∧ inT wh 5) ∧ r = 0) ∨ (u = 2 ∧ ∃ tj lj hj wj, tj < mn ∧ t = nI tj ∧ lj < 1024 ∧ lo = nI lj ∧ hj < 1024 ∧ hi = nI hj ∧ wj < 5 ∧ wh = nI wj ∧ lj ≤ hj ∧ r = ag (mV fof fke fnu fno tj) (mSt fof fke fst tj) wj lj (hj + 1 - lj))) (fun u t' => ∃ fla' fot', va_P Γ.1 gC (wM Γ A (match u with | 0 => 1 | 1 => 2 | _ => 0) (nI mn) fof fke fst fnu fno fla' fot') t'.heap) (mA Γ)) 0 0 (mA Γ) := by
  refine Met.ofW (cc := cM_part) (maxL := 13) (ret := (some .long)) (by decide) rfl ?_
  intro p e s m args below meth c s₁ B hml hv
  obtain ⟨rfl, rfl, hW⟩ := hv
  have hx := B.exec
  have hb := B.bytes
  have hr := B.returns
  have hg : ∀ w ∈ gW, w.before _ s = true := fun w h => atoms_spec (ws := wM_part) B.pre w (List.mem_cons_of_mem _ h)
  have hown : s.vm.findClass RM = some m.cls := findClass_of_methodNamed B.named
  have hlocks := B.notSynchronized
  have hS : va_S (gA Γ) s.heap s.heap [] := va_S.rf
  have hl := lv_entry ([.ref (A 0), .int t, .int lo, .int hi, .int wh]) (n := 13) (Nat.le_of_ble_eq_true rfl)
  rw [lg_entry_eq]
  generalize (lg_sl ([.ref (A 0), .int t, .int lo, .int hi, .int wh]) ++ List.replicate (13 - (lg_sl ([.ref (A 0), .int t, .int lo, .int hi, .int wh])).length) Slot.unset).toArray = ls at hl ⊢
  have hl : lv_has ls 13 [(0, .ref (A 0)), (1, .int t), (2, .int lo), (3, .int hi), (4, .int wh)] := hl
  have hS : va_S (mA Γ) s.heap s.heap [] := va_S.rf
  refine lv_aload_n hx hb dM_part_0 rfl (lv_at hl 0 rfl) ?_
  refine lv_aload_n hx hb dM_part_1 rfl (lv_at hl 0 rfl) ?_
  refine lv_iload_n hx hb dM_part_2 rfl (lv_at hl 1 rfl) ?_
  refine vp_callSi (W.runV (As := [.int t]) (rest := [.ref (A 0)]) ⟨hx, hb, hml, hown, hg⟩ (c_M_noTable l Γ s.heap (t := t) hP (by omega)) (cwV 1 hg gM_40 rfl rfl rfl (by decide +kernel) ⟨Nat.le_of_ble_eq_true rfl, Nat.le_of_ble_eq_true rfl⟩) (gP_V hW (vS_m hm hS) (ci := 2) rfl (hP 0 _ rfl)) rfl rfl hl.1 rfl (lv_room (Nat.le_of_ble_eq_true rfl)) dM_part_3 ⟨Nat.le_of_ble_eq_true rfl, Nat.le_of_ble_eq_true rfl⟩) (fun r1 hr1 => ?_)
  rcases hr1 with ⟨rfl, h1⟩ | ⟨rfl, h1⟩
  · refine lv_if_ne (tgt := 39) hx hb dM_part_6 (by decide) (fun c1 => ?_) (fun c1 => ?_)
    · exact absurd rfl c1
    · refine lv_iload_n hx hb dM_part_9 rfl (lv_at hl 2 rfl) ?_
      refine vp_callSi (W.runS (As := [.int lo]) (rest := [.ref (A 0)]) ⟨hx, hb, hml, hown, hg⟩ (c_M_noKey l Γ s.heap (k := lo)) (va_cwS 1 hg gM_44 rfl rfl rfl (by decide +kernel) ⟨Nat.le_of_ble_eq_true rfl, Nat.le_of_ble_eq_true rfl⟩) (gP_S hW (vS_m hm hS)) rfl rfl hl.1 rfl (lv_room (Nat.le_of_ble_eq_true rfl)) dM_part_10 ⟨Nat.le_of_ble_eq_true rfl, Nat.le_of_ble_eq_true rfl⟩) (fun r1 hr1 => ?_)
      rcases hr1 with ⟨rfl, h2⟩ | ⟨rfl, h2⟩
      · refine lv_if_ne (tgt := 39) hx hb dM_part_13 (by decide) (fun c2 => ?_) (fun c2 => ?_)
        · exact absurd rfl c2
        · refine lv_iload_n hx hb dM_part_16 rfl (lv_at hl 3 rfl) ?_
          refine vp_callSi (W.runS (As := [.int hi]) (rest := [.ref (A 0)]) ⟨hx, hb, hml, hown, hg⟩ (c_M_noKey l Γ s.heap (k := hi)) (va_cwS 1 hg gM_44 rfl rfl rfl (by decide +kernel) ⟨Nat.le_of_ble_eq_true rfl, Nat.le_of_ble_eq_true rfl⟩) (gP_S hW (vS_m hm hS)) rfl rfl hl.1 rfl (lv_room (Nat.le_of_ble_eq_true rfl)) dM_part_17 ⟨Nat.le_of_ble_eq_true rfl, Nat.le_of_ble_eq_true rfl⟩) (fun r1 hr1 => ?_)
          rcases hr1 with ⟨rfl, h3⟩ | ⟨rfl, h3⟩
          · refine lv_if_ne (tgt := 39) hx hb dM_part_20 (by decide) (fun c3 => ?_) (fun c3 => ?_)
            · exact absurd rfl c3
            · refine lv_iload_n hx hb dM_part_23 rfl (lv_at hl 2 rfl) ?_
              refine lv_iload_n hx hb dM_part_24 rfl (lv_at hl 3 rfl) ?_
              refine lv_icmp_gt (tgt := 39) hx hb dM_part_25 (by decide) (fun c4 => ?_) (fun c4 => ?_)
              · refine lv_iconst (v := 1) hx hb dM_part_39 (by decide) ?_
                refine lv_goto (tgt := 44) hx hb dM_part_40 (by decide) ?_
                refine lv_iconst (v := 1) hx hb dM_part_44 (by decide) ?_
                refine va_calli (va_runV (As := [.int 1, .int 1]) (rest := []) ⟨hx, hb, hml, hown, hg⟩ (c_M_fails1 l Γ s.heap hP hD hm) (cwV 2 hg gM_48 rfl rfl rfl (by decide +kernel) ⟨Nat.le_of_ble_eq_true rfl, Nat.le_of_ble_eq_true rfl⟩) (gP_V hW (vS_m hm hS) (ci := 2) rfl (hP 0 _ rfl)) rfl rfl hl.1 rfl (lv_room (Nat.le_of_ble_eq_true rfl)) dM_part_45 ⟨Nat.le_of_ble_eq_true rfl, Nat.le_of_ble_eq_true rfl⟩) hS (fun q _ h => h) (fun q h => h) (fun r u t9 H1 locs1 ht hvm hp hB hz1 hk1 hS => ?_)
                subst hp
                rw [ht] at hB
                have hP : va_P Γ.1 gC (wM Γ A (1) (nI mn) (fof) (fke) (fst) (fnu) (fno) (fla) (fot)) H1 := hB
                have hD : va_D (mA Γ) (wM Γ A (1) (nI mn) (fof) (fke) (fst) (fnu) (fno) (fla) (fot)) := vD_map (by rfl) hD
                generalize H1 = H at hP hS ⊢
                clear hk1 hz1 ht hB
                refine lv_if_eq (tgt := 53) hx hb dM_part_48 (by decide) (fun c9 => ?_) (fun c9 => ?_)
                · exact absurd c9 (by decide)
                · refine lv_lconst (v := 0) hx hb dM_part_51 (by decide) ?_
                  exact W.lret (v := 0) hx hb hr (fun t8 ht8 hW9 => ⟨⟨0, 0, rfl, Or.inl ⟨rfl, fun h => absurd c4 (Int32.not_lt.mpr h.2.2.2.1), rfl⟩, ⟨_, _, by subst ht8; exact hP⟩⟩, hS.F ht8⟩) (fun q hq => hS.2.2 q hq) dM_part_52
              · refine lv_iload hx hb dM_part_28 (lv_at hl 4 rfl) ?_
                refine lv_if_lt (tgt := 39) hx hb dM_part_30 (by decide) (fun c5 => ?_) (fun c5 => ?_)
                · refine lv_iconst (v := 1) hx hb dM_part_39 (by decide) ?_
                  refine lv_goto (tgt := 44) hx hb dM_part_40 (by decide) ?_
                  refine lv_iconst (v := 1) hx hb dM_part_44 (by decide) ?_
                  refine va_calli (va_runV (As := [.int 1, .int 1]) (rest := []) ⟨hx, hb, hml, hown, hg⟩ (c_M_fails1 l Γ s.heap hP hD hm) (cwV 2 hg gM_48 rfl rfl rfl (by decide +kernel) ⟨Nat.le_of_ble_eq_true rfl, Nat.le_of_ble_eq_true rfl⟩) (gP_V hW (vS_m hm hS) (ci := 2) rfl (hP 0 _ rfl)) rfl rfl hl.1 rfl (lv_room (Nat.le_of_ble_eq_true rfl)) dM_part_45 ⟨Nat.le_of_ble_eq_true rfl, Nat.le_of_ble_eq_true rfl⟩) hS (fun q _ h => h) (fun q h => h) (fun r u t9 H1 locs1 ht hvm hp hB hz1 hk1 hS => ?_)
                  subst hp
                  rw [ht] at hB
                  have hP : va_P Γ.1 gC (wM Γ A (1) (nI mn) (fof) (fke) (fst) (fnu) (fno) (fla) (fot)) H1 := hB
                  have hD : va_D (mA Γ) (wM Γ A (1) (nI mn) (fof) (fke) (fst) (fnu) (fno) (fla) (fot)) := vD_map (by rfl) hD
                  generalize H1 = H at hP hS ⊢
                  clear hk1 hz1 ht hB
                  refine lv_if_eq (tgt := 53) hx hb dM_part_48 (by decide) (fun c9 => ?_) (fun c9 => ?_)
                  · exact absurd c9 (by decide)
                  · refine lv_lconst (v := 0) hx hb dM_part_51 (by decide) ?_
                    exact W.lret (v := 0) hx hb hr (fun t8 ht8 hW9 => ⟨⟨0, 0, rfl, Or.inl ⟨rfl, fun h => (inT_no (by omega)).mpr (Or.inl c5) h.2.2.2.2, rfl⟩, ⟨_, _, by subst ht8; exact hP⟩⟩, hS.F ht8⟩) (fun q hq => hS.2.2 q hq) dM_part_52
                · refine lv_iload hx hb dM_part_33 (lv_at hl 4 rfl) ?_
                  refine lv_iconst (v := 4) hx hb dM_part_35 (by decide) ?_
                  refine lv_icmp_le (tgt := 43) hx hb dM_part_36 (by decide) (fun c6 => ?_) (fun c6 => ?_)
                  · have h5 : inT wh 5 := by
                      rcases pk_ix wh (show 5 < 2 ^ 31 by omega) with h | h | h
                      · exact absurd h c5
                      · exact absurd (Int32.le_trans h c6) (by decide)
                      · exact h
                    have c4 := Int32.not_lt.mp c4
                    obtain ⟨tj, htj, rfl⟩ := h1
                    obtain ⟨lj, hlj, rfl⟩ := h2
                    obtain ⟨hj, hhj, rfl⟩ := h3
                    obtain ⟨wj, hwj, rfl⟩ := h5
                    have hle : lj ≤ hj := (nI_leI (by omega) (by omega)).mp c4
                    have hwf := mSt_wf hmn hMI htj
                    refine lv_iconst (v := 0) hx hb dM_part_43 (by decide) ?_
                    refine lv_iconst (v := 1) hx hb dM_part_44 (by decide) ?_
                    refine va_calli (va_runV (As := [.int 0, .int 1]) (rest := []) ⟨hx, hb, hml, hown, hg⟩ (c_M_fails0 l Γ s.heap hP hD hm) (cwV 2 hg gM_48 rfl rfl rfl (by decide +kernel) ⟨Nat.le_of_ble_eq_true rfl, Nat.le_of_ble_eq_true rfl⟩) (gP_V hW (vS_m hm hS) (ci := 2) rfl (hP 0 _ rfl)) rfl rfl hl.1 rfl (lv_room (Nat.le_of_ble_eq_true rfl)) dM_part_45 ⟨Nat.le_of_ble_eq_true rfl, Nat.le_of_ble_eq_true rfl⟩) hS (fun q _ h => h) (fun q h => h) (fun r u t9 H1 locs1 ht hvm hp hB hz1 hk1 hS => ?_)
                    subst hp
                    rw [ht] at hB
                    have hP : va_P Γ.1 gC (wM Γ A (0) (nI mn) (fof) (fke) (fst) (fnu) (fno) (fla) (fot)) H1 := hB
                    have hD : va_D (mA Γ) (wM Γ A (0) (nI mn) (fof) (fke) (fst) (fnu) (fno) (fla) (fot)) := vD_map (by rfl) hD
                    generalize H1 = H at hP hS ⊢
                    clear hk1 hz1 ht hB
                    refine lv_if_eq (tgt := 53) hx hb dM_part_48 (by decide) (fun c7 => ?_) (fun c7 => ?_)
                    · refine lv_aload_n hx hb dM_part_53 rfl (lv_at hl 0 rfl) ?_
                      refine lv_iload_n hx hb dM_part_54 rfl (lv_at hl 1 rfl) ?_
                      refine lv_aload_n hx hb dM_part_55 rfl (lv_at hl 0 rfl) ?_
                      refine va_get (D := Γ.1) (ci := 2) (v := .ref (A 6)) (C := RM) (T := TM) (N := 9) hx hb hg inM hown hW.1 hP 0 rfl rfl 6 (by decide) (hg _ kw295) (fun _ h9 => h9) rfl dM_part_56 ?_
                      refine va_callv (va_runV (As := [.int (nI tj), .ref (A 6)]) (rest := []) ⟨hx, hb, hml, hown, hg⟩ (c_M_whole6 l Γ H (t := tj) hP hD hm hmn hMI htj) (cwV 2 hg gM_60 rfl rfl rfl (by decide +kernel) ⟨Nat.le_of_ble_eq_true rfl, Nat.le_of_ble_eq_true rfl⟩) (gP_V hW (vS_m hm hS) (ci := 2) rfl (hP 0 _ rfl)) rfl rfl hl.1 rfl (lv_room (Nat.le_of_ble_eq_true rfl)) dM_part_59 ⟨Nat.le_of_ble_eq_true rfl, Nat.le_of_ble_eq_true rfl⟩) hS (fun q _ h => h) (fun q h => h) (fun u t9 H1 locs1 ht hvm hp hB hz1 hk1 hS => ?_)
                      rw [ht] at hB
                      have hP : va_P Γ.1 gC (wM Γ A (0) (nI mn) (fof) (fke) (fst) (fnu) (fno) (u) (fot)) H1 := hB
                      have hD : va_D (mA Γ) (wM Γ A (0) (nI mn) (fof) (fke) (fst) (fnu) (fno) (u) (fot)) := vD_map (by rfl) hD
                      generalize H1 = H at hP hS ⊢
                      clear hk1 hz1 ht hB
                      have hg6 : ∀ k, k < 1024 → u k = nI (wq fof fke tj k) := hp
                      generalize u = g6 at hg6 hP hD
                      refine lv_lconst (v := 0) hx hb dM_part_62 (by decide) ?_
                      refine lv_lstore (lv' := [(5, .long 0), (0, .ref (A 0)), (1, .int (nI tj)), (2, .int (nI lj)), (3, .int (nI hj)), (4, .int (nI wj))]) hx hb dM_part_63 hl (by decide) rfl (fun ls hl => ?_)
                      refine lv_iconst (v := 0) hx hb dM_part_65 (by decide) ?_
                      refine lv_istore (lv' := [(7, .int 0), (5, .long 0), (0, .ref (A 0)), (1, .int (nI tj)), (2, .int (nI lj)), (3, .int (nI hj)), (4, .int (nI wj))]) hx hb dM_part_66 hl (by decide) rfl (fun ls hl => ?_)
                      refine lv_iconst (v := (-1)) hx hb dM_part_68 (by decide) ?_
                      refine lv_istore (lv' := [(8, .int (-1)), (7, .int 0), (5, .long 0), (0, .ref (A 0)), (1, .int (nI tj)), (2, .int (nI lj)), (3, .int (nI hj)), (4, .int (nI wj))]) hx hb dM_part_69 hl (by decide) rfl (fun ls hl => ?_)
                      refine lv_iconst (v := (-1)) hx hb dM_part_71 (by decide) ?_
                      refine lv_istore (lv' := [(9, .int (-1)), (8, .int (-1)), (7, .int 0), (5, .long 0), (0, .ref (A 0)), (1, .int (nI tj)), (2, .int (nI lj)), (3, .int (nI hj)), (4, .int (nI wj))]) hx hb dM_part_72 hl (by decide) rfl (fun ls hl => ?_)
                      refine lv_iconst (v := (-1)) hx hb dM_part_74 (by decide) ?_
                      refine lv_istore (lv' := [(10, .int (-1)), (9, .int (-1)), (8, .int (-1)), (7, .int 0), (5, .long 0), (0, .ref (A 0)), (1, .int (nI tj)), (2, .int (nI lj)), (3, .int (nI hj)), (4, .int (nI wj))]) hx hb dM_part_75 hl (by decide) rfl (fun ls hl => ?_)
                      refine lv_iload_n hx hb dM_part_77 rfl (lv_at hl 7 rfl) ?_
                      refine lv_istore (lv' := [(11, .int (nI lj)), (10, .int (-1)), (9, .int (-1)), (8, .int (-1)), (7, .int 0), (5, .long 0), (0, .ref (A 0)), (1, .int (nI tj)), (2, .int (nI lj)), (3, .int (nI hj)), (4, .int (nI wj))]) hx hb dM_part_78 hl (by decide) rfl (fun ls hl => ?_)
                      have key : ∀ (n i : Nat) (sm : Int64) (le gr la : Int32) (ls : Array Slot), i + n = hj + 1 - lj → sm = ag (mV fof fke fnu fno tj) (mSt fof fke fst tj) 1 lj (i) → (le = -1 ∨ ∃ j, j < 1024 ∧ le = nI j) → le.toInt64 = ag (mV fof fke fnu fno tj) (mSt fof fke fst tj) 2 lj (i) → gr.toInt64 = ag (mV fof fke fnu fno tj) (mSt fof fke fst tj) 3 lj (i) → la.toInt64 = ag (mV fof fke fnu fno tj) (mSt fof fke fst tj) 4 lj (i) → lv_has ls 13 [(11, .int (nI (lj + i))), (10, .int la), (9, .int gr), (8, .int le), (7, .int (nI (cnt (mV fof fke fnu fno tj) lj i))), (5, .long sm), (0, .ref (A 0)), (1, .int (nI tj)), (2, .int (nI lj)), (3, .int (nI hj)), (4, .int (nI wj))] → W p l e (headSpec wM_part ({ frames := 2, cells := 0, slots := 0, locals := 200 })).room s m [.ref (A 0), .int (nI tj), .int (nI lj), .int (nI hj), .int (nI wj)].toArray below meth c H locs1 0 0 (MQ below (va_Ql (fun r (u : Nat) => (u = 0 ∧ ¬ (inT (nI tj) mn ∧ inT (nI lj) 1024 ∧ inT (nI hj) 1024 ∧ nI lj ≤ nI hj ∧ inT (nI wj) 5) ∧ r = 0) ∨ (u = 2 ∧ ∃ tj_1 lj_1 hj_1 wj_1, tj_1 < mn ∧ nI tj = nI tj_1 ∧ lj_1 < 1024 ∧ nI lj = nI lj_1 ∧ hj_1 < 1024 ∧ nI hj = nI hj_1 ∧ wj_1 < 5 ∧ nI wj = nI wj_1 ∧ lj_1 ≤ hj_1 ∧ r = ag (mV fof fke fnu fno tj_1) (mSt fof fke fst tj_1) wj_1 lj_1 (hj_1 + 1 - lj_1))) (fun u t' => ∃ fla' fot', va_P Γ.1 gC (wM Γ A (match u with | 0 => 1 | 1 => 2 | _ => 0) (nI mn) fof fke fst fnu fno fla' fot') t'.heap) (mA Γ)) [.ref (A 0), .int (nI tj), .int (nI lj), .int (nI hj), .int (nI wj)].toArray s 0 0 (mA Γ)) (F0 m 80 ls []) := by
                        intro n
                        induction n with
                        | zero =>
                          intro i sm le gr la ls hi r1 r2 r3 r4 r5 hl
                          refine lv_iload hx hb dM_part_80 (lv_at hl 0 rfl) ?_
                          refine lv_iload_n hx hb dM_part_82 rfl (lv_at hl 9 rfl) ?_
                          refine lv_icmp_gt (tgt := 167) hx hb dM_part_83 (by decide) (fun d1 => ?_) (fun d1 => ?_)
                          · have ei : i = hj + 1 - lj := by omega
                            refine lv_iload hx hb dM_part_167 (lv_at hl 10 rfl) ?_
                            refine lv_if_ne (tgt := 178) hx hb dM_part_169 (by decide) (fun e0 => ?_) (fun e0 => ?_)
                            · refine lv_iload hx hb dM_part_178 (lv_at hl 10 rfl) ?_
                              refine lv_iconst (v := 1) hx hb dM_part_180 (by decide) ?_
                              refine lv_icmp_ne (tgt := 189) hx hb dM_part_181 (by decide) (fun e1 => ?_) (fun e1 => ?_)
                              · refine lv_iload hx hb dM_part_189 (lv_at hl 10 rfl) ?_
                                refine lv_iconst (v := 2) hx hb dM_part_191 (by decide) ?_
                                refine lv_icmp_ne (tgt := 201) hx hb dM_part_192 (by decide) (fun e2 => ?_) (fun e2 => ?_)
                                · refine lv_iload hx hb dM_part_201 (lv_at hl 10 rfl) ?_
                                  refine lv_iconst (v := 3) hx hb dM_part_203 (by decide) ?_
                                  refine lv_icmp_ne (tgt := 213) hx hb dM_part_204 (by decide) (fun e3 => ?_) (fun e3 => ?_)
                                  · have hw9 : wj = 4 := by
                                      have n0 : wj ≠ 0 := fun h => e0 (by rw [h]; rfl)
                                      have n1 : wj ≠ 1 := fun h => e1 (by rw [h]; rfl)
                                      have n2 : wj ≠ 2 := fun h => e2 (by rw [h]; rfl)
                                      have n3 : wj ≠ 3 := fun h => e3 (by rw [h]; rfl)
                                      omega
                                    refine lv_iload hx hb dM_part_213 (lv_at hl 1 rfl) ?_
                                    refine lv_i2l (v := la.toInt64) hx hb dM_part_215 rfl ?_
                                    exact W.lret (v := la.toInt64) hx hb hr (fun t8 ht8 hW9 => ⟨⟨_, 2, rfl, Or.inr ⟨rfl, tj, lj, hj, wj, htj, rfl, hlj, rfl, hhj, rfl, hwj, rfl, hle, by rw [hw9, ← ei]; exact r5⟩, ⟨_, _, by subst ht8; exact hP⟩⟩, hS.F ht8⟩) (fun q hq => hS.2.2 q hq) dM_part_216
                                  · have hw9 : wj = 3 := (nI_eq (b := 3) (by omega) (by omega)).mp e3
                                    refine lv_iload hx hb dM_part_207 (lv_at hl 2 rfl) ?_
                                    refine lv_i2l (v := gr.toInt64) hx hb dM_part_209 rfl ?_
                                    refine lv_goto (tgt := 216) hx hb dM_part_210 (by decide) ?_
                                    exact W.lret (v := gr.toInt64) hx hb hr (fun t8 ht8 hW9 => ⟨⟨_, 2, rfl, Or.inr ⟨rfl, tj, lj, hj, wj, htj, rfl, hlj, rfl, hhj, rfl, hwj, rfl, hle, by rw [hw9, ← ei]; exact r4⟩, ⟨_, _, by subst ht8; exact hP⟩⟩, hS.F ht8⟩) (fun q hq => hS.2.2 q hq) dM_part_216
                                · have hw9 : wj = 2 := (nI_eq (b := 2) (by omega) (by omega)).mp e2
                                  refine lv_iload hx hb dM_part_195 (lv_at hl 3 rfl) ?_
                                  refine lv_i2l (v := le.toInt64) hx hb dM_part_197 rfl ?_
                                  refine lv_goto (tgt := 216) hx hb dM_part_198 (by decide) ?_
                                  exact W.lret (v := le.toInt64) hx hb hr (fun t8 ht8 hW9 => ⟨⟨_, 2, rfl, Or.inr ⟨rfl, tj, lj, hj, wj, htj, rfl, hlj, rfl, hhj, rfl, hwj, rfl, hle, by rw [hw9, ← ei]; exact r3⟩, ⟨_, _, by subst ht8; exact hP⟩⟩, hS.F ht8⟩) (fun q hq => hS.2.2 q hq) dM_part_216
                              · have hw9 : wj = 1 := (nI_eq (b := 1) (by omega) (by omega)).mp e1
                                refine lv_lload hx hb dM_part_184 (lv_at hl 5 rfl) ?_
                                refine lv_goto (tgt := 216) hx hb dM_part_186 (by decide) ?_
                                exact W.lret (v := sm) hx hb hr (fun t8 ht8 hW9 => ⟨⟨_, 2, rfl, Or.inr ⟨rfl, tj, lj, hj, wj, htj, rfl, hlj, rfl, hhj, rfl, hwj, rfl, hle, by rw [hw9, ← ei]; exact r1⟩, ⟨_, _, by subst ht8; exact hP⟩⟩, hS.F ht8⟩) (fun q hq => hS.2.2 q hq) dM_part_216
                            · have hw9 : wj = 0 := (nI_eq (b := 0) (by omega) (by omega)).mp (e0.trans nI_0.symm)
                              refine lv_iload hx hb dM_part_172 (lv_at hl 4 rfl) ?_
                              refine lv_i2l (v := (nI (cnt (mV fof fke fnu fno tj) lj i)).toInt64) hx hb dM_part_174 rfl ?_
                              refine lv_goto (tgt := 216) hx hb dM_part_175 (by decide) ?_
                              exact W.lret (v := (nI (cnt (mV fof fke fnu fno tj) lj i)).toInt64) hx hb hr (fun t8 ht8 hW9 => ⟨⟨_, 2, rfl, Or.inr ⟨rfl, tj, lj, hj, wj, htj, rfl, hlj, rfl, hhj, rfl, hwj, rfl, hle, by rw [hw9, ← ei]; rw [nI_l (by have := cnt_le (mV fof fke fnu fno tj) lj i; omega), ag_cnt]⟩, ⟨_, _, by subst ht8; exact hP⟩⟩, hS.F ht8⟩) (fun q hq => hS.2.2 q hq) dM_part_216
                          · exact absurd (show nI hj < nI (lj + i) from nI_lt (by omega) (by omega)) d1
                        | succ n ih =>
                          intro i sm le gr la ls hi r1 r2 r3 r4 r5 hl
                          have hki : lj + i < 1024 := by omega
                          have hcl := cnt_le (mV fof fke fnu fno tj) lj i
                          have hwl := (wq_ok hmn hMI (lj + i) tj htj).1
                          obtain ⟨cc, hcc⟩ : ∃ cc, wq fof fke tj (lj + i) = cc := ⟨_, rfl⟩
                          rw [hcc] at hwl
                          have t161 : ∀ (sm2 : Int64) (le2 gr2 la2 : Int32) (ls : Array Slot), sm2 = ag (mV fof fke fnu fno tj) (mSt fof fke fst tj) 1 lj (i + 1) → (le2 = -1 ∨ ∃ j, j < 1024 ∧ le2 = nI j) → le2.toInt64 = ag (mV fof fke fnu fno tj) (mSt fof fke fst tj) 2 lj (i + 1) → gr2.toInt64 = ag (mV fof fke fnu fno tj) (mSt fof fke fst tj) 3 lj (i + 1) → la2.toInt64 = ag (mV fof fke fnu fno tj) (mSt fof fke fst tj) 4 lj (i + 1) → lv_has ls 13 [(11, .int (nI (lj + i))), (10, .int la2), (9, .int gr2), (8, .int le2), (7, .int (nI (cnt (mV fof fke fnu fno tj) lj (i + 1)))), (5, .long sm2), (0, .ref (A 0)), (1, .int (nI tj)), (2, .int (nI lj)), (3, .int (nI hj)), (4, .int (nI wj))] → W p l e (headSpec wM_part ({ frames := 2, cells := 0, slots := 0, locals := 200 })).room s m [.ref (A 0), .int (nI tj), .int (nI lj), .int (nI hj), .int (nI wj)].toArray below meth c H locs1 0 0 (MQ below (va_Ql (fun r (u : Nat) => (u = 0 ∧ ¬ (inT (nI tj) mn ∧ inT (nI lj) 1024 ∧ inT (nI hj) 1024 ∧ nI lj ≤ nI hj ∧ inT (nI wj) 5) ∧ r = 0) ∨ (u = 2 ∧ ∃ tj_1 lj_1 hj_1 wj_1, tj_1 < mn ∧ nI tj = nI tj_1 ∧ lj_1 < 1024 ∧ nI lj = nI lj_1 ∧ hj_1 < 1024 ∧ nI hj = nI hj_1 ∧ wj_1 < 5 ∧ nI wj = nI wj_1 ∧ lj_1 ≤ hj_1 ∧ r = ag (mV fof fke fnu fno tj_1) (mSt fof fke fst tj_1) wj_1 lj_1 (hj_1 + 1 - lj_1))) (fun u t' => ∃ fla' fot', va_P Γ.1 gC (wM Γ A (match u with | 0 => 1 | 1 => 2 | _ => 0) (nI mn) fof fke fst fnu fno fla' fot') t'.heap) (mA Γ)) [.ref (A 0), .int (nI tj), .int (nI lj), .int (nI hj), .int (nI wj)].toArray s 0 0 (mA Γ)) (F0 m 161 ls []) := by
                            intro sm2 le2 gr2 la2 ls q1 q2 q3 q4 q5 hl
                            refine lv_iinc (v := nI (lj + (i + 1))) (lv' := [(11, .int (nI (lj + (i + 1)))), (10, .int la2), (9, .int gr2), (8, .int le2), (7, .int (nI (cnt (mV fof fke fnu fno tj) lj (i + 1)))), (5, .long sm2), (0, .ref (A 0)), (1, .int (nI tj)), (2, .int (nI lj)), (3, .int (nI hj)), (4, .int (nI wj))]) hx hb dM_part_161 hl (k := 0) rfl (by rw [← Nat.add_assoc]; exact nI_1 (lj + i)) (by decide) rfl (fun ls hl => ?_)
                            refine lv_goto (tgt := 80) hx hb dM_part_164 (by decide) ?_
                            exact ih (i + 1) sm2 le2 gr2 la2 ls (by omega) q1 q2 q3 q4 q5 (lv_sub hl [0, 1, 2, 3, 4, 5, 6, 7, 8, 9, 10] rfl)
                          have t121 : ∀ (la2 : Int32) (ls : Array Slot), la2.toInt64 = ag (mV fof fke fnu fno tj) (mSt fof fke fst tj) 4 lj (i + 1) → lv_has ls 13 [(12, .int (nI cc)), (11, .int (nI (lj + i))), (10, .int la2), (9, .int gr), (8, .int le), (7, .int (nI (cnt (mV fof fke fnu fno tj) lj i))), (5, .long sm), (0, .ref (A 0)), (1, .int (nI tj)), (2, .int (nI lj)), (3, .int (nI hj)), (4, .int (nI wj))] → W p l e (headSpec wM_part ({ frames := 2, cells := 0, slots := 0, locals := 200 })).room s m [.ref (A 0), .int (nI tj), .int (nI lj), .int (nI hj), .int (nI wj)].toArray below meth c H locs1 0 0 (MQ below (va_Ql (fun r (u : Nat) => (u = 0 ∧ ¬ (inT (nI tj) mn ∧ inT (nI lj) 1024 ∧ inT (nI hj) 1024 ∧ nI lj ≤ nI hj ∧ inT (nI wj) 5) ∧ r = 0) ∨ (u = 2 ∧ ∃ tj_1 lj_1 hj_1 wj_1, tj_1 < mn ∧ nI tj = nI tj_1 ∧ lj_1 < 1024 ∧ nI lj = nI lj_1 ∧ hj_1 < 1024 ∧ nI hj = nI hj_1 ∧ wj_1 < 5 ∧ nI wj = nI wj_1 ∧ lj_1 ≤ hj_1 ∧ r = ag (mV fof fke fnu fno tj_1) (mSt fof fke fst tj_1) wj_1 lj_1 (hj_1 + 1 - lj_1))) (fun u t' => ∃ fla' fot', va_P Γ.1 gC (wM Γ A (match u with | 0 => 1 | 1 => 2 | _ => 0) (nI mn) fof fke fst fnu fno fla' fot') t'.heap) (mA Γ)) [.ref (A 0), .int (nI tj), .int (nI lj), .int (nI hj), .int (nI wj)].toArray s 0 0 (mA Γ)) (F0 m 121 ls []) := by
                            intro la2 ls q5 hl
                            refine lv_aload_n hx hb dM_part_121 rfl (lv_at hl 7 rfl) ?_
                            refine lv_iload hx hb dM_part_122 (lv_at hl 0 rfl) ?_
                            refine vp_callSi (W.runV (As := [.int (nI cc)]) (rest := []) ⟨hx, hb, hml, hown, hg⟩ (c_M_has l Γ H (ci := cc) hP (by omega)) (cwV 1 hg gM_64 rfl rfl rfl (by decide +kernel) ⟨Nat.le_of_ble_eq_true rfl, Nat.le_of_ble_eq_true rfl⟩) (gP_V hW (vS_m hm hS) (ci := 2) rfl (hP 0 _ rfl)) rfl rfl hl.1 rfl (lv_room (Nat.le_of_ble_eq_true rfl)) dM_part_124 ⟨Nat.le_of_ble_eq_true rfl, Nat.le_of_ble_eq_true rfl⟩) (fun x1 hx1 => ?_)
                            by_cases hb9 : cc ≠ 0 ∧ fno cc = 0
                            · rw [if_pos hb9] at hx1
                              subst hx1
                              have hVk := mV_val (fnu := fnu) hcc hb9.1 hb9.2
                              refine lv_if_ne (tgt := 133) hx hb dM_part_127 (by decide) (fun c10 => ?_) (fun c10 => ?_)
                              · refine lv_iinc (v := nI (cnt (mV fof fke fnu fno tj) lj (i + 1))) (lv' := [(7, .int (nI (cnt (mV fof fke fnu fno tj) lj (i + 1)))), (12, .int (nI cc)), (11, .int (nI (lj + i))), (10, .int la2), (9, .int gr), (8, .int le), (5, .long sm), (0, .ref (A 0)), (1, .int (nI tj)), (2, .int (nI lj)), (3, .int (nI hj)), (4, .int (nI wj))]) hx hb dM_part_133 hl (k := 5) rfl (by rw [show cnt (mV fof fke fnu fno tj) lj (i + 1) = cnt (mV fof fke fnu fno tj) lj i + 1 by simp [cnt, hVk]]; exact nI_1 _) (by decide) rfl (fun ls hl => ?_)
                                refine lv_lload hx hb dM_part_136 (lv_at hl 6 rfl) ?_
                                refine lv_aload_n hx hb dM_part_138 rfl (lv_at hl 7 rfl) ?_
                                refine va_get (D := Γ.1) (ci := 2) (v := .ref (A 4)) (C := RM) (T := TM) (N := 9) hx hb hg inM hown hW.1 hP 0 rfl rfl 4 (by decide) (hg _ kw293) (fun _ h9 => h9) rfl dM_part_139 ?_
                                refine lv_iload hx hb dM_part_142 (lv_at hl 1 rfl) ?_
                                refine va_lald (D := Γ.1) (cl := gC) (tys := gT Γ) hx hb hW.1 hP 4 0 rfl rfl (vp_in_nI (show cc < 400 by omega) (by omega)) dM_part_144 ?_
                                rw [nI_clamp (show cc < 2 ^ 31 by omega)]
                                refine lv_ladd hx hb dM_part_145 ?_
                                refine lv_lstore (lv' := [(5, .long (sm + (fnu cc))), (7, .int (nI (cnt (mV fof fke fnu fno tj) lj (i + 1)))), (12, .int (nI cc)), (11, .int (nI (lj + i))), (10, .int la2), (9, .int gr), (8, .int le), (0, .ref (A 0)), (1, .int (nI tj)), (2, .int (nI lj)), (3, .int (nI hj)), (4, .int (nI wj))]) hx hb dM_part_146 hl (by decide) rfl (fun ls hl => ?_)
                                refine lv_iload hx hb dM_part_148 (lv_at hl 3 rfl) ?_
                                refine lv_istore (lv' := [(9, .int (nI (lj + i))), (5, .long (sm + (fnu cc))), (7, .int (nI (cnt (mV fof fke fnu fno tj) lj (i + 1)))), (12, .int (nI cc)), (11, .int (nI (lj + i))), (10, .int la2), (8, .int le), (0, .ref (A 0)), (1, .int (nI tj)), (2, .int (nI lj)), (3, .int (nI hj)), (4, .int (nI wj))]) hx hb dM_part_150 hl (by decide) rfl (fun ls hl => ?_)
                                refine lv_iload hx hb dM_part_152 (lv_at hl 6 rfl) ?_
                                refine lv_if_ge (tgt := 161) hx hb dM_part_154 (by decide) (fun c11 => ?_) (fun c11 => ?_)
                                · have hle2 : ¬ le.toInt64 = -1 := by
                                    rcases r2 with h | ⟨j, hj9, h⟩
                                    · rw [h] at c11; exact absurd c11 (by decide)
                                    · rw [h, nI_l (by omega)]; exact lN_ne hj9
                                  exact t161 _ le (nI (lj + i)) la2 ls (by rw [r1]; simp [ag, cmb, lfv, hVk]) r2 (by rw [r3]; show ag (mV fof fke fnu fno tj) (mSt fof fke fst tj) 2 lj i = cmb 2 (ag (mV fof fke fnu fno tj) (mSt fof fke fst tj) 2 lj i) (lfv (mV fof fke fnu fno tj) (mSt fof fke fst tj) 2 (lj + i)); rw [← r3]; simp [cmb, hle2]) (by rw [nI_l (by omega)]; show lN (lj + i) = cmb 3 (ag (mV fof fke fnu fno tj) (mSt fof fke fst tj) 3 lj i) (lfv (mV fof fke fnu fno tj) (mSt fof fke fst tj) 3 (lj + i)); simp [cmb, lfv, hVk, lN_ne hki]) q5 (lv_sub hl [4, 5, 0, 6, 2, 1, 7, 8, 9, 10, 11] rfl)
                                · have hle1 : le = -1 := by
                                    rcases r2 with h | ⟨j, hj9, h⟩
                                    · exact h
                                    · exact absurd (by rw [h]; exact nI_pos' (by omega)) c11
                                  refine lv_iload hx hb dM_part_157 (lv_at hl 4 rfl) ?_
                                  refine lv_istore (lv' := [(8, .int (nI (lj + i))), (9, .int (nI (lj + i))), (5, .long (sm + (fnu cc))), (7, .int (nI (cnt (mV fof fke fnu fno tj) lj (i + 1)))), (12, .int (nI cc)), (11, .int (nI (lj + i))), (10, .int la2), (0, .ref (A 0)), (1, .int (nI tj)), (2, .int (nI lj)), (3, .int (nI hj)), (4, .int (nI wj))]) hx hb dM_part_159 hl (by decide) rfl (fun ls hl => ?_)
                                  exact t161 _ (nI (lj + i)) (nI (lj + i)) la2 ls (by rw [r1]; simp [ag, cmb, lfv, hVk]) (Or.inr ⟨_, hki, rfl⟩) (by rw [nI_l (by omega)]; show lN (lj + i) = cmb 2 (ag (mV fof fke fnu fno tj) (mSt fof fke fst tj) 2 lj i) (lfv (mV fof fke fnu fno tj) (mSt fof fke fst tj) 2 (lj + i)); rw [← r3, hle1, neg1_64]; simp [cmb, lfv, hVk]) (by rw [nI_l (by omega)]; show lN (lj + i) = cmb 3 (ag (mV fof fke fnu fno tj) (mSt fof fke fst tj) 3 lj i) (lfv (mV fof fke fnu fno tj) (mSt fof fke fst tj) 3 (lj + i)); simp [cmb, lfv, hVk, lN_ne hki]) q5 (lv_sub hl [5, 6, 1, 0, 3, 2, 7, 8, 9, 10, 11] rfl)
                              · exact absurd c10 (by decide)
                            · rw [if_neg hb9] at hx1
                              subst hx1
                              have hVk := mV_no (fnu := fnu) hcc hb9
                              refine lv_if_ne (tgt := 133) hx hb dM_part_127 (by decide) (fun c10 => ?_) (fun c10 => ?_)
                              · exact absurd rfl c10
                              · refine lv_goto (tgt := 161) hx hb dM_part_130 (by decide) ?_
                                have ec : cnt (mV fof fke fnu fno tj) lj (i + 1) = cnt (mV fof fke fnu fno tj) lj i := by simp [cnt, hVk]
                                exact t161 sm le gr la2 ls (by rw [r1]; simp [ag, cmb, lfv, hVk]) r2 (by rw [r3]; show ag (mV fof fke fnu fno tj) (mSt fof fke fst tj) 2 lj i = cmb 2 (ag (mV fof fke fnu fno tj) (mSt fof fke fst tj) 2 lj i) (lfv (mV fof fke fnu fno tj) (mSt fof fke fst tj) 2 (lj + i)); by_cases h9 : ag (mV fof fke fnu fno tj) (mSt fof fke fst tj) 2 lj i = -1 <;> simp [cmb, lfv, hVk, h9]) (by rw [r4]; show ag (mV fof fke fnu fno tj) (mSt fof fke fst tj) 3 lj i = cmb 3 (ag (mV fof fke fnu fno tj) (mSt fof fke fst tj) 3 lj i) (lfv (mV fof fke fnu fno tj) (mSt fof fke fst tj) 3 (lj + i)); simp [cmb, lfv, hVk]) q5 (by rw [ec]; exact lv_sub hl [1, 2, 3, 4, 5, 6, 7, 8, 9, 10, 11] rfl)
                          refine lv_iload hx hb dM_part_80 (lv_at hl 0 rfl) ?_
                          refine lv_iload_n hx hb dM_part_82 rfl (lv_at hl 9 rfl) ?_
                          refine lv_icmp_gt (tgt := 167) hx hb dM_part_83 (by decide) (fun d1 => ?_) (fun d1 => ?_)
                          · exact absurd d1 (nI_nlt (b := lj + i) (a := hj) (by omega) (by omega))
                          · refine lv_aload_n hx hb dM_part_86 rfl (lv_at hl 6 rfl) ?_
                            refine va_get (D := Γ.1) (ci := 2) (v := .ref (A 6)) (C := RM) (T := TM) (N := 9) hx hb hg inM hown hW.1 hP 0 rfl rfl 6 (by decide) (hg _ kw295) (fun _ h9 => h9) rfl dM_part_87 ?_
                            refine lv_iload hx hb dM_part_90 (lv_at hl 0 rfl) ?_
                            refine va_iald (D := Γ.1) (cl := gC) (tys := gT Γ) hx hb hW.1 hP 6 2 rfl rfl (vp_in_nI (show lj + i < 1024 by omega) (by omega)) dM_part_92 ?_
                            rw [nI_clamp (show lj + i < 2 ^ 31 by omega)]
                            rw [hg6 _ hki, hcc]
                            refine lv_istore (lv' := [(12, .int (nI cc)), (11, .int (nI (lj + i))), (10, .int la), (9, .int gr), (8, .int le), (7, .int (nI (cnt (mV fof fke fnu fno tj) lj i))), (5, .long sm), (0, .ref (A 0)), (1, .int (nI tj)), (2, .int (nI lj)), (3, .int (nI hj)), (4, .int (nI wj))]) hx hb dM_part_93 hl (by decide) rfl (fun ls hl => ?_)
                            refine lv_iload hx hb dM_part_95 (lv_at hl 0 rfl) ?_
                            refine lv_if_eq (tgt := 121) hx hb dM_part_97 (by decide) (fun d2 => ?_) (fun d2 => ?_)
                            · have h0 : cc = 0 := (nI_eq (by omega) (by omega)).mp (d2.trans nI_0.symm)
                              refine t121 la ls ?_ (lv_sub hl [0, 1, 2, 3, 4, 5, 6, 7, 8, 9, 10, 11] rfl)
                              show la.toInt64 = cmb 4 (ag (mV fof fke fnu fno tj) (mSt fof fke fst tj) 4 lj i) (lfv (mV fof fke fnu fno tj) (mSt fof fke fst tj) 4 (lj + i))
                              rw [show lfv (mV fof fke fnu fno tj) (mSt fof fke fst tj) 4 (lj + i) = tkN 4 by simp [lfv, mSt, hcc, h0, tkN], cmb_r (by omega) (ag_ge' hwf 4 lj i)]
                              exact r5
                            · have h0 : ¬ cc = 0 := fun h => d2 (by rw [h]; exact nI_0)
                              have hS4 : lfv (mV fof fke fnu fno tj) (mSt fof fke fst tj) 4 (lj + i) = (fst cc).toInt64 := by simp [lfv, mSt, hcc, h0]
                              refine lv_aload_n hx hb dM_part_100 rfl (lv_at hl 7 rfl) ?_
                              refine va_get (D := Γ.1) (ci := 2) (v := .ref (A 3)) (C := RM) (T := TM) (N := 9) hx hb hg inM hown hW.1 hP 0 rfl rfl 3 (by decide) (hg _ kw292) (fun _ h9 => h9) rfl dM_part_101 ?_
                              refine lv_iload hx hb dM_part_104 (lv_at hl 0 rfl) ?_
                              refine va_iald (D := Γ.1) (cl := gC) (tys := gT Γ) hx hb hW.1 hP 3 2 rfl rfl (vp_in_nI (show cc < 400 by omega) (by omega)) dM_part_106 ?_
                              rw [nI_clamp (show cc < 2 ^ 31 by omega)]
                              refine lv_iload hx hb dM_part_107 (lv_at hl 2 rfl) ?_
                              refine lv_icmp_le (tgt := 121) hx hb dM_part_109 (by decide) (fun d3 => ?_) (fun d3 => ?_)
                              · refine t121 la ls ?_ (lv_sub hl [0, 1, 2, 3, 4, 5, 6, 7, 8, 9, 10, 11] rfl)
                                show la.toInt64 = cmb 4 (ag (mV fof fke fnu fno tj) (mSt fof fke fst tj) 4 lj i) (lfv (mV fof fke fnu fno tj) (mSt fof fke fst tj) 4 (lj + i))
                                rw [hS4, ← r5, cmb4_32, if_pos d3]
                              · refine lv_aload_n hx hb dM_part_112 rfl (lv_at hl 7 rfl) ?_
                                refine va_get (D := Γ.1) (ci := 2) (v := .ref (A 3)) (C := RM) (T := TM) (N := 9) hx hb hg inM hown hW.1 hP 0 rfl rfl 3 (by decide) (hg _ kw292) (fun _ h9 => h9) rfl dM_part_113 ?_
                                refine lv_iload hx hb dM_part_116 (lv_at hl 0 rfl) ?_
                                refine va_iald (D := Γ.1) (cl := gC) (tys := gT Γ) hx hb hW.1 hP 3 2 rfl rfl (vp_in_nI (show cc < 400 by omega) (by omega)) dM_part_118 ?_
                                rw [nI_clamp (show cc < 2 ^ 31 by omega)]
                                refine lv_istore (lv' := [(10, .int (fst cc)), (12, .int (nI cc)), (11, .int (nI (lj + i))), (9, .int gr), (8, .int le), (7, .int (nI (cnt (mV fof fke fnu fno tj) lj i))), (5, .long sm), (0, .ref (A 0)), (1, .int (nI tj)), (2, .int (nI lj)), (3, .int (nI hj)), (4, .int (nI wj))]) hx hb dM_part_119 hl (by decide) rfl (fun ls hl => ?_)
                                refine t121 (fst cc) ls ?_ (lv_sub hl [1, 2, 0, 3, 4, 5, 6, 7, 8, 9, 10, 11] rfl)
                                show (fst cc).toInt64 = cmb 4 (ag (mV fof fke fnu fno tj) (mSt fof fke fst tj) 4 lj i) (lfv (mV fof fke fnu fno tj) (mSt fof fke fst tj) 4 (lj + i))
                                rw [hS4, ← r5, cmb4_32, if_neg d3]
                      exact key (hj + 1 - lj) 0 0 (-1) (-1) (-1) ls (by omega) rfl (Or.inl rfl) neg1_64 neg1_64 neg1_64 (lv_sub hl [0, 1, 2, 3, 4, 5, 6, 7, 8, 9, 10] rfl)
                    · exact absurd rfl c7
                  · refine lv_iconst (v := 1) hx hb dM_part_39 (by decide) ?_
                    refine lv_goto (tgt := 44) hx hb dM_part_40 (by decide) ?_
                    refine lv_iconst (v := 1) hx hb dM_part_44 (by decide) ?_
                    refine va_calli (va_runV (As := [.int 1, .int 1]) (rest := []) ⟨hx, hb, hml, hown, hg⟩ (c_M_fails1 l Γ s.heap hP hD hm) (cwV 2 hg gM_48 rfl rfl rfl (by decide +kernel) ⟨Nat.le_of_ble_eq_true rfl, Nat.le_of_ble_eq_true rfl⟩) (gP_V hW (vS_m hm hS) (ci := 2) rfl (hP 0 _ rfl)) rfl rfl hl.1 rfl (lv_room (Nat.le_of_ble_eq_true rfl)) dM_part_45 ⟨Nat.le_of_ble_eq_true rfl, Nat.le_of_ble_eq_true rfl⟩) hS (fun q _ h => h) (fun q h => h) (fun r u t9 H1 locs1 ht hvm hp hB hz1 hk1 hS => ?_)
                    subst hp
                    rw [ht] at hB
                    have hP : va_P Γ.1 gC (wM Γ A (1) (nI mn) (fof) (fke) (fst) (fnu) (fno) (fla) (fot)) H1 := hB
                    have hD : va_D (mA Γ) (wM Γ A (1) (nI mn) (fof) (fke) (fst) (fnu) (fno) (fla) (fot)) := vD_map (by rfl) hD
                    generalize H1 = H at hP hS ⊢
                    clear hk1 hz1 ht hB
                    refine lv_if_eq (tgt := 53) hx hb dM_part_48 (by decide) (fun c9 => ?_) (fun c9 => ?_)
                    · exact absurd c9 (by decide)
                    · refine lv_lconst (v := 0) hx hb dM_part_51 (by decide) ?_
                      exact W.lret (v := 0) hx hb hr (fun t8 ht8 hW9 => ⟨⟨0, 0, rfl, Or.inl ⟨rfl, fun h => by obtain ⟨j, hj, rfl⟩ := h.2.2.2.2; exact c6 (nI_le (a := j) (b := 4) (by omega) (by omega)), rfl⟩, ⟨_, _, by subst ht8; exact hP⟩⟩, hS.F ht8⟩) (fun q hq => hS.2.2 q hq) dM_part_52
          · refine lv_if_ne (tgt := 39) hx hb dM_part_20 (by decide) (fun c8 => ?_) (fun c8 => ?_)
            · refine lv_iconst (v := 1) hx hb dM_part_39 (by decide) ?_
              refine lv_goto (tgt := 44) hx hb dM_part_40 (by decide) ?_
              refine lv_iconst (v := 1) hx hb dM_part_44 (by decide) ?_
              refine va_calli (va_runV (As := [.int 1, .int 1]) (rest := []) ⟨hx, hb, hml, hown, hg⟩ (c_M_fails1 l Γ s.heap hP hD hm) (cwV 2 hg gM_48 rfl rfl rfl (by decide +kernel) ⟨Nat.le_of_ble_eq_true rfl, Nat.le_of_ble_eq_true rfl⟩) (gP_V hW (vS_m hm hS) (ci := 2) rfl (hP 0 _ rfl)) rfl rfl hl.1 rfl (lv_room (Nat.le_of_ble_eq_true rfl)) dM_part_45 ⟨Nat.le_of_ble_eq_true rfl, Nat.le_of_ble_eq_true rfl⟩) hS (fun q _ h => h) (fun q h => h) (fun r u t9 H1 locs1 ht hvm hp hB hz1 hk1 hS => ?_)
              subst hp
              rw [ht] at hB
              have hP : va_P Γ.1 gC (wM Γ A (1) (nI mn) (fof) (fke) (fst) (fnu) (fno) (fla) (fot)) H1 := hB
              have hD : va_D (mA Γ) (wM Γ A (1) (nI mn) (fof) (fke) (fst) (fnu) (fno) (fla) (fot)) := vD_map (by rfl) hD
              generalize H1 = H at hP hS ⊢
              clear hk1 hz1 ht hB
              refine lv_if_eq (tgt := 53) hx hb dM_part_48 (by decide) (fun c9 => ?_) (fun c9 => ?_)
              · exact absurd c9 (by decide)
              · refine lv_lconst (v := 0) hx hb dM_part_51 (by decide) ?_
                exact W.lret (v := 0) hx hb hr (fun t8 ht8 hW9 => ⟨⟨0, 0, rfl, Or.inl ⟨rfl, fun h => h3 h.2.2.1, rfl⟩, ⟨_, _, by subst ht8; exact hP⟩⟩, hS.F ht8⟩) (fun q hq => hS.2.2 q hq) dM_part_52
            · exact absurd c8 (by decide)
      · refine lv_if_ne (tgt := 39) hx hb dM_part_13 (by decide) (fun c8 => ?_) (fun c8 => ?_)
        · refine lv_iconst (v := 1) hx hb dM_part_39 (by decide) ?_
          refine lv_goto (tgt := 44) hx hb dM_part_40 (by decide) ?_
          refine lv_iconst (v := 1) hx hb dM_part_44 (by decide) ?_
          refine va_calli (va_runV (As := [.int 1, .int 1]) (rest := []) ⟨hx, hb, hml, hown, hg⟩ (c_M_fails1 l Γ s.heap hP hD hm) (cwV 2 hg gM_48 rfl rfl rfl (by decide +kernel) ⟨Nat.le_of_ble_eq_true rfl, Nat.le_of_ble_eq_true rfl⟩) (gP_V hW (vS_m hm hS) (ci := 2) rfl (hP 0 _ rfl)) rfl rfl hl.1 rfl (lv_room (Nat.le_of_ble_eq_true rfl)) dM_part_45 ⟨Nat.le_of_ble_eq_true rfl, Nat.le_of_ble_eq_true rfl⟩) hS (fun q _ h => h) (fun q h => h) (fun r u t9 H1 locs1 ht hvm hp hB hz1 hk1 hS => ?_)
          subst hp
          rw [ht] at hB
          have hP : va_P Γ.1 gC (wM Γ A (1) (nI mn) (fof) (fke) (fst) (fnu) (fno) (fla) (fot)) H1 := hB
          have hD : va_D (mA Γ) (wM Γ A (1) (nI mn) (fof) (fke) (fst) (fnu) (fno) (fla) (fot)) := vD_map (by rfl) hD
          generalize H1 = H at hP hS ⊢
          clear hk1 hz1 ht hB
          refine lv_if_eq (tgt := 53) hx hb dM_part_48 (by decide) (fun c9 => ?_) (fun c9 => ?_)
          · exact absurd c9 (by decide)
          · refine lv_lconst (v := 0) hx hb dM_part_51 (by decide) ?_
            exact W.lret (v := 0) hx hb hr (fun t8 ht8 hW9 => ⟨⟨0, 0, rfl, Or.inl ⟨rfl, fun h => h2 h.2.1, rfl⟩, ⟨_, _, by subst ht8; exact hP⟩⟩, hS.F ht8⟩) (fun q hq => hS.2.2 q hq) dM_part_52
        · exact absurd c8 (by decide)
  · refine lv_if_ne (tgt := 39) hx hb dM_part_6 (by decide) (fun c8 => ?_) (fun c8 => ?_)
    · refine lv_iconst (v := 1) hx hb dM_part_39 (by decide) ?_
      refine lv_goto (tgt := 44) hx hb dM_part_40 (by decide) ?_
      refine lv_iconst (v := 1) hx hb dM_part_44 (by decide) ?_
      refine va_calli (va_runV (As := [.int 1, .int 1]) (rest := []) ⟨hx, hb, hml, hown, hg⟩ (c_M_fails1 l Γ s.heap hP hD hm) (cwV 2 hg gM_48 rfl rfl rfl (by decide +kernel) ⟨Nat.le_of_ble_eq_true rfl, Nat.le_of_ble_eq_true rfl⟩) (gP_V hW (vS_m hm hS) (ci := 2) rfl (hP 0 _ rfl)) rfl rfl hl.1 rfl (lv_room (Nat.le_of_ble_eq_true rfl)) dM_part_45 ⟨Nat.le_of_ble_eq_true rfl, Nat.le_of_ble_eq_true rfl⟩) hS (fun q _ h => h) (fun q h => h) (fun r u t9 H1 locs1 ht hvm hp hB hz1 hk1 hS => ?_)
      subst hp
      rw [ht] at hB
      have hP : va_P Γ.1 gC (wM Γ A (1) (nI mn) (fof) (fke) (fst) (fnu) (fno) (fla) (fot)) H1 := hB
      have hD : va_D (mA Γ) (wM Γ A (1) (nI mn) (fof) (fke) (fst) (fnu) (fno) (fla) (fot)) := vD_map (by rfl) hD
      generalize H1 = H at hP hS ⊢
      clear hk1 hz1 ht hB
      refine lv_if_eq (tgt := 53) hx hb dM_part_48 (by decide) (fun c9 => ?_) (fun c9 => ?_)
      · exact absurd c9 (by decide)
      · refine lv_lconst (v := 0) hx hb dM_part_51 (by decide) ?_
        exact W.lret (v := 0) hx hb hr (fun t8 ht8 hW9 => ⟨⟨0, 0, rfl, Or.inl ⟨rfl, fun h => h1 h.1, rfl⟩, ⟨_, _, by subst ht8; exact hP⟩⟩, hS.F ht8⟩) (fun q hq => hS.2.2 q hq) dM_part_52
    · exact absurd c8 (by decide)
end
section
/-! the reference: at, differ, its constructor -/
set_option maxHeartbeats 4000000 in
set_option maxRecDepth 100000 in
theorem c_M_at (l : Launch) (Γ : gE) (H : Heap) {A : Nat → Nat} {er : Int32} {mn : Nat} {fof fke fst fno fla fot : Nat → Int32} {fnu : Nat → Int64} {t n : Int32} (hP : va_P Γ.1 gC (wM Γ A (er) (nI mn) (fof) (fke) (fst) (fnu) (fno) (fla) (fot)) H) (hD : va_D (mA Γ) (wM Γ A (er) (nI mn) (fof) (fke) (fst) (fnu) (fno) (fla) (fot))) (hm : gz Γ ≤ gm0 Γ) (hmn : mn ≤ 400) (hMI : MI mn fof fke fst fno) : Met l yM_at wM_at ({ frames := 2, cells := 0, slots := 0, locals := 200 }) (gP Γ H [.ref (A 0), .int t, .int n]) (va_Qi (fun r (u : Nat) => (u = 0 ∧ ¬ inT t mn ∧ r = 0) ∨ (u = 1 ∧ (∃ tj, tj < mn ∧ t = nI tj ∧ ¬ inT n (cnt (mV fof fke fnu fno tj) 0 1024)) ∧ r = 0) ∨ (u = 2 ∧ ∃ tj K, tj < mn ∧ t = nI tj ∧ K < 1024 ∧ r = nI K ∧ ((mV fof fke fnu fno tj) K).isSome = true ∧ n = nI (cnt (mV fof fke fnu fno tj) 0 K))) (fun u t' => ∃ fla' fot', va_P Γ.1 gC (wM Γ A (match u with | 0 => 1 | 1 => 2 | _ => 0) (nI mn) fof fke fst fnu fno fla' fot') t'.heap) (mA Γ)) 0 0 (mA Γ) := by
  refine Met.ofW (cc := cM_at) (maxL := 5) (ret := (some .int)) (by decide) rfl ?_
  intro p e s m args below meth c s₁ B hml hv
  obtain ⟨rfl, rfl, hW⟩ := hv
  have hx := B.exec
  have hb := B.bytes
  have hr := B.returns
  have hg : ∀ w ∈ gW, w.before _ s = true := fun w h => atoms_spec (ws := wM_at) B.pre w (List.mem_cons_of_mem _ h)
  have hown : s.vm.findClass RM = some m.cls := findClass_of_methodNamed B.named
  have hlocks := B.notSynchronized
  have hS : va_S (gA Γ) s.heap s.heap [] := va_S.rf
  have hl := lv_entry ([.ref (A 0), .int t, .int n]) (n := 5) (Nat.le_of_ble_eq_true rfl)
  rw [lg_entry_eq]
  generalize (lg_sl ([.ref (A 0), .int t, .int n]) ++ List.replicate (5 - (lg_sl ([.ref (A 0), .int t, .int n])).length) Slot.unset).toArray = ls at hl ⊢
  have hl : lv_has ls 5 [(0, .ref (A 0)), (1, .int t), (2, .int n)] := hl
  have hS : va_S (mA Γ) s.heap s.heap [] := va_S.rf
  refine lv_aload_n hx hb dM_at_0 rfl (lv_at hl 0 rfl) ?_
  refine lv_aload_n hx hb dM_at_1 rfl (lv_at hl 0 rfl) ?_
  refine lv_iload_n hx hb dM_at_2 rfl (lv_at hl 1 rfl) ?_
  refine vp_callSi (W.runV (As := [.int t]) (rest := [.ref (A 0)]) ⟨hx, hb, hml, hown, hg⟩ (c_M_noTable l Γ s.heap (t := t) hP (by omega)) (cwV 1 hg gM_40 rfl rfl rfl (by decide +kernel) ⟨Nat.le_of_ble_eq_true rfl, Nat.le_of_ble_eq_true rfl⟩) (gP_V hW (vS_m hm hS) (ci := 2) rfl (hP 0 _ rfl)) rfl rfl hl.1 rfl (lv_room (Nat.le_of_ble_eq_true rfl)) dM_at_3 ⟨Nat.le_of_ble_eq_true rfl, Nat.le_of_ble_eq_true rfl⟩) (fun r1 hr1 => ?_)
  rcases hr1 with ⟨rfl, h1⟩ | ⟨rfl, h1⟩
  · refine lv_iconst (v := 1) hx hb dM_at_6 (by decide) ?_
    refine va_calli (va_runV (As := [.int 0, .int 1]) (rest := []) ⟨hx, hb, hml, hown, hg⟩ (c_M_fails0 l Γ s.heap hP hD hm) (cwV 2 hg gM_48 rfl rfl rfl (by decide +kernel) ⟨Nat.le_of_ble_eq_true rfl, Nat.le_of_ble_eq_true rfl⟩) (gP_V hW (vS_m hm hS) (ci := 2) rfl (hP 0 _ rfl)) rfl rfl hl.1 rfl (lv_room (Nat.le_of_ble_eq_true rfl)) dM_at_7 ⟨Nat.le_of_ble_eq_true rfl, Nat.le_of_ble_eq_true rfl⟩) hS (fun q _ h => h) (fun q h => h) (fun r u t9 H1 locs1 ht hvm hp hB hz1 hk1 hS => ?_)
    subst hp
    rw [ht] at hB
    have hP : va_P Γ.1 gC (wM Γ A (0) (nI mn) (fof) (fke) (fst) (fnu) (fno) (fla) (fot)) H1 := hB
    have hD : va_D (mA Γ) (wM Γ A (0) (nI mn) (fof) (fke) (fst) (fnu) (fno) (fla) (fot)) := vD_map (by rfl) hD
    generalize H1 = H at hP hS ⊢
    clear hk1 hz1 ht hB
    refine lv_if_eq (tgt := 15) hx hb dM_at_10 (by decide) (fun c1 => ?_) (fun c1 => ?_)
    · obtain ⟨tj, htj, rfl⟩ := h1
      refine lv_aload_n hx hb dM_at_15 rfl (lv_at hl 0 rfl) ?_
      refine lv_iload_n hx hb dM_at_16 rfl (lv_at hl 1 rfl) ?_
      refine lv_aload_n hx hb dM_at_17 rfl (lv_at hl 0 rfl) ?_
      refine va_get (D := Γ.1) (ci := 2) (v := .ref (A 6)) (C := RM) (T := TM) (N := 9) hx hb hg inM hown hW.1 hP 0 rfl rfl 6 (by decide) (hg _ kw295) (fun _ h9 => h9) rfl dM_at_18 ?_
      refine va_callv (va_runV (As := [.int (nI tj), .ref (A 6)]) (rest := []) ⟨hx, hb, hml, hown, hg⟩ (c_M_whole6 l Γ H (t := tj) hP hD hm hmn hMI htj) (cwV 2 hg gM_60 rfl rfl rfl (by decide +kernel) ⟨Nat.le_of_ble_eq_true rfl, Nat.le_of_ble_eq_true rfl⟩) (gP_V hW (vS_m hm hS) (ci := 2) rfl (hP 0 _ rfl)) rfl rfl hl.1 rfl (lv_room (Nat.le_of_ble_eq_true rfl)) dM_at_21 ⟨Nat.le_of_ble_eq_true rfl, Nat.le_of_ble_eq_true rfl⟩) hS (fun q _ h => h) (fun q h => h) (fun u t9 H1 locs1 ht hvm hp hB hz1 hk1 hS => ?_)
      rw [ht] at hB
      have hP : va_P Γ.1 gC (wM Γ A (0) (nI mn) (fof) (fke) (fst) (fnu) (fno) (u) (fot)) H1 := hB
      have hD : va_D (mA Γ) (wM Γ A (0) (nI mn) (fof) (fke) (fst) (fnu) (fno) (u) (fot)) := vD_map (by rfl) hD
      generalize H1 = H at hP hS ⊢
      clear hk1 hz1 ht hB
      have hg6 : ∀ k, k < 1024 → u k = nI (wq fof fke tj k) := hp
      generalize u = g6 at hg6 hP hD
      refine lv_iload_n hx hb dM_at_24 rfl (lv_at hl 2 rfl) ?_
      refine lv_istore_n (lv' := [(3, .int n), (0, .ref (A 0)), (1, .int (nI tj)), (2, .int n)]) hx hb dM_at_25 rfl hl (by decide) rfl (fun ls hl => ?_)
      refine lv_iconst (v := 0) hx hb dM_at_26 (by decide) ?_
      refine lv_istore (lv' := [(4, .int 0), (3, .int n), (0, .ref (A 0)), (1, .int (nI tj)), (2, .int n)]) hx hb dM_at_27 hl (by decide) rfl (fun ls hl => ?_)
      by_cases hn0 : n < 0
      · refine lv_iload hx hb dM_at_29 (lv_at hl 0 rfl) ?_
        refine lv_sipush (v := 1024) hx hb dM_at_31 (by decide) ?_
        refine lv_icmp_ge (tgt := 76) hx hb dM_at_34 (by decide) (fun d1 => ?_) (fun d1 => ?_)
        · exact absurd d1 (by decide)
        · refine lv_iload_n hx hb dM_at_37 rfl (lv_at hl 4 rfl) ?_
          refine lv_if_lt (tgt := 76) hx hb dM_at_38 (by decide) (fun d2 => ?_) (fun d2 => ?_)
          · refine lv_aload_n hx hb dM_at_76 rfl (lv_at hl 2 rfl) ?_
            refine lv_iconst (v := 1) hx hb dM_at_77 (by decide) ?_
            refine lv_iconst (v := 2) hx hb dM_at_78 (by decide) ?_
            refine va_calli (va_runV (As := [.int 1, .int 2]) (rest := []) ⟨hx, hb, hml, hown, hg⟩ (c_M_fails1 l Γ H hP hD hm) (cwV 2 hg gM_48 rfl rfl rfl (by decide +kernel) ⟨Nat.le_of_ble_eq_true rfl, Nat.le_of_ble_eq_true rfl⟩) (gP_V hW (vS_m hm hS) (ci := 2) rfl (hP 0 _ rfl)) rfl rfl hl.1 rfl (lv_room (Nat.le_of_ble_eq_true rfl)) dM_at_79 ⟨Nat.le_of_ble_eq_true rfl, Nat.le_of_ble_eq_true rfl⟩) hS (fun q _ h => h) (fun q h => h) (fun r u t9 H1 locs1 ht hvm hp hB hz1 hk1 hS => ?_)
            subst hp
            rw [ht] at hB
            have hP : va_P Γ.1 gC (wM Γ A (2) (nI mn) (fof) (fke) (fst) (fnu) (fno) (g6) (fot)) H1 := hB
            have hD : va_D (mA Γ) (wM Γ A (2) (nI mn) (fof) (fke) (fst) (fnu) (fno) (g6) (fot)) := vD_map (by rfl) hD
            generalize H1 = H at hP hS ⊢
            clear hk1 hz1 ht hB
            refine lv_pop hx hb dM_at_82 rfl ?_
            refine lv_iconst (v := 0) hx hb dM_at_83 (by decide) ?_
            exact W.iret (v := 0) hx hb hr (fun t8 ht8 hW9 => ⟨⟨0, 1, rfl, Or.inr (Or.inl ⟨rfl, ⟨tj, htj, rfl, (inT_no (by have := cnt_le (mV fof fke fnu fno tj) 0 1024; omega)).mpr (Or.inl hn0)⟩, rfl⟩), ⟨_, _, by subst ht8; exact hP⟩⟩, hS.F ht8⟩) (fun q hq => hS.2.2 q hq) dM_at_84
          · exact absurd hn0 d2
      · obtain ⟨n0, hn9, rfl⟩ := nI_of hn0
        have key : ∀ (q i : Nat) (ls : Array Slot), i + q = 1024 → cnt (mV fof fke fnu fno tj) 0 i ≤ n0 → lv_has ls 5 [(4, .int (nI i)), (3, .int (nI (n0 - cnt (mV fof fke fnu fno tj) 0 i))), (0, .ref (A 0)), (1, .int (nI tj)), (2, .int (nI n0))] → W p l e (headSpec wM_at ({ frames := 2, cells := 0, slots := 0, locals := 200 })).room s m [.ref (A 0), .int (nI tj), .int (nI n0)].toArray below meth c H locs1 0 0 (MQ below (va_Qi (fun r (u : Nat) => (u = 0 ∧ ¬ inT (nI tj) mn ∧ r = 0) ∨ (u = 1 ∧ (∃ tj_1, tj_1 < mn ∧ nI tj = nI tj_1 ∧ ¬ inT (nI n0) (cnt (mV fof fke fnu fno tj_1) 0 1024)) ∧ r = 0) ∨ (u = 2 ∧ ∃ tj_1 K, tj_1 < mn ∧ nI tj = nI tj_1 ∧ K < 1024 ∧ r = nI K ∧ ((mV fof fke fnu fno tj_1) K).isSome = true ∧ nI n0 = nI (cnt (mV fof fke fnu fno tj_1) 0 K))) (fun u t' => ∃ fla' fot', va_P Γ.1 gC (wM Γ A (match u with | 0 => 1 | 1 => 2 | _ => 0) (nI mn) fof fke fst fnu fno fla' fot') t'.heap) (mA Γ)) [.ref (A 0), .int (nI tj), .int (nI n0)].toArray s 0 0 (mA Γ)) (F0 m 29 ls []) := by
          intro q
          induction q with
          | zero =>
            intro i ls hi hc hl
            refine lv_iload hx hb dM_at_29 (lv_at hl 0 rfl) ?_
            refine lv_sipush (v := 1024) hx hb dM_at_31 (by decide) ?_
            refine lv_icmp_ge (tgt := 76) hx hb dM_at_34 (by decide) (fun d1 => ?_) (fun d1 => ?_)
            · have e9 : i = 1024 := by omega
              refine lv_aload_n hx hb dM_at_76 rfl (lv_at hl 2 rfl) ?_
              refine lv_iconst (v := 1) hx hb dM_at_77 (by decide) ?_
              refine lv_iconst (v := 2) hx hb dM_at_78 (by decide) ?_
              refine va_calli (va_runV (As := [.int 1, .int 2]) (rest := []) ⟨hx, hb, hml, hown, hg⟩ (c_M_fails1 l Γ H hP hD hm) (cwV 2 hg gM_48 rfl rfl rfl (by decide +kernel) ⟨Nat.le_of_ble_eq_true rfl, Nat.le_of_ble_eq_true rfl⟩) (gP_V hW (vS_m hm hS) (ci := 2) rfl (hP 0 _ rfl)) rfl rfl hl.1 rfl (lv_room (Nat.le_of_ble_eq_true rfl)) dM_at_79 ⟨Nat.le_of_ble_eq_true rfl, Nat.le_of_ble_eq_true rfl⟩) hS (fun q _ h => h) (fun q h => h) (fun r u t9 H1 locs1 ht hvm hp hB hz1 hk1 hS => ?_)
              subst hp
              rw [ht] at hB
              have hP : va_P Γ.1 gC (wM Γ A (2) (nI mn) (fof) (fke) (fst) (fnu) (fno) (g6) (fot)) H1 := hB
              have hD : va_D (mA Γ) (wM Γ A (2) (nI mn) (fof) (fke) (fst) (fnu) (fno) (g6) (fot)) := vD_map (by rfl) hD
              generalize H1 = H at hP hS ⊢
              clear hk1 hz1 ht hB
              refine lv_pop hx hb dM_at_82 rfl ?_
              refine lv_iconst (v := 0) hx hb dM_at_83 (by decide) ?_
              exact W.iret (v := 0) hx hb hr (fun t8 ht8 hW9 => ⟨⟨0, 1, rfl, Or.inr (Or.inl ⟨rfl, ⟨tj, htj, rfl, fun h => by obtain ⟨j, hj, ej⟩ := h; have h8 := (nI_eq (by omega) (by have := cnt_le (mV fof fke fnu fno tj) 0 1024; omega)).mp ej; rw [e9] at hc; omega⟩, rfl⟩), ⟨_, _, by subst ht8; exact hP⟩⟩, hS.F ht8⟩) (fun q hq => hS.2.2 q hq) dM_at_84
            · exact absurd (show (1024 : Int32) ≤ nI i from nI_le (a := 1024) (by omega) (by omega)) d1
          | succ q ih =>
            intro i ls hi hc hl
            have hwl := (wq_ok hmn hMI i tj htj).1
            obtain ⟨cc, hcc⟩ : ∃ cc, wq fof fke tj i = cc := ⟨_, rfl⟩
            rw [hcc] at hwl
            refine lv_iload hx hb dM_at_29 (lv_at hl 0 rfl) ?_
            refine lv_sipush (v := 1024) hx hb dM_at_31 (by decide) ?_
            refine lv_icmp_ge (tgt := 76) hx hb dM_at_34 (by decide) (fun d1 => ?_) (fun d1 => ?_)
            · exact absurd d1 (nI_ge (a := i) (b := 1024) (by omega) (by omega))
            · refine lv_iload_n hx hb dM_at_37 rfl (lv_at hl 4 rfl) ?_
              refine lv_if_lt (tgt := 76) hx hb dM_at_38 (by decide) (fun d2 => ?_) (fun d2 => ?_)
              · exact absurd d2 hn0
              · refine lv_aload_n hx hb dM_at_41 rfl (lv_at hl 2 rfl) ?_
                refine lv_aload_n hx hb dM_at_42 rfl (lv_at hl 2 rfl) ?_
                refine va_get (D := Γ.1) (ci := 2) (v := .ref (A 6)) (C := RM) (T := TM) (N := 9) hx hb hg inM hown hW.1 hP 0 rfl rfl 6 (by decide) (hg _ kw295) (fun _ h9 => h9) rfl dM_at_43 ?_
                refine lv_iload hx hb dM_at_46 (lv_at hl 0 rfl) ?_
                refine va_iald (D := Γ.1) (cl := gC) (tys := gT Γ) hx hb hW.1 hP 6 2 rfl rfl (vp_in_nI (show i < 1024 by omega) (by omega)) dM_at_48 ?_
                rw [nI_clamp (show i < 2 ^ 31 by omega)]
                rw [hg6 _ (by omega), hcc]
                refine vp_callSi (W.runV (As := [.int (nI cc)]) (rest := []) ⟨hx, hb, hml, hown, hg⟩ (c_M_has l Γ H (ci := cc) hP (by omega)) (cwV 1 hg gM_64 rfl rfl rfl (by decide +kernel) ⟨Nat.le_of_ble_eq_true rfl, Nat.le_of_ble_eq_true rfl⟩) (gP_V hW (vS_m hm hS) (ci := 2) rfl (hP 0 _ rfl)) rfl rfl hl.1 rfl (lv_room (Nat.le_of_ble_eq_true rfl)) dM_at_49 ⟨Nat.le_of_ble_eq_true rfl, Nat.le_of_ble_eq_true rfl⟩) (fun x1 hx1 => ?_)
                by_cases hb9 : cc ≠ 0 ∧ fno cc = 0
                · rw [if_pos hb9] at hx1
                  subst hx1
                  have hVk := mV_val (fnu := fnu) hcc hb9.1 hb9.2
                  have ec : cnt (mV fof fke fnu fno tj) 0 (i + 1) = cnt (mV fof fke fnu fno tj) 0 i + 1 := by simp [cnt, hVk]
                  refine lv_if_eq (tgt := 70) hx hb dM_at_52 (by decide) (fun c10 => ?_) (fun c10 => ?_)
                  · exact absurd c10 (by decide)
                  · refine lv_iload_n hx hb dM_at_55 rfl (lv_at hl 1 rfl) ?_
                    obtain ⟨lf, elf⟩ : ∃ y : Int32, y = (nI (n0 - cnt (mV fof fke fnu fno tj) 0 i)) + Int32.ofInt (-1) := ⟨_, rfl⟩
                    refine lv_iinc (v := lf) (lv' := [(3, .int lf), (4, .int (nI i)), (0, .ref (A 0)), (1, .int (nI tj)), (2, .int (nI n0))]) hx hb dM_at_56 hl (k := 1) rfl elf.symm (by decide) rfl (fun ls hl => ?_)
                    refine lv_if_ne (tgt := 70) hx hb dM_at_59 (by decide) (fun d3 => ?_) (fun d3 => ?_)
                    · have hlt : cnt (mV fof fke fnu fno tj) 0 i < n0 := by
                        rcases Nat.lt_or_ge (cnt (mV fof fke fnu fno tj) 0 i) n0 with h | h
                        · exact h
                        · exact absurd (by rw [show n0 - cnt (mV fof fke fnu fno tj) 0 i = 0 by omega]; rfl) d3
                      have elf9 : lf = nI (n0 - cnt (mV fof fke fnu fno tj) 0 (i + 1)) := by rw [elf, ec, show n0 - cnt (mV fof fke fnu fno tj) 0 i = (n0 - (cnt (mV fof fke fnu fno tj) 0 i + 1)) + 1 by omega]; exact pk_m1 _
                      rw [elf9] at hl
                      refine lv_iinc (v := nI (i + 1)) (lv' := [(4, .int (nI (i + 1))), (3, .int (nI (n0 - cnt (mV fof fke fnu fno tj) 0 (i + 1)))), (0, .ref (A 0)), (1, .int (nI tj)), (2, .int (nI n0))]) hx hb dM_at_70 hl (k := 1) rfl (nI_1 i) (by decide) rfl (fun ls hl => ?_)
                      refine lv_goto (tgt := 29) hx hb dM_at_73 (by decide) ?_
                      exact ih (i + 1) ls (by omega) (by omega) (lv_sub hl [0, 1, 2, 3, 4] rfl)
                    · have e9 : n0 = cnt (mV fof fke fnu fno tj) 0 i := by have h8 := (nI_eq (a := n0 - cnt (mV fof fke fnu fno tj) 0 i) (b := 0) (by omega) (by omega)).mp (d3.trans nI_0.symm); omega
                      refine lv_aload_n hx hb dM_at_62 rfl (lv_at hl 2 rfl) ?_
                      refine lv_iconst (v := 0) hx hb dM_at_63 (by decide) ?_
                      refine va_put (D := Γ.1) (ci := 2) (v := .int (0)) (ty := .int) (C := RM) (T := TM) (N := 9) hx hb hg inM tyM tyM_ok nmM hown hW.1 hP hD hS 0 rfl rfl 0 (by decide) (hg _ kw289) (fun _ h9 => h9) rfl (by decide +kernel) rfl rfl (Nat.le_of_ble_eq_true rfl) dM_at_64 (fun H locs hP hD hS => ?_)
                      have hP : va_P Γ.1 gC (wM Γ A (0) (nI mn) (fof) (fke) (fst) (fnu) (fno) (g6) (fot)) H := hP
                      have hD : va_D (mA Γ) (wM Γ A (0) (nI mn) (fof) (fke) (fst) (fnu) (fno) (g6) (fot)) := hD
                      refine lv_iload hx hb dM_at_67 (lv_at hl 1 rfl) ?_
                      exact W.iret (v := nI i) hx hb hr (fun t8 ht8 hW9 => ⟨⟨nI i, 2, rfl, Or.inr (Or.inr ⟨rfl, tj, i, htj, rfl, by omega, rfl, by rw [hVk]; rfl, by rw [← e9]⟩), ⟨_, _, by subst ht8; exact hP⟩⟩, hS.F ht8⟩) (fun q hq => hS.2.2 q hq) dM_at_69
                · rw [if_neg hb9] at hx1
                  subst hx1
                  have hVk := mV_no (fnu := fnu) hcc hb9
                  have ec : cnt (mV fof fke fnu fno tj) 0 (i + 1) = cnt (mV fof fke fnu fno tj) 0 i := by simp [cnt, hVk]
                  refine lv_if_eq (tgt := 70) hx hb dM_at_52 (by decide) (fun c10 => ?_) (fun c10 => ?_)
                  · refine lv_iinc (v := nI (i + 1)) (lv' := [(4, .int (nI (i + 1))), (3, .int (nI (n0 - cnt (mV fof fke fnu fno tj) 0 i))), (0, .ref (A 0)), (1, .int (nI tj)), (2, .int (nI n0))]) hx hb dM_at_70 hl (k := 0) rfl (nI_1 i) (by decide) rfl (fun ls hl => ?_)
                    refine lv_goto (tgt := 29) hx hb dM_at_73 (by decide) ?_
                    exact ih (i + 1) ls (by omega) (by omega) (by rw [ec]; exact lv_sub hl [0, 1, 2, 3, 4] rfl)
                  · exact absurd rfl c10
        exact key 1024 0 ls rfl (Nat.zero_le _) (lv_sub hl [0, 1, 2, 3, 4] rfl)
    · exact absurd rfl c1
  · refine lv_iconst (v := 1) hx hb dM_at_6 (by decide) ?_
    refine va_calli (va_runV (As := [.int 1, .int 1]) (rest := []) ⟨hx, hb, hml, hown, hg⟩ (c_M_fails1 l Γ s.heap hP hD hm) (cwV 2 hg gM_48 rfl rfl rfl (by decide +kernel) ⟨Nat.le_of_ble_eq_true rfl, Nat.le_of_ble_eq_true rfl⟩) (gP_V hW (vS_m hm hS) (ci := 2) rfl (hP 0 _ rfl)) rfl rfl hl.1 rfl (lv_room (Nat.le_of_ble_eq_true rfl)) dM_at_7 ⟨Nat.le_of_ble_eq_true rfl, Nat.le_of_ble_eq_true rfl⟩) hS (fun q _ h => h) (fun q h => h) (fun r u t9 H1 locs1 ht hvm hp hB hz1 hk1 hS => ?_)
    subst hp
    rw [ht] at hB
    have hP : va_P Γ.1 gC (wM Γ A (1) (nI mn) (fof) (fke) (fst) (fnu) (fno) (fla) (fot)) H1 := hB
    have hD : va_D (mA Γ) (wM Γ A (1) (nI mn) (fof) (fke) (fst) (fnu) (fno) (fla) (fot)) := vD_map (by rfl) hD
    generalize H1 = H at hP hS ⊢
    clear hk1 hz1 ht hB
    refine lv_if_eq (tgt := 15) hx hb dM_at_10 (by decide) (fun c9 => ?_) (fun c9 => ?_)
    · exact absurd c9 (by decide)
    · refine lv_iconst (v := 0) hx hb dM_at_13 (by decide) ?_
      exact W.iret (v := 0) hx hb hr (fun t8 ht8 hW9 => ⟨⟨0, 0, rfl, Or.inl ⟨rfl, h1, rfl⟩, ⟨_, _, by subst ht8; exact hP⟩⟩, hS.F ht8⟩) (fun q hq => hS.2.2 q hq) dM_at_14
set_option maxHeartbeats 4000000 in
set_option maxRecDepth 100000 in
theorem c_M_differ (l : Launch) (Γ : gE) (H : Heap) {A : Nat → Nat} {er : Int32} {mn : Nat} {fof fke fst fno fla fot : Nat → Int32} {fnu : Nat → Int64} {a b : Int32} (hP : va_P Γ.1 gC (wM Γ A (er) (nI mn) (fof) (fke) (fst) (fnu) (fno) (fla) (fot)) H) (hD : va_D (mA Γ) (wM Γ A (er) (nI mn) (fof) (fke) (fst) (fnu) (fno) (fla) (fot))) (hm : gz Γ ≤ gm0 Γ) (hmn : mn ≤ 400) (hMI : MI mn fof fke fst fno) : Met l yM_differ wM_differ ({ frames := 2, cells := 0, slots := 0, locals := 200 }) (gP Γ H [.ref (A 0), .int a, .int b]) (va_Qi (fun r (u : Nat) => (u = 0 ∧ ¬ (inT a mn ∧ inT b mn) ∧ r = 0) ∨ (u = 2 ∧ ∃ aj bj, aj < mn ∧ a = nI aj ∧ bj < mn ∧ b = nI bj ∧ r = nI (dcn (mV fof fke fnu fno aj) (mV fof fke fnu fno bj) 0 1024))) (fun u t' => ∃ fla' fot', va_P Γ.1 gC (wM Γ A (match u with | 0 => 1 | 1 => 2 | _ => 0) (nI mn) fof fke fst fnu fno fla' fot') t'.heap) (mA Γ)) 0 0 (mA Γ) := by
  refine Met.ofW (cc := cM_differ) (maxL := 7) (ret := (some .int)) (by decide) rfl ?_
  intro p e s m args below meth c s₁ B hml hv
  obtain ⟨rfl, rfl, hW⟩ := hv
  have hx := B.exec
  have hb := B.bytes
  have hr := B.returns
  have hg : ∀ w ∈ gW, w.before _ s = true := fun w h => atoms_spec (ws := wM_differ) B.pre w (List.mem_cons_of_mem _ h)
  have hown : s.vm.findClass RM = some m.cls := findClass_of_methodNamed B.named
  have hlocks := B.notSynchronized
  have hS : va_S (gA Γ) s.heap s.heap [] := va_S.rf
  have hl := lv_entry ([.ref (A 0), .int a, .int b]) (n := 7) (Nat.le_of_ble_eq_true rfl)
  rw [lg_entry_eq]
  generalize (lg_sl ([.ref (A 0), .int a, .int b]) ++ List.replicate (7 - (lg_sl ([.ref (A 0), .int a, .int b])).length) Slot.unset).toArray = ls at hl ⊢
  have hl : lv_has ls 7 [(0, .ref (A 0)), (1, .int a), (2, .int b)] := hl
  have hS : va_S (mA Γ) s.heap s.heap [] := va_S.rf
  refine lv_aload_n hx hb dM_differ_0 rfl (lv_at hl 0 rfl) ?_
  refine lv_aload_n hx hb dM_differ_1 rfl (lv_at hl 0 rfl) ?_
  refine lv_iload_n hx hb dM_differ_2 rfl (lv_at hl 1 rfl) ?_
  refine vp_callSi (W.runV (As := [.int a]) (rest := [.ref (A 0)]) ⟨hx, hb, hml, hown, hg⟩ (c_M_noTable l Γ s.heap (t := a) hP (by omega)) (cwV 1 hg gM_40 rfl rfl rfl (by decide +kernel) ⟨Nat.le_of_ble_eq_true rfl, Nat.le_of_ble_eq_true rfl⟩) (gP_V hW (vS_m hm hS) (ci := 2) rfl (hP 0 _ rfl)) rfl rfl hl.1 rfl (lv_room (Nat.le_of_ble_eq_true rfl)) dM_differ_3 ⟨Nat.le_of_ble_eq_true rfl, Nat.le_of_ble_eq_true rfl⟩) (fun r1 hr1 => ?_)
  rcases hr1 with ⟨rfl, h1⟩ | ⟨rfl, h1⟩
  · refine lv_if_ne (tgt := 17) hx hb dM_differ_6 (by decide) (fun c1 => ?_) (fun c1 => ?_)
    · exact absurd rfl c1
    · refine lv_aload_n hx hb dM_differ_9 rfl (lv_at hl 0 rfl) ?_
      refine lv_iload_n hx hb dM_differ_10 rfl (lv_at hl 2 rfl) ?_
      refine vp_callSi (W.runV (As := [.int b]) (rest := [.ref (A 0)]) ⟨hx, hb, hml, hown, hg⟩ (c_M_noTable l Γ s.heap (t := b) hP (by omega)) (cwV 1 hg gM_40 rfl rfl rfl (by decide +kernel) ⟨Nat.le_of_ble_eq_true rfl, Nat.le_of_ble_eq_true rfl⟩) (gP_V hW (vS_m hm hS) (ci := 2) rfl (hP 0 _ rfl)) rfl rfl hl.1 rfl (lv_room (Nat.le_of_ble_eq_true rfl)) dM_differ_11 ⟨Nat.le_of_ble_eq_true rfl, Nat.le_of_ble_eq_true rfl⟩) (fun r1 hr1 => ?_)
      rcases hr1 with ⟨rfl, h2⟩ | ⟨rfl, h2⟩
      · refine lv_if_eq (tgt := 21) hx hb dM_differ_14 (by decide) (fun c2 => ?_) (fun c2 => ?_)
        · obtain ⟨aj, haj, rfl⟩ := h1
          obtain ⟨bj, hbj, rfl⟩ := h2
          refine lv_iconst (v := 0) hx hb dM_differ_21 (by decide) ?_
          refine lv_iconst (v := 1) hx hb dM_differ_22 (by decide) ?_
          refine va_calli (va_runV (As := [.int 0, .int 1]) (rest := []) ⟨hx, hb, hml, hown, hg⟩ (c_M_fails0 l Γ s.heap hP hD hm) (cwV 2 hg gM_48 rfl rfl rfl (by decide +kernel) ⟨Nat.le_of_ble_eq_true rfl, Nat.le_of_ble_eq_true rfl⟩) (gP_V hW (vS_m hm hS) (ci := 2) rfl (hP 0 _ rfl)) rfl rfl hl.1 rfl (lv_room (Nat.le_of_ble_eq_true rfl)) dM_differ_23 ⟨Nat.le_of_ble_eq_true rfl, Nat.le_of_ble_eq_true rfl⟩) hS (fun q _ h => h) (fun q h => h) (fun r u t9 H1 locs1 ht hvm hp hB hz1 hk1 hS => ?_)
          subst hp
          rw [ht] at hB
          have hP : va_P Γ.1 gC (wM Γ A (0) (nI mn) (fof) (fke) (fst) (fnu) (fno) (fla) (fot)) H1 := hB
          have hD : va_D (mA Γ) (wM Γ A (0) (nI mn) (fof) (fke) (fst) (fnu) (fno) (fla) (fot)) := vD_map (by rfl) hD
          generalize H1 = H at hP hS ⊢
          clear hk1 hz1 ht hB
          refine lv_if_eq (tgt := 31) hx hb dM_differ_26 (by decide) (fun c7 => ?_) (fun c7 => ?_)
          · refine lv_aload_n hx hb dM_differ_31 rfl (lv_at hl 0 rfl) ?_
            refine lv_iload_n hx hb dM_differ_32 rfl (lv_at hl 1 rfl) ?_
            refine lv_aload_n hx hb dM_differ_33 rfl (lv_at hl 0 rfl) ?_
            refine va_get (D := Γ.1) (ci := 2) (v := .ref (A 6)) (C := RM) (T := TM) (N := 9) hx hb hg inM hown hW.1 hP 0 rfl rfl 6 (by decide) (hg _ kw295) (fun _ h9 => h9) rfl dM_differ_34 ?_
            refine va_callv (va_runV (As := [.int (nI aj), .ref (A 6)]) (rest := []) ⟨hx, hb, hml, hown, hg⟩ (c_M_whole6 l Γ H (t := aj) hP hD hm hmn hMI haj) (cwV 2 hg gM_60 rfl rfl rfl (by decide +kernel) ⟨Nat.le_of_ble_eq_true rfl, Nat.le_of_ble_eq_true rfl⟩) (gP_V hW (vS_m hm hS) (ci := 2) rfl (hP 0 _ rfl)) rfl rfl hl.1 rfl (lv_room (Nat.le_of_ble_eq_true rfl)) dM_differ_37 ⟨Nat.le_of_ble_eq_true rfl, Nat.le_of_ble_eq_true rfl⟩) hS (fun q _ h => h) (fun q h => h) (fun u t9 H1 locs1 ht hvm hp hB hz1 hk1 hS => ?_)
            rw [ht] at hB
            have hP : va_P Γ.1 gC (wM Γ A (0) (nI mn) (fof) (fke) (fst) (fnu) (fno) (u) (fot)) H1 := hB
            have hD : va_D (mA Γ) (wM Γ A (0) (nI mn) (fof) (fke) (fst) (fnu) (fno) (u) (fot)) := vD_map (by rfl) hD
            generalize H1 = H at hP hS ⊢
            clear hk1 hz1 ht hB
            have hg6 : ∀ k, k < 1024 → u k = nI (wq fof fke aj k) := hp
            generalize u = g6 at hg6 hP hD
            refine lv_aload_n hx hb dM_differ_40 rfl (lv_at hl 0 rfl) ?_
            refine lv_iload_n hx hb dM_differ_41 rfl (lv_at hl 2 rfl) ?_
            refine lv_aload_n hx hb dM_differ_42 rfl (lv_at hl 0 rfl) ?_
            refine va_get (D := Γ.1) (ci := 2) (v := .ref (A 7)) (C := RM) (T := TM) (N := 9) hx hb hg inM hown hW.1 hP 0 rfl rfl 7 (by decide) (hg _ kw296) (fun _ h9 => h9) rfl dM_differ_43 ?_
            refine va_callv (va_runV (As := [.int (nI bj), .ref (A 7)]) (rest := []) ⟨hx, hb, hml, hown, hg⟩ (c_M_whole7 l Γ H (t := bj) hP hD hm hmn hMI hbj) (cwV 2 hg gM_60 rfl rfl rfl (by decide +kernel) ⟨Nat.le_of_ble_eq_true rfl, Nat.le_of_ble_eq_true rfl⟩) (gP_V hW (vS_m hm hS) (ci := 2) rfl (hP 0 _ rfl)) rfl rfl hl.1 rfl (lv_room (Nat.le_of_ble_eq_true rfl)) dM_differ_46 ⟨Nat.le_of_ble_eq_true rfl, Nat.le_of_ble_eq_true rfl⟩) hS (fun q _ h => h) (fun q h => h) (fun u t9 H1 locs1 ht hvm hp hB hz1 hk1 hS => ?_)
            rw [ht] at hB
            have hP : va_P Γ.1 gC (wM Γ A (0) (nI mn) (fof) (fke) (fst) (fnu) (fno) (g6) (u)) H1 := hB
            have hD : va_D (mA Γ) (wM Γ A (0) (nI mn) (fof) (fke) (fst) (fnu) (fno) (g6) (u)) := vD_map (by rfl) hD
            generalize H1 = H at hP hS ⊢
            clear hk1 hz1 ht hB
            have hg7 : ∀ k, k < 1024 → u k = nI (wq fof fke bj k) := hp
            generalize u = g7 at hg7 hP hD
            refine lv_iconst (v := 0) hx hb dM_differ_49 (by decide) ?_
            refine lv_istore_n (lv' := [(3, .int 0), (0, .ref (A 0)), (1, .int (nI aj)), (2, .int (nI bj))]) hx hb dM_differ_50 rfl hl (by decide) rfl (fun ls hl => ?_)
            refine lv_iconst (v := 0) hx hb dM_differ_51 (by decide) ?_
            refine lv_istore (lv' := [(4, .int 0), (3, .int 0), (0, .ref (A 0)), (1, .int (nI aj)), (2, .int (nI bj))]) hx hb dM_differ_52 hl (by decide) rfl (fun ls hl => ?_)
            have key : ∀ (n i : Nat) (ls : Array Slot), i + n = 1024 → lv_has ls 7 [(4, .int (nI i)), (3, .int (nI (dcn (mV fof fke fnu fno aj) (mV fof fke fnu fno bj) 0 i))), (0, .ref (A 0)), (1, .int (nI aj)), (2, .int (nI bj))] → W p l e (headSpec wM_differ ({ frames := 2, cells := 0, slots := 0, locals := 200 })).room s m [.ref (A 0), .int (nI aj), .int (nI bj)].toArray below meth c H locs1 0 0 (MQ below (va_Qi (fun r (u : Nat) => (u = 0 ∧ ¬ (inT (nI aj) mn ∧ inT (nI bj) mn) ∧ r = 0) ∨ (u = 2 ∧ ∃ aj_1 bj_1, aj_1 < mn ∧ nI aj = nI aj_1 ∧ bj_1 < mn ∧ nI bj = nI bj_1 ∧ r = nI (dcn (mV fof fke fnu fno aj_1) (mV fof fke fnu fno bj_1) 0 1024))) (fun u t' => ∃ fla' fot', va_P Γ.1 gC (wM Γ A (match u with | 0 => 1 | 1 => 2 | _ => 0) (nI mn) fof fke fst fnu fno fla' fot') t'.heap) (mA Γ)) [.ref (A 0), .int (nI aj), .int (nI bj)].toArray s 0 0 (mA Γ)) (F0 m 54 ls []) := by
              intro n
              induction n with
              | zero =>
                intro i ls hi hl
                refine lv_iload hx hb dM_differ_54 (lv_at hl 0 rfl) ?_
                refine lv_sipush (v := 1024) hx hb dM_differ_56 (by decide) ?_
                refine lv_icmp_ge (tgt := 137) hx hb dM_differ_59 (by decide) (fun d1 => ?_) (fun d1 => ?_)
                · have e9 : i = 1024 := by omega
                  refine lv_iload_n hx hb dM_differ_137 rfl (lv_at hl 1 rfl) ?_
                  exact W.iret (v := (nI (dcn (mV fof fke fnu fno aj) (mV fof fke fnu fno bj) 0 i))) hx hb hr (fun t8 ht8 hW9 => ⟨⟨(nI (dcn (mV fof fke fnu fno aj) (mV fof fke fnu fno bj) 0 i)), 2, rfl, Or.inr ⟨rfl, aj, bj, haj, rfl, hbj, rfl, by rw [e9]⟩, ⟨_, _, by subst ht8; exact hP⟩⟩, hS.F ht8⟩) (fun q hq => hS.2.2 q hq) dM_differ_138
                · exact absurd (show (1024 : Int32) ≤ nI i from nI_le (a := 1024) (by omega) (by omega)) d1
              | succ n ih =>
                intro i ls hi hl
                have hwca := (wq_ok hmn hMI i aj haj).1
                obtain ⟨ca, hca⟩ : ∃ cc, wq fof fke aj i = cc := ⟨_, rfl⟩
                rw [hca] at hwca
                have hwcb := (wq_ok hmn hMI i bj hbj).1
                obtain ⟨cb, hcb⟩ : ∃ cc, wq fof fke bj i = cc := ⟨_, rfl⟩
                rw [hcb] at hwcb
                have t131 : ∀ (x5 x6 : Int32) (ls : Array Slot), lv_has ls 7 [(6, .int x6), (5, .int x5), (4, .int (nI i)), (3, .int (nI (dcn (mV fof fke fnu fno aj) (mV fof fke fnu fno bj) 0 (i + 1)))), (0, .ref (A 0)), (1, .int (nI aj)), (2, .int (nI bj))] → W p l e (headSpec wM_differ ({ frames := 2, cells := 0, slots := 0, locals := 200 })).room s m [.ref (A 0), .int (nI aj), .int (nI bj)].toArray below meth c H locs1 0 0 (MQ below (va_Qi (fun r (u : Nat) => (u = 0 ∧ ¬ (inT (nI aj) mn ∧ inT (nI bj) mn) ∧ r = 0) ∨ (u = 2 ∧ ∃ aj_1 bj_1, aj_1 < mn ∧ nI aj = nI aj_1 ∧ bj_1 < mn ∧ nI bj = nI bj_1 ∧ r = nI (dcn (mV fof fke fnu fno aj_1) (mV fof fke fnu fno bj_1) 0 1024))) (fun u t' => ∃ fla' fot', va_P Γ.1 gC (wM Γ A (match u with | 0 => 1 | 1 => 2 | _ => 0) (nI mn) fof fke fst fnu fno fla' fot') t'.heap) (mA Γ)) [.ref (A 0), .int (nI aj), .int (nI bj)].toArray s 0 0 (mA Γ)) (F0 m 131 ls []) := by
                  intro x5 x6 ls hl
                  refine lv_iinc (v := nI (i + 1)) (lv' := [(4, .int (nI (i + 1))), (6, .int x6), (5, .int x5), (3, .int (nI (dcn (mV fof fke fnu fno aj) (mV fof fke fnu fno bj) 0 (i + 1)))), (0, .ref (A 0)), (1, .int (nI aj)), (2, .int (nI bj))]) hx hb dM_differ_131 hl (k := 2) rfl (nI_1 i) (by decide) rfl (fun ls hl => ?_)
                  refine lv_goto (tgt := 54) hx hb dM_differ_134 (by decide) ?_
                  exact ih (i + 1) ls (by omega) (lv_sub hl [0, 3, 4, 5, 6] rfl)
                refine lv_iload hx hb dM_differ_54 (lv_at hl 0 rfl) ?_
                refine lv_sipush (v := 1024) hx hb dM_differ_56 (by decide) ?_
                refine lv_icmp_ge (tgt := 137) hx hb dM_differ_59 (by decide) (fun d1 => ?_) (fun d1 => ?_)
                · exact absurd d1 (nI_ge (a := i) (b := 1024) (by omega) (by omega))
                · refine lv_aload_n hx hb dM_differ_62 rfl (lv_at hl 2 rfl) ?_
                  refine lv_aload_n hx hb dM_differ_63 rfl (lv_at hl 2 rfl) ?_
                  refine va_get (D := Γ.1) (ci := 2) (v := .ref (A 6)) (C := RM) (T := TM) (N := 9) hx hb hg inM hown hW.1 hP 0 rfl rfl 6 (by decide) (hg _ kw295) (fun _ h9 => h9) rfl dM_differ_64 ?_
                  refine lv_iload hx hb dM_differ_67 (lv_at hl 0 rfl) ?_
                  refine va_iald (D := Γ.1) (cl := gC) (tys := gT Γ) hx hb hW.1 hP 6 2 rfl rfl (vp_in_nI (show i < 1024 by omega) (by omega)) dM_differ_69 ?_
                  rw [nI_clamp (show i < 2 ^ 31 by omega)]
                  rw [hg6 _ (by omega), hca]
                  refine vp_callSi (W.runV (As := [.int (nI ca)]) (rest := []) ⟨hx, hb, hml, hown, hg⟩ (c_M_has l Γ H (ci := ca) hP (by omega)) (cwV 1 hg gM_64 rfl rfl rfl (by decide +kernel) ⟨Nat.le_of_ble_eq_true rfl, Nat.le_of_ble_eq_true rfl⟩) (gP_V hW (vS_m hm hS) (ci := 2) rfl (hP 0 _ rfl)) rfl rfl hl.1 rfl (lv_room (Nat.le_of_ble_eq_true rfl)) dM_differ_70 ⟨Nat.le_of_ble_eq_true rfl, Nat.le_of_ble_eq_true rfl⟩) (fun x1 hx1 => ?_)
                  refine lv_istore (lv' := [(5, .int x1), (4, .int (nI i)), (3, .int (nI (dcn (mV fof fke fnu fno aj) (mV fof fke fnu fno bj) 0 i))), (0, .ref (A 0)), (1, .int (nI aj)), (2, .int (nI bj))]) hx hb dM_differ_73 hl (by decide) rfl (fun ls hl => ?_)
                  refine lv_aload_n hx hb dM_differ_75 rfl (lv_at hl 3 rfl) ?_
                  refine lv_aload_n hx hb dM_differ_76 rfl (lv_at hl 3 rfl) ?_
                  refine va_get (D := Γ.1) (ci := 2) (v := .ref (A 7)) (C := RM) (T := TM) (N := 9) hx hb hg inM hown hW.1 hP 0 rfl rfl 7 (by decide) (hg _ kw296) (fun _ h9 => h9) rfl dM_differ_77 ?_
                  refine lv_iload hx hb dM_differ_80 (lv_at hl 1 rfl) ?_
                  refine va_iald (D := Γ.1) (cl := gC) (tys := gT Γ) hx hb hW.1 hP 7 2 rfl rfl (vp_in_nI (show i < 1024 by omega) (by omega)) dM_differ_82 ?_
                  rw [nI_clamp (show i < 2 ^ 31 by omega)]
                  rw [hg7 _ (by omega), hcb]
                  refine vp_callSi (W.runV (As := [.int (nI cb)]) (rest := []) ⟨hx, hb, hml, hown, hg⟩ (c_M_has l Γ H (ci := cb) hP (by omega)) (cwV 1 hg gM_64 rfl rfl rfl (by decide +kernel) ⟨Nat.le_of_ble_eq_true rfl, Nat.le_of_ble_eq_true rfl⟩) (gP_V hW (vS_m hm hS) (ci := 2) rfl (hP 0 _ rfl)) rfl rfl hl.1 rfl (lv_room (Nat.le_of_ble_eq_true rfl)) dM_differ_83 ⟨Nat.le_of_ble_eq_true rfl, Nat.le_of_ble_eq_true rfl⟩) (fun x2 hx2 => ?_)
                  refine lv_istore (lv' := [(6, .int x2), (5, .int x1), (4, .int (nI i)), (3, .int (nI (dcn (mV fof fke fnu fno aj) (mV fof fke fnu fno bj) 0 i))), (0, .ref (A 0)), (1, .int (nI aj)), (2, .int (nI bj))]) hx hb dM_differ_86 hl (by decide) rfl (fun ls hl => ?_)
                  refine lv_iload hx hb dM_differ_88 (lv_at hl 1 rfl) ?_
                  refine lv_iload hx hb dM_differ_90 (lv_at hl 0 rfl) ?_
                  by_cases ha9 : ca ≠ 0 ∧ fno ca = 0
                  · rw [if_pos ha9] at hx1
                    subst hx1
                    have hVa := mV_val (fnu := fnu) hca ha9.1 ha9.2
                    by_cases hb9 : cb ≠ 0 ∧ fno cb = 0
                    · rw [if_pos hb9] at hx2
                      subst hx2
                      have hVb := mV_val (fnu := fnu) hcb hb9.1 hb9.2
                      refine lv_icmp_ne (tgt := 128) hx hb dM_differ_92 (by decide) (fun d2 => ?_) (fun d2 => ?_)
                      · exact absurd rfl d2
                      · refine lv_iload hx hb dM_differ_95 (lv_at hl 1 rfl) ?_
                        refine lv_if_eq (tgt := 131) hx hb dM_differ_97 (by decide) (fun d3 => ?_) (fun d3 => ?_)
                        · exact absurd d3 (by decide)
                        · refine lv_aload_n hx hb dM_differ_100 rfl (lv_at hl 4 rfl) ?_
                          refine va_get (D := Γ.1) (ci := 2) (v := .ref (A 4)) (C := RM) (T := TM) (N := 9) hx hb hg inM hown hW.1 hP 0 rfl rfl 4 (by decide) (hg _ kw293) (fun _ h9 => h9) rfl dM_differ_101 ?_
                          refine lv_aload_n hx hb dM_differ_104 rfl (lv_at hl 4 rfl) ?_
                          refine va_get (D := Γ.1) (ci := 2) (v := .ref (A 6)) (C := RM) (T := TM) (N := 9) hx hb hg inM hown hW.1 hP 0 rfl rfl 6 (by decide) (hg _ kw295) (fun _ h9 => h9) rfl dM_differ_105 ?_
                          refine lv_iload hx hb dM_differ_108 (lv_at hl 2 rfl) ?_
                          refine va_iald (D := Γ.1) (cl := gC) (tys := gT Γ) hx hb hW.1 hP 6 2 rfl rfl (vp_in_nI (show i < 1024 by omega) (by omega)) dM_differ_110 ?_
                          rw [nI_clamp (show i < 2 ^ 31 by omega)]
                          rw [hg6 _ (by omega), hca]
                          refine va_lald (D := Γ.1) (cl := gC) (tys := gT Γ) hx hb hW.1 hP 4 0 rfl rfl (vp_in_nI (show ca < 400 by omega) (by omega)) dM_differ_111 ?_
                          rw [nI_clamp (show ca < 2 ^ 31 by omega)]
                          refine lv_aload_n hx hb dM_differ_112 rfl (lv_at hl 4 rfl) ?_
                          refine va_get (D := Γ.1) (ci := 2) (v := .ref (A 4)) (C := RM) (T := TM) (N := 9) hx hb hg inM hown hW.1 hP 0 rfl rfl 4 (by decide) (hg _ kw293) (fun _ h9 => h9) rfl dM_differ_113 ?_
                          refine lv_aload_n hx hb dM_differ_116 rfl (lv_at hl 4 rfl) ?_
                          refine va_get (D := Γ.1) (ci := 2) (v := .ref (A 7)) (C := RM) (T := TM) (N := 9) hx hb hg inM hown hW.1 hP 0 rfl rfl 7 (by decide) (hg _ kw296) (fun _ h9 => h9) rfl dM_differ_117 ?_
                          refine lv_iload hx hb dM_differ_120 (lv_at hl 2 rfl) ?_
                          refine va_iald (D := Γ.1) (cl := gC) (tys := gT Γ) hx hb hW.1 hP 7 2 rfl rfl (vp_in_nI (show i < 1024 by omega) (by omega)) dM_differ_122 ?_
                          rw [nI_clamp (show i < 2 ^ 31 by omega)]
                          rw [hg7 _ (by omega), hcb]
                          refine va_lald (D := Γ.1) (cl := gC) (tys := gT Γ) hx hb hW.1 hP 4 0 rfl rfl (vp_in_nI (show cb < 400 by omega) (by omega)) dM_differ_123 ?_
                          rw [nI_clamp (show cb < 2 ^ 31 by omega)]
                          refine W.lcmp hx hb dM_differ_124 ?_
                          refine lv_if_eq (tgt := 131) hx hb dM_differ_125 (by decide) (fun d4 => ?_) (fun d4 => ?_)
                          · have heq : (mV fof fke fnu fno aj) i = (mV fof fke fnu fno bj) i := by rw [hVa, hVb, (lg_cmp_eq _ _).mp d4]
                            have ed : dcn (mV fof fke fnu fno aj) (mV fof fke fnu fno bj) 0 (i + 1) = dcn (mV fof fke fnu fno aj) (mV fof fke fnu fno bj) 0 i := by simp [dcn, heq]
                            exact t131 _ _ ls (by rw [ed]; exact lv_sub hl [0, 1, 2, 3, 4, 5, 6] rfl)
                          · have hne : ¬ (mV fof fke fnu fno aj) i = (mV fof fke fnu fno bj) i := by rw [hVa, hVb]; exact fun h => d4 ((lg_cmp_eq _ _).mpr (Option.some.inj h))
                            have ed : dcn (mV fof fke fnu fno aj) (mV fof fke fnu fno bj) 0 (i + 1) = dcn (mV fof fke fnu fno aj) (mV fof fke fnu fno bj) 0 i + 1 := by simp [dcn, hne]
                            refine lv_iinc (v := nI (dcn (mV fof fke fnu fno aj) (mV fof fke fnu fno bj) 0 (i + 1))) (lv' := [(3, .int (nI (dcn (mV fof fke fnu fno aj) (mV fof fke fnu fno bj) 0 (i + 1)))), (6, .int 1), (5, .int 1), (4, .int (nI i)), (0, .ref (A 0)), (1, .int (nI aj)), (2, .int (nI bj))]) hx hb dM_differ_128 hl (k := 3) rfl (by rw [ed]; exact nI_1 _) (by decide) rfl (fun ls hl => ?_)
                            exact t131 _ _ ls (lv_sub hl [1, 2, 3, 0, 4, 5, 6] rfl)
                    · rw [if_neg hb9] at hx2
                      subst hx2
                      have hVb := mV_no (fnu := fnu) hcb hb9
                      refine lv_icmp_ne (tgt := 128) hx hb dM_differ_92 (by decide) (fun d2 => ?_) (fun d2 => ?_)
                      · have hne : ¬ (mV fof fke fnu fno aj) i = (mV fof fke fnu fno bj) i := by rw [hVa, hVb]; exact fun h => nomatch h
                        have ed : dcn (mV fof fke fnu fno aj) (mV fof fke fnu fno bj) 0 (i + 1) = dcn (mV fof fke fnu fno aj) (mV fof fke fnu fno bj) 0 i + 1 := by simp [dcn, hne]
                        refine lv_iinc (v := nI (dcn (mV fof fke fnu fno aj) (mV fof fke fnu fno bj) 0 (i + 1))) (lv' := [(3, .int (nI (dcn (mV fof fke fnu fno aj) (mV fof fke fnu fno bj) 0 (i + 1)))), (6, .int 0), (5, .int 1), (4, .int (nI i)), (0, .ref (A 0)), (1, .int (nI aj)), (2, .int (nI bj))]) hx hb dM_differ_128 hl (k := 3) rfl (by rw [ed]; exact nI_1 _) (by decide) rfl (fun ls hl => ?_)
                        exact t131 _ _ ls (lv_sub hl [1, 2, 3, 0, 4, 5, 6] rfl)
                      · exact absurd d2 (by decide)
                  · rw [if_neg ha9] at hx1
                    subst hx1
                    have hVa := mV_no (fnu := fnu) hca ha9
                    by_cases hb9 : cb ≠ 0 ∧ fno cb = 0
                    · rw [if_pos hb9] at hx2
                      subst hx2
                      have hVb := mV_val (fnu := fnu) hcb hb9.1 hb9.2
                      refine lv_icmp_ne (tgt := 128) hx hb dM_differ_92 (by decide) (fun d2 => ?_) (fun d2 => ?_)
                      · have hne : ¬ (mV fof fke fnu fno aj) i = (mV fof fke fnu fno bj) i := by rw [hVa, hVb]; exact fun h => nomatch h
                        have ed : dcn (mV fof fke fnu fno aj) (mV fof fke fnu fno bj) 0 (i + 1) = dcn (mV fof fke fnu fno aj) (mV fof fke fnu fno bj) 0 i + 1 := by simp [dcn, hne]
                        refine lv_iinc (v := nI (dcn (mV fof fke fnu fno aj) (mV fof fke fnu fno bj) 0 (i + 1))) (lv' := [(3, .int (nI (dcn (mV fof fke fnu fno aj) (mV fof fke fnu fno bj) 0 (i + 1)))), (6, .int 1), (5, .int 0), (4, .int (nI i)), (0, .ref (A 0)), (1, .int (nI aj)), (2, .int (nI bj))]) hx hb dM_differ_128 hl (k := 3) rfl (by rw [ed]; exact nI_1 _) (by decide) rfl (fun ls hl => ?_)
                        exact t131 _ _ ls (lv_sub hl [1, 2, 3, 0, 4, 5, 6] rfl)
                      · exact absurd d2 (by decide)
                    · rw [if_neg hb9] at hx2
                      subst hx2
                      have hVb := mV_no (fnu := fnu) hcb hb9
                      refine lv_icmp_ne (tgt := 128) hx hb dM_differ_92 (by decide) (fun d2 => ?_) (fun d2 => ?_)
                      · exact absurd rfl d2
                      · refine lv_iload hx hb dM_differ_95 (lv_at hl 1 rfl) ?_
                        refine lv_if_eq (tgt := 131) hx hb dM_differ_97 (by decide) (fun d3 => ?_) (fun d3 => ?_)
                        · have heq : (mV fof fke fnu fno aj) i = (mV fof fke fnu fno bj) i := by rw [hVa, hVb]
                          have ed : dcn (mV fof fke fnu fno aj) (mV fof fke fnu fno bj) 0 (i + 1) = dcn (mV fof fke fnu fno aj) (mV fof fke fnu fno bj) 0 i := by simp [dcn, heq]
                          exact t131 _ _ ls (by rw [ed]; exact lv_sub hl [0, 1, 2, 3, 4, 5, 6] rfl)
                        · exact absurd rfl d3
            exact key 1024 0 ls rfl (lv_sub hl [0, 1, 2, 3, 4] rfl)
          · exact absurd rfl c7
        · exact absurd rfl c2
      · refine lv_if_eq (tgt := 21) hx hb dM_differ_14 (by decide) (fun c8 => ?_) (fun c8 => ?_)
        · exact absurd c8 (by decide)
        · refine lv_iconst (v := 1) hx hb dM_differ_17 (by decide) ?_
          refine lv_goto (tgt := 22) hx hb dM_differ_18 (by decide) ?_
          refine lv_iconst (v := 1) hx hb dM_differ_22 (by decide) ?_
          refine va_calli (va_runV (As := [.int 1, .int 1]) (rest := []) ⟨hx, hb, hml, hown, hg⟩ (c_M_fails1 l Γ s.heap hP hD hm) (cwV 2 hg gM_48 rfl rfl rfl (by decide +kernel) ⟨Nat.le_of_ble_eq_true rfl, Nat.le_of_ble_eq_true rfl⟩) (gP_V hW (vS_m hm hS) (ci := 2) rfl (hP 0 _ rfl)) rfl rfl hl.1 rfl (lv_room (Nat.le_of_ble_eq_true rfl)) dM_differ_23 ⟨Nat.le_of_ble_eq_true rfl, Nat.le_of_ble_eq_true rfl⟩) hS (fun q _ h => h) (fun q h => h) (fun r u t9 H1 locs1 ht hvm hp hB hz1 hk1 hS => ?_)
          subst hp
          rw [ht] at hB
          have hP : va_P Γ.1 gC (wM Γ A (1) (nI mn) (fof) (fke) (fst) (fnu) (fno) (fla) (fot)) H1 := hB
          have hD : va_D (mA Γ) (wM Γ A (1) (nI mn) (fof) (fke) (fst) (fnu) (fno) (fla) (fot)) := vD_map (by rfl) hD
          generalize H1 = H at hP hS ⊢
          clear hk1 hz1 ht hB
          refine lv_if_eq (tgt := 31) hx hb dM_differ_26 (by decide) (fun c9 => ?_) (fun c9 => ?_)
          · exact absurd c9 (by decide)
          · refine lv_iconst (v := 0) hx hb dM_differ_29 (by decide) ?_
            exact W.iret (v := 0) hx hb hr (fun t8 ht8 hW9 => ⟨⟨0, 0, rfl, Or.inl ⟨rfl, fun h => h2 h.2, rfl⟩, ⟨_, _, by subst ht8; exact hP⟩⟩, hS.F ht8⟩) (fun q hq => hS.2.2 q hq) dM_differ_30
  · refine lv_if_ne (tgt := 17) hx hb dM_differ_6 (by decide) (fun c8 => ?_) (fun c8 => ?_)
    · refine lv_iconst (v := 1) hx hb dM_differ_17 (by decide) ?_
      refine lv_goto (tgt := 22) hx hb dM_differ_18 (by decide) ?_
      refine lv_iconst (v := 1) hx hb dM_differ_22 (by decide) ?_
      refine va_calli (va_runV (As := [.int 1, .int 1]) (rest := []) ⟨hx, hb, hml, hown, hg⟩ (c_M_fails1 l Γ s.heap hP hD hm) (cwV 2 hg gM_48 rfl rfl rfl (by decide +kernel) ⟨Nat.le_of_ble_eq_true rfl, Nat.le_of_ble_eq_true rfl⟩) (gP_V hW (vS_m hm hS) (ci := 2) rfl (hP 0 _ rfl)) rfl rfl hl.1 rfl (lv_room (Nat.le_of_ble_eq_true rfl)) dM_differ_23 ⟨Nat.le_of_ble_eq_true rfl, Nat.le_of_ble_eq_true rfl⟩) hS (fun q _ h => h) (fun q h => h) (fun r u t9 H1 locs1 ht hvm hp hB hz1 hk1 hS => ?_)
      subst hp
      rw [ht] at hB
      have hP : va_P Γ.1 gC (wM Γ A (1) (nI mn) (fof) (fke) (fst) (fnu) (fno) (fla) (fot)) H1 := hB
      have hD : va_D (mA Γ) (wM Γ A (1) (nI mn) (fof) (fke) (fst) (fnu) (fno) (fla) (fot)) := vD_map (by rfl) hD
      generalize H1 = H at hP hS ⊢
      clear hk1 hz1 ht hB
      refine lv_if_eq (tgt := 31) hx hb dM_differ_26 (by decide) (fun c9 => ?_) (fun c9 => ?_)
      · exact absurd c9 (by decide)
      · refine lv_iconst (v := 0) hx hb dM_differ_29 (by decide) ?_
        exact W.iret (v := 0) hx hb hr (fun t8 ht8 hW9 => ⟨⟨0, 0, rfl, Or.inl ⟨rfl, fun h => h1 h.1, rfl⟩, ⟨_, _, by subst ht8; exact hP⟩⟩, hS.F ht8⟩) (fun q hq => hS.2.2 q hq) dM_differ_30
    · exact absurd c8 (by decide)
end
section
/-! the reference: its constructor -/
theorem kI_eq {Γ : gE} {s : State} {cA : ClassId} (h : va_K Γ.1 gC (gT Γ) s) (h2 : va_K Γ.1 gC (gT Γ ++ [(cA, .int)]) s) : cA = kI Γ := by
  have h3 : s.vm.findClass ("[" ++ FieldType.int.toString) = some cA := (h2.2 4 _ rfl).2
  have h4 : s.vm.findClass ("[" ++ FieldType.int.toString) = some (kI Γ) := (h.2 2 _ rfl).2
  exact Option.some.inj (h3.symm.trans h4)
theorem kZ_eq {Γ : gE} {s : State} {cA : ClassId} (h : va_K Γ.1 gC (gT Γ) s) (h2 : va_K Γ.1 gC (gT Γ ++ [(cA, .boolean)]) s) : cA = kZ Γ := by
  have h3 : s.vm.findClass ("[" ++ FieldType.boolean.toString) = some cA := (h2.2 4 _ rfl).2
  have h4 : s.vm.findClass ("[" ++ FieldType.boolean.toString) = some (kZ Γ) := (h.2 3 _ rfl).2
  exact Option.some.inj (h3.symm.trans h4)
set_option maxHeartbeats 4000000 in
set_option maxRecDepth 100000 in
theorem c_M_init (l : Launch) (Γ : gE) (H : Heap) {x : Nat} (hO : va_at Γ.1 gC (x, .inr (2, [.int 0, .null, .null, .null, .null, .null, .null, .null, .int 0])) H) : Met l yM_init wM_init ({ frames := 1, cells := 7, slots := 4048, locals := 12 }) (gP Γ H [.ref x]) (va_Qv (fun (A : Nat → Nat) => A 0 = x ∧ va_D (fun q => q = x ∨ H.size ≤ q) (wM Γ A 0 (nI 1) (fun _ => 0) (fun _ => 0) (fun _ => 0) (fun _ => 0) (fun _ => 0) (fun _ => 0) (fun _ => 0))) (fun A t => va_P Γ.1 gC (wM Γ A 0 (nI 1) (fun _ => 0) (fun _ => 0) (fun _ => 0) (fun _ => 0) (fun _ => 0) (fun _ => 0) (fun _ => 0)) t.heap) (fun q => q = x)) 7 4048 (fun q => q = x ∨ H.size ≤ q) := by
  refine Met.ofW (cc := cM_init) (maxL := 1) (ret := none) (by decide) rfl ?_
  intro p e s m args below meth c s₁ B hml hv
  obtain ⟨rfl, rfl, hW⟩ := hv
  have hx := B.exec
  have hb := B.bytes
  have hr := B.returns
  have hg : ∀ w ∈ gW, w.before _ s = true := fun w h => atoms_spec (ws := wM_init) B.pre w (List.mem_cons_of_mem _ h)
  have hown : s.vm.findClass RM = some m.cls := findClass_of_methodNamed B.named
  have hlocks := B.notSynchronized
  have hS : va_S (gA Γ) s.heap s.heap [] := va_S.rf
  have hl := lv_entry ([.ref x]) (n := 1) (Nat.le_of_ble_eq_true rfl)
  rw [lg_entry_eq]
  generalize (lg_sl ([.ref x]) ++ List.replicate (1 - (lg_sl ([.ref x])).length) Slot.unset).toArray = ls at hl ⊢
  have hl : lv_has ls 1 [(0, .ref x)] := hl
  have hin : meth.name = "<init>" := (name_of_methodNamed B.named B.method).1
  have hA : ∀ q, s.heap.size ≤ q → (fun q => q = x ∨ s.heap.size ≤ q) q := fun _ h => Or.inr h
  have hS : va_S (fun q => q = x ∨ s.heap.size ≤ q) s.heap s.heap [] := va_S.rf
  have hP := p1 hO
  have hD : va_D (fun q => q = x ∨ s.heap.size ≤ q) [(x, .inr (2, [.int 0, .null, .null, .null, .null, .null, .null, .null, .int 0]))] := d1 (Or.inl rfl)
  refine lv_aload_n hx hb dM_init_0 rfl (lv_at hl 0 rfl) ?_
  refine W.objInit hx hb hown (hg _ kw288) (hg _ kw27) (hg _ kw28) rfl (by rw [hml]; exact hl.1) rfl dM_init_1 (Nat.le_of_ble_eq_true rfl) (Nat.le_of_ble_eq_true rfl) ?_
  refine W.eq (g2 := F0 m 4 ls []) rfl ?_
  refine lv_aload_n hx hb dM_init_4 rfl (lv_at hl 0 rfl) ?_
  refine lv_sipush (v := 400) hx hb dM_init_5 (by decide) ?_
  refine va_newa (atype := .int) (D := Γ.1) (cl := gC) (tys := gT Γ) (ty := .int) (a0 := (400, .inl (fun _ => 0))) (N' := 400) hx hb (hg _ kw317) rfl hW.1 hP hD hS hA (fun cA => rfl) (by decide) (by decide) (by decide) (Nat.le_of_ble_eq_true rfl) (Nat.le_of_ble_eq_true rfl) dM_init_8 (fun a1 cA H hK hP hD hS => ?_)
  have eA := kI_eq hW.1 hK
  subst eA
  clear hK
  have hP : va_P Γ.1 gC [(x, .inr (2, [.int 0, .null, .null, .null, .null, .null, .null, .null, .int 0])), (a1, .inl (kI Γ, 400, .inl (fun _ => 0)))] H := hP
  have hD : va_D (fun q => q = x ∨ s.heap.size ≤ q) [(x, .inr (2, [.int 0, .null, .null, .null, .null, .null, .null, .null, .int 0])), (a1, .inl (kI Γ, 400, .inl (fun _ => 0)))] := hD
  refine va_putF (D := Γ.1) (ci := 2) (v := .ref a1) (ty := .array .int) (C := RM) (T := TM) (N := 9) hx hb hg inM tyM tyM_ok nmM hown hW.1 hP hD hS 0 rfl rfl 1 (by decide) (hg _ kw290) (fun _ h9 => h9) rfl hin rfl (by decide +kernel) rfl rfl (Nat.le_of_ble_eq_true rfl) dM_init_10 (fun H locs hP hD hS => ?_)
  have hP : va_P Γ.1 gC [(x, .inr (2, [.int 0, .ref a1, .null, .null, .null, .null, .null, .null, .int 0])), (a1, .inl (kI Γ, 400, .inl (fun _ => 0)))] H := hP
  have hD : va_D (fun q => q = x ∨ s.heap.size ≤ q) [(x, .inr (2, [.int 0, .ref a1, .null, .null, .null, .null, .null, .null, .int 0])), (a1, .inl (kI Γ, 400, .inl (fun _ => 0)))] := hD
  refine lv_aload_n hx hb dM_init_13 rfl (lv_at hl 0 rfl) ?_
  refine lv_sipush (v := 400) hx hb dM_init_14 (by decide) ?_
  refine va_newa (atype := .int) (D := Γ.1) (cl := gC) (tys := gT Γ) (ty := .int) (a0 := (400, .inl (fun _ => 0))) (N' := 400) hx hb (hg _ kw317) rfl hW.1 hP hD hS hA (fun cA => rfl) (by decide) (by decide) (by decide) (Nat.le_of_ble_eq_true rfl) (Nat.le_of_ble_eq_true rfl) dM_init_17 (fun a2 cA H hK hP hD hS => ?_)
  have eA := kI_eq hW.1 hK
  subst eA
  clear hK
  have hP : va_P Γ.1 gC [(x, .inr (2, [.int 0, .ref a1, .null, .null, .null, .null, .null, .null, .int 0])), (a1, .inl (kI Γ, 400, .inl (fun _ => 0))), (a2, .inl (kI Γ, 400, .inl (fun _ => 0)))] H := hP
  have hD : va_D (fun q => q = x ∨ s.heap.size ≤ q) [(x, .inr (2, [.int 0, .ref a1, .null, .null, .null, .null, .null, .null, .int 0])), (a1, .inl (kI Γ, 400, .inl (fun _ => 0))), (a2, .inl (kI Γ, 400, .inl (fun _ => 0)))] := hD
  refine va_putF (D := Γ.1) (ci := 2) (v := .ref a2) (ty := .array .int) (C := RM) (T := TM) (N := 9) hx hb hg inM tyM tyM_ok nmM hown hW.1 hP hD hS 0 rfl rfl 2 (by decide) (hg _ kw291) (fun _ h9 => h9) rfl hin rfl (by decide +kernel) rfl rfl (Nat.le_of_ble_eq_true rfl) dM_init_19 (fun H locs hP hD hS => ?_)
  have hP : va_P Γ.1 gC [(x, .inr (2, [.int 0, .ref a1, .ref a2, .null, .null, .null, .null, .null, .int 0])), (a1, .inl (kI Γ, 400, .inl (fun _ => 0))), (a2, .inl (kI Γ, 400, .inl (fun _ => 0)))] H := hP
  have hD : va_D (fun q => q = x ∨ s.heap.size ≤ q) [(x, .inr (2, [.int 0, .ref a1, .ref a2, .null, .null, .null, .null, .null, .int 0])), (a1, .inl (kI Γ, 400, .inl (fun _ => 0))), (a2, .inl (kI Γ, 400, .inl (fun _ => 0)))] := hD
  refine lv_aload_n hx hb dM_init_22 rfl (lv_at hl 0 rfl) ?_
  refine lv_sipush (v := 400) hx hb dM_init_23 (by decide) ?_
  refine va_newa (atype := .int) (D := Γ.1) (cl := gC) (tys := gT Γ) (ty := .int) (a0 := (400, .inl (fun _ => 0))) (N' := 400) hx hb (hg _ kw317) rfl hW.1 hP hD hS hA (fun cA => rfl) (by decide) (by decide) (by decide) (Nat.le_of_ble_eq_true rfl) (Nat.le_of_ble_eq_true rfl) dM_init_26 (fun a3 cA H hK hP hD hS => ?_)
  have eA := kI_eq hW.1 hK
  subst eA
  clear hK
  have hP : va_P Γ.1 gC [(x, .inr (2, [.int 0, .ref a1, .ref a2, .null, .null, .null, .null, .null, .int 0])), (a1, .inl (kI Γ, 400, .inl (fun _ => 0))), (a2, .inl (kI Γ, 400, .inl (fun _ => 0))), (a3, .inl (kI Γ, 400, .inl (fun _ => 0)))] H := hP
  have hD : va_D (fun q => q = x ∨ s.heap.size ≤ q) [(x, .inr (2, [.int 0, .ref a1, .ref a2, .null, .null, .null, .null, .null, .int 0])), (a1, .inl (kI Γ, 400, .inl (fun _ => 0))), (a2, .inl (kI Γ, 400, .inl (fun _ => 0))), (a3, .inl (kI Γ, 400, .inl (fun _ => 0)))] := hD
  refine va_putF (D := Γ.1) (ci := 2) (v := .ref a3) (ty := .array .int) (C := RM) (T := TM) (N := 9) hx hb hg inM tyM tyM_ok nmM hown hW.1 hP hD hS 0 rfl rfl 3 (by decide) (hg _ kw292) (fun _ h9 => h9) rfl hin rfl (by decide +kernel) rfl rfl (Nat.le_of_ble_eq_true rfl) dM_init_28 (fun H locs hP hD hS => ?_)
  have hP : va_P Γ.1 gC [(x, .inr (2, [.int 0, .ref a1, .ref a2, .ref a3, .null, .null, .null, .null, .int 0])), (a1, .inl (kI Γ, 400, .inl (fun _ => 0))), (a2, .inl (kI Γ, 400, .inl (fun _ => 0))), (a3, .inl (kI Γ, 400, .inl (fun _ => 0)))] H := hP
  have hD : va_D (fun q => q = x ∨ s.heap.size ≤ q) [(x, .inr (2, [.int 0, .ref a1, .ref a2, .ref a3, .null, .null, .null, .null, .int 0])), (a1, .inl (kI Γ, 400, .inl (fun _ => 0))), (a2, .inl (kI Γ, 400, .inl (fun _ => 0))), (a3, .inl (kI Γ, 400, .inl (fun _ => 0)))] := hD
  refine lv_aload_n hx hb dM_init_31 rfl (lv_at hl 0 rfl) ?_
  refine lv_sipush (v := 400) hx hb dM_init_32 (by decide) ?_
  refine va_newa (atype := .long) (D := Γ.1) (cl := gC) (tys := gT Γ) (ty := .long) (a0 := (400, .inr (.inl (fun _ => 0)))) (N' := 400) hx hb (hg _ kw170) rfl hW.1 hP hD hS hA (fun cA => rfl) (by decide) (by decide) (by decide) (Nat.le_of_ble_eq_true rfl) (Nat.le_of_ble_eq_true rfl) dM_init_35 (fun a4 cA H hK hP hD hS => ?_)
  have eA := kJ_eq hW.1 hK
  subst eA
  clear hK
  have hP : va_P Γ.1 gC [(x, .inr (2, [.int 0, .ref a1, .ref a2, .ref a3, .null, .null, .null, .null, .int 0])), (a1, .inl (kI Γ, 400, .inl (fun _ => 0))), (a2, .inl (kI Γ, 400, .inl (fun _ => 0))), (a3, .inl (kI Γ, 400, .inl (fun _ => 0))), (a4, .inl (kJ Γ, 400, .inr (.inl (fun _ => 0))))] H := hP
  have hD : va_D (fun q => q = x ∨ s.heap.size ≤ q) [(x, .inr (2, [.int 0, .ref a1, .ref a2, .ref a3, .null, .null, .null, .null, .int 0])), (a1, .inl (kI Γ, 400, .inl (fun _ => 0))), (a2, .inl (kI Γ, 400, .inl (fun _ => 0))), (a3, .inl (kI Γ, 400, .inl (fun _ => 0))), (a4, .inl (kJ Γ, 400, .inr (.inl (fun _ => 0))))] := hD
  refine va_putF (D := Γ.1) (ci := 2) (v := .ref a4) (ty := .array .long) (C := RM) (T := TM) (N := 9) hx hb hg inM tyM tyM_ok nmM hown hW.1 hP hD hS 0 rfl rfl 4 (by decide) (hg _ kw293) (fun _ h9 => h9) rfl hin rfl (by decide +kernel) rfl rfl (Nat.le_of_ble_eq_true rfl) dM_init_37 (fun H locs hP hD hS => ?_)
  have hP : va_P Γ.1 gC [(x, .inr (2, [.int 0, .ref a1, .ref a2, .ref a3, .ref a4, .null, .null, .null, .int 0])), (a1, .inl (kI Γ, 400, .inl (fun _ => 0))), (a2, .inl (kI Γ, 400, .inl (fun _ => 0))), (a3, .inl (kI Γ, 400, .inl (fun _ => 0))), (a4, .inl (kJ Γ, 400, .inr (.inl (fun _ => 0))))] H := hP
  have hD : va_D (fun q => q = x ∨ s.heap.size ≤ q) [(x, .inr (2, [.int 0, .ref a1, .ref a2, .ref a3, .ref a4, .null, .null, .null, .int 0])), (a1, .inl (kI Γ, 400, .inl (fun _ => 0))), (a2, .inl (kI Γ, 400, .inl (fun _ => 0))), (a3, .inl (kI Γ, 400, .inl (fun _ => 0))), (a4, .inl (kJ Γ, 400, .inr (.inl (fun _ => 0))))] := hD
  refine lv_aload_n hx hb dM_init_40 rfl (lv_at hl 0 rfl) ?_
  refine lv_sipush (v := 400) hx hb dM_init_41 (by decide) ?_
  refine va_newa (atype := .boolean) (D := Γ.1) (cl := gC) (tys := gT Γ) (ty := .boolean) (a0 := (400, .inl (fun _ => 0))) (N' := 400) hx hb (hg _ kw318) rfl hW.1 hP hD hS hA (fun cA => rfl) (by decide) (by decide) (by decide) (Nat.le_of_ble_eq_true rfl) (Nat.le_of_ble_eq_true rfl) dM_init_44 (fun a5 cA H hK hP hD hS => ?_)
  have eA := kZ_eq hW.1 hK
  subst eA
  clear hK
  have hP : va_P Γ.1 gC [(x, .inr (2, [.int 0, .ref a1, .ref a2, .ref a3, .ref a4, .null, .null, .null, .int 0])), (a1, .inl (kI Γ, 400, .inl (fun _ => 0))), (a2, .inl (kI Γ, 400, .inl (fun _ => 0))), (a3, .inl (kI Γ, 400, .inl (fun _ => 0))), (a4, .inl (kJ Γ, 400, .inr (.inl (fun _ => 0)))), (a5, .inl (kZ Γ, 400, .inl (fun _ => 0)))] H := hP
  have hD : va_D (fun q => q = x ∨ s.heap.size ≤ q) [(x, .inr (2, [.int 0, .ref a1, .ref a2, .ref a3, .ref a4, .null, .null, .null, .int 0])), (a1, .inl (kI Γ, 400, .inl (fun _ => 0))), (a2, .inl (kI Γ, 400, .inl (fun _ => 0))), (a3, .inl (kI Γ, 400, .inl (fun _ => 0))), (a4, .inl (kJ Γ, 400, .inr (.inl (fun _ => 0)))), (a5, .inl (kZ Γ, 400, .inl (fun _ => 0)))] := hD
  refine va_putF (D := Γ.1) (ci := 2) (v := .ref a5) (ty := .array .boolean) (C := RM) (T := TM) (N := 9) hx hb hg inM tyM tyM_ok nmM hown hW.1 hP hD hS 0 rfl rfl 5 (by decide) (hg _ kw294) (fun _ h9 => h9) rfl hin rfl (by decide +kernel) rfl rfl (Nat.le_of_ble_eq_true rfl) dM_init_46 (fun H locs hP hD hS => ?_)
  have hP : va_P Γ.1 gC [(x, .inr (2, [.int 0, .ref a1, .ref a2, .ref a3, .ref a4, .ref a5, .null, .null, .int 0])), (a1, .inl (kI Γ, 400, .inl (fun _ => 0))), (a2, .inl (kI Γ, 400, .inl (fun _ => 0))), (a3, .inl (kI Γ, 400, .inl (fun _ => 0))), (a4, .inl (kJ Γ, 400, .inr (.inl (fun _ => 0)))), (a5, .inl (kZ Γ, 400, .inl (fun _ => 0)))] H := hP
  have hD : va_D (fun q => q = x ∨ s.heap.size ≤ q) [(x, .inr (2, [.int 0, .ref a1, .ref a2, .ref a3, .ref a4, .ref a5, .null, .null, .int 0])), (a1, .inl (kI Γ, 400, .inl (fun _ => 0))), (a2, .inl (kI Γ, 400, .inl (fun _ => 0))), (a3, .inl (kI Γ, 400, .inl (fun _ => 0))), (a4, .inl (kJ Γ, 400, .inr (.inl (fun _ => 0)))), (a5, .inl (kZ Γ, 400, .inl (fun _ => 0)))] := hD
  refine lv_aload_n hx hb dM_init_49 rfl (lv_at hl 0 rfl) ?_
  refine lv_sipush (v := 1024) hx hb dM_init_50 (by decide) ?_
  refine va_newa (atype := .int) (D := Γ.1) (cl := gC) (tys := gT Γ) (ty := .int) (a0 := (1024, .inl (fun _ => 0))) (N' := 1024) hx hb (hg _ kw317) rfl hW.1 hP hD hS hA (fun cA => rfl) (by decide) (by decide) (by decide) (Nat.le_of_ble_eq_true rfl) (Nat.le_of_ble_eq_true rfl) dM_init_53 (fun a6 cA H hK hP hD hS => ?_)
  have eA := kI_eq hW.1 hK
  subst eA
  clear hK
  have hP : va_P Γ.1 gC [(x, .inr (2, [.int 0, .ref a1, .ref a2, .ref a3, .ref a4, .ref a5, .null, .null, .int 0])), (a1, .inl (kI Γ, 400, .inl (fun _ => 0))), (a2, .inl (kI Γ, 400, .inl (fun _ => 0))), (a3, .inl (kI Γ, 400, .inl (fun _ => 0))), (a4, .inl (kJ Γ, 400, .inr (.inl (fun _ => 0)))), (a5, .inl (kZ Γ, 400, .inl (fun _ => 0))), (a6, .inl (kI Γ, 1024, .inl (fun _ => 0)))] H := hP
  have hD : va_D (fun q => q = x ∨ s.heap.size ≤ q) [(x, .inr (2, [.int 0, .ref a1, .ref a2, .ref a3, .ref a4, .ref a5, .null, .null, .int 0])), (a1, .inl (kI Γ, 400, .inl (fun _ => 0))), (a2, .inl (kI Γ, 400, .inl (fun _ => 0))), (a3, .inl (kI Γ, 400, .inl (fun _ => 0))), (a4, .inl (kJ Γ, 400, .inr (.inl (fun _ => 0)))), (a5, .inl (kZ Γ, 400, .inl (fun _ => 0))), (a6, .inl (kI Γ, 1024, .inl (fun _ => 0)))] := hD
  refine va_putF (D := Γ.1) (ci := 2) (v := .ref a6) (ty := .array .int) (C := RM) (T := TM) (N := 9) hx hb hg inM tyM tyM_ok nmM hown hW.1 hP hD hS 0 rfl rfl 6 (by decide) (hg _ kw295) (fun _ h9 => h9) rfl hin rfl (by decide +kernel) rfl rfl (Nat.le_of_ble_eq_true rfl) dM_init_55 (fun H locs hP hD hS => ?_)
  have hP : va_P Γ.1 gC [(x, .inr (2, [.int 0, .ref a1, .ref a2, .ref a3, .ref a4, .ref a5, .ref a6, .null, .int 0])), (a1, .inl (kI Γ, 400, .inl (fun _ => 0))), (a2, .inl (kI Γ, 400, .inl (fun _ => 0))), (a3, .inl (kI Γ, 400, .inl (fun _ => 0))), (a4, .inl (kJ Γ, 400, .inr (.inl (fun _ => 0)))), (a5, .inl (kZ Γ, 400, .inl (fun _ => 0))), (a6, .inl (kI Γ, 1024, .inl (fun _ => 0)))] H := hP
  have hD : va_D (fun q => q = x ∨ s.heap.size ≤ q) [(x, .inr (2, [.int 0, .ref a1, .ref a2, .ref a3, .ref a4, .ref a5, .ref a6, .null, .int 0])), (a1, .inl (kI Γ, 400, .inl (fun _ => 0))), (a2, .inl (kI Γ, 400, .inl (fun _ => 0))), (a3, .inl (kI Γ, 400, .inl (fun _ => 0))), (a4, .inl (kJ Γ, 400, .inr (.inl (fun _ => 0)))), (a5, .inl (kZ Γ, 400, .inl (fun _ => 0))), (a6, .inl (kI Γ, 1024, .inl (fun _ => 0)))] := hD
  refine lv_aload_n hx hb dM_init_58 rfl (lv_at hl 0 rfl) ?_
  refine lv_sipush (v := 1024) hx hb dM_init_59 (by decide) ?_
  refine va_newa (atype := .int) (D := Γ.1) (cl := gC) (tys := gT Γ) (ty := .int) (a0 := (1024, .inl (fun _ => 0))) (N' := 1024) hx hb (hg _ kw317) rfl hW.1 hP hD hS hA (fun cA => rfl) (by decide) (by decide) (by decide) (Nat.le_of_ble_eq_true rfl) (Nat.le_of_ble_eq_true rfl) dM_init_62 (fun a7 cA H hK hP hD hS => ?_)
  have eA := kI_eq hW.1 hK
  subst eA
  clear hK
  have hP : va_P Γ.1 gC [(x, .inr (2, [.int 0, .ref a1, .ref a2, .ref a3, .ref a4, .ref a5, .ref a6, .null, .int 0])), (a1, .inl (kI Γ, 400, .inl (fun _ => 0))), (a2, .inl (kI Γ, 400, .inl (fun _ => 0))), (a3, .inl (kI Γ, 400, .inl (fun _ => 0))), (a4, .inl (kJ Γ, 400, .inr (.inl (fun _ => 0)))), (a5, .inl (kZ Γ, 400, .inl (fun _ => 0))), (a6, .inl (kI Γ, 1024, .inl (fun _ => 0))), (a7, .inl (kI Γ, 1024, .inl (fun _ => 0)))] H := hP
  have hD : va_D (fun q => q = x ∨ s.heap.size ≤ q) [(x, .inr (2, [.int 0, .ref a1, .ref a2, .ref a3, .ref a4, .ref a5, .ref a6, .null, .int 0])), (a1, .inl (kI Γ, 400, .inl (fun _ => 0))), (a2, .inl (kI Γ, 400, .inl (fun _ => 0))), (a3, .inl (kI Γ, 400, .inl (fun _ => 0))), (a4, .inl (kJ Γ, 400, .inr (.inl (fun _ => 0)))), (a5, .inl (kZ Γ, 400, .inl (fun _ => 0))), (a6, .inl (kI Γ, 1024, .inl (fun _ => 0))), (a7, .inl (kI Γ, 1024, .inl (fun _ => 0)))] := hD
  refine va_putF (D := Γ.1) (ci := 2) (v := .ref a7) (ty := .array .int) (C := RM) (T := TM) (N := 9) hx hb hg inM tyM tyM_ok nmM hown hW.1 hP hD hS 0 rfl rfl 7 (by decide) (hg _ kw296) (fun _ h9 => h9) rfl hin rfl (by decide +kernel) rfl rfl (Nat.le_of_ble_eq_true rfl) dM_init_64 (fun H locs hP hD hS => ?_)
  have hP : va_P Γ.1 gC [(x, .inr (2, [.int 0, .ref a1, .ref a2, .ref a3, .ref a4, .ref a5, .ref a6, .ref a7, .int 0])), (a1, .inl (kI Γ, 400, .inl (fun _ => 0))), (a2, .inl (kI Γ, 400, .inl (fun _ => 0))), (a3, .inl (kI Γ, 400, .inl (fun _ => 0))), (a4, .inl (kJ Γ, 400, .inr (.inl (fun _ => 0)))), (a5, .inl (kZ Γ, 400, .inl (fun _ => 0))), (a6, .inl (kI Γ, 1024, .inl (fun _ => 0))), (a7, .inl (kI Γ, 1024, .inl (fun _ => 0)))] H := hP
  have hD : va_D (fun q => q = x ∨ s.heap.size ≤ q) [(x, .inr (2, [.int 0, .ref a1, .ref a2, .ref a3, .ref a4, .ref a5, .ref a6, .ref a7, .int 0])), (a1, .inl (kI Γ, 400, .inl (fun _ => 0))), (a2, .inl (kI Γ, 400, .inl (fun _ => 0))), (a3, .inl (kI Γ, 400, .inl (fun _ => 0))), (a4, .inl (kJ Γ, 400, .inr (.inl (fun _ => 0)))), (a5, .inl (kZ Γ, 400, .inl (fun _ => 0))), (a6, .inl (kI Γ, 1024, .inl (fun _ => 0))), (a7, .inl (kI Γ, 1024, .inl (fun _ => 0)))] := hD
  refine lv_aload_n hx hb dM_init_67 rfl (lv_at hl 0 rfl) ?_
  refine lv_iconst (v := 1) hx hb dM_init_68 (by decide) ?_
  refine va_put (D := Γ.1) (ci := 2) (v := .int 1) (ty := .int) (C := RM) (T := TM) (N := 9) hx hb hg inM tyM tyM_ok nmM hown hW.1 hP hD hS 0 rfl rfl 8 (by decide) (hg _ kw297) (fun _ h9 => h9) rfl (by decide +kernel) rfl rfl (Nat.le_of_ble_eq_true rfl) dM_init_69 (fun H locs hP hD hS => ?_)
  have hP : va_P Γ.1 gC [(x, .inr (2, [.int 0, .ref a1, .ref a2, .ref a3, .ref a4, .ref a5, .ref a6, .ref a7, .int 1])), (a1, .inl (kI Γ, 400, .inl (fun _ => 0))), (a2, .inl (kI Γ, 400, .inl (fun _ => 0))), (a3, .inl (kI Γ, 400, .inl (fun _ => 0))), (a4, .inl (kJ Γ, 400, .inr (.inl (fun _ => 0)))), (a5, .inl (kZ Γ, 400, .inl (fun _ => 0))), (a6, .inl (kI Γ, 1024, .inl (fun _ => 0))), (a7, .inl (kI Γ, 1024, .inl (fun _ => 0)))] H := hP
  have hD : va_D (fun q => q = x ∨ s.heap.size ≤ q) [(x, .inr (2, [.int 0, .ref a1, .ref a2, .ref a3, .ref a4, .ref a5, .ref a6, .ref a7, .int 1])), (a1, .inl (kI Γ, 400, .inl (fun _ => 0))), (a2, .inl (kI Γ, 400, .inl (fun _ => 0))), (a3, .inl (kI Γ, 400, .inl (fun _ => 0))), (a4, .inl (kJ Γ, 400, .inr (.inl (fun _ => 0)))), (a5, .inl (kZ Γ, 400, .inl (fun _ => 0))), (a6, .inl (kI Γ, 1024, .inl (fun _ => 0))), (a7, .inl (kI Γ, 1024, .inl (fun _ => 0)))] := hD
  exact W.vret hx hb hr (fun t ht hW9 => ⟨⟨fun i => (match i with | 0 => x | 1 => a1 | 2 => a2 | 3 => a3 | 4 => a4 | 5 => a5 | 6 => a6 | _ => a7), rfl, ⟨rfl, hD⟩, by subst ht; exact hP⟩, ⟨by rw [ht]; exact hS.1, fun q h1 h2 => by rw [ht]; exact hS.2.1 q h1 (fun h => h.elim h2 (fun h => absurd h (Nat.not_le.mpr h1)))⟩⟩) (fun q hq => hS.2.2 q hq) dM_init_72
end
section
/-! the law's own calls: what was thrown is caught, the answer goes into out[0] -/
section JL
variable {p : Program} {l : Launch} {e : Env} {R : Room} {s : State} {m : MethodId} {args : Array Value} {below : List Frame} {meth : Method} {c : Code} {H : Heap} {locs : List Loc} {cells slots : Nat} {Q : State → Prop}
variable {cc : ByteArray} {pc : Nat} {ls : Array Slot} {rest : List Value}
theorem j_last {Γ : gE} {a n : Nat} {f : Nat → Int64} {A : Nat → Prop} {H0 : Heap} (hexec : p.tables.exec = Jvm.exec) (hb : c.code = cc) (hK : va_K Γ.1 gC (gT Γ) s) (ha : oJ Γ H a n f) (hS : va_S A H0 H locs) (hA : A a) {i : Int32} {x : Int64} (hin : vp_in i n) (hdg : decode cc pc = .ok (.lastore, 1))
    (kk : ∀ (H1 : Heap) (locs1 : List Loc), oJ Γ H1 a n (vp_updL f i.toNatClampNeg x) → H1.size = H.size → (∀ q : Nat, q ≠ a → H1[q]? = H[q]?) → va_S A H0 H1 locs1 → W p l e R s m args below meth c H1 locs1 cells slots Q (F0 m (pc + 1) ls rest)) : W p l e R s m args below meth c H locs cells slots Q (F0 m pc ls (.long x :: .int i :: .ref a :: rest)) := by
  refine W.last hexec hb ha ((hK.2 0 _ rfl).1 n (fun j => .long (f j))) (fun q => by cases q) (by show ¬ (i < 0 ∨ (arrV _ _ _).slots.size ≤ _); rw [arrV_size]; exact hin) rfl rfl hdg fun H1 e z oq => ?_
  refine kk H1 _ ?_ z oq (hS.put z oq hA)
  show H1[a]? = some (vp_cell _ _)
  rw [e]
  rw [vp_cell_l, vp_cell_l, arrV_store]
  congr 2
  funext q
  by_cases hq : q = i.toNatClampNeg
  · subst hq
    simp [updV, vp_updL]
  · simp [updV, vp_updL, hq]
end JL
theorem SX.kept {Γ : gE} {H H1 : Heap} {A : Nat → Prop} {x ro md : Nat} {rt : Nat → Option Nat} {Vs : Nat → Nat → Option Int64} {Ss : Nat → Nat → Int32} (h : SX Γ H x ro md rt Vs Ss) (hk : hX A H H1) (hx : ¬ A x) (hr : ¬ A ro) (hA : ∀ q, A q → q < gb0 Γ) : SX Γ H1 x ro md rt Vs Ss :=
  ⟨hk.at h.1 hx, hk.at h.2.1 hr, h.2.2.1, fun t ht => ⟨(h.2.2.2 t ht).1, (h.2.2.2 t ht).2.kept (hk.mono (fun q _ hq => hA q hq))⟩⟩
theorem SX.new {Γ : gE} {H H1 : Heap} {x ro md y : Nat} {rt : Nat → Option Nat} {Vs : Nat → Nat → Option Int64} {Ss : Nat → Nat → Int32} {V' : Nat → Option Int64} {S' : Nat → Int32} (h : SX Γ H x ro md rt Vs Ss) (hk : hX (fun q => q = x ∨ q = ro) H H1) (hx : x < gb0 Γ) (hr : ro < gb0 Γ) (hmd : md < 400) (hO : oS Γ H1 x ro (nI (md + 1))) (hR : oO Γ H1 ro 400 (va_up rt md (some y))) (hT : TR Γ H1 V' S' 10 0 (some y)) (hwf : wfS S') : SX Γ H1 x ro (md + 1) (va_up rt md (some y)) (va_up Vs md V') (va_up Ss md S') := by
  refine ⟨hO, hR, by omega, fun t ht => ?_⟩
  by_cases e : t = md
  · subst e
    rw [va_up_self, va_up_self, va_up_self]
    exact ⟨hwf, hT⟩
  · rw [va_up_ne _ _ e, va_up_ne _ _ e, va_up_ne _ _ e]
    exact ⟨(h.2.2.2 t (by omega)).1, (h.2.2.2 t (by omega)).2.kept (hk.mono (fun q _ hq => hq.elim (fun h => by rw [h]; exact hx) (fun h => by rw [h]; exact hr)))⟩
set_option maxHeartbeats 4000000 in
set_option maxRecDepth 100000 in
theorem c_L_put (l : Launch) (hnt : l.stackTraces = false) (Γ : gE) (H : Heap) {x ro md out : Nat} {rt : Nat → Option Nat} {Vs : Nat → Nat → Option Int64} {Ss : Nat → Nat → Int32} {fo : Nat → Int64} {t k st : Int32} {v : Int64} (hX0 : SX Γ H x ro md rt Vs Ss) (hJ : oJ Γ H out 1 fo) (hxro : x ≠ ro) (hzx : gz Γ ≤ x) (hzr : gz Γ ≤ ro) (hzo : gz Γ ≤ out) (hx0 : x < gb0 Γ) (hr0 : ro < gb0 Γ) (ho0 : out < gb0 Γ) (hxo : x ≠ out) (hro : ro ≠ out) (hz : gb0 Γ ≤ H.size) : Met l yL_put wL_put ({ frames := 60, cells := 26, slots := 112, locals := 8000 }) (gP Γ H [.ref x, .int t, .int k, .long v, .int st, .ref out]) (va_Qi (fun r (u : Nat × Nat × Nat) => (u.1 = 1 ∧ r = 1 ∧ ¬ (inT t md ∧ inT k 1024 ∧ okS st)) ∨ (u.1 = 2 ∧ r = 2 ∧ (inT t md ∧ inT k 1024 ∧ okS st) ∧ ¬ md < 400) ∨ (u.1 = 0 ∧ r = 0 ∧ okS st ∧ md < 400 ∧ u.2.1 < md ∧ t = nI u.2.1 ∧ u.2.2 < 1024 ∧ k = nI u.2.2)) (fun u t' => match u.1 with | 0 => (∃ rt', SX Γ t'.heap x ro (md + 1) rt' (va_up Vs md (va_up (Vs u.2.1) u.2.2 (some v))) (va_up Ss md (va_up (Ss u.2.1) u.2.2 st))) ∧ ∃ fo', oJ Γ t'.heap out 1 fo' ∧ fo' 0 = (nI md).toInt64 | _ => SX Γ t'.heap x ro md rt Vs Ss ∧ ∃ fo', oJ Γ t'.heap out 1 fo') (fun q => q = x ∨ q = ro ∨ q = out)) 26 112 (fun q => q = x ∨ q = ro ∨ q = out ∨ H.size ≤ q) := by
  refine va_MetW (cc := cL_put) (maxL := 8) (ret := (some .int)) (hh := [(0, 14, 17, 13), (0, 14, 21, 15)]) (by decide) rfl ?_
  intro p e s m args below meth c s₁ B hml hv
  obtain ⟨rfl, rfl, hW⟩ := hv
  have hx := B.exec
  have hb := B.bytes
  have hr := B.returns
  have hg : ∀ w ∈ gW, w.before _ s = true := fun w h => atoms_spec (ws := wL_put) B.pre w (List.mem_cons_of_mem _ h)
  have hown : s.vm.findClass RL = some m.cls := findClass_of_methodNamed B.named
  have hlocks := B.notSynchronized
  have hS : va_S (gA Γ) s.heap s.heap [] := va_S.rf
  have hl := lv_entry ([.ref x, .int t, .int k, .long v, .int st, .ref out]) (n := 8) (Nat.le_of_ble_eq_true rfl)
  rw [lg_entry_eq]
  generalize (lg_sl ([.ref x, .int t, .int k, .long v, .int st, .ref out]) ++ List.replicate (8 - (lg_sl ([.ref x, .int t, .int k, .long v, .int st, .ref out])).length) Slot.unset).toArray = ls at hl ⊢
  have hl : lv_has ls 8 [(0, .ref x), (1, .int t), (2, .int k), (3, .long v), (5, .int st), (6, .ref out)] := hl
  have htab : c.exceptionTable.toList = [⟨0, 14, 17, 13⟩, ⟨0, 14, 21, 15⟩] := vx_table (x := yL_put) B (atoms_spec (ws := wL_put) B.pre _ List.mem_cons_self)
  have hS : va_S (fun q => q = x ∨ q = ro ∨ q = out ∨ s.heap.size ≤ q) s.heap s.heap [] := va_S.rf
  have hSG : va_S (gA Γ) s.heap s.heap [] := va_S.rf
  refine lv_aload hx hb dL_put_0 (lv_at hl 5 rfl) ?_
  refine lv_iconst (v := 0) hx hb dL_put_2 (by decide) ?_
  refine lv_aload_n hx hb dL_put_3 rfl (lv_at hl 0 rfl) ?_
  refine lv_iload_n hx hb dL_put_4 rfl (lv_at hl 1 rfl) ?_
  refine lv_iload_n hx hb dL_put_5 rfl (lv_at hl 2 rfl) ?_
  refine lv_lload_n hx hb dL_put_6 rfl (lv_at hl 3 rfl) ?_
  refine lv_iload hx hb dL_put_7 (lv_at hl 4 rfl) ?_
  refine vx_calli (vx_runV (As := [.int t, .int k, .long v, .int st]) (rest := [.int 0, .ref out]) ⟨hx, hb, hml, hown, hg⟩ (c_S_put l hnt Γ s.heap (t := t) (k := k) (v := v) (st := st) hX0 hxro hzx hzr hx0 hr0 hz) (cwV 4 hg gL_7 rfl rfl rfl (by decide +kernel) ⟨Nat.le_of_ble_eq_true rfl, Nat.le_of_ble_eq_true rfl⟩) (gP_V hW hSG (ci := 1) rfl hX0.1) rfl rfl hl.1 rfl (lv_room (Nat.le_of_ble_eq_true rfl)) dL_put_9 ⟨Nat.le_of_ble_eq_true rfl, Nat.le_of_ble_eq_true rfl⟩) hS (fun q _ h => h.elim Or.inl (fun h => Or.inr (Or.inl h))) (fun q h => h.elim Or.inl (fun h => h.elim (fun h => Or.inr (Or.inl h)) (fun h => Or.inr (Or.inr (Or.inr h))))) (fun q _ h => h.elim) (fun E ce q9 u tx H1 locs1 ht hvm hpx hBX hz1 hk1 hS hcell hcv hcl => ?_) (fun r u t9 H1 locs1 ht hvm hp hB hz1 hk1 hS => ?_)
  · have hXX : hX (fun _ => False) s.heap H1 := ⟨hz1, fun q h1 h2 => hk1 q h1 h2⟩
    have hSX := hX0.kept hXX (fun h => h) (fun h => h) (fun q h => h.elim)
    have hJ1 : oJ Γ H1 out 1 fo := hXX.at hJ (fun h => h)
    rcases hBX with ⟨rfl, hbad⟩ | ⟨rfl, hbad⟩
    · refine vx_catch (own := RL) (name := xIA) (E := xIA) hown [] ⟨0, 14, 17, 13⟩ [⟨0, 14, 21, 15⟩] htab (fun z hz => nomatch hz) (by decide) (by decide) (hg _ kw45) ((hW.2.1.1 _ (List.mem_of_getElem? (i := 4) rfl)).use rfl) hcell hcv hcl ?_
      refine lv_astore (lv' := [(7, .ref q9), (0, .ref x), (1, .int t), (2, .int k), (3, .long v), (5, .int st), (6, .ref out)]) hx hb dL_put_17 hl (by decide) rfl (fun ls hl => ?_)
      refine lv_iconst (v := 1) hx hb dL_put_19 (by decide) ?_
      exact W.iret (v := 1) hx hb hr (fun t8 ht8 hW9 => ⟨⟨1, (1, 0, 0), rfl, Or.inl ⟨rfl, rfl, hbad⟩, by subst ht8; exact ⟨hSX, fo, hJ1⟩⟩, ⟨by rw [ht8]; exact hS.1, fun q h1 h2 => by rw [ht8]; exact hk1 q h1 id⟩⟩) (fun q hq => hS.2.2 q hq) dL_put_20
    · refine vx_catch (own := RL) (name := xIO) (E := xIO) hown [⟨0, 14, 17, 13⟩] ⟨0, 14, 21, 15⟩ [] htab (fun z hz => by rw [List.mem_singleton.mp hz]; exact Or.inr ⟨by decide, xIA, hg _ kw45, hW.2.1.2.2.1 (xIO, xIA) (List.mem_of_getElem? (i := 0) rfl)⟩) (by decide) (by decide) (hg _ kw46) ((hW.2.1.1 _ (List.mem_of_getElem? (i := 5) rfl)).use rfl) hcell hcv hcl ?_
      refine lv_astore (lv' := [(7, .ref q9), (0, .ref x), (1, .int t), (2, .int k), (3, .long v), (5, .int st), (6, .ref out)]) hx hb dL_put_21 hl (by decide) rfl (fun ls hl => ?_)
      refine lv_iconst (v := 2) hx hb dL_put_23 (by decide) ?_
      exact W.iret (v := 2) hx hb hr (fun t8 ht8 hW9 => ⟨⟨2, (2, 0, 0), rfl, Or.inr (Or.inl ⟨rfl, rfl, hbad⟩), by subst ht8; exact ⟨hSX, fo, hJ1⟩⟩, ⟨by rw [ht8]; exact hS.1, fun q h1 h2 => by rw [ht8]; exact hk1 q h1 id⟩⟩) (fun q hq => hS.2.2 q hq) dL_put_24
  obtain ⟨tj, kj, y3⟩ := u
  obtain ⟨htj, rfl, hkj, rfl, hst, hmd4, rfl⟩ := hp
  rw [ht] at hB
  obtain ⟨hO3, hR3, hT3⟩ := hB
  have hSX := hX0.new ⟨hz1, fun q h1 h2 => hk1 q h1 h2⟩ hx0 hr0 hmd4 hO3 hR3 hT3 (wfS_up (hX0.2.2.2 tj htj).1 hst)
  have hJ1 : oJ Γ H1 out 1 fo := hJ.kept (hk1 out hJ.lt (fun h => h.elim (fun h => hxo h.symm) (fun h => hro h.symm)))
  refine lv_i2l (v := (nI md).toInt64) hx hb dL_put_12 rfl ?_
  refine j_last (A := fun q => q = x ∨ q = ro ∨ q = out ∨ s.heap.size ≤ q) hx hb hW.1 hJ1 hS (Or.inr (Or.inr (Or.inl rfl))) (by unfold vp_in; decide) dL_put_13 (fun H2 locs2 hJ2 hz2 hk2 hS => ?_)
  refine lv_goto (tgt := 25) hx hb dL_put_14 (by decide) ?_
  refine lv_iconst (v := 0) hx hb dL_put_25 (by decide) ?_
  have hXo : hX (fun q => q = out) H1 H2 := ⟨by rw [hz2]; exact Nat.le_refl _, fun q _ h => hk2 q h⟩
  have hSX2 := hSX.kept hXo hxo hro (fun q h => by rw [h]; exact ho0)
  exact W.iret (v := 0) hx hb hr (fun t8 ht8 hW9 => ⟨⟨0, (0, tj, kj), rfl, Or.inr (Or.inr ⟨rfl, rfl, hst, hmd4, htj, rfl, hkj, rfl⟩), by subst ht8; exact ⟨⟨_, hSX2⟩, _, hJ2, rfl⟩⟩, ⟨by rw [ht8]; exact hS.1, fun q h1 h2 => by rw [ht8]; exact hS.2.1 q h1 (fun h => h.elim (fun h => h2 (Or.inl h)) (fun h => h.elim (fun h => h2 (Or.inr (Or.inl h))) (fun h => h.elim (fun h => h2 (Or.inr (Or.inr h))) (fun h => absurd h (Nat.not_le.mpr h1)))))⟩⟩) (fun q hq => hS.2.2 q hq) dL_put_26
set_option maxHeartbeats 4000000 in
set_option maxRecDepth 100000 in
theorem c_L_delete (l : Launch) (hnt : l.stackTraces = false) (Γ : gE) (H : Heap) {x ro md out : Nat} {rt : Nat → Option Nat} {Vs : Nat → Nat → Option Int64} {Ss : Nat → Nat → Int32} {fo : Nat → Int64} {t k st : Int32} (hX0 : SX Γ H x ro md rt Vs Ss) (hJ : oJ Γ H out 1 fo) (hxro : x ≠ ro) (hzx : gz Γ ≤ x) (hzr : gz Γ ≤ ro) (hzo : gz Γ ≤ out) (hx0 : x < gb0 Γ) (hr0 : ro < gb0 Γ) (ho0 : out < gb0 Γ) (hxo : x ≠ out) (hro : ro ≠ out) (hz : gb0 Γ ≤ H.size) : Met l yL_delete wL_delete ({ frames := 60, cells := 26, slots := 112, locals := 8000 }) (gP Γ H [.ref x, .int t, .int k, .int st, .ref out]) (va_Qi (fun r (u : Nat × Nat × Nat) => (u.1 = 1 ∧ r = 1 ∧ ¬ (inT t md ∧ inT k 1024 ∧ okS st)) ∨ (u.1 = 2 ∧ r = 2 ∧ (inT t md ∧ inT k 1024 ∧ okS st) ∧ ¬ md < 400) ∨ (u.1 = 0 ∧ r = 0 ∧ okS st ∧ md < 400 ∧ u.2.1 < md ∧ t = nI u.2.1 ∧ u.2.2 < 1024 ∧ k = nI u.2.2)) (fun u t' => match u.1 with | 0 => (∃ rt', SX Γ t'.heap x ro (md + 1) rt' (va_up Vs md (va_up (Vs u.2.1) u.2.2 (none))) (va_up Ss md (va_up (Ss u.2.1) u.2.2 st))) ∧ ∃ fo', oJ Γ t'.heap out 1 fo' ∧ fo' 0 = (nI md).toInt64 | _ => SX Γ t'.heap x ro md rt Vs Ss ∧ ∃ fo', oJ Γ t'.heap out 1 fo') (fun q => q = x ∨ q = ro ∨ q = out)) 26 112 (fun q => q = x ∨ q = ro ∨ q = out ∨ H.size ≤ q) := by
  refine va_MetW (cc := cL_delete) (maxL := 6) (ret := (some .int)) (hh := [(0, 12, 15, 13), (0, 12, 19, 15)]) (by decide) rfl ?_
  intro p e s m args below meth c s₁ B hml hv
  obtain ⟨rfl, rfl, hW⟩ := hv
  have hx := B.exec
  have hb := B.bytes
  have hr := B.returns
  have hg : ∀ w ∈ gW, w.before _ s = true := fun w h => atoms_spec (ws := wL_delete) B.pre w (List.mem_cons_of_mem _ h)
  have hown : s.vm.findClass RL = some m.cls := findClass_of_methodNamed B.named
  have hlocks := B.notSynchronized
  have hS : va_S (gA Γ) s.heap s.heap [] := va_S.rf
  have hl := lv_entry ([.ref x, .int t, .int k, .int st, .ref out]) (n := 6) (Nat.le_of_ble_eq_true rfl)
  rw [lg_entry_eq]
  generalize (lg_sl ([.ref x, .int t, .int k, .int st, .ref out]) ++ List.replicate (6 - (lg_sl ([.ref x, .int t, .int k, .int st, .ref out])).length) Slot.unset).toArray = ls at hl ⊢
  have hl : lv_has ls 6 [(0, .ref x), (1, .int t), (2, .int k), (3, .int st), (4, .ref out)] := hl
  have htab : c.exceptionTable.toList = [⟨0, 12, 15, 13⟩, ⟨0, 12, 19, 15⟩] := vx_table (x := yL_delete) B (atoms_spec (ws := wL_delete) B.pre _ List.mem_cons_self)
  have hS : va_S (fun q => q = x ∨ q = ro ∨ q = out ∨ s.heap.size ≤ q) s.heap s.heap [] := va_S.rf
  have hSG : va_S (gA Γ) s.heap s.heap [] := va_S.rf
  refine lv_aload hx hb dL_delete_0 (lv_at hl 4 rfl) ?_
  refine lv_iconst (v := 0) hx hb dL_delete_2 (by decide) ?_
  refine lv_aload_n hx hb dL_delete_3 rfl (lv_at hl 0 rfl) ?_
  refine lv_iload_n hx hb dL_delete_4 rfl (lv_at hl 1 rfl) ?_
  refine lv_iload_n hx hb dL_delete_5 rfl (lv_at hl 2 rfl) ?_
  refine lv_iload_n hx hb dL_delete_6 rfl (lv_at hl 3 rfl) ?_
  refine vx_calli (vx_runV (As := [.int t, .int k, .int st]) (rest := [.int 0, .ref out]) ⟨hx, hb, hml, hown, hg⟩ (c_S_delete l hnt Γ s.heap (t := t) (k := k) (st := st) hX0 hxro hzx hzr hx0 hr0 hz) (cwV 3 hg gL_17 rfl rfl rfl (by decide +kernel) ⟨Nat.le_of_ble_eq_true rfl, Nat.le_of_ble_eq_true rfl⟩) (gP_V hW hSG (ci := 1) rfl hX0.1) rfl rfl hl.1 rfl (lv_room (Nat.le_of_ble_eq_true rfl)) dL_delete_7 ⟨Nat.le_of_ble_eq_true rfl, Nat.le_of_ble_eq_true rfl⟩) hS (fun q _ h => h.elim Or.inl (fun h => Or.inr (Or.inl h))) (fun q h => h.elim Or.inl (fun h => h.elim (fun h => Or.inr (Or.inl h)) (fun h => Or.inr (Or.inr (Or.inr h))))) (fun q _ h => h.elim) (fun E ce q9 u tx H1 locs1 ht hvm hpx hBX hz1 hk1 hS hcell hcv hcl => ?_) (fun r u t9 H1 locs1 ht hvm hp hB hz1 hk1 hS => ?_)
  · have hXX : hX (fun _ => False) s.heap H1 := ⟨hz1, fun q h1 h2 => hk1 q h1 h2⟩
    have hSX := hX0.kept hXX (fun h => h) (fun h => h) (fun q h => h.elim)
    have hJ1 : oJ Γ H1 out 1 fo := hXX.at hJ (fun h => h)
    rcases hBX with ⟨rfl, hbad⟩ | ⟨rfl, hbad⟩
    · refine vx_catch (own := RL) (name := xIA) (E := xIA) hown [] ⟨0, 12, 15, 13⟩ [⟨0, 12, 19, 15⟩] htab (fun z hz => nomatch hz) (by decide) (by decide) (hg _ kw45) ((hW.2.1.1 _ (List.mem_of_getElem? (i := 4) rfl)).use rfl) hcell hcv hcl ?_
      refine lv_astore (lv' := [(5, .ref q9), (0, .ref x), (1, .int t), (2, .int k), (3, .int st), (4, .ref out)]) hx hb dL_delete_15 hl (by decide) rfl (fun ls hl => ?_)
      refine lv_iconst (v := 1) hx hb dL_delete_17 (by decide) ?_
      exact W.iret (v := 1) hx hb hr (fun t8 ht8 hW9 => ⟨⟨1, (1, 0, 0), rfl, Or.inl ⟨rfl, rfl, hbad⟩, by subst ht8; exact ⟨hSX, fo, hJ1⟩⟩, ⟨by rw [ht8]; exact hS.1, fun q h1 h2 => by rw [ht8]; exact hk1 q h1 id⟩⟩) (fun q hq => hS.2.2 q hq) dL_delete_18
    · refine vx_catch (own := RL) (name := xIO) (E := xIO) hown [⟨0, 12, 15, 13⟩] ⟨0, 12, 19, 15⟩ [] htab (fun z hz => by rw [List.mem_singleton.mp hz]; exact Or.inr ⟨by decide, xIA, hg _ kw45, hW.2.1.2.2.1 (xIO, xIA) (List.mem_of_getElem? (i := 0) rfl)⟩) (by decide) (by decide) (hg _ kw46) ((hW.2.1.1 _ (List.mem_of_getElem? (i := 5) rfl)).use rfl) hcell hcv hcl ?_
      refine lv_astore (lv' := [(5, .ref q9), (0, .ref x), (1, .int t), (2, .int k), (3, .int st), (4, .ref out)]) hx hb dL_delete_19 hl (by decide) rfl (fun ls hl => ?_)
      refine lv_iconst (v := 2) hx hb dL_delete_21 (by decide) ?_
      exact W.iret (v := 2) hx hb hr (fun t8 ht8 hW9 => ⟨⟨2, (2, 0, 0), rfl, Or.inr (Or.inl ⟨rfl, rfl, hbad⟩), by subst ht8; exact ⟨hSX, fo, hJ1⟩⟩, ⟨by rw [ht8]; exact hS.1, fun q h1 h2 => by rw [ht8]; exact hk1 q h1 id⟩⟩) (fun q hq => hS.2.2 q hq) dL_delete_22
  obtain ⟨tj, kj, y3⟩ := u
  obtain ⟨htj, rfl, hkj, rfl, hst, hmd4, rfl⟩ := hp
  rw [ht] at hB
  obtain ⟨hO3, hR3, hT3⟩ := hB
  have hSX := hX0.new ⟨hz1, fun q h1 h2 => hk1 q h1 h2⟩ hx0 hr0 hmd4 hO3 hR3 hT3 (wfS_up (hX0.2.2.2 tj htj).1 hst)
  have hJ1 : oJ Γ H1 out 1 fo := hJ.kept (hk1 out hJ.lt (fun h => h.elim (fun h => hxo h.symm) (fun h => hro h.symm)))
  refine lv_i2l (v := (nI md).toInt64) hx hb dL_delete_10 rfl ?_
  refine j_last (A := fun q => q = x ∨ q = ro ∨ q = out ∨ s.heap.size ≤ q) hx hb hW.1 hJ1 hS (Or.inr (Or.inr (Or.inl rfl))) (by unfold vp_in; decide) dL_delete_11 (fun H2 locs2 hJ2 hz2 hk2 hS => ?_)
  refine lv_goto (tgt := 23) hx hb dL_delete_12 (by decide) ?_
  refine lv_iconst (v := 0) hx hb dL_delete_23 (by decide) ?_
  have hXo : hX (fun q => q = out) H1 H2 := ⟨by rw [hz2]; exact Nat.le_refl _, fun q _ h => hk2 q h⟩
  have hSX2 := hSX.kept hXo hxo hro (fun q h => by rw [h]; exact ho0)
  exact W.iret (v := 0) hx hb hr (fun t8 ht8 hW9 => ⟨⟨0, (0, tj, kj), rfl, Or.inr (Or.inr ⟨rfl, rfl, hst, hmd4, htj, rfl, hkj, rfl⟩), by subst ht8; exact ⟨⟨_, hSX2⟩, _, hJ2, rfl⟩⟩, ⟨by rw [ht8]; exact hS.1, fun q h1 h2 => by rw [ht8]; exact hS.2.1 q h1 (fun h => h.elim (fun h => h2 (Or.inl h)) (fun h => h.elim (fun h => h2 (Or.inr (Or.inl h))) (fun h => h.elim (fun h => h2 (Or.inr (Or.inr h))) (fun h => absurd h (Nat.not_le.mpr h1)))))⟩⟩) (fun q hq => hS.2.2 q hq) dL_delete_24
set_option maxHeartbeats 4000000 in
set_option maxRecDepth 100000 in
theorem c_L_get (l : Launch) (hnt : l.stackTraces = false) (Γ : gE) (H : Heap) {x ro md out : Nat} {rt : Nat → Option Nat} {Vs : Nat → Nat → Option Int64} {Ss : Nat → Nat → Int32} {fo : Nat → Int64} {t k : Int32} (hX0 : SX Γ H x ro md rt Vs Ss) (hJ : oJ Γ H out 1 fo) (hxro : x ≠ ro) (hzx : gz Γ ≤ x) (hzr : gz Γ ≤ ro) (hzo : gz Γ ≤ out) (hx0 : x < gb0 Γ) (hr0 : ro < gb0 Γ) (ho0 : out < gb0 Γ) (hxo : x ≠ out) (hro : ro ≠ out) (hz : gb0 Γ ≤ H.size) : Met l yL_get wL_get ({ frames := 60, cells := 3, slots := 18, locals := 8000 }) (gP Γ H [.ref x, .int t, .int k, .ref out]) (va_Qi (fun r (u : Nat × Int64) => (u.1 = 1 ∧ r = 1 ∧ ¬ (inT t md ∧ inT k 1024)) ∨ (u.1 = 2 ∧ r = 2 ∧ (∃ tj kj, tj < md ∧ t = nI tj ∧ kj < 1024 ∧ k = nI kj ∧ Vs tj kj = none)) ∨ (u.1 = 0 ∧ r = 0 ∧ (∃ tj kj, tj < md ∧ t = nI tj ∧ kj < 1024 ∧ k = nI kj ∧ Vs tj kj = some u.2))) (fun u t' => SX Γ t'.heap x ro md rt Vs Ss ∧ ∃ fo', oJ Γ t'.heap out 1 fo' ∧ (u.1 = 0 → fo' 0 = u.2)) (fun q => q = out)) 3 18 (fun q => q = out ∨ H.size ≤ q) := by
  refine va_MetW (cc := cL_get) (maxL := 5) (ret := (some .int)) (hh := [(0, 9, 12, 13), (0, 9, 16, 25)]) (by decide) rfl ?_
  intro p e s m args below meth c s₁ B hml hv
  obtain ⟨rfl, rfl, hW⟩ := hv
  have hx := B.exec
  have hb := B.bytes
  have hr := B.returns
  have hg : ∀ w ∈ gW, w.before _ s = true := fun w h => atoms_spec (ws := wL_get) B.pre w (List.mem_cons_of_mem _ h)
  have hown : s.vm.findClass RL = some m.cls := findClass_of_methodNamed B.named
  have hlocks := B.notSynchronized
  have hS : va_S (gA Γ) s.heap s.heap [] := va_S.rf
  have hl := lv_entry ([.ref x, .int t, .int k, .ref out]) (n := 5) (Nat.le_of_ble_eq_true rfl)
  rw [lg_entry_eq]
  generalize (lg_sl ([.ref x, .int t, .int k, .ref out]) ++ List.replicate (5 - (lg_sl ([.ref x, .int t, .int k, .ref out])).length) Slot.unset).toArray = ls at hl ⊢
  have hl : lv_has ls 5 [(0, .ref x), (1, .int t), (2, .int k), (3, .ref out)] := hl
  have htab : c.exceptionTable.toList = [⟨0, 9, 12, 13⟩, ⟨0, 9, 16, 25⟩] := vx_table (x := yL_get) B (atoms_spec (ws := wL_get) B.pre _ List.mem_cons_self)
  have hS : va_S (fun q => q = out ∨ s.heap.size ≤ q) s.heap s.heap [] := va_S.rf
  have hSG : va_S (gA Γ) s.heap s.heap [] := va_S.rf
  refine lv_aload_n hx hb dL_get_0 rfl (lv_at hl 3 rfl) ?_
  refine lv_iconst (v := 0) hx hb dL_get_1 (by decide) ?_
  refine lv_aload_n hx hb dL_get_2 rfl (lv_at hl 0 rfl) ?_
  refine lv_iload_n hx hb dL_get_3 rfl (lv_at hl 1 rfl) ?_
  refine lv_iload_n hx hb dL_get_4 rfl (lv_at hl 2 rfl) ?_
  refine vx_calll (vx_runV (As := [.int t, .int k]) (rest := [.int 0, .ref out]) ⟨hx, hb, hml, hown, hg⟩ (c_S_get l hnt Γ s.heap (t := t) (k := k) hX0) (cwV 2 hg gL_21 rfl rfl rfl (by decide +kernel) ⟨Nat.le_of_ble_eq_true rfl, Nat.le_of_ble_eq_true rfl⟩) (gP_V hW hSG (ci := 1) rfl hX0.1) rfl rfl hl.1 rfl (lv_room (Nat.le_of_ble_eq_true rfl)) dL_get_5 ⟨Nat.le_of_ble_eq_true rfl, Nat.le_of_ble_eq_true rfl⟩) hS (fun q _ h => h.elim) (fun q h => Or.inr h) (fun q _ h => h.elim) (fun E ce q9 u tx H1 locs1 ht hvm hpx hBX hz1 hk1 hS hcell hcv hcl => ?_) (fun r u t9 H1 locs1 ht hvm hp hB hz1 hk1 hS => ?_)
  · have hXX : hX (fun _ => False) s.heap H1 := ⟨hz1, fun q h1 h2 => hk1 q h1 h2⟩
    have hSX := hX0.kept hXX (fun h => h) (fun h => h) (fun q h => h.elim)
    have hJ1 : oJ Γ H1 out 1 fo := hXX.at hJ (fun h => h)
    rcases hBX with ⟨rfl, hbad⟩ | ⟨rfl, hbad⟩
    · refine vx_catch (own := RL) (name := xIA) (E := xIA) hown [] ⟨0, 9, 12, 13⟩ [⟨0, 9, 16, 25⟩] htab (fun z hz => nomatch hz) (by decide) (by decide) (hg _ kw45) ((hW.2.1.1 _ (List.mem_of_getElem? (i := 4) rfl)).use rfl) hcell hcv hcl ?_
      refine lv_astore (lv' := [(4, .ref q9), (0, .ref x), (1, .int t), (2, .int k), (3, .ref out)]) hx hb dL_get_12 hl (by decide) rfl (fun ls hl => ?_)
      refine lv_iconst (v := 1) hx hb dL_get_14 (by decide) ?_
      exact W.iret (v := 1) hx hb hr (fun t8 ht8 hW9 => ⟨⟨1, (1, 0), rfl, Or.inl ⟨rfl, rfl, hbad⟩, by subst ht8; exact ⟨hSX, fo, hJ1, fun h => absurd h (by decide)⟩⟩, ⟨by rw [ht8]; exact hS.1, fun q h1 h2 => by rw [ht8]; exact hk1 q h1 id⟩⟩) (fun q hq => hS.2.2 q hq) dL_get_15
    · refine vx_catch (own := RL) (name := xUO) (E := xUO) hown [⟨0, 9, 12, 13⟩] ⟨0, 9, 16, 25⟩ [] htab (fun z hz => by rw [List.mem_singleton.mp hz]; exact Or.inr ⟨by decide, xIA, hg _ kw45, hW.2.1.2.2.1 (xUO, xIA) (List.mem_of_getElem? (i := 1) rfl)⟩) (by decide) (by decide) (hg _ kw216) ((hW.2.1.1 _ (List.mem_of_getElem? (i := 6) rfl)).use rfl) hcell hcv hcl ?_
      refine lv_astore (lv' := [(4, .ref q9), (0, .ref x), (1, .int t), (2, .int k), (3, .ref out)]) hx hb dL_get_16 hl (by decide) rfl (fun ls hl => ?_)
      refine lv_iconst (v := 2) hx hb dL_get_18 (by decide) ?_
      exact W.iret (v := 2) hx hb hr (fun t8 ht8 hW9 => ⟨⟨2, (2, 0), rfl, Or.inr (Or.inl ⟨rfl, rfl, hbad⟩), by subst ht8; exact ⟨hSX, fo, hJ1, fun h => absurd h (by decide)⟩⟩, ⟨by rw [ht8]; exact hS.1, fun q h1 h2 => by rw [ht8]; exact hk1 q h1 id⟩⟩) (fun q hq => hS.2.2 q hq) dL_get_19
  have hHH : H1 = s.heap := ht.symm.trans hB
  subst hHH
  have hJ1 := hJ
  have hSX := hX0
  refine j_last (A := fun q => q = out ∨ s.heap.size ≤ q) hx hb hW.1 hJ1 hS (Or.inl rfl) (by unfold vp_in; decide) dL_get_8 (fun H2 locs2 hJ2 hz2 hk2 hS => ?_)
  refine lv_goto (tgt := 20) hx hb dL_get_9 (by decide) ?_
  refine lv_iconst (v := 0) hx hb dL_get_20 (by decide) ?_
  have hXo : hX (fun q => q = out) s.heap H2 := ⟨by rw [hz2]; exact Nat.le_refl _, fun q _ h => hk2 q h⟩
  have hSX2 := hSX.kept hXo hxo hro (fun q h => by rw [h]; exact ho0)
  exact W.iret (v := 0) hx hb hr (fun t8 ht8 hW9 => ⟨⟨0, (0, r), rfl, Or.inr (Or.inr ⟨rfl, rfl, ⟨u.1, u.2, hp.1, hp.2.1, hp.2.2.1, hp.2.2.2.1, hp.2.2.2.2⟩⟩), by subst ht8; exact ⟨hSX2, _, hJ2, fun _ => rfl⟩⟩, ⟨by rw [ht8]; exact hS.1, fun q h1 h2 => by rw [ht8]; exact hS.2.1 q h1 (fun h => h.elim h2 (fun h => absurd h (Nat.not_le.mpr h1)))⟩⟩) (fun q hq => hS.2.2 q hq) dL_get_21
set_option maxHeartbeats 4000000 in
set_option maxRecDepth 100000 in
theorem c_L_stamp (l : Launch) (hnt : l.stackTraces = false) (Γ : gE) (H : Heap) {x ro md out : Nat} {rt : Nat → Option Nat} {Vs : Nat → Nat → Option Int64} {Ss : Nat → Nat → Int32} {fo : Nat → Int64} {t k : Int32} (hX0 : SX Γ H x ro md rt Vs Ss) (hJ : oJ Γ H out 1 fo) (hxro : x ≠ ro) (hzx : gz Γ ≤ x) (hzr : gz Γ ≤ ro) (hzo : gz Γ ≤ out) (hx0 : x < gb0 Γ) (hr0 : ro < gb0 Γ) (ho0 : out < gb0 Γ) (hxo : x ≠ out) (hro : ro ≠ out) (hz : gb0 Γ ≤ H.size) : Met l yL_stamp wL_stamp ({ frames := 60, cells := 3, slots := 18, locals := 8000 }) (gP Γ H [.ref x, .int t, .int k, .ref out]) (va_Qi (fun r (u : Nat × Int64) => (u.1 = 1 ∧ r = 1 ∧ ¬ (inT t md ∧ inT k 1024)) ∨ (u.1 = 2 ∧ r = 2 ∧ False) ∨ (u.1 = 0 ∧ r = 0 ∧ (∃ tj kj, tj < md ∧ t = nI tj ∧ kj < 1024 ∧ k = nI kj ∧ u.2 = (Ss tj kj).toInt64))) (fun u t' => SX Γ t'.heap x ro md rt Vs Ss ∧ ∃ fo', oJ Γ t'.heap out 1 fo' ∧ (u.1 = 0 → fo' 0 = u.2)) (fun q => q = out)) 3 18 (fun q => q = out ∨ H.size ≤ q) := by
  refine va_MetW (cc := cL_stamp) (maxL := 5) (ret := (some .int)) (hh := [(0, 10, 13, 13)]) (by decide) rfl ?_
  intro p e s m args below meth c s₁ B hml hv
  obtain ⟨rfl, rfl, hW⟩ := hv
  have hx := B.exec
  have hb := B.bytes
  have hr := B.returns
  have hg : ∀ w ∈ gW, w.before _ s = true := fun w h => atoms_spec (ws := wL_stamp) B.pre w (List.mem_cons_of_mem _ h)
  have hown : s.vm.findClass RL = some m.cls := findClass_of_methodNamed B.named
  have hlocks := B.notSynchronized
  have hS : va_S (gA Γ) s.heap s.heap [] := va_S.rf
  have hl := lv_entry ([.ref x, .int t, .int k, .ref out]) (n := 5) (Nat.le_of_ble_eq_true rfl)
  rw [lg_entry_eq]
  generalize (lg_sl ([.ref x, .int t, .int k, .ref out]) ++ List.replicate (5 - (lg_sl ([.ref x, .int t, .int k, .ref out])).length) Slot.unset).toArray = ls at hl ⊢
  have hl : lv_has ls 5 [(0, .ref x), (1, .int t), (2, .int k), (3, .ref out)] := hl
  have htab : c.exceptionTable.toList = [⟨0, 10, 13, 13⟩] := vx_table (x := yL_stamp) B (atoms_spec (ws := wL_stamp) B.pre _ List.mem_cons_self)
  have hS : va_S (fun q => q = out ∨ s.heap.size ≤ q) s.heap s.heap [] := va_S.rf
  have hSG : va_S (gA Γ) s.heap s.heap [] := va_S.rf
  refine lv_aload_n hx hb dL_stamp_0 rfl (lv_at hl 3 rfl) ?_
  refine lv_iconst (v := 0) hx hb dL_stamp_1 (by decide) ?_
  refine lv_aload_n hx hb dL_stamp_2 rfl (lv_at hl 0 rfl) ?_
  refine lv_iload_n hx hb dL_stamp_3 rfl (lv_at hl 1 rfl) ?_
  refine lv_iload_n hx hb dL_stamp_4 rfl (lv_at hl 2 rfl) ?_
  refine vx_calli (vx_runV (As := [.int t, .int k]) (rest := [.int 0, .ref out]) ⟨hx, hb, hml, hown, hg⟩ (c_S_stamp l hnt Γ s.heap (t := t) (k := k) hX0) (cwV 2 hg gL_27 rfl rfl rfl (by decide +kernel) ⟨Nat.le_of_ble_eq_true rfl, Nat.le_of_ble_eq_true rfl⟩) (gP_V hW hSG (ci := 1) rfl hX0.1) rfl rfl hl.1 rfl (lv_room (Nat.le_of_ble_eq_true rfl)) dL_stamp_5 ⟨Nat.le_of_ble_eq_true rfl, Nat.le_of_ble_eq_true rfl⟩) hS (fun q _ h => h.elim) (fun q h => Or.inr h) (fun q _ h => h.elim) (fun E ce q9 u tx H1 locs1 ht hvm hpx hBX hz1 hk1 hS hcell hcv hcl => ?_) (fun r u t9 H1 locs1 ht hvm hp hB hz1 hk1 hS => ?_)
  · have hXX : hX (fun _ => False) s.heap H1 := ⟨hz1, fun q h1 h2 => hk1 q h1 h2⟩
    have hSX := hX0.kept hXX (fun h => h) (fun h => h) (fun q h => h.elim)
    have hJ1 : oJ Γ H1 out 1 fo := hXX.at hJ (fun h => h)
    obtain ⟨rfl, hbad⟩ := hBX
    refine vx_catch (own := RL) (name := xIA) (E := xIA) hown [] ⟨0, 10, 13, 13⟩ [] htab (fun z hz => nomatch hz) (by decide) (by decide) (hg _ kw45) ((hW.2.1.1 _ (List.mem_of_getElem? (i := 4) rfl)).use rfl) hcell hcv hcl ?_
    refine lv_astore (lv' := [(4, .ref q9), (0, .ref x), (1, .int t), (2, .int k), (3, .ref out)]) hx hb dL_stamp_13 hl (by decide) rfl (fun ls hl => ?_)
    refine lv_iconst (v := 1) hx hb dL_stamp_15 (by decide) ?_
    exact W.iret (v := 1) hx hb hr (fun t8 ht8 hW9 => ⟨⟨1, (1, 0), rfl, Or.inl ⟨rfl, rfl, hbad⟩, by subst ht8; exact ⟨hSX, fo, hJ1, fun h => absurd h (by decide)⟩⟩, ⟨by rw [ht8]; exact hS.1, fun q h1 h2 => by rw [ht8]; exact hk1 q h1 id⟩⟩) (fun q hq => hS.2.2 q hq) dL_stamp_16
  have hHH : H1 = s.heap := ht.symm.trans hB
  subst hHH
  have hJ1 := hJ
  have hSX := hX0
  refine lv_i2l (v := r.toInt64) hx hb dL_stamp_8 rfl ?_
  refine j_last (A := fun q => q = out ∨ s.heap.size ≤ q) hx hb hW.1 hJ1 hS (Or.inl rfl) (by unfold vp_in; decide) dL_stamp_9 (fun H2 locs2 hJ2 hz2 hk2 hS => ?_)
  refine lv_goto (tgt := 17) hx hb dL_stamp_10 (by decide) ?_
  refine lv_iconst (v := 0) hx hb dL_stamp_17 (by decide) ?_
  have hXo : hX (fun q => q = out) s.heap H2 := ⟨by rw [hz2]; exact Nat.le_refl _, fun q _ h => hk2 q h⟩
  have hSX2 := hSX.kept hXo hxo hro (fun q h => by rw [h]; exact ho0)
  exact W.iret (v := 0) hx hb hr (fun t8 ht8 hW9 => ⟨⟨0, (0, r.toInt64), rfl, Or.inr (Or.inr ⟨rfl, rfl, ⟨u.1, u.2, hp.1, hp.2.1, hp.2.2.1, hp.2.2.2.1, by rw [hp.2.2.2.2]⟩⟩), by subst ht8; exact ⟨hSX2, _, hJ2, fun _ => rfl⟩⟩, ⟨by rw [ht8]; exact hS.1, fun q h1 h2 => by rw [ht8]; exact hS.2.1 q h1 (fun h => h.elim h2 (fun h => absurd h (Nat.not_le.mpr h1)))⟩⟩) (fun q hq => hS.2.2 q hq) dL_stamp_18
set_option maxHeartbeats 4000000 in
set_option maxRecDepth 100000 in
theorem c_L_part (l : Launch) (hnt : l.stackTraces = false) (Γ : gE) (H : Heap) {x ro md out : Nat} {rt : Nat → Option Nat} {Vs : Nat → Nat → Option Int64} {Ss : Nat → Nat → Int32} {fo : Nat → Int64} {t lo hi wh : Int32} (hX0 : SX Γ H x ro md rt Vs Ss) (hJ : oJ Γ H out 1 fo) (hxro : x ≠ ro) (hzx : gz Γ ≤ x) (hzr : gz Γ ≤ ro) (hzo : gz Γ ≤ out) (hx0 : x < gb0 Γ) (hr0 : ro < gb0 Γ) (ho0 : out < gb0 Γ) (hxo : x ≠ out) (hro : ro ≠ out) (hz : gb0 Γ ≤ H.size) : Met l yL_part wL_part ({ frames := 60, cells := 4, slots := 24, locals := 8000 }) (gP Γ H [.ref x, .int t, .int lo, .int hi, .int wh, .ref out]) (va_Qi (fun r (u : Nat × Int64) => (u.1 = 1 ∧ r = 1 ∧ ¬ (inT t md ∧ inT lo 1024 ∧ inT hi 1024 ∧ lo ≤ hi ∧ inT wh 5)) ∨ (u.1 = 2 ∧ r = 2 ∧ False) ∨ (u.1 = 0 ∧ r = 0 ∧ (∃ tj lj hj wj, tj < md ∧ t = nI tj ∧ lj < 1024 ∧ lo = nI lj ∧ hj < 1024 ∧ hi = nI hj ∧ wj < 5 ∧ wh = nI wj ∧ lj ≤ hj ∧ u.2 = ag (Vs tj) (Ss tj) wj lj (hj + 1 - lj)))) (fun u t' => SX Γ t'.heap x ro md rt Vs Ss ∧ ∃ fo', oJ Γ t'.heap out 1 fo' ∧ (u.1 = 0 → fo' 0 = u.2)) (fun q => q = out)) 4 24 (fun q => q = out ∨ H.size ≤ q) := by
  refine va_MetW (cc := cL_part) (maxL := 7) (ret := (some .int)) (hh := [(0, 13, 16, 13)]) (by decide) rfl ?_
  intro p e s m args below meth c s₁ B hml hv
  obtain ⟨rfl, rfl, hW⟩ := hv
  have hx := B.exec
  have hb := B.bytes
  have hr := B.returns
  have hg : ∀ w ∈ gW, w.before _ s = true := fun w h => atoms_spec (ws := wL_part) B.pre w (List.mem_cons_of_mem _ h)
  have hown : s.vm.findClass RL = some m.cls := findClass_of_methodNamed B.named
  have hlocks := B.notSynchronized
  have hS : va_S (gA Γ) s.heap s.heap [] := va_S.rf
  have hl := lv_entry ([.ref x, .int t, .int lo, .int hi, .int wh, .ref out]) (n := 7) (Nat.le_of_ble_eq_true rfl)
  rw [lg_entry_eq]
  generalize (lg_sl ([.ref x, .int t, .int lo, .int hi, .int wh, .ref out]) ++ List.replicate (7 - (lg_sl ([.ref x, .int t, .int lo, .int hi, .int wh, .ref out])).length) Slot.unset).toArray = ls at hl ⊢
  have hl : lv_has ls 7 [(0, .ref x), (1, .int t), (2, .int lo), (3, .int hi), (4, .int wh), (5, .ref out)] := hl
  have htab : c.exceptionTable.toList = [⟨0, 13, 16, 13⟩] := vx_table (x := yL_part) B (atoms_spec (ws := wL_part) B.pre _ List.mem_cons_self)
  have hS : va_S (fun q => q = out ∨ s.heap.size ≤ q) s.heap s.heap [] := va_S.rf
  have hSG : va_S (gA Γ) s.heap s.heap [] := va_S.rf
  refine lv_aload hx hb dL_part_0 (lv_at hl 5 rfl) ?_
  refine lv_iconst (v := 0) hx hb dL_part_2 (by decide) ?_
  refine lv_aload_n hx hb dL_part_3 rfl (lv_at hl 0 rfl) ?_
  refine lv_iload_n hx hb dL_part_4 rfl (lv_at hl 1 rfl) ?_
  refine lv_iload_n hx hb dL_part_5 rfl (lv_at hl 2 rfl) ?_
  refine lv_iload_n hx hb dL_part_6 rfl (lv_at hl 3 rfl) ?_
  refine lv_iload hx hb dL_part_7 (lv_at hl 4 rfl) ?_
  refine vx_calll (vx_runV (As := [.int t, .int lo, .int hi, .int wh]) (rest := [.int 0, .ref out]) ⟨hx, hb, hml, hown, hg⟩ (c_S_part l hnt Γ s.heap (t := t) (lo := lo) (hi := hi) (wh := wh) hX0) (cwV 4 hg gL_31 rfl rfl rfl (by decide +kernel) ⟨Nat.le_of_ble_eq_true rfl, Nat.le_of_ble_eq_true rfl⟩) (gP_V hW hSG (ci := 1) rfl hX0.1) rfl rfl hl.1 rfl (lv_room (Nat.le_of_ble_eq_true rfl)) dL_part_9 ⟨Nat.le_of_ble_eq_true rfl, Nat.le_of_ble_eq_true rfl⟩) hS (fun q _ h => h.elim) (fun q h => Or.inr h) (fun q _ h => h.elim) (fun E ce q9 u tx H1 locs1 ht hvm hpx hBX hz1 hk1 hS hcell hcv hcl => ?_) (fun r u t9 H1 locs1 ht hvm hp hB hz1 hk1 hS => ?_)
  · have hXX : hX (fun _ => False) s.heap H1 := ⟨hz1, fun q h1 h2 => hk1 q h1 h2⟩
    have hSX := hX0.kept hXX (fun h => h) (fun h => h) (fun q h => h.elim)
    have hJ1 : oJ Γ H1 out 1 fo := hXX.at hJ (fun h => h)
    obtain ⟨rfl, hbad⟩ := hBX
    refine vx_catch (own := RL) (name := xIA) (E := xIA) hown [] ⟨0, 13, 16, 13⟩ [] htab (fun z hz => nomatch hz) (by decide) (by decide) (hg _ kw45) ((hW.2.1.1 _ (List.mem_of_getElem? (i := 4) rfl)).use rfl) hcell hcv hcl ?_
    refine lv_astore (lv' := [(6, .ref q9), (0, .ref x), (1, .int t), (2, .int lo), (3, .int hi), (4, .int wh), (5, .ref out)]) hx hb dL_part_16 hl (by decide) rfl (fun ls hl => ?_)
    refine lv_iconst (v := 1) hx hb dL_part_18 (by decide) ?_
    exact W.iret (v := 1) hx hb hr (fun t8 ht8 hW9 => ⟨⟨1, (1, 0), rfl, Or.inl ⟨rfl, rfl, hbad⟩, by subst ht8; exact ⟨hSX, fo, hJ1, fun h => absurd h (by decide)⟩⟩, ⟨by rw [ht8]; exact hS.1, fun q h1 h2 => by rw [ht8]; exact hk1 q h1 id⟩⟩) (fun q hq => hS.2.2 q hq) dL_part_19
  have hHH : H1 = s.heap := ht.symm.trans hB
  subst hHH
  have hJ1 := hJ
  have hSX := hX0
  refine j_last (A := fun q => q = out ∨ s.heap.size ≤ q) hx hb hW.1 hJ1 hS (Or.inl rfl) (by unfold vp_in; decide) dL_part_12 (fun H2 locs2 hJ2 hz2 hk2 hS => ?_)
  refine lv_goto (tgt := 20) hx hb dL_part_13 (by decide) ?_
  refine lv_iconst (v := 0) hx hb dL_part_20 (by decide) ?_
  have hXo : hX (fun q => q = out) s.heap H2 := ⟨by rw [hz2]; exact Nat.le_refl _, fun q _ h => hk2 q h⟩
  have hSX2 := hSX.kept hXo hxo hro (fun q h => by rw [h]; exact ho0)
  exact W.iret (v := 0) hx hb hr (fun t8 ht8 hW9 => ⟨⟨0, (0, r), rfl, Or.inr (Or.inr ⟨rfl, rfl, ⟨u.1, u.2.1, u.2.2.1, u.2.2.2, hp⟩⟩), by subst ht8; exact ⟨hSX2, _, hJ2, fun _ => rfl⟩⟩, ⟨by rw [ht8]; exact hS.1, fun q h1 h2 => by rw [ht8]; exact hS.2.1 q h1 (fun h => h.elim h2 (fun h => absurd h (Nat.not_le.mpr h1)))⟩⟩) (fun q hq => hS.2.2 q hq) dL_part_21
set_option maxHeartbeats 4000000 in
set_option maxRecDepth 100000 in
theorem c_L_at (l : Launch) (hnt : l.stackTraces = false) (Γ : gE) (H : Heap) {x ro md out : Nat} {rt : Nat → Option Nat} {Vs : Nat → Nat → Option Int64} {Ss : Nat → Nat → Int32} {fo : Nat → Int64} {t k : Int32} (hX0 : SX Γ H x ro md rt Vs Ss) (hJ : oJ Γ H out 1 fo) (hxro : x ≠ ro) (hzx : gz Γ ≤ x) (hzr : gz Γ ≤ ro) (hzo : gz Γ ≤ out) (hx0 : x < gb0 Γ) (hr0 : ro < gb0 Γ) (ho0 : out < gb0 Γ) (hxo : x ≠ out) (hro : ro ≠ out) (hz : gb0 Γ ≤ H.size) : Met l yL_at wL_at ({ frames := 60, cells := 2, slots := 12, locals := 8000 }) (gP Γ H [.ref x, .int t, .int k, .ref out]) (va_Qi (fun r (u : Nat × Int64) => (u.1 = 1 ∧ r = 1 ∧ ¬ inT t md) ∨ (u.1 = 2 ∧ r = 2 ∧ (∃ tj, tj < md ∧ t = nI tj ∧ ¬ inT k (cnt (Vs tj) 0 1024))) ∨ (u.1 = 0 ∧ r = 0 ∧ (∃ tj K, tj < md ∧ t = nI tj ∧ K < 1024 ∧ u.2 = (nI K).toInt64 ∧ (Vs tj K).isSome = true ∧ k = nI (cnt (Vs tj) 0 K)))) (fun u t' => SX Γ t'.heap x ro md rt Vs Ss ∧ ∃ fo', oJ Γ t'.heap out 1 fo' ∧ (u.1 = 0 → fo' 0 = u.2)) (fun q => q = out)) 2 12 (fun q => q = out ∨ H.size ≤ q) := by
  refine va_MetW (cc := cL_at) (maxL := 5) (ret := (some .int)) (hh := [(0, 10, 13, 13), (0, 10, 17, 15)]) (by decide) rfl ?_
  intro p e s m args below meth c s₁ B hml hv
  obtain ⟨rfl, rfl, hW⟩ := hv
  have hx := B.exec
  have hb := B.bytes
  have hr := B.returns
  have hg : ∀ w ∈ gW, w.before _ s = true := fun w h => atoms_spec (ws := wL_at) B.pre w (List.mem_cons_of_mem _ h)
  have hown : s.vm.findClass RL = some m.cls := findClass_of_methodNamed B.named
  have hlocks := B.notSynchronized
  have hS : va_S (gA Γ) s.heap s.heap [] := va_S.rf
  have hl := lv_entry ([.ref x, .int t, .int k, .ref out]) (n := 5) (Nat.le_of_ble_eq_true rfl)
  rw [lg_entry_eq]
  generalize (lg_sl ([.ref x, .int t, .int k, .ref out]) ++ List.replicate (5 - (lg_sl ([.ref x, .int t, .int k, .ref out])).length) Slot.unset).toArray = ls at hl ⊢
  have hl : lv_has ls 5 [(0, .ref x), (1, .int t), (2, .int k), (3, .ref out)] := hl
  have htab : c.exceptionTable.toList = [⟨0, 10, 13, 13⟩, ⟨0, 10, 17, 15⟩] := vx_table (x := yL_at) B (atoms_spec (ws := wL_at) B.pre _ List.mem_cons_self)
  have hS : va_S (fun q => q = out ∨ s.heap.size ≤ q) s.heap s.heap [] := va_S.rf
  have hSG : va_S (gA Γ) s.heap s.heap [] := va_S.rf
  refine lv_aload_n hx hb dL_at_0 rfl (lv_at hl 3 rfl) ?_
  refine lv_iconst (v := 0) hx hb dL_at_1 (by decide) ?_
  refine lv_aload_n hx hb dL_at_2 rfl (lv_at hl 0 rfl) ?_
  refine lv_iload_n hx hb dL_at_3 rfl (lv_at hl 1 rfl) ?_
  refine lv_iload_n hx hb dL_at_4 rfl (lv_at hl 2 rfl) ?_
  refine vx_calli (vx_runV (As := [.int t, .int k]) (rest := [.int 0, .ref out]) ⟨hx, hb, hml, hown, hg⟩ (c_S_at l hnt Γ s.heap (t := t) (k := k) hX0) (cwV 2 hg gL_35 rfl rfl rfl (by decide +kernel) ⟨Nat.le_of_ble_eq_true rfl, Nat.le_of_ble_eq_true rfl⟩) (gP_V hW hSG (ci := 1) rfl hX0.1) rfl rfl hl.1 rfl (lv_room (Nat.le_of_ble_eq_true rfl)) dL_at_5 ⟨Nat.le_of_ble_eq_true rfl, Nat.le_of_ble_eq_true rfl⟩) hS (fun q _ h => h.elim) (fun q h => Or.inr h) (fun q _ h => h.elim) (fun E ce q9 u tx H1 locs1 ht hvm hpx hBX hz1 hk1 hS hcell hcv hcl => ?_) (fun r u t9 H1 locs1 ht hvm hp hB hz1 hk1 hS => ?_)
  · have hXX : hX (fun _ => False) s.heap H1 := ⟨hz1, fun q h1 h2 => hk1 q h1 h2⟩
    have hSX := hX0.kept hXX (fun h => h) (fun h => h) (fun q h => h.elim)
    have hJ1 : oJ Γ H1 out 1 fo := hXX.at hJ (fun h => h)
    rcases hBX with ⟨rfl, hbad⟩ | ⟨rfl, hbad⟩
    · refine vx_catch (own := RL) (name := xIA) (E := xIA) hown [] ⟨0, 10, 13, 13⟩ [⟨0, 10, 17, 15⟩] htab (fun z hz => nomatch hz) (by decide) (by decide) (hg _ kw45) ((hW.2.1.1 _ (List.mem_of_getElem? (i := 4) rfl)).use rfl) hcell hcv hcl ?_
      refine lv_astore (lv' := [(4, .ref q9), (0, .ref x), (1, .int t), (2, .int k), (3, .ref out)]) hx hb dL_at_13 hl (by decide) rfl (fun ls hl => ?_)
      refine lv_iconst (v := 1) hx hb dL_at_15 (by decide) ?_
      exact W.iret (v := 1) hx hb hr (fun t8 ht8 hW9 => ⟨⟨1, (1, 0), rfl, Or.inl ⟨rfl, rfl, hbad⟩, by subst ht8; exact ⟨hSX, fo, hJ1, fun h => absurd h (by decide)⟩⟩, ⟨by rw [ht8]; exact hS.1, fun q h1 h2 => by rw [ht8]; exact hk1 q h1 id⟩⟩) (fun q hq => hS.2.2 q hq) dL_at_16
    · refine vx_catch (own := RL) (name := xIO) (E := xIO) hown [⟨0, 10, 13, 13⟩] ⟨0, 10, 17, 15⟩ [] htab (fun z hz => by rw [List.mem_singleton.mp hz]; exact Or.inr ⟨by decide, xIA, hg _ kw45, hW.2.1.2.2.1 (xIO, xIA) (List.mem_of_getElem? (i := 0) rfl)⟩) (by decide) (by decide) (hg _ kw46) ((hW.2.1.1 _ (List.mem_of_getElem? (i := 5) rfl)).use rfl) hcell hcv hcl ?_
      refine lv_astore (lv' := [(4, .ref q9), (0, .ref x), (1, .int t), (2, .int k), (3, .ref out)]) hx hb dL_at_17 hl (by decide) rfl (fun ls hl => ?_)
      refine lv_iconst (v := 2) hx hb dL_at_19 (by decide) ?_
      exact W.iret (v := 2) hx hb hr (fun t8 ht8 hW9 => ⟨⟨2, (2, 0), rfl, Or.inr (Or.inl ⟨rfl, rfl, hbad⟩), by subst ht8; exact ⟨hSX, fo, hJ1, fun h => absurd h (by decide)⟩⟩, ⟨by rw [ht8]; exact hS.1, fun q h1 h2 => by rw [ht8]; exact hk1 q h1 id⟩⟩) (fun q hq => hS.2.2 q hq) dL_at_20
  have hHH : H1 = s.heap := ht.symm.trans hB
  subst hHH
  have hJ1 := hJ
  have hSX := hX0
  refine lv_i2l (v := r.toInt64) hx hb dL_at_8 rfl ?_
  refine j_last (A := fun q => q = out ∨ s.heap.size ≤ q) hx hb hW.1 hJ1 hS (Or.inl rfl) (by unfold vp_in; decide) dL_at_9 (fun H2 locs2 hJ2 hz2 hk2 hS => ?_)
  refine lv_goto (tgt := 21) hx hb dL_at_10 (by decide) ?_
  refine lv_iconst (v := 0) hx hb dL_at_21 (by decide) ?_
  have hXo : hX (fun q => q = out) s.heap H2 := ⟨by rw [hz2]; exact Nat.le_refl _, fun q _ h => hk2 q h⟩
  have hSX2 := hSX.kept hXo hxo hro (fun q h => by rw [h]; exact ho0)
  exact W.iret (v := 0) hx hb hr (fun t8 ht8 hW9 => ⟨⟨0, (0, r.toInt64), rfl, Or.inr (Or.inr ⟨rfl, rfl, ⟨u.1, u.2, hp.1, hp.2.1, hp.2.2.1, by rw [hp.2.2.2.1], hp.2.2.2.2.1, hp.2.2.2.2.2⟩⟩), by subst ht8; exact ⟨hSX2, _, hJ2, fun _ => rfl⟩⟩, ⟨by rw [ht8]; exact hS.1, fun q h1 h2 => by rw [ht8]; exact hS.2.1 q h1 (fun h => h.elim h2 (fun h => absurd h (Nat.not_le.mpr h1)))⟩⟩) (fun q hq => hS.2.2 q hq) dL_at_22
set_option maxHeartbeats 4000000 in
set_option maxRecDepth 100000 in
theorem c_L_differ (l : Launch) (hnt : l.stackTraces = false) (Γ : gE) (H : Heap) {x ro md out : Nat} {rt : Nat → Option Nat} {Vs : Nat → Nat → Option Int64} {Ss : Nat → Nat → Int32} {fo : Nat → Int64} {a b : Int32} (hX0 : SX Γ H x ro md rt Vs Ss) (hJ : oJ Γ H out 1 fo) (hxro : x ≠ ro) (hzx : gz Γ ≤ x) (hzr : gz Γ ≤ ro) (hzo : gz Γ ≤ out) (hx0 : x < gb0 Γ) (hr0 : ro < gb0 Γ) (ho0 : out < gb0 Γ) (hxo : x ≠ out) (hro : ro ≠ out) (hz : gb0 Γ ≤ H.size) : Met l yL_differ wL_differ ({ frames := 60, cells := 2, slots := 12, locals := 8000 }) (gP Γ H [.ref x, .int a, .int b, .ref out]) (va_Qi (fun r (u : Nat × Int64) => (u.1 = 1 ∧ r = 1 ∧ ¬ (inT a md ∧ inT b md)) ∨ (u.1 = 2 ∧ r = 2 ∧ False) ∨ (u.1 = 0 ∧ r = 0 ∧ (∃ aj bj, aj < md ∧ a = nI aj ∧ bj < md ∧ b = nI bj ∧ u.2 = (nI (dcn (Vs aj) (Vs bj) 0 1024)).toInt64))) (fun u t' => SX Γ t'.heap x ro md rt Vs Ss ∧ ∃ fo', oJ Γ t'.heap out 1 fo' ∧ (u.1 = 0 → fo' 0 = u.2)) (fun q => q = out)) 2 12 (fun q => q = out ∨ H.size ≤ q) := by
  refine va_MetW (cc := cL_differ) (maxL := 5) (ret := (some .int)) (hh := [(0, 10, 13, 13)]) (by decide) rfl ?_
  intro p e s m args below meth c s₁ B hml hv
  obtain ⟨rfl, rfl, hW⟩ := hv
  have hx := B.exec
  have hb := B.bytes
  have hr := B.returns
  have hg : ∀ w ∈ gW, w.before _ s = true := fun w h => atoms_spec (ws := wL_differ) B.pre w (List.mem_cons_of_mem _ h)
  have hown : s.vm.findClass RL = some m.cls := findClass_of_methodNamed B.named
  have hlocks := B.notSynchronized
  have hS : va_S (gA Γ) s.heap s.heap [] := va_S.rf
  have hl := lv_entry ([.ref x, .int a, .int b, .ref out]) (n := 5) (Nat.le_of_ble_eq_true rfl)
  rw [lg_entry_eq]
  generalize (lg_sl ([.ref x, .int a, .int b, .ref out]) ++ List.replicate (5 - (lg_sl ([.ref x, .int a, .int b, .ref out])).length) Slot.unset).toArray = ls at hl ⊢
  have hl : lv_has ls 5 [(0, .ref x), (1, .int a), (2, .int b), (3, .ref out)] := hl
  have htab : c.exceptionTable.toList = [⟨0, 10, 13, 13⟩] := vx_table (x := yL_differ) B (atoms_spec (ws := wL_differ) B.pre _ List.mem_cons_self)
  have hS : va_S (fun q => q = out ∨ s.heap.size ≤ q) s.heap s.heap [] := va_S.rf
  have hSG : va_S (gA Γ) s.heap s.heap [] := va_S.rf
  refine lv_aload_n hx hb dL_differ_0 rfl (lv_at hl 3 rfl) ?_
  refine lv_iconst (v := 0) hx hb dL_differ_1 (by decide) ?_
  refine lv_aload_n hx hb dL_differ_2 rfl (lv_at hl 0 rfl) ?_
  refine lv_iload_n hx hb dL_differ_3 rfl (lv_at hl 1 rfl) ?_
  refine lv_iload_n hx hb dL_differ_4 rfl (lv_at hl 2 rfl) ?_
  refine vx_calli (vx_runV (As := [.int a, .int b]) (rest := [.int 0, .ref out]) ⟨hx, hb, hml, hown, hg⟩ (c_S_differ l hnt Γ s.heap (a := a) (b := b) hX0) (cwV 2 hg gL_38 rfl rfl rfl (by decide +kernel) ⟨Nat.le_of_ble_eq_true rfl, Nat.le_of_ble_eq_true rfl⟩) (gP_V hW hSG (ci := 1) rfl hX0.1) rfl rfl hl.1 rfl (lv_room (Nat.le_of_ble_eq_true rfl)) dL_differ_5 ⟨Nat.le_of_ble_eq_true rfl, Nat.le_of_ble_eq_true rfl⟩) hS (fun q _ h => h.elim) (fun q h => Or.inr h) (fun q _ h => h.elim) (fun E ce q9 u tx H1 locs1 ht hvm hpx hBX hz1 hk1 hS hcell hcv hcl => ?_) (fun r u t9 H1 locs1 ht hvm hp hB hz1 hk1 hS => ?_)
  · have hXX : hX (fun _ => False) s.heap H1 := ⟨hz1, fun q h1 h2 => hk1 q h1 h2⟩
    have hSX := hX0.kept hXX (fun h => h) (fun h => h) (fun q h => h.elim)
    have hJ1 : oJ Γ H1 out 1 fo := hXX.at hJ (fun h => h)
    obtain ⟨rfl, hbad⟩ := hBX
    refine vx_catch (own := RL) (name := xIA) (E := xIA) hown [] ⟨0, 10, 13, 13⟩ [] htab (fun z hz => nomatch hz) (by decide) (by decide) (hg _ kw45) ((hW.2.1.1 _ (List.mem_of_getElem? (i := 4) rfl)).use rfl) hcell hcv hcl ?_
    refine lv_astore (lv' := [(4, .ref q9), (0, .ref x), (1, .int a), (2, .int b), (3, .ref out)]) hx hb dL_differ_13 hl (by decide) rfl (fun ls hl => ?_)
    refine lv_iconst (v := 1) hx hb dL_differ_15 (by decide) ?_
    exact W.iret (v := 1) hx hb hr (fun t8 ht8 hW9 => ⟨⟨1, (1, 0), rfl, Or.inl ⟨rfl, rfl, hbad⟩, by subst ht8; exact ⟨hSX, fo, hJ1, fun h => absurd h (by decide)⟩⟩, ⟨by rw [ht8]; exact hS.1, fun q h1 h2 => by rw [ht8]; exact hk1 q h1 id⟩⟩) (fun q hq => hS.2.2 q hq) dL_differ_16
  have hHH : H1 = s.heap := ht.symm.trans hB
  subst hHH
  have hJ1 := hJ
  have hSX := hX0
  refine lv_i2l (v := r.toInt64) hx hb dL_differ_8 rfl ?_
  refine j_last (A := fun q => q = out ∨ s.heap.size ≤ q) hx hb hW.1 hJ1 hS (Or.inl rfl) (by unfold vp_in; decide) dL_differ_9 (fun H2 locs2 hJ2 hz2 hk2 hS => ?_)
  refine lv_goto (tgt := 17) hx hb dL_differ_10 (by decide) ?_
  refine lv_iconst (v := 0) hx hb dL_differ_17 (by decide) ?_
  have hXo : hX (fun q => q = out) s.heap H2 := ⟨by rw [hz2]; exact Nat.le_refl _, fun q _ h => hk2 q h⟩
  have hSX2 := hSX.kept hXo hxo hro (fun q h => by rw [h]; exact ho0)
  exact W.iret (v := 0) hx hb hr (fun t8 ht8 hW9 => ⟨⟨0, (0, r.toInt64), rfl, Or.inr (Or.inr ⟨rfl, rfl, ⟨u.1, u.2, hp.1, hp.2.1, hp.2.2.1, hp.2.2.2.1, by rw [hp.2.2.2.2]⟩⟩), by subst ht8; exact ⟨hSX2, _, hJ2, fun _ => rfl⟩⟩, ⟨by rw [ht8]; exact hS.1, fun q h1 h2 => by rw [ht8]; exact hS.2.1 q h1 (fun h => h.elim h2 (fun h => absurd h (Nat.not_le.mpr h1)))⟩⟩) (fun q hq => hS.2.2 q hq) dL_differ_18
end
section
/-! the law's state between two calls -/
def R_law : String := "StampTablesLaw"
def lw_P (b : Addr) (xs : List Int32) (args : Array Value) (s : State) : Prop := args = #[.ref b] ∧ s.IntsAt b xs ∧ xs.length ≤ 3072 ∧ (Jvm.Cond.and given_1 narrow_1).before args s = true
def lw_Q (_ : Array Value) (s : State) (o : Outcome) (t : State) : Prop := o = .returned (some (.int 1)) ∧ Framed s o t [] 657075 7124880
def lw_Z (below : List Frame) (a : Array Value) (s : State) : State → Prop := fun t => ∃ o, t.status = .running ∧ Ended t below o ∧ lw_Q a s o t
/-- the law's own end, with 1 on the stack, nothing written that was there before, its room as the claim has it -/
theorem lw_ret {p : Program} {l : Launch} {e : Env} {s : State} {m : MethodId} {below : List Frame} {meth : Method} {c : Code} {b : Nat} (hx : p.tables.exec = Jvm.exec) (hb : c.code = code) (hr : meth.sig.returnType = ret) (hlocks : meth.locks = false) {pc : Nat} {H : Heap} {ls : Array Slot} (hdg : decode code pc = .ok (.ireturn, 1)) : W p l e room_1 s m #[Value.ref b] below meth c H [] 657075 7124880 (lw_Z below #[Value.ref b] s) (F0 m pc ls [.int 1]) := by
  intro T hT X
  obtain ⟨fs, hret, hrun, hended, hW, hframe⟩ := X.leave (v := some (.int 1)) (hlocks := hlocks) (fun h => by rw [hr] at h; cases h)
  have hmeth' : T.vm.method? m = some meth := X.method'
  refine ⟨T.setFrames fs, ?_, .returned (some (.int 1)), hrun, hended, rfl, ⟨_, rfl⟩, hW, hframe⟩
  jvm_step X.here [X.here.top, hx, hb, hdg, hmeth', hr, ret, narrow_b1]
  (try refine ⟨rfl, ?_⟩); (try refine ⟨rfl, ?_⟩)
  first | (intro acts; rw [hret _ acts rfl rfl rfl]) | rw [hret _ _ rfl rfl rfl]
  exact Steps.refl _
/-- what holds at the law's entry: the machine, the code, the tables' words (any of lw_tbl by 'hts w (by decide +kernel)'), the script of L ints xs at the cell b, what the Statement gives of the start (any of its parts by flat_of_before) -/
def lw_At (p : Program) (s : State) (m : MethodId) (meth : Method) (c : Code) (b L : Nat) (xs : Nat → Int32) : Prop :=
  p.tables.exec = Jvm.exec ∧ c.code = code ∧ meth.sig.returnType = ret ∧ c.maxLocals = 8 ∧ s.vm.findClass R_law = some m.cls ∧ (∀ w ∈ lw_tbl, w.before #[Value.ref b] s = true) ∧ va_X b L xs s s.heap ∧ b < s.heap.size ∧ meth.locks = false ∧ (Jvm.Cond.and given_1 narrow_1).before #[Value.ref b] s = true
/-- where things lie: the object and its roots, the reference's cells, out, the blocks -/
def ZF (Γ : gE) (x ro out : Nat) : Prop := gz Γ ≤ x ∧ gz Γ ≤ ro ∧ x < gm0 Γ ∧ ro < gm0 Γ ∧ x ≠ ro ∧ gm0 Γ ≤ gm1 Γ ∧ gm1 Γ ≤ out ∧ out < gb0 Γ
/-- class and reference hold the same tables -/
def LI (Γ : gE) (H : Heap) (x ro out : Nat) (A : Nat → Nat) (er : Int32) (md : Nat) : Prop := ∃ (fof fke fst : Nat → Int32) (fnu : Nat → Int64) (fno fla fot : Nat → Int32) (rt : Nat → Option Nat) (fo : Nat → Int64),
  SX Γ H x ro md rt (mV fof fke fnu fno) (mSt fof fke fst) ∧ va_P Γ.1 gC (wM Γ A er (nI md) fof fke fst fnu fno fla fot) H ∧ va_D (mA Γ) (wM Γ A er (nI md) fof fke fst fnu fno fla fot) ∧ MI md fof fke fst fno ∧ 1 ≤ md ∧ oJ Γ H out 1 fo
theorem SX.congr {Γ : gE} {H : Heap} {x ro md : Nat} {rt : Nat → Option Nat} {Vs Vs' : Nat → Nat → Option Int64} {Ss Ss' : Nat → Nat → Int32} (h : SX Γ H x ro md rt Vs Ss) (hw : ∀ t, t < md → wfS (Ss' t)) (he : ∀ t, t < md → ∀ k, k < 1024 → Vs t k = Vs' t k ∧ Ss t k = Ss' t k) : SX Γ H x ro md rt Vs' Ss' :=
  ⟨h.1, h.2.1, h.2.2.1, fun t ht => ⟨hw t ht, (h.2.2.2 t ht).2.congr (fun k _ hk => he t ht k (by simpa using hk))⟩⟩
theorem nI_inj {t : Int32} {a b : Nat} (h1 : t = nI a) (h2 : t = nI b) (ha : a < 1024) (hb : b < 1024) : a = b := (nI_eq (by omega) (by omega)).mp (h1.symm.trans h2)
/-- the reference's cells stay where only the class's and out change -/
theorem wM_kept {Γ : gE} {H H1 : Heap} {B : Nat → Prop} {ws : va_W} (hP : va_P Γ.1 gC ws H) (hD : va_D (mA Γ) ws) (hk : ∀ q : Nat, q < H.size → ¬ B q → H1[q]? = H[q]?) (hB : ∀ q, mA Γ q → ¬ B q) : va_P Γ.1 gC ws H1 :=
  hP.kept (fun k q hq => hk q.1 (hP k q hq).lt (hB q.1 (hD.2 k q hq)))
/-- the new table, both sides -/
theorem LI_new {Γ : gE} {H2 : Heap} {x ro out : Nat} {A : Nat → Nat} {md tj kj : Nat} {fof fke fst fno fla fot : Nat → Int32} {fnu fo : Nat → Int64} {rt' : Nat → Option Nat} {v : Int64} {ov : Option Int64} {no st : Int32} (hov : ov = if no = 0 then some v else none) (hmd : md < 400) (h1 : 1 ≤ md) (hMI : MI md fof fke fst fno) (htj : tj < md) (hkj : kj < 1024) (hst : okS st) (hno : no = 0 ∨ no = 1)
    (hSX : SX Γ H2 x ro (md + 1) rt' (va_up (mV fof fke fnu fno) md (va_up (mV fof fke fnu fno tj) kj ov)) (va_up (mSt fof fke fst) md (va_up (mSt fof fke fst tj) kj st)))
    (hP : va_P Γ.1 gC (wM Γ A 0 (nI (md + 1)) (upd fof md (nI tj)) (upd fke md (nI kj)) (upd fst md st) (vp_updL fnu md v) (upd fno md no) fla fot) H2) {er : Int32} (hD : va_D (mA Γ) (wM Γ A er (nI md) fof fke fst fnu fno fla fot)) (hJ : oJ Γ H2 out 1 fo) : LI Γ H2 x ro out A 0 (md + 1) := by
  have hM := new_MI hMI htj hkj hst hno
  subst hov
  refine ⟨_, _, _, _, _, _, _, rt', fo, hSX.congr (fun t ht => mSt_wf (by omega) hM ht) (fun t ht k hk => ?_), hP, vD_map (by rfl) hD, hM, by omega, hJ⟩
  have hV := new_V (fnu := fnu) (v := v) (no := no) hmd h1 hMI htj hkj k hk
  have hSt := new_S (st := st) hmd h1 hMI htj hkj k hk
  by_cases e : t = md
  · subst e
    rw [va_up_self, va_up_self]
    exact ⟨hV.2.symm, hSt.2.symm⟩
  · rw [va_up_ne _ _ e, va_up_ne _ _ e]
    exact ⟨(hV.1 t (by omega)).symm, (hSt.1 t (by omega)).symm⟩
theorem cnt_mono (V : Nat → Option Int64) {a b : Nat} (h : a ≤ b) : cnt V 0 a ≤ cnt V 0 b := by
  have := cnt_split V 0 a (b - a)
  rw [show a + (b - a) = b by omega] at this
  omega
theorem cnt_s {V : Nat → Option Int64} {K : Nat} (h : (V K).isSome = true) : cnt V 0 (K + 1) = cnt V 0 K + 1 := by simp [cnt, h]
theorem cnt_lt {V : Nat → Option Int64} {K : Nat} (hK : K < 1024) (h : (V K).isSome = true) : cnt V 0 K < cnt V 0 1024 := by
  have h1 := cnt_mono V (show K + 1 ≤ 1024 by omega)
  rw [cnt_s h] at h1
  omega
theorem cnt_inj {V : Nat → Option Int64} {K K' : Nat} (h : (V K).isSome = true) (h' : (V K').isSome = true) (he : cnt V 0 K = cnt V 0 K') : K = K' := by
  rcases Nat.lt_trichotomy K K' with h1 | h1 | h1
  · have h2 := cnt_mono V (show K + 1 ≤ K' by omega)
    rw [cnt_s h] at h2
    omega
  · exact h1
  · have h2 := cnt_mono V (show K' + 1 ≤ K by omega)
    rw [cnt_s h'] at h2
    omega
end
section
/-! the law: one call of each kind, on both sides -/
set_option maxHeartbeats 4000000 in
set_option maxRecDepth 100000 in
theorem law_put {p : Program} {l : Launch} {e : Env} {s : State} {m : MethodId} {below : List Frame} {meth : Method} {c : Code} {b L : Nat} {xs : Nat → Int32} {Γ : gE} {x ro out : Nat} {A : Nat → Nat} (hnt : l.stackTraces = false) (C0 : lw_At p s m meth c b L xs) (hW : PW Γ s) (hgz : gz Γ = s.heap.size) (hZ : ZF Γ x ro out) {j md : Nat} {er : Int32} {H : Heap} {locs : List Loc} {ls : Array Slot} (hL : L ≤ 3072) (hj : 6 * j + 6 ≤ L) (hI : LI Γ H x ro out A er md) (hbz : gb0 Γ ≤ H.size) (hS : va_S (gA Γ) s.heap H locs) (hl : lv_has ls 8 [(4, .int (nI (6 * j))), (3, .ref out), (2, .ref (A 0)), (1, .ref x), (0, .ref b)]) (hk : ∀ (H2 : Heap) (locs2 : List Loc) (ls2 : Array Slot) (er2 : Int32) (md2 : Nat), LI Γ H2 x ro out A er2 md2 → gb0 Γ ≤ H2.size → va_S (gA Γ) s.heap H2 locs2 → lv_has ls2 8 [(4, .int (nI (6 * j))), (3, .ref out), (2, .ref (A 0)), (1, .ref x), (0, .ref b)] → W p l e room_1 s m #[Value.ref b] below meth c H2 locs2 (20 + 26 * j + 26) (6000 + 112 * j + 112) (lw_Z below #[Value.ref b] s) (F0 m 667 ls2 [])) : W p l e room_1 s m #[Value.ref b] below meth c H locs (20 + 26 * j) (6000 + 112 * j) (lw_Z below #[Value.ref b] s) (F0 m 88 ls []) := by
  obtain ⟨hx, hb, hr, hml, hown, hts, hScr, hbl, hlocks, hgv⟩ := C0
  have hown : s.vm.findClass RL = some m.cls := hown
  have hg : ∀ w ∈ gW, w.before #[Value.ref b] s = true := fun w h => hts w (gW_tbl h)
  have hbA : ¬ gA Γ b := by unfold gA; omega
  obtain ⟨fof, fke, fst, fnu, fno, fla, fot, rt, fo, hSX, hP, hD, hMI, hmd1, hJ⟩ := hI
  obtain ⟨z1, z2, z3, z4, z5, z6, z7, z8⟩ := hZ
  have hmd : md ≤ 400 := hSX.2.2.1
  refine lv_aload_n hx hb dL_law_88 rfl (lv_at hl 3 rfl) ?_
  refine lv_aload_n hx hb dL_law_89 rfl (lv_at hl 4 rfl) ?_
  refine lv_iload hx hb dL_law_90 (lv_at hl 0 rfl) ?_
  refine lv_iconst (v := 1) hx hb dL_law_92 (by decide) ?_
  refine lv_iadd hx hb dL_law_93 ?_
  refine lv_topi (fun i94 ei94 => ?_)
  have ei94 : i94 = nI (6 * j + 1) := ei94.trans (nI_add (6 * j) 1)
  subst ei94
  refine va_sld hx hb hScr hbl hbA hS (vp_in_nI (show 6 * j + 1 < L by omega) (by omega)) dL_law_94 ?_
  rw [nI_clamp (show 6 * j + 1 < 2 ^ 31 by omega)]
  refine lv_aload_n hx hb dL_law_95 rfl (lv_at hl 4 rfl) ?_
  refine lv_iload hx hb dL_law_96 (lv_at hl 0 rfl) ?_
  refine lv_iconst (v := 2) hx hb dL_law_98 (by decide) ?_
  refine lv_iadd hx hb dL_law_99 ?_
  refine lv_topi (fun i100 ei100 => ?_)
  have ei100 : i100 = nI (6 * j + 2) := ei100.trans (nI_add (6 * j) 2)
  subst ei100
  refine va_sld hx hb hScr hbl hbA hS (vp_in_nI (show 6 * j + 2 < L by omega) (by omega)) dL_law_100 ?_
  rw [nI_clamp (show 6 * j + 2 < 2 ^ 31 by omega)]
  refine lv_aload_n hx hb dL_law_101 rfl (lv_at hl 4 rfl) ?_
  refine lv_iload hx hb dL_law_102 (lv_at hl 0 rfl) ?_
  refine lv_iconst (v := 3) hx hb dL_law_104 (by decide) ?_
  refine lv_iadd hx hb dL_law_105 ?_
  refine lv_topi (fun i106 ei106 => ?_)
  have ei106 : i106 = nI (6 * j + 3) := ei106.trans (nI_add (6 * j) 3)
  subst ei106
  refine va_sld hx hb hScr hbl hbA hS (vp_in_nI (show 6 * j + 3 < L by omega) (by omega)) dL_law_106 ?_
  rw [nI_clamp (show 6 * j + 3 < 2 ^ 31 by omega)]
  refine lv_i2l (v := (xs (6 * j + 3)).toInt64) hx hb dL_law_107 rfl ?_
  refine lv_bipush (v := 32) hx hb dL_law_108 (by decide) ?_
  refine lv_lshl (v := ((xs (6 * j + 3)).toInt64) <<< ((32 : Int32).toInt64 &&& 63)) hx hb dL_law_110 rfl ?_
  refine lv_aload_n hx hb dL_law_111 rfl (lv_at hl 4 rfl) ?_
  refine lv_iload hx hb dL_law_112 (lv_at hl 0 rfl) ?_
  refine lv_iconst (v := 4) hx hb dL_law_114 (by decide) ?_
  refine lv_iadd hx hb dL_law_115 ?_
  refine lv_topi (fun i116 ei116 => ?_)
  have ei116 : i116 = nI (6 * j + 4) := ei116.trans (nI_add (6 * j) 4)
  subst ei116
  refine va_sld hx hb hScr hbl hbA hS (vp_in_nI (show 6 * j + 4 < L by omega) (by omega)) dL_law_116 ?_
  rw [nI_clamp (show 6 * j + 4 < 2 ^ 31 by omega)]
  refine lv_i2l (v := (xs (6 * j + 4)).toInt64) hx hb dL_law_117 rfl ?_
  refine lv_ldc2 (v := 4294967295) hx hb hown (hg _ kw383) dL_law_118 ?_
  refine lv_land hx hb dL_law_121 ?_
  refine lv_lor hx hb dL_law_122 ?_
  refine lv_aload_n hx hb dL_law_123 rfl (lv_at hl 4 rfl) ?_
  refine lv_iload hx hb dL_law_124 (lv_at hl 0 rfl) ?_
  refine lv_iconst (v := 5) hx hb dL_law_126 (by decide) ?_
  refine lv_iadd hx hb dL_law_127 ?_
  refine lv_topi (fun i128 ei128 => ?_)
  have ei128 : i128 = nI (6 * j + 5) := ei128.trans (nI_add (6 * j) 5)
  subst ei128
  refine va_sld hx hb hScr hbl hbA hS (vp_in_nI (show 6 * j + 5 < L by omega) (by omega)) dL_law_128 ?_
  rw [nI_clamp (show 6 * j + 5 < 2 ^ 31 by omega)]
  refine lv_aload_n hx hb dL_law_129 rfl (lv_at hl 1 rfl) ?_
  have hzo : gz Γ ≤ out := by omega
  have hsz : gz Γ ≤ H.size := by have := hS.1; omega
  refine va_calli (vx_runSW (As := [.ref x, .int (xs (6 * j + 1)), .int (xs (6 * j + 2)), .long ((((xs (6 * j + 3)).toInt64) <<< ((32 : Int32).toInt64 &&& 63)) ||| (((xs (6 * j + 4)).toInt64) &&& 4294967295)), .int (xs (6 * j + 5)), .ref out]) (rest := []) ⟨hx, hb, hml, hown, hg⟩ (c_L_put l hnt Γ H (t := (xs (6 * j + 1))) (k := (xs (6 * j + 2))) (v := ((xs (6 * j + 3)).toInt64 <<< ((32 : Int32).toInt64 &&& 63)) ||| ((xs (6 * j + 4)).toInt64 &&& 4294967295)) (st := (xs (6 * j + 5))) hSX hJ z5 z1 z2 hzo (by omega) (by omega) z8 (by omega) (by omega) hbz) (vx_cwSW 6 hg gL_47 rfl rfl rfl (by decide +kernel) ⟨Nat.le_of_ble_eq_true rfl, Nat.le_of_ble_eq_true rfl⟩) (gP_S hW hS) rfl rfl hl.1 rfl (lv_room (Nat.le_of_ble_eq_true rfl)) dL_law_130 ⟨by show 20 + 26 * j + 26 ≤ 657075; omega, by show 6000 + 112 * j + 112 ≤ 7124880; omega⟩) hS (fun q _ h => h.elim (fun h => by rw [h]; exact z1) (fun h => h.elim (fun h => by rw [h]; exact z2) (fun h => by rw [h]; exact hzo))) (fun q h => h.elim (fun h => by rw [h]; exact z1) (fun h => h.elim (fun h => by rw [h]; exact z2) (fun h => h.elim (fun h => by rw [h]; exact hzo) (fun h => Nat.le_trans hsz h)))) (fun r u t9 H1 locs1 ht hvm hp hB hz1 hk1 hS => ?_)
  rw [ht] at hB
  have hP1 := wM_kept hP hD hk1 (fun q hq => fun h => by have := hq.1; have := hq.2; rcases h with h | h | h <;> omega)
  refine lv_istore (lv' := [(5, .int r), (4, .int (nI (6 * j))), (3, .ref out), (2, .ref (A 0)), (1, .ref x), (0, .ref b)]) hx hb dL_law_133 hl (by decide) rfl (fun ls hl => ?_)
  refine lv_aload_n hx hb dL_law_135 rfl (lv_at hl 3 rfl) ?_
  refine lv_aload_n hx hb dL_law_136 rfl (lv_at hl 5 rfl) ?_
  refine lv_iload hx hb dL_law_137 (lv_at hl 1 rfl) ?_
  refine lv_iconst (v := 1) hx hb dL_law_139 (by decide) ?_
  refine lv_iadd hx hb dL_law_140 ?_
  refine lv_topi (fun i141 ei141 => ?_)
  have ei141 : i141 = nI (6 * j + 1) := ei141.trans (nI_add (6 * j) 1)
  subst ei141
  refine va_sld hx hb hScr hbl hbA hS (vp_in_nI (show 6 * j + 1 < L by omega) (by omega)) dL_law_141 ?_
  rw [nI_clamp (show 6 * j + 1 < 2 ^ 31 by omega)]
  refine lv_aload_n hx hb dL_law_142 rfl (lv_at hl 5 rfl) ?_
  refine lv_iload hx hb dL_law_143 (lv_at hl 1 rfl) ?_
  refine lv_iconst (v := 2) hx hb dL_law_145 (by decide) ?_
  refine lv_iadd hx hb dL_law_146 ?_
  refine lv_topi (fun i147 ei147 => ?_)
  have ei147 : i147 = nI (6 * j + 2) := ei147.trans (nI_add (6 * j) 2)
  subst ei147
  refine va_sld hx hb hScr hbl hbA hS (vp_in_nI (show 6 * j + 2 < L by omega) (by omega)) dL_law_147 ?_
  rw [nI_clamp (show 6 * j + 2 < 2 ^ 31 by omega)]
  refine lv_aload_n hx hb dL_law_148 rfl (lv_at hl 5 rfl) ?_
  refine lv_iload hx hb dL_law_149 (lv_at hl 1 rfl) ?_
  refine lv_iconst (v := 3) hx hb dL_law_151 (by decide) ?_
  refine lv_iadd hx hb dL_law_152 ?_
  refine lv_topi (fun i153 ei153 => ?_)
  have ei153 : i153 = nI (6 * j + 3) := ei153.trans (nI_add (6 * j) 3)
  subst ei153
  refine va_sld hx hb hScr hbl hbA hS (vp_in_nI (show 6 * j + 3 < L by omega) (by omega)) dL_law_153 ?_
  rw [nI_clamp (show 6 * j + 3 < 2 ^ 31 by omega)]
  refine lv_i2l (v := (xs (6 * j + 3)).toInt64) hx hb dL_law_154 rfl ?_
  refine lv_bipush (v := 32) hx hb dL_law_155 (by decide) ?_
  refine lv_lshl (v := ((xs (6 * j + 3)).toInt64) <<< ((32 : Int32).toInt64 &&& 63)) hx hb dL_law_157 rfl ?_
  refine lv_aload_n hx hb dL_law_158 rfl (lv_at hl 5 rfl) ?_
  refine lv_iload hx hb dL_law_159 (lv_at hl 1 rfl) ?_
  refine lv_iconst (v := 4) hx hb dL_law_161 (by decide) ?_
  refine lv_iadd hx hb dL_law_162 ?_
  refine lv_topi (fun i163 ei163 => ?_)
  have ei163 : i163 = nI (6 * j + 4) := ei163.trans (nI_add (6 * j) 4)
  subst ei163
  refine va_sld hx hb hScr hbl hbA hS (vp_in_nI (show 6 * j + 4 < L by omega) (by omega)) dL_law_163 ?_
  rw [nI_clamp (show 6 * j + 4 < 2 ^ 31 by omega)]
  refine lv_i2l (v := (xs (6 * j + 4)).toInt64) hx hb dL_law_164 rfl ?_
  refine lv_ldc2 (v := 4294967295) hx hb hown (hg _ kw383) dL_law_165 ?_
  refine lv_land hx hb dL_law_168 ?_
  refine lv_lor hx hb dL_law_169 ?_
  refine lv_aload_n hx hb dL_law_170 rfl (lv_at hl 5 rfl) ?_
  refine lv_iload hx hb dL_law_171 (lv_at hl 1 rfl) ?_
  refine lv_iconst (v := 5) hx hb dL_law_173 (by decide) ?_
  refine lv_iadd hx hb dL_law_174 ?_
  refine lv_topi (fun i175 ei175 => ?_)
  have ei175 : i175 = nI (6 * j + 5) := ei175.trans (nI_add (6 * j) 5)
  subst ei175
  refine va_sld hx hb hScr hbl hbA hS (vp_in_nI (show 6 * j + 5 < L by omega) (by omega)) dL_law_175 ?_
  rw [nI_clamp (show 6 * j + 5 < 2 ^ 31 by omega)]
  have hmz : ∀ q, mA Γ q → gA Γ q := fun q h => by have := h.1; show gz Γ ≤ q; omega
  refine va_calli (va_runV (As := [.int (xs (6 * j + 1)), .int (xs (6 * j + 2)), .long ((((xs (6 * j + 3)).toInt64) <<< ((32 : Int32).toInt64 &&& 63)) ||| (((xs (6 * j + 4)).toInt64) &&& 4294967295)), .int (xs (6 * j + 5))]) (rest := []) ⟨hx, hb, hml, hown, hg⟩ (c_M_put l Γ H1 (t := (xs (6 * j + 1))) (k := (xs (6 * j + 2))) (v := ((xs (6 * j + 3)).toInt64 <<< ((32 : Int32).toInt64 &&& 63)) ||| ((xs (6 * j + 4)).toInt64 &&& 4294967295)) (st := (xs (6 * j + 5))) hP1 hD (by omega) hmd) (cwV 4 hg gL_52 rfl rfl rfl (by decide +kernel) ⟨Nat.le_of_ble_eq_true rfl, Nat.le_of_ble_eq_true rfl⟩) (gP_V hW hS (ci := 2) rfl (hP1 0 _ rfl)) rfl rfl hl.1 rfl (lv_room (Nat.le_of_ble_eq_true rfl)) dL_law_176 ⟨by show 20 + 26 * j + 26 + 0 ≤ 657075; omega, by show 6000 + 112 * j + 112 + 0 ≤ 7124880; omega⟩) hS (fun q _ h => hmz q h) (fun q h => hmz q h) (fun r2 u2 t8 H2 locs2 ht2 hvm2 hp2 hB2 hz2 hk2 hS => ?_)
  rw [ht2] at hB2
  have hX2 : hX (mA Γ) H1 H2 := ⟨hz2, fun q h1 h2 => hk2 q h1 h2⟩
  have hSk : ∀ {rt9 : Nat → Option Nat} {md9 : Nat} {V9 : Nat → Nat → Option Int64} {S9 : Nat → Nat → Int32}, SX Γ H1 x ro md9 rt9 V9 S9 → SX Γ H2 x ro md9 rt9 V9 S9 := fun h => h.kept hX2 (fun h => by have := h.1; omega) (fun h => by have := h.1; omega) (fun q h => by have := h.2; omega)
  have hJk : ∀ {f9 : Nat → Int64}, oJ Γ H1 out 1 f9 → oJ Γ H2 out 1 f9 := fun h => hX2.at h (fun h => by have := h.2; omega)
  have hall : ∃ er2 md2, LI Γ H2 x ro out A er2 md2 ∧ r = er2 ∧ (r = 0 → ∃ fo3, oJ Γ H2 out 1 fo3 ∧ fo3 (0 : Int32).toNatClampNeg = r2.toInt64) := by
    obtain ⟨u1, uj, uk⟩ := u
    rcases hp with ⟨h1, hr1, hbad⟩ | ⟨h1, hr1, hok, hfull⟩ | ⟨h1, hr1, hst, hmd4, htj, etj, hkj, ekj⟩
    · have h1 : u1 = 1 := h1
      subst h1
      obtain ⟨hS1, fo1, hJ1⟩ := hB
      rcases hp2 with ⟨h2, -, -⟩ | ⟨h2, hok, -, -⟩ | ⟨h2, hok, -, -⟩
      · subst h2
        exact ⟨1, md, ⟨fof, fke, fst, fnu, fno, fla, fot, rt, fo1, hSk hS1, hB2, vD_map (by rfl) hD, hMI, hmd1, hJk hJ1⟩, hr1, fun h => by rw [hr1] at h; exact absurd h (by decide)⟩
      · exact absurd hok hbad
      · exact absurd hok hbad
    · have h1 : u1 = 2 := h1
      subst h1
      obtain ⟨hS1, fo1, hJ1⟩ := hB
      rcases hp2 with ⟨h2, hbad, -⟩ | ⟨h2, -, -, -⟩ | ⟨h2, -, hlt, -⟩
      · exact absurd hok hbad
      · subst h2
        exact ⟨2, md, ⟨fof, fke, fst, fnu, fno, fla, fot, rt, fo1, hSk hS1, hB2, vD_map (by rfl) hD, hMI, hmd1, hJk hJ1⟩, hr1, fun h => by rw [hr1] at h; exact absurd h (by decide)⟩
      · exact absurd hlt hfull
    · have h1 : u1 = 0 := h1
      subst h1
      obtain ⟨⟨rt1, hS1⟩, fo1, hJ1, hfo⟩ := hB
      have etj : (xs (6 * j + 1)) = nI uj := etj
      have ekj : (xs (6 * j + 2)) = nI uk := ekj
      have htj : uj < md := htj
      have hkj : uk < 1024 := hkj
      have hok : inT (xs (6 * j + 1)) md ∧ inT (xs (6 * j + 2)) 1024 ∧ okS (xs (6 * j + 5)) := ⟨⟨uj, htj, etj⟩, ⟨uk, hkj, ekj⟩, hst⟩
      rcases hp2 with ⟨h2, hbad, -⟩ | ⟨h2, -, heq, -⟩ | ⟨h2, -, -, hr2⟩
      · exact absurd hok hbad
      · omega
      · subst h2
        have hP9 : va_P Γ.1 gC (wM Γ A 0 (nI (md + 1)) (upd fof md (xs (6 * j + 1))) (upd fke md (xs (6 * j + 2))) (upd fst md (xs (6 * j + 5))) (vp_updL fnu md (((xs (6 * j + 3)).toInt64 <<< ((32 : Int32).toInt64 &&& 63)) ||| ((xs (6 * j + 4)).toInt64 &&& 4294967295))) (upd fno md 0) fla fot) H2 := hB2
        rw [etj, ekj] at hP9
        exact ⟨0, md + 1, LI_new (no := 0) (v := ((xs (6 * j + 3)).toInt64 <<< ((32 : Int32).toInt64 &&& 63)) ||| ((xs (6 * j + 4)).toInt64 &&& 4294967295)) (by simp) hmd4 hmd1 hMI htj hkj hst (Or.inl rfl) (hSk hS1) hP9 hD (hJk hJ1), hr1, fun _ => ⟨fo1, hJk hJ1, by rw [hr2]; exact hfo⟩⟩
  refine lv_istore (lv' := [(6, .int r2), (5, .int r), (4, .int (nI (6 * j))), (3, .ref out), (2, .ref (A 0)), (1, .ref x), (0, .ref b)]) hx hb dL_law_179 hl (by decide) rfl (fun ls hl => ?_)
  refine lv_aload_n hx hb dL_law_181 rfl (lv_at hl 4 rfl) ?_
  obtain ⟨er2, md2, hLI, hE, hV⟩ := hall
  obtain ⟨fof2, fke2, fst2, fnu2, fno2, fla2, fot2, rt2, fo2, hSX2, hP2, hD2, hM2, hm2, hJ2⟩ := id hLI
  refine vp_callSi (W.runV (As := []) (rest := []) ⟨hx, hb, hml, hown, hg⟩ (c_M_thrown l Γ H2 hP2) (cwV 0 hg gL_53 rfl rfl rfl (by decide +kernel) ⟨Nat.le_of_ble_eq_true rfl, Nat.le_of_ble_eq_true rfl⟩) (gP_V hW hS (ci := 2) rfl (hP2 0 _ rfl)) rfl rfl hl.1 rfl (lv_room (Nat.le_of_ble_eq_true rfl)) dL_law_182 ⟨by show 20 + 26 * j + 26 + 0 + 0 ≤ 657075; omega, by show 6000 + 112 * j + 112 + 0 + 0 ≤ 7124880; omega⟩) (fun r4 hr4 => ?_)
  subst hr4
  refine lv_iload hx hb dL_law_185 (lv_at hl 1 rfl) ?_
  refine lv_icmp_eq (tgt := 192) hx hb dL_law_187 (by decide) (fun k1 => ?_) (fun k1 => ?_)
  · refine lv_iload hx hb dL_law_192 (lv_at hl 1 rfl) ?_
    refine lv_if_ne (tgt := 209) hx hb dL_law_194 (by decide) (fun k2 => ?_) (fun k2 => ?_)
    · refine lv_goto (tgt := 667) hx hb dL_law_209 (by decide) ?_
      refine W.widen (k := 20 + 26 * j + 26) (n := 6000 + 112 * j + 112) (by omega) (by omega) ?_
      exact hk H2 locs2 ls r4 md2 hLI (by omega) hS (lv_sub hl [2, 3, 4, 5, 6] rfl)
    · obtain ⟨fo3, hJ3, hV3⟩ := hV k2
      refine lv_aload_n hx hb dL_law_197 rfl (lv_at hl 3 rfl) ?_
      refine lv_iconst (v := 0) hx hb dL_law_198 (by decide) ?_
      refine va_lald (D := Γ.1) (cl := gC) (tys := gT Γ) hx hb hW.1 (p1 hJ3) 0 0 rfl rfl (by unfold vp_in; decide) dL_law_199 ?_
      refine lv_iload hx hb dL_law_200 (lv_at hl 0 rfl) ?_
      refine lv_i2l (v := r2.toInt64) hx hb dL_law_202 rfl ?_
      refine W.lcmp hx hb dL_law_203 ?_
      refine lv_if_eq (tgt := 209) hx hb dL_law_204 (by decide) (fun k3 => ?_) (fun k3 => ?_)
      · refine lv_goto (tgt := 667) hx hb dL_law_209 (by decide) ?_
        refine W.widen (k := 20 + 26 * j + 26) (n := 6000 + 112 * j + 112) (by omega) (by omega) ?_
        exact hk H2 locs2 ls r4 md2 hLI (by omega) hS (lv_sub hl [2, 3, 4, 5, 6] rfl)
      · exact absurd ((lg_cmp_eq _ _).mpr hV3) k3
  · exact absurd hE.symm k1
set_option maxHeartbeats 4000000 in
set_option maxRecDepth 100000 in
theorem law_delete {p : Program} {l : Launch} {e : Env} {s : State} {m : MethodId} {below : List Frame} {meth : Method} {c : Code} {b L : Nat} {xs : Nat → Int32} {Γ : gE} {x ro out : Nat} {A : Nat → Nat} (hnt : l.stackTraces = false) (C0 : lw_At p s m meth c b L xs) (hW : PW Γ s) (hgz : gz Γ = s.heap.size) (hZ : ZF Γ x ro out) {j md : Nat} {er : Int32} {H : Heap} {locs : List Loc} {ls : Array Slot} (hL : L ≤ 3072) (hj : 6 * j + 6 ≤ L) (hI : LI Γ H x ro out A er md) (hbz : gb0 Γ ≤ H.size) (hS : va_S (gA Γ) s.heap H locs) (hl : lv_has ls 8 [(4, .int (nI (6 * j))), (3, .ref out), (2, .ref (A 0)), (1, .ref x), (0, .ref b)]) (hk : ∀ (H2 : Heap) (locs2 : List Loc) (ls2 : Array Slot) (er2 : Int32) (md2 : Nat), LI Γ H2 x ro out A er2 md2 → gb0 Γ ≤ H2.size → va_S (gA Γ) s.heap H2 locs2 → lv_has ls2 8 [(4, .int (nI (6 * j))), (3, .ref out), (2, .ref (A 0)), (1, .ref x), (0, .ref b)] → W p l e room_1 s m #[Value.ref b] below meth c H2 locs2 (20 + 26 * j + 26) (6000 + 112 * j + 112) (lw_Z below #[Value.ref b] s) (F0 m 667 ls2 [])) : W p l e room_1 s m #[Value.ref b] below meth c H locs (20 + 26 * j) (6000 + 112 * j) (lw_Z below #[Value.ref b] s) (F0 m 212 ls []) := by
  obtain ⟨hx, hb, hr, hml, hown, hts, hScr, hbl, hlocks, hgv⟩ := C0
  have hown : s.vm.findClass RL = some m.cls := hown
  have hg : ∀ w ∈ gW, w.before #[Value.ref b] s = true := fun w h => hts w (gW_tbl h)
  have hbA : ¬ gA Γ b := by unfold gA; omega
  obtain ⟨fof, fke, fst, fnu, fno, fla, fot, rt, fo, hSX, hP, hD, hMI, hmd1, hJ⟩ := hI
  obtain ⟨z1, z2, z3, z4, z5, z6, z7, z8⟩ := hZ
  have hmd : md ≤ 400 := hSX.2.2.1
  refine lv_aload_n hx hb dL_law_212 rfl (lv_at hl 3 rfl) ?_
  refine lv_aload_n hx hb dL_law_213 rfl (lv_at hl 4 rfl) ?_
  refine lv_iload hx hb dL_law_214 (lv_at hl 0 rfl) ?_
  refine lv_iconst (v := 1) hx hb dL_law_216 (by decide) ?_
  refine lv_iadd hx hb dL_law_217 ?_
  refine lv_topi (fun i218 ei218 => ?_)
  have ei218 : i218 = nI (6 * j + 1) := ei218.trans (nI_add (6 * j) 1)
  subst ei218
  refine va_sld hx hb hScr hbl hbA hS (vp_in_nI (show 6 * j + 1 < L by omega) (by omega)) dL_law_218 ?_
  rw [nI_clamp (show 6 * j + 1 < 2 ^ 31 by omega)]
  refine lv_aload_n hx hb dL_law_219 rfl (lv_at hl 4 rfl) ?_
  refine lv_iload hx hb dL_law_220 (lv_at hl 0 rfl) ?_
  refine lv_iconst (v := 2) hx hb dL_law_222 (by decide) ?_
  refine lv_iadd hx hb dL_law_223 ?_
  refine lv_topi (fun i224 ei224 => ?_)
  have ei224 : i224 = nI (6 * j + 2) := ei224.trans (nI_add (6 * j) 2)
  subst ei224
  refine va_sld hx hb hScr hbl hbA hS (vp_in_nI (show 6 * j + 2 < L by omega) (by omega)) dL_law_224 ?_
  rw [nI_clamp (show 6 * j + 2 < 2 ^ 31 by omega)]
  refine lv_aload_n hx hb dL_law_225 rfl (lv_at hl 4 rfl) ?_
  refine lv_iload hx hb dL_law_226 (lv_at hl 0 rfl) ?_
  refine lv_iconst (v := 3) hx hb dL_law_228 (by decide) ?_
  refine lv_iadd hx hb dL_law_229 ?_
  refine lv_topi (fun i230 ei230 => ?_)
  have ei230 : i230 = nI (6 * j + 3) := ei230.trans (nI_add (6 * j) 3)
  subst ei230
  refine va_sld hx hb hScr hbl hbA hS (vp_in_nI (show 6 * j + 3 < L by omega) (by omega)) dL_law_230 ?_
  rw [nI_clamp (show 6 * j + 3 < 2 ^ 31 by omega)]
  refine lv_aload_n hx hb dL_law_231 rfl (lv_at hl 1 rfl) ?_
  have hzo : gz Γ ≤ out := by omega
  have hsz : gz Γ ≤ H.size := by have := hS.1; omega
  refine va_calli (vx_runSW (As := [.ref x, .int (xs (6 * j + 1)), .int (xs (6 * j + 2)), .int (xs (6 * j + 3)), .ref out]) (rest := []) ⟨hx, hb, hml, hown, hg⟩ (c_L_delete l hnt Γ H (t := (xs (6 * j + 1))) (k := (xs (6 * j + 2))) (st := (xs (6 * j + 3))) hSX hJ z5 z1 z2 hzo (by omega) (by omega) z8 (by omega) (by omega) hbz) (vx_cwSW 5 hg gL_57 rfl rfl rfl (by decide +kernel) ⟨Nat.le_of_ble_eq_true rfl, Nat.le_of_ble_eq_true rfl⟩) (gP_S hW hS) rfl rfl hl.1 rfl (lv_room (Nat.le_of_ble_eq_true rfl)) dL_law_232 ⟨by show 20 + 26 * j + 26 ≤ 657075; omega, by show 6000 + 112 * j + 112 ≤ 7124880; omega⟩) hS (fun q _ h => h.elim (fun h => by rw [h]; exact z1) (fun h => h.elim (fun h => by rw [h]; exact z2) (fun h => by rw [h]; exact hzo))) (fun q h => h.elim (fun h => by rw [h]; exact z1) (fun h => h.elim (fun h => by rw [h]; exact z2) (fun h => h.elim (fun h => by rw [h]; exact hzo) (fun h => Nat.le_trans hsz h)))) (fun r u t9 H1 locs1 ht hvm hp hB hz1 hk1 hS => ?_)
  rw [ht] at hB
  have hP1 := wM_kept hP hD hk1 (fun q hq => fun h => by have := hq.1; have := hq.2; rcases h with h | h | h <;> omega)
  refine lv_istore (lv' := [(5, .int r), (4, .int (nI (6 * j))), (3, .ref out), (2, .ref (A 0)), (1, .ref x), (0, .ref b)]) hx hb dL_law_235 hl (by decide) rfl (fun ls hl => ?_)
  refine lv_aload_n hx hb dL_law_237 rfl (lv_at hl 3 rfl) ?_
  refine lv_aload_n hx hb dL_law_238 rfl (lv_at hl 5 rfl) ?_
  refine lv_iload hx hb dL_law_239 (lv_at hl 1 rfl) ?_
  refine lv_iconst (v := 1) hx hb dL_law_241 (by decide) ?_
  refine lv_iadd hx hb dL_law_242 ?_
  refine lv_topi (fun i243 ei243 => ?_)
  have ei243 : i243 = nI (6 * j + 1) := ei243.trans (nI_add (6 * j) 1)
  subst ei243
  refine va_sld hx hb hScr hbl hbA hS (vp_in_nI (show 6 * j + 1 < L by omega) (by omega)) dL_law_243 ?_
  rw [nI_clamp (show 6 * j + 1 < 2 ^ 31 by omega)]
  refine lv_aload_n hx hb dL_law_244 rfl (lv_at hl 5 rfl) ?_
  refine lv_iload hx hb dL_law_245 (lv_at hl 1 rfl) ?_
  refine lv_iconst (v := 2) hx hb dL_law_247 (by decide) ?_
  refine lv_iadd hx hb dL_law_248 ?_
  refine lv_topi (fun i249 ei249 => ?_)
  have ei249 : i249 = nI (6 * j + 2) := ei249.trans (nI_add (6 * j) 2)
  subst ei249
  refine va_sld hx hb hScr hbl hbA hS (vp_in_nI (show 6 * j + 2 < L by omega) (by omega)) dL_law_249 ?_
  rw [nI_clamp (show 6 * j + 2 < 2 ^ 31 by omega)]
  refine lv_aload_n hx hb dL_law_250 rfl (lv_at hl 5 rfl) ?_
  refine lv_iload hx hb dL_law_251 (lv_at hl 1 rfl) ?_
  refine lv_iconst (v := 3) hx hb dL_law_253 (by decide) ?_
  refine lv_iadd hx hb dL_law_254 ?_
  refine lv_topi (fun i255 ei255 => ?_)
  have ei255 : i255 = nI (6 * j + 3) := ei255.trans (nI_add (6 * j) 3)
  subst ei255
  refine va_sld hx hb hScr hbl hbA hS (vp_in_nI (show 6 * j + 3 < L by omega) (by omega)) dL_law_255 ?_
  rw [nI_clamp (show 6 * j + 3 < 2 ^ 31 by omega)]
  have hmz : ∀ q, mA Γ q → gA Γ q := fun q h => by have := h.1; show gz Γ ≤ q; omega
  refine va_calli (va_runV (As := [.int (xs (6 * j + 1)), .int (xs (6 * j + 2)), .int (xs (6 * j + 3))]) (rest := []) ⟨hx, hb, hml, hown, hg⟩ (c_M_delete l Γ H1 (t := (xs (6 * j + 1))) (k := (xs (6 * j + 2))) (st := (xs (6 * j + 3))) hP1 hD (by omega) hmd) (cwV 3 hg gL_60 rfl rfl rfl (by decide +kernel) ⟨Nat.le_of_ble_eq_true rfl, Nat.le_of_ble_eq_true rfl⟩) (gP_V hW hS (ci := 2) rfl (hP1 0 _ rfl)) rfl rfl hl.1 rfl (lv_room (Nat.le_of_ble_eq_true rfl)) dL_law_256 ⟨by show 20 + 26 * j + 26 + 0 ≤ 657075; omega, by show 6000 + 112 * j + 112 + 0 ≤ 7124880; omega⟩) hS (fun q _ h => hmz q h) (fun q h => hmz q h) (fun r2 u2 t8 H2 locs2 ht2 hvm2 hp2 hB2 hz2 hk2 hS => ?_)
  rw [ht2] at hB2
  have hX2 : hX (mA Γ) H1 H2 := ⟨hz2, fun q h1 h2 => hk2 q h1 h2⟩
  have hSk : ∀ {rt9 : Nat → Option Nat} {md9 : Nat} {V9 : Nat → Nat → Option Int64} {S9 : Nat → Nat → Int32}, SX Γ H1 x ro md9 rt9 V9 S9 → SX Γ H2 x ro md9 rt9 V9 S9 := fun h => h.kept hX2 (fun h => by have := h.1; omega) (fun h => by have := h.1; omega) (fun q h => by have := h.2; omega)
  have hJk : ∀ {f9 : Nat → Int64}, oJ Γ H1 out 1 f9 → oJ Γ H2 out 1 f9 := fun h => hX2.at h (fun h => by have := h.2; omega)
  have hall : ∃ er2 md2, LI Γ H2 x ro out A er2 md2 ∧ r = er2 ∧ (r = 0 → ∃ fo3, oJ Γ H2 out 1 fo3 ∧ fo3 (0 : Int32).toNatClampNeg = r2.toInt64) := by
    obtain ⟨u1, uj, uk⟩ := u
    rcases hp with ⟨h1, hr1, hbad⟩ | ⟨h1, hr1, hok, hfull⟩ | ⟨h1, hr1, hst, hmd4, htj, etj, hkj, ekj⟩
    · have h1 : u1 = 1 := h1
      subst h1
      obtain ⟨hS1, fo1, hJ1⟩ := hB
      rcases hp2 with ⟨h2, -, -⟩ | ⟨h2, hok, -, -⟩ | ⟨h2, hok, -, -⟩
      · subst h2
        exact ⟨1, md, ⟨fof, fke, fst, fnu, fno, fla, fot, rt, fo1, hSk hS1, hB2, vD_map (by rfl) hD, hMI, hmd1, hJk hJ1⟩, hr1, fun h => by rw [hr1] at h; exact absurd h (by decide)⟩
      · exact absurd hok hbad
      · exact absurd hok hbad
    · have h1 : u1 = 2 := h1
      subst h1
      obtain ⟨hS1, fo1, hJ1⟩ := hB
      rcases hp2 with ⟨h2, hbad, -⟩ | ⟨h2, -, -, -⟩ | ⟨h2, -, hlt, -⟩
      · exact absurd hok hbad
      · subst h2
        exact ⟨2, md, ⟨fof, fke, fst, fnu, fno, fla, fot, rt, fo1, hSk hS1, hB2, vD_map (by rfl) hD, hMI, hmd1, hJk hJ1⟩, hr1, fun h => by rw [hr1] at h; exact absurd h (by decide)⟩
      · exact absurd hlt hfull
    · have h1 : u1 = 0 := h1
      subst h1
      obtain ⟨⟨rt1, hS1⟩, fo1, hJ1, hfo⟩ := hB
      have etj : (xs (6 * j + 1)) = nI uj := etj
      have ekj : (xs (6 * j + 2)) = nI uk := ekj
      have htj : uj < md := htj
      have hkj : uk < 1024 := hkj
      have hok : inT (xs (6 * j + 1)) md ∧ inT (xs (6 * j + 2)) 1024 ∧ okS (xs (6 * j + 3)) := ⟨⟨uj, htj, etj⟩, ⟨uk, hkj, ekj⟩, hst⟩
      rcases hp2 with ⟨h2, hbad, -⟩ | ⟨h2, -, heq, -⟩ | ⟨h2, -, -, hr2⟩
      · exact absurd hok hbad
      · omega
      · subst h2
        have hP9 : va_P Γ.1 gC (wM Γ A 0 (nI (md + 1)) (upd fof md (xs (6 * j + 1))) (upd fke md (xs (6 * j + 2))) (upd fst md (xs (6 * j + 3))) (vp_updL fnu md (0)) (upd fno md 1) fla fot) H2 := hB2
        rw [etj, ekj] at hP9
        exact ⟨0, md + 1, LI_new (no := 1) (v := 0) (by decide) hmd4 hmd1 hMI htj hkj hst (Or.inr rfl) (hSk hS1) hP9 hD (hJk hJ1), hr1, fun _ => ⟨fo1, hJk hJ1, by rw [hr2]; exact hfo⟩⟩
  refine lv_istore (lv' := [(6, .int r2), (5, .int r), (4, .int (nI (6 * j))), (3, .ref out), (2, .ref (A 0)), (1, .ref x), (0, .ref b)]) hx hb dL_law_259 hl (by decide) rfl (fun ls hl => ?_)
  refine lv_aload_n hx hb dL_law_261 rfl (lv_at hl 4 rfl) ?_
  obtain ⟨er2, md2, hLI, hE, hV⟩ := hall
  obtain ⟨fof2, fke2, fst2, fnu2, fno2, fla2, fot2, rt2, fo2, hSX2, hP2, hD2, hM2, hm2, hJ2⟩ := id hLI
  refine vp_callSi (W.runV (As := []) (rest := []) ⟨hx, hb, hml, hown, hg⟩ (c_M_thrown l Γ H2 hP2) (cwV 0 hg gL_53 rfl rfl rfl (by decide +kernel) ⟨Nat.le_of_ble_eq_true rfl, Nat.le_of_ble_eq_true rfl⟩) (gP_V hW hS (ci := 2) rfl (hP2 0 _ rfl)) rfl rfl hl.1 rfl (lv_room (Nat.le_of_ble_eq_true rfl)) dL_law_262 ⟨by show 20 + 26 * j + 26 + 0 + 0 ≤ 657075; omega, by show 6000 + 112 * j + 112 + 0 + 0 ≤ 7124880; omega⟩) (fun r4 hr4 => ?_)
  subst hr4
  refine lv_iload hx hb dL_law_265 (lv_at hl 1 rfl) ?_
  refine lv_icmp_eq (tgt := 272) hx hb dL_law_267 (by decide) (fun k1 => ?_) (fun k1 => ?_)
  · refine lv_iload hx hb dL_law_272 (lv_at hl 1 rfl) ?_
    refine lv_if_ne (tgt := 289) hx hb dL_law_274 (by decide) (fun k2 => ?_) (fun k2 => ?_)
    · refine lv_goto (tgt := 667) hx hb dL_law_289 (by decide) ?_
      refine W.widen (k := 20 + 26 * j + 26) (n := 6000 + 112 * j + 112) (by omega) (by omega) ?_
      exact hk H2 locs2 ls r4 md2 hLI (by omega) hS (lv_sub hl [2, 3, 4, 5, 6] rfl)
    · obtain ⟨fo3, hJ3, hV3⟩ := hV k2
      refine lv_aload_n hx hb dL_law_277 rfl (lv_at hl 3 rfl) ?_
      refine lv_iconst (v := 0) hx hb dL_law_278 (by decide) ?_
      refine va_lald (D := Γ.1) (cl := gC) (tys := gT Γ) hx hb hW.1 (p1 hJ3) 0 0 rfl rfl (by unfold vp_in; decide) dL_law_279 ?_
      refine lv_iload hx hb dL_law_280 (lv_at hl 0 rfl) ?_
      refine lv_i2l (v := r2.toInt64) hx hb dL_law_282 rfl ?_
      refine W.lcmp hx hb dL_law_283 ?_
      refine lv_if_eq (tgt := 289) hx hb dL_law_284 (by decide) (fun k3 => ?_) (fun k3 => ?_)
      · refine lv_goto (tgt := 667) hx hb dL_law_289 (by decide) ?_
        refine W.widen (k := 20 + 26 * j + 26) (n := 6000 + 112 * j + 112) (by omega) (by omega) ?_
        exact hk H2 locs2 ls r4 md2 hLI (by omega) hS (lv_sub hl [2, 3, 4, 5, 6] rfl)
      · exact absurd ((lg_cmp_eq _ _).mpr hV3) k3
  · exact absurd hE.symm k1
end
section
/-! the law: the reads -/
set_option maxHeartbeats 4000000 in
set_option maxRecDepth 100000 in
theorem law_get {p : Program} {l : Launch} {e : Env} {s : State} {m : MethodId} {below : List Frame} {meth : Method} {c : Code} {b L : Nat} {xs : Nat → Int32} {Γ : gE} {x ro out : Nat} {A : Nat → Nat} (hnt : l.stackTraces = false) (C0 : lw_At p s m meth c b L xs) (hW : PW Γ s) (hgz : gz Γ = s.heap.size) (hZ : ZF Γ x ro out) {j md : Nat} {er : Int32} {H : Heap} {locs : List Loc} {ls : Array Slot} (hL : L ≤ 3072) (hj : 6 * j + 6 ≤ L) (hI : LI Γ H x ro out A er md) (hbz : gb0 Γ ≤ H.size) (hS : va_S (gA Γ) s.heap H locs) (hl : lv_has ls 8 [(4, .int (nI (6 * j))), (3, .ref out), (2, .ref (A 0)), (1, .ref x), (0, .ref b)]) (hk : ∀ (H2 : Heap) (locs2 : List Loc) (ls2 : Array Slot) (er2 : Int32) (md2 : Nat), LI Γ H2 x ro out A er2 md2 → gb0 Γ ≤ H2.size → va_S (gA Γ) s.heap H2 locs2 → lv_has ls2 8 [(4, .int (nI (6 * j))), (3, .ref out), (2, .ref (A 0)), (1, .ref x), (0, .ref b)] → W p l e room_1 s m #[Value.ref b] below meth c H2 locs2 (20 + 26 * j + 26) (6000 + 112 * j + 112) (lw_Z below #[Value.ref b] s) (F0 m 667 ls2 [])) : W p l e room_1 s m #[Value.ref b] below meth c H locs (20 + 26 * j) (6000 + 112 * j) (lw_Z below #[Value.ref b] s) (F0 m 292 ls []) := by
  obtain ⟨hx, hb, hr, hml, hown, hts, hScr, hbl, hlocks, hgv⟩ := C0
  have hown : s.vm.findClass RL = some m.cls := hown
  have hg : ∀ w ∈ gW, w.before #[Value.ref b] s = true := fun w h => hts w (gW_tbl h)
  have hbA : ¬ gA Γ b := by unfold gA; omega
  obtain ⟨fof, fke, fst, fnu, fno, fla, fot, rt, fo, hSX, hP, hD, hMI, hmd1, hJ⟩ := hI
  obtain ⟨z1, z2, z3, z4, z5, z6, z7, z8⟩ := hZ
  have hmd : md ≤ 400 := hSX.2.2.1
  refine lv_aload_n hx hb dL_law_292 rfl (lv_at hl 3 rfl) ?_
  refine lv_aload_n hx hb dL_law_293 rfl (lv_at hl 4 rfl) ?_
  refine lv_iload hx hb dL_law_294 (lv_at hl 0 rfl) ?_
  refine lv_iconst (v := 1) hx hb dL_law_296 (by decide) ?_
  refine lv_iadd hx hb dL_law_297 ?_
  refine lv_topi (fun i298 ei298 => ?_)
  have ei298 : i298 = nI (6 * j + 1) := ei298.trans (nI_add (6 * j) 1)
  subst ei298
  refine va_sld hx hb hScr hbl hbA hS (vp_in_nI (show 6 * j + 1 < L by omega) (by omega)) dL_law_298 ?_
  rw [nI_clamp (show 6 * j + 1 < 2 ^ 31 by omega)]
  refine lv_aload_n hx hb dL_law_299 rfl (lv_at hl 4 rfl) ?_
  refine lv_iload hx hb dL_law_300 (lv_at hl 0 rfl) ?_
  refine lv_iconst (v := 2) hx hb dL_law_302 (by decide) ?_
  refine lv_iadd hx hb dL_law_303 ?_
  refine lv_topi (fun i304 ei304 => ?_)
  have ei304 : i304 = nI (6 * j + 2) := ei304.trans (nI_add (6 * j) 2)
  subst ei304
  refine va_sld hx hb hScr hbl hbA hS (vp_in_nI (show 6 * j + 2 < L by omega) (by omega)) dL_law_304 ?_
  rw [nI_clamp (show 6 * j + 2 < 2 ^ 31 by omega)]
  refine lv_aload_n hx hb dL_law_305 rfl (lv_at hl 1 rfl) ?_
  have hzo : gz Γ ≤ out := by omega
  have hsz : gz Γ ≤ H.size := by have := hS.1; omega
  refine va_calli (vx_runSW (As := [.ref x, .int (xs (6 * j + 1)), .int (xs (6 * j + 2)), .ref out]) (rest := []) ⟨hx, hb, hml, hown, hg⟩ (c_L_get l hnt Γ H (t := (xs (6 * j + 1))) (k := (xs (6 * j + 2))) hSX hJ z5 z1 z2 hzo (by omega) (by omega) z8 (by omega) (by omega) hbz) (vx_cwSW 4 hg gL_61 rfl rfl rfl (by decide +kernel) ⟨Nat.le_of_ble_eq_true rfl, Nat.le_of_ble_eq_true rfl⟩) (gP_S hW hS) rfl rfl hl.1 rfl (lv_room (Nat.le_of_ble_eq_true rfl)) dL_law_306 ⟨by show 20 + 26 * j + 3 ≤ 657075; omega, by show 6000 + 112 * j + 18 ≤ 7124880; omega⟩) hS (fun q _ h => by rw [show q = out from h]; exact hzo) (fun q h => h.elim (fun h => by rw [h]; exact hzo) (fun h => Nat.le_trans hsz h)) (fun r u t9 H1 locs1 ht hvm hp hB hz1 hk1 hS => ?_)
  rw [ht] at hB
  have hP1 := wM_kept hP hD hk1 (fun q hq => fun h => by have := hq.1; have := hq.2; omega)
  refine lv_istore (lv' := [(5, .int r), (4, .int (nI (6 * j))), (3, .ref out), (2, .ref (A 0)), (1, .ref x), (0, .ref b)]) hx hb dL_law_309 hl (by decide) rfl (fun ls hl => ?_)
  refine lv_aload_n hx hb dL_law_311 rfl (lv_at hl 3 rfl) ?_
  refine lv_aload_n hx hb dL_law_312 rfl (lv_at hl 5 rfl) ?_
  refine lv_iload hx hb dL_law_313 (lv_at hl 1 rfl) ?_
  refine lv_iconst (v := 1) hx hb dL_law_315 (by decide) ?_
  refine lv_iadd hx hb dL_law_316 ?_
  refine lv_topi (fun i317 ei317 => ?_)
  have ei317 : i317 = nI (6 * j + 1) := ei317.trans (nI_add (6 * j) 1)
  subst ei317
  refine va_sld hx hb hScr hbl hbA hS (vp_in_nI (show 6 * j + 1 < L by omega) (by omega)) dL_law_317 ?_
  rw [nI_clamp (show 6 * j + 1 < 2 ^ 31 by omega)]
  refine lv_aload_n hx hb dL_law_318 rfl (lv_at hl 5 rfl) ?_
  refine lv_iload hx hb dL_law_319 (lv_at hl 1 rfl) ?_
  refine lv_iconst (v := 2) hx hb dL_law_321 (by decide) ?_
  refine lv_iadd hx hb dL_law_322 ?_
  refine lv_topi (fun i323 ei323 => ?_)
  have ei323 : i323 = nI (6 * j + 2) := ei323.trans (nI_add (6 * j) 2)
  subst ei323
  refine va_sld hx hb hScr hbl hbA hS (vp_in_nI (show 6 * j + 2 < L by omega) (by omega)) dL_law_323 ?_
  rw [nI_clamp (show 6 * j + 2 < 2 ^ 31 by omega)]
  have hmz : ∀ q, mA Γ q → gA Γ q := fun q h => by have := h.1; show gz Γ ≤ q; omega
  refine va_calll (va_runV (As := [.int (xs (6 * j + 1)), .int (xs (6 * j + 2))]) (rest := []) ⟨hx, hb, hml, hown, hg⟩ (c_M_get l Γ H1 (t := (xs (6 * j + 1))) (k := (xs (6 * j + 2))) hP1 hD (by omega) hmd hMI) (cwV 2 hg gL_64 rfl rfl rfl (by decide +kernel) ⟨Nat.le_of_ble_eq_true rfl, Nat.le_of_ble_eq_true rfl⟩) (gP_V hW hS (ci := 2) rfl (hP1 0 _ rfl)) rfl rfl hl.1 rfl (lv_room (Nat.le_of_ble_eq_true rfl)) dL_law_324 ⟨by show 20 + 26 * j + 3 + 0 ≤ 657075; omega, by show 6000 + 112 * j + 18 + 0 ≤ 7124880; omega⟩) hS (fun q _ h => hmz q h) (fun q h => hmz q h) (fun r2 u2 t8 H2 locs2 ht2 hvm2 hp2 hB2 hz2 hk2 hS => ?_)
  rw [ht2] at hB2
  have hX2 : hX (mA Γ) H1 H2 := ⟨hz2, fun q h1 h2 => hk2 q h1 h2⟩
  have hSk : ∀ {rt9 : Nat → Option Nat} {md9 : Nat} {V9 : Nat → Nat → Option Int64} {S9 : Nat → Nat → Int32}, SX Γ H1 x ro md9 rt9 V9 S9 → SX Γ H2 x ro md9 rt9 V9 S9 := fun h => h.kept hX2 (fun h => by have := h.1; omega) (fun h => by have := h.1; omega) (fun q h => by have := h.2; omega)
  have hJk : ∀ {f9 : Nat → Int64}, oJ Γ H1 out 1 f9 → oJ Γ H2 out 1 f9 := fun h => hX2.at h (fun h => by have := h.2; omega)
  have hall : ∃ er2 md2, LI Γ H2 x ro out A er2 md2 ∧ r = er2 ∧ (r = 0 → ∃ fo3, oJ Γ H2 out 1 fo3 ∧ fo3 (0 : Int32).toNatClampNeg = r2) := by
    obtain ⟨u1, val⟩ := u
    obtain ⟨hS1, fo1, hJ1, hfo⟩ := hB
    rcases hp with ⟨h1, hr1, q1⟩ | ⟨h1, hr1, q1⟩ | ⟨h1, hr1, q1⟩
    · rcases hp2 with ⟨h2, -, -⟩ | ⟨h2, ⟨tj, kj, a1, a2, a3, a4, -⟩, -⟩ | ⟨h2, tj, kj, a1, a2, a3, a4, -⟩
      · subst h2
        exact ⟨1, md, ⟨fof, fke, fst, fnu, fno, fla, fot, rt, fo1, hSk hS1, hB2, vD_map (by rfl) hD, hMI, hmd1, hJk hJ1⟩, hr1, fun h => by rw [hr1] at h; exact absurd h (by decide)⟩
      · exact absurd ⟨⟨tj, a1, a2⟩, ⟨kj, a3, a4⟩⟩ q1
      · exact absurd ⟨⟨tj, a1, a2⟩, ⟨kj, a3, a4⟩⟩ q1
    · obtain ⟨ti, ki, b1, b2, b3, b4, b5⟩ := q1
      rcases hp2 with ⟨h2, hbad, -⟩ | ⟨h2, -, -⟩ | ⟨h2, tj, kj, a1, a2, a3, a4, a5⟩
      · exact absurd ⟨⟨ti, b1, b2⟩, ⟨ki, b3, b4⟩⟩ hbad
      · subst h2
        exact ⟨2, md, ⟨fof, fke, fst, fnu, fno, fla, fot, rt, fo1, hSk hS1, hB2, vD_map (by rfl) hD, hMI, hmd1, hJk hJ1⟩, hr1, fun h => by rw [hr1] at h; exact absurd h (by decide)⟩
      · rw [nI_inj a2 b2 (by omega) (by omega), nI_inj a4 b4 (by omega) (by omega), b5] at a5
        exact nomatch a5
    · obtain ⟨ti, ki, b1, b2, b3, b4, b5⟩ := q1
      rcases hp2 with ⟨h2, hbad, -⟩ | ⟨h2, ⟨tj, kj, a1, a2, a3, a4, a5⟩, -⟩ | ⟨h2, tj, kj, a1, a2, a3, a4, a5⟩
      · exact absurd ⟨⟨ti, b1, b2⟩, ⟨ki, b3, b4⟩⟩ hbad
      · rw [nI_inj a2 b2 (by omega) (by omega), nI_inj a4 b4 (by omega) (by omega), b5] at a5
        exact nomatch a5
      · subst h2
        rw [nI_inj a2 b2 (by omega) (by omega), nI_inj a4 b4 (by omega) (by omega), b5] at a5
        exact ⟨0, md, ⟨fof, fke, fst, fnu, fno, fla, fot, rt, fo1, hSk hS1, hB2, vD_map (by rfl) hD, hMI, hmd1, hJk hJ1⟩, hr1, fun _ => ⟨fo1, hJk hJ1, (hfo h1).trans (Option.some.inj a5)⟩⟩
  refine lv_lstore (lv' := [(6, .long r2), (5, .int r), (4, .int (nI (6 * j))), (3, .ref out), (2, .ref (A 0)), (1, .ref x), (0, .ref b)]) hx hb dL_law_327 hl (by decide) rfl (fun ls hl => ?_)
  refine lv_aload_n hx hb dL_law_329 rfl (lv_at hl 4 rfl) ?_
  obtain ⟨er2, md2, hLI, hE, hV⟩ := hall
  obtain ⟨fof2, fke2, fst2, fnu2, fno2, fla2, fot2, rt2, fo2, hSX2, hP2, hD2, hM2, hm2, hJ2⟩ := id hLI
  refine vp_callSi (W.runV (As := []) (rest := []) ⟨hx, hb, hml, hown, hg⟩ (c_M_thrown l Γ H2 hP2) (cwV 0 hg gL_53 rfl rfl rfl (by decide +kernel) ⟨Nat.le_of_ble_eq_true rfl, Nat.le_of_ble_eq_true rfl⟩) (gP_V hW hS (ci := 2) rfl (hP2 0 _ rfl)) rfl rfl hl.1 rfl (lv_room (Nat.le_of_ble_eq_true rfl)) dL_law_330 ⟨by show 20 + 26 * j + 3 + 0 + 0 ≤ 657075; omega, by show 6000 + 112 * j + 18 + 0 + 0 ≤ 7124880; omega⟩) (fun r4 hr4 => ?_)
  subst hr4
  refine lv_iload hx hb dL_law_333 (lv_at hl 1 rfl) ?_
  refine lv_icmp_eq (tgt := 340) hx hb dL_law_335 (by decide) (fun k1 => ?_) (fun k1 => ?_)
  · refine lv_iload hx hb dL_law_340 (lv_at hl 1 rfl) ?_
    refine lv_if_ne (tgt := 356) hx hb dL_law_342 (by decide) (fun k2 => ?_) (fun k2 => ?_)
    · refine lv_goto (tgt := 667) hx hb dL_law_356 (by decide) ?_
      refine W.widen (k := 20 + 26 * j + 26) (n := 6000 + 112 * j + 112) (by omega) (by omega) ?_
      exact hk H2 locs2 ls r4 md2 hLI (by omega) hS (lv_sub hl [2, 3, 4, 5, 6] rfl)
    · obtain ⟨fo3, hJ3, hV3⟩ := hV k2
      refine lv_aload_n hx hb dL_law_345 rfl (lv_at hl 3 rfl) ?_
      refine lv_iconst (v := 0) hx hb dL_law_346 (by decide) ?_
      refine va_lald (D := Γ.1) (cl := gC) (tys := gT Γ) hx hb hW.1 (p1 hJ3) 0 0 rfl rfl (by unfold vp_in; decide) dL_law_347 ?_
      refine lv_lload hx hb dL_law_348 (lv_at hl 0 rfl) ?_
      refine W.lcmp hx hb dL_law_350 ?_
      refine lv_if_eq (tgt := 356) hx hb dL_law_351 (by decide) (fun k3 => ?_) (fun k3 => ?_)
      · refine lv_goto (tgt := 667) hx hb dL_law_356 (by decide) ?_
        refine W.widen (k := 20 + 26 * j + 26) (n := 6000 + 112 * j + 112) (by omega) (by omega) ?_
        exact hk H2 locs2 ls r4 md2 hLI (by omega) hS (lv_sub hl [2, 3, 4, 5, 6] rfl)
      · exact absurd ((lg_cmp_eq _ _).mpr hV3) k3
  · exact absurd hE.symm k1
set_option maxHeartbeats 4000000 in
set_option maxRecDepth 100000 in
theorem law_stamp {p : Program} {l : Launch} {e : Env} {s : State} {m : MethodId} {below : List Frame} {meth : Method} {c : Code} {b L : Nat} {xs : Nat → Int32} {Γ : gE} {x ro out : Nat} {A : Nat → Nat} (hnt : l.stackTraces = false) (C0 : lw_At p s m meth c b L xs) (hW : PW Γ s) (hgz : gz Γ = s.heap.size) (hZ : ZF Γ x ro out) {j md : Nat} {er : Int32} {H : Heap} {locs : List Loc} {ls : Array Slot} (hL : L ≤ 3072) (hj : 6 * j + 6 ≤ L) (hI : LI Γ H x ro out A er md) (hbz : gb0 Γ ≤ H.size) (hS : va_S (gA Γ) s.heap H locs) (hl : lv_has ls 8 [(4, .int (nI (6 * j))), (3, .ref out), (2, .ref (A 0)), (1, .ref x), (0, .ref b)]) (hk : ∀ (H2 : Heap) (locs2 : List Loc) (ls2 : Array Slot) (er2 : Int32) (md2 : Nat), LI Γ H2 x ro out A er2 md2 → gb0 Γ ≤ H2.size → va_S (gA Γ) s.heap H2 locs2 → lv_has ls2 8 [(4, .int (nI (6 * j))), (3, .ref out), (2, .ref (A 0)), (1, .ref x), (0, .ref b)] → W p l e room_1 s m #[Value.ref b] below meth c H2 locs2 (20 + 26 * j + 26) (6000 + 112 * j + 112) (lw_Z below #[Value.ref b] s) (F0 m 667 ls2 [])) : W p l e room_1 s m #[Value.ref b] below meth c H locs (20 + 26 * j) (6000 + 112 * j) (lw_Z below #[Value.ref b] s) (F0 m 359 ls []) := by
  obtain ⟨hx, hb, hr, hml, hown, hts, hScr, hbl, hlocks, hgv⟩ := C0
  have hown : s.vm.findClass RL = some m.cls := hown
  have hg : ∀ w ∈ gW, w.before #[Value.ref b] s = true := fun w h => hts w (gW_tbl h)
  have hbA : ¬ gA Γ b := by unfold gA; omega
  obtain ⟨fof, fke, fst, fnu, fno, fla, fot, rt, fo, hSX, hP, hD, hMI, hmd1, hJ⟩ := hI
  obtain ⟨z1, z2, z3, z4, z5, z6, z7, z8⟩ := hZ
  have hmd : md ≤ 400 := hSX.2.2.1
  refine lv_aload_n hx hb dL_law_359 rfl (lv_at hl 3 rfl) ?_
  refine lv_aload_n hx hb dL_law_360 rfl (lv_at hl 4 rfl) ?_
  refine lv_iload hx hb dL_law_361 (lv_at hl 0 rfl) ?_
  refine lv_iconst (v := 1) hx hb dL_law_363 (by decide) ?_
  refine lv_iadd hx hb dL_law_364 ?_
  refine lv_topi (fun i365 ei365 => ?_)
  have ei365 : i365 = nI (6 * j + 1) := ei365.trans (nI_add (6 * j) 1)
  subst ei365
  refine va_sld hx hb hScr hbl hbA hS (vp_in_nI (show 6 * j + 1 < L by omega) (by omega)) dL_law_365 ?_
  rw [nI_clamp (show 6 * j + 1 < 2 ^ 31 by omega)]
  refine lv_aload_n hx hb dL_law_366 rfl (lv_at hl 4 rfl) ?_
  refine lv_iload hx hb dL_law_367 (lv_at hl 0 rfl) ?_
  refine lv_iconst (v := 2) hx hb dL_law_369 (by decide) ?_
  refine lv_iadd hx hb dL_law_370 ?_
  refine lv_topi (fun i371 ei371 => ?_)
  have ei371 : i371 = nI (6 * j + 2) := ei371.trans (nI_add (6 * j) 2)
  subst ei371
  refine va_sld hx hb hScr hbl hbA hS (vp_in_nI (show 6 * j + 2 < L by omega) (by omega)) dL_law_371 ?_
  rw [nI_clamp (show 6 * j + 2 < 2 ^ 31 by omega)]
  refine lv_aload_n hx hb dL_law_372 rfl (lv_at hl 1 rfl) ?_
  have hzo : gz Γ ≤ out := by omega
  have hsz : gz Γ ≤ H.size := by have := hS.1; omega
  refine va_calli (vx_runSW (As := [.ref x, .int (xs (6 * j + 1)), .int (xs (6 * j + 2)), .ref out]) (rest := []) ⟨hx, hb, hml, hown, hg⟩ (c_L_stamp l hnt Γ H (t := (xs (6 * j + 1))) (k := (xs (6 * j + 2))) hSX hJ z5 z1 z2 hzo (by omega) (by omega) z8 (by omega) (by omega) hbz) (vx_cwSW 4 hg gL_65 rfl rfl rfl (by decide +kernel) ⟨Nat.le_of_ble_eq_true rfl, Nat.le_of_ble_eq_true rfl⟩) (gP_S hW hS) rfl rfl hl.1 rfl (lv_room (Nat.le_of_ble_eq_true rfl)) dL_law_373 ⟨by show 20 + 26 * j + 3 ≤ 657075; omega, by show 6000 + 112 * j + 18 ≤ 7124880; omega⟩) hS (fun q _ h => by rw [show q = out from h]; exact hzo) (fun q h => h.elim (fun h => by rw [h]; exact hzo) (fun h => Nat.le_trans hsz h)) (fun r u t9 H1 locs1 ht hvm hp hB hz1 hk1 hS => ?_)
  rw [ht] at hB
  have hP1 := wM_kept hP hD hk1 (fun q hq => fun h => by have := hq.1; have := hq.2; omega)
  refine lv_istore (lv' := [(5, .int r), (4, .int (nI (6 * j))), (3, .ref out), (2, .ref (A 0)), (1, .ref x), (0, .ref b)]) hx hb dL_law_376 hl (by decide) rfl (fun ls hl => ?_)
  refine lv_aload_n hx hb dL_law_378 rfl (lv_at hl 3 rfl) ?_
  refine lv_aload_n hx hb dL_law_379 rfl (lv_at hl 5 rfl) ?_
  refine lv_iload hx hb dL_law_380 (lv_at hl 1 rfl) ?_
  refine lv_iconst (v := 1) hx hb dL_law_382 (by decide) ?_
  refine lv_iadd hx hb dL_law_383 ?_
  refine lv_topi (fun i384 ei384 => ?_)
  have ei384 : i384 = nI (6 * j + 1) := ei384.trans (nI_add (6 * j) 1)
  subst ei384
  refine va_sld hx hb hScr hbl hbA hS (vp_in_nI (show 6 * j + 1 < L by omega) (by omega)) dL_law_384 ?_
  rw [nI_clamp (show 6 * j + 1 < 2 ^ 31 by omega)]
  refine lv_aload_n hx hb dL_law_385 rfl (lv_at hl 5 rfl) ?_
  refine lv_iload hx hb dL_law_386 (lv_at hl 1 rfl) ?_
  refine lv_iconst (v := 2) hx hb dL_law_388 (by decide) ?_
  refine lv_iadd hx hb dL_law_389 ?_
  refine lv_topi (fun i390 ei390 => ?_)
  have ei390 : i390 = nI (6 * j + 2) := ei390.trans (nI_add (6 * j) 2)
  subst ei390
  refine va_sld hx hb hScr hbl hbA hS (vp_in_nI (show 6 * j + 2 < L by omega) (by omega)) dL_law_390 ?_
  rw [nI_clamp (show 6 * j + 2 < 2 ^ 31 by omega)]
  have hmz : ∀ q, mA Γ q → gA Γ q := fun q h => by have := h.1; show gz Γ ≤ q; omega
  refine va_calli (va_runV (As := [.int (xs (6 * j + 1)), .int (xs (6 * j + 2))]) (rest := []) ⟨hx, hb, hml, hown, hg⟩ (c_M_stamp l Γ H1 (t := (xs (6 * j + 1))) (k := (xs (6 * j + 2))) hP1 hD (by omega) hmd hMI) (cwV 2 hg gL_67 rfl rfl rfl (by decide +kernel) ⟨Nat.le_of_ble_eq_true rfl, Nat.le_of_ble_eq_true rfl⟩) (gP_V hW hS (ci := 2) rfl (hP1 0 _ rfl)) rfl rfl hl.1 rfl (lv_room (Nat.le_of_ble_eq_true rfl)) dL_law_391 ⟨by show 20 + 26 * j + 3 + 0 ≤ 657075; omega, by show 6000 + 112 * j + 18 + 0 ≤ 7124880; omega⟩) hS (fun q _ h => hmz q h) (fun q h => hmz q h) (fun r2 u2 t8 H2 locs2 ht2 hvm2 hp2 hB2 hz2 hk2 hS => ?_)
  rw [ht2] at hB2
  have hX2 : hX (mA Γ) H1 H2 := ⟨hz2, fun q h1 h2 => hk2 q h1 h2⟩
  have hSk : ∀ {rt9 : Nat → Option Nat} {md9 : Nat} {V9 : Nat → Nat → Option Int64} {S9 : Nat → Nat → Int32}, SX Γ H1 x ro md9 rt9 V9 S9 → SX Γ H2 x ro md9 rt9 V9 S9 := fun h => h.kept hX2 (fun h => by have := h.1; omega) (fun h => by have := h.1; omega) (fun q h => by have := h.2; omega)
  have hJk : ∀ {f9 : Nat → Int64}, oJ Γ H1 out 1 f9 → oJ Γ H2 out 1 f9 := fun h => hX2.at h (fun h => by have := h.2; omega)
  have hall : ∃ er2 md2, LI Γ H2 x ro out A er2 md2 ∧ r = er2 ∧ (r = 0 → ∃ fo3, oJ Γ H2 out 1 fo3 ∧ fo3 (0 : Int32).toNatClampNeg = r2.toInt64) := by
    obtain ⟨u1, val⟩ := u
    obtain ⟨hS1, fo1, hJ1, hfo⟩ := hB
    rcases hp with ⟨h1, hr1, q1⟩ | ⟨h1, hr1, q1⟩ | ⟨h1, hr1, q1⟩
    · rcases hp2 with ⟨h2, -, -⟩ | ⟨h2, tj, kj, a1, a2, a3, a4, -⟩
      · subst h2
        exact ⟨1, md, ⟨fof, fke, fst, fnu, fno, fla, fot, rt, fo1, hSk hS1, hB2, vD_map (by rfl) hD, hMI, hmd1, hJk hJ1⟩, hr1, fun h => by rw [hr1] at h; exact absurd h (by decide)⟩
      · exact absurd ⟨⟨tj, a1, a2⟩, ⟨kj, a3, a4⟩⟩ q1
    · exact q1.elim
    · obtain ⟨ti, ki, b1, b2, b3, b4, b5⟩ := q1
      rcases hp2 with ⟨h2, hbad, -⟩ | ⟨h2, tj, kj, a1, a2, a3, a4, a5⟩
      · exact absurd ⟨⟨ti, b1, b2⟩, ⟨ki, b3, b4⟩⟩ hbad
      · subst h2
        rw [nI_inj a2 b2 (by omega) (by omega), nI_inj a4 b4 (by omega) (by omega)] at a5
        have b5 : val = (mSt fof fke fst ti ki).toInt64 := b5
        exact ⟨0, md, ⟨fof, fke, fst, fnu, fno, fla, fot, rt, fo1, hSk hS1, hB2, vD_map (by rfl) hD, hMI, hmd1, hJk hJ1⟩, hr1, fun _ => ⟨fo1, hJk hJ1, (hfo h1).trans (by rw [b5, a5])⟩⟩
  refine lv_istore (lv' := [(6, .int r2), (5, .int r), (4, .int (nI (6 * j))), (3, .ref out), (2, .ref (A 0)), (1, .ref x), (0, .ref b)]) hx hb dL_law_394 hl (by decide) rfl (fun ls hl => ?_)
  refine lv_aload_n hx hb dL_law_396 rfl (lv_at hl 4 rfl) ?_
  obtain ⟨er2, md2, hLI, hE, hV⟩ := hall
  obtain ⟨fof2, fke2, fst2, fnu2, fno2, fla2, fot2, rt2, fo2, hSX2, hP2, hD2, hM2, hm2, hJ2⟩ := id hLI
  refine vp_callSi (W.runV (As := []) (rest := []) ⟨hx, hb, hml, hown, hg⟩ (c_M_thrown l Γ H2 hP2) (cwV 0 hg gL_53 rfl rfl rfl (by decide +kernel) ⟨Nat.le_of_ble_eq_true rfl, Nat.le_of_ble_eq_true rfl⟩) (gP_V hW hS (ci := 2) rfl (hP2 0 _ rfl)) rfl rfl hl.1 rfl (lv_room (Nat.le_of_ble_eq_true rfl)) dL_law_397 ⟨by show 20 + 26 * j + 3 + 0 + 0 ≤ 657075; omega, by show 6000 + 112 * j + 18 + 0 + 0 ≤ 7124880; omega⟩) (fun r4 hr4 => ?_)
  subst hr4
  refine lv_iload hx hb dL_law_400 (lv_at hl 1 rfl) ?_
  refine lv_icmp_eq (tgt := 407) hx hb dL_law_402 (by decide) (fun k1 => ?_) (fun k1 => ?_)
  · refine lv_iload hx hb dL_law_407 (lv_at hl 1 rfl) ?_
    refine lv_if_ne (tgt := 424) hx hb dL_law_409 (by decide) (fun k2 => ?_) (fun k2 => ?_)
    · refine lv_goto (tgt := 667) hx hb dL_law_424 (by decide) ?_
      refine W.widen (k := 20 + 26 * j + 26) (n := 6000 + 112 * j + 112) (by omega) (by omega) ?_
      exact hk H2 locs2 ls r4 md2 hLI (by omega) hS (lv_sub hl [2, 3, 4, 5, 6] rfl)
    · obtain ⟨fo3, hJ3, hV3⟩ := hV k2
      refine lv_aload_n hx hb dL_law_412 rfl (lv_at hl 3 rfl) ?_
      refine lv_iconst (v := 0) hx hb dL_law_413 (by decide) ?_
      refine va_lald (D := Γ.1) (cl := gC) (tys := gT Γ) hx hb hW.1 (p1 hJ3) 0 0 rfl rfl (by unfold vp_in; decide) dL_law_414 ?_
      refine lv_iload hx hb dL_law_415 (lv_at hl 0 rfl) ?_
      refine lv_i2l (v := r2.toInt64) hx hb dL_law_417 rfl ?_
      refine W.lcmp hx hb dL_law_418 ?_
      refine lv_if_eq (tgt := 424) hx hb dL_law_419 (by decide) (fun k3 => ?_) (fun k3 => ?_)
      · refine lv_goto (tgt := 667) hx hb dL_law_424 (by decide) ?_
        refine W.widen (k := 20 + 26 * j + 26) (n := 6000 + 112 * j + 112) (by omega) (by omega) ?_
        exact hk H2 locs2 ls r4 md2 hLI (by omega) hS (lv_sub hl [2, 3, 4, 5, 6] rfl)
      · exact absurd ((lg_cmp_eq _ _).mpr hV3) k3
  · exact absurd hE.symm k1
set_option maxHeartbeats 4000000 in
set_option maxRecDepth 100000 in
theorem law_part {p : Program} {l : Launch} {e : Env} {s : State} {m : MethodId} {below : List Frame} {meth : Method} {c : Code} {b L : Nat} {xs : Nat → Int32} {Γ : gE} {x ro out : Nat} {A : Nat → Nat} (hnt : l.stackTraces = false) (C0 : lw_At p s m meth c b L xs) (hW : PW Γ s) (hgz : gz Γ = s.heap.size) (hZ : ZF Γ x ro out) {j md : Nat} {er : Int32} {H : Heap} {locs : List Loc} {ls : Array Slot} (hL : L ≤ 3072) (hj : 6 * j + 6 ≤ L) (hI : LI Γ H x ro out A er md) (hbz : gb0 Γ ≤ H.size) (hS : va_S (gA Γ) s.heap H locs) (hl : lv_has ls 8 [(4, .int (nI (6 * j))), (3, .ref out), (2, .ref (A 0)), (1, .ref x), (0, .ref b)]) (hk : ∀ (H2 : Heap) (locs2 : List Loc) (ls2 : Array Slot) (er2 : Int32) (md2 : Nat), LI Γ H2 x ro out A er2 md2 → gb0 Γ ≤ H2.size → va_S (gA Γ) s.heap H2 locs2 → lv_has ls2 8 [(4, .int (nI (6 * j))), (3, .ref out), (2, .ref (A 0)), (1, .ref x), (0, .ref b)] → W p l e room_1 s m #[Value.ref b] below meth c H2 locs2 (20 + 26 * j + 26) (6000 + 112 * j + 112) (lw_Z below #[Value.ref b] s) (F0 m 667 ls2 [])) : W p l e room_1 s m #[Value.ref b] below meth c H locs (20 + 26 * j) (6000 + 112 * j) (lw_Z below #[Value.ref b] s) (F0 m 427 ls []) := by
  obtain ⟨hx, hb, hr, hml, hown, hts, hScr, hbl, hlocks, hgv⟩ := C0
  have hown : s.vm.findClass RL = some m.cls := hown
  have hg : ∀ w ∈ gW, w.before #[Value.ref b] s = true := fun w h => hts w (gW_tbl h)
  have hbA : ¬ gA Γ b := by unfold gA; omega
  obtain ⟨fof, fke, fst, fnu, fno, fla, fot, rt, fo, hSX, hP, hD, hMI, hmd1, hJ⟩ := hI
  obtain ⟨z1, z2, z3, z4, z5, z6, z7, z8⟩ := hZ
  have hmd : md ≤ 400 := hSX.2.2.1
  refine lv_aload_n hx hb dL_law_427 rfl (lv_at hl 3 rfl) ?_
  refine lv_aload_n hx hb dL_law_428 rfl (lv_at hl 4 rfl) ?_
  refine lv_iload hx hb dL_law_429 (lv_at hl 0 rfl) ?_
  refine lv_iconst (v := 1) hx hb dL_law_431 (by decide) ?_
  refine lv_iadd hx hb dL_law_432 ?_
  refine lv_topi (fun i433 ei433 => ?_)
  have ei433 : i433 = nI (6 * j + 1) := ei433.trans (nI_add (6 * j) 1)
  subst ei433
  refine va_sld hx hb hScr hbl hbA hS (vp_in_nI (show 6 * j + 1 < L by omega) (by omega)) dL_law_433 ?_
  rw [nI_clamp (show 6 * j + 1 < 2 ^ 31 by omega)]
  refine lv_aload_n hx hb dL_law_434 rfl (lv_at hl 4 rfl) ?_
  refine lv_iload hx hb dL_law_435 (lv_at hl 0 rfl) ?_
  refine lv_iconst (v := 2) hx hb dL_law_437 (by decide) ?_
  refine lv_iadd hx hb dL_law_438 ?_
  refine lv_topi (fun i439 ei439 => ?_)
  have ei439 : i439 = nI (6 * j + 2) := ei439.trans (nI_add (6 * j) 2)
  subst ei439
  refine va_sld hx hb hScr hbl hbA hS (vp_in_nI (show 6 * j + 2 < L by omega) (by omega)) dL_law_439 ?_
  rw [nI_clamp (show 6 * j + 2 < 2 ^ 31 by omega)]
  refine lv_aload_n hx hb dL_law_440 rfl (lv_at hl 4 rfl) ?_
  refine lv_iload hx hb dL_law_441 (lv_at hl 0 rfl) ?_
  refine lv_iconst (v := 3) hx hb dL_law_443 (by decide) ?_
  refine lv_iadd hx hb dL_law_444 ?_
  refine lv_topi (fun i445 ei445 => ?_)
  have ei445 : i445 = nI (6 * j + 3) := ei445.trans (nI_add (6 * j) 3)
  subst ei445
  refine va_sld hx hb hScr hbl hbA hS (vp_in_nI (show 6 * j + 3 < L by omega) (by omega)) dL_law_445 ?_
  rw [nI_clamp (show 6 * j + 3 < 2 ^ 31 by omega)]
  refine lv_aload_n hx hb dL_law_446 rfl (lv_at hl 4 rfl) ?_
  refine lv_iload hx hb dL_law_447 (lv_at hl 0 rfl) ?_
  refine lv_iconst (v := 4) hx hb dL_law_449 (by decide) ?_
  refine lv_iadd hx hb dL_law_450 ?_
  refine lv_topi (fun i451 ei451 => ?_)
  have ei451 : i451 = nI (6 * j + 4) := ei451.trans (nI_add (6 * j) 4)
  subst ei451
  refine va_sld hx hb hScr hbl hbA hS (vp_in_nI (show 6 * j + 4 < L by omega) (by omega)) dL_law_451 ?_
  rw [nI_clamp (show 6 * j + 4 < 2 ^ 31 by omega)]
  refine lv_aload_n hx hb dL_law_452 rfl (lv_at hl 1 rfl) ?_
  have hzo : gz Γ ≤ out := by omega
  have hsz : gz Γ ≤ H.size := by have := hS.1; omega
  refine va_calli (vx_runSW (As := [.ref x, .int (xs (6 * j + 1)), .int (xs (6 * j + 2)), .int (xs (6 * j + 3)), .int (xs (6 * j + 4)), .ref out]) (rest := []) ⟨hx, hb, hml, hown, hg⟩ (c_L_part l hnt Γ H (t := (xs (6 * j + 1))) (lo := (xs (6 * j + 2))) (hi := (xs (6 * j + 3))) (wh := (xs (6 * j + 4))) hSX hJ z5 z1 z2 hzo (by omega) (by omega) z8 (by omega) (by omega) hbz) (vx_cwSW 6 hg gL_68 rfl rfl rfl (by decide +kernel) ⟨Nat.le_of_ble_eq_true rfl, Nat.le_of_ble_eq_true rfl⟩) (gP_S hW hS) rfl rfl hl.1 rfl (lv_room (Nat.le_of_ble_eq_true rfl)) dL_law_453 ⟨by show 20 + 26 * j + 4 ≤ 657075; omega, by show 6000 + 112 * j + 24 ≤ 7124880; omega⟩) hS (fun q _ h => by rw [show q = out from h]; exact hzo) (fun q h => h.elim (fun h => by rw [h]; exact hzo) (fun h => Nat.le_trans hsz h)) (fun r u t9 H1 locs1 ht hvm hp hB hz1 hk1 hS => ?_)
  rw [ht] at hB
  have hP1 := wM_kept hP hD hk1 (fun q hq => fun h => by have := hq.1; have := hq.2; omega)
  refine lv_istore (lv' := [(5, .int r), (4, .int (nI (6 * j))), (3, .ref out), (2, .ref (A 0)), (1, .ref x), (0, .ref b)]) hx hb dL_law_456 hl (by decide) rfl (fun ls hl => ?_)
  refine lv_aload_n hx hb dL_law_458 rfl (lv_at hl 3 rfl) ?_
  refine lv_aload_n hx hb dL_law_459 rfl (lv_at hl 5 rfl) ?_
  refine lv_iload hx hb dL_law_460 (lv_at hl 1 rfl) ?_
  refine lv_iconst (v := 1) hx hb dL_law_462 (by decide) ?_
  refine lv_iadd hx hb dL_law_463 ?_
  refine lv_topi (fun i464 ei464 => ?_)
  have ei464 : i464 = nI (6 * j + 1) := ei464.trans (nI_add (6 * j) 1)
  subst ei464
  refine va_sld hx hb hScr hbl hbA hS (vp_in_nI (show 6 * j + 1 < L by omega) (by omega)) dL_law_464 ?_
  rw [nI_clamp (show 6 * j + 1 < 2 ^ 31 by omega)]
  refine lv_aload_n hx hb dL_law_465 rfl (lv_at hl 5 rfl) ?_
  refine lv_iload hx hb dL_law_466 (lv_at hl 1 rfl) ?_
  refine lv_iconst (v := 2) hx hb dL_law_468 (by decide) ?_
  refine lv_iadd hx hb dL_law_469 ?_
  refine lv_topi (fun i470 ei470 => ?_)
  have ei470 : i470 = nI (6 * j + 2) := ei470.trans (nI_add (6 * j) 2)
  subst ei470
  refine va_sld hx hb hScr hbl hbA hS (vp_in_nI (show 6 * j + 2 < L by omega) (by omega)) dL_law_470 ?_
  rw [nI_clamp (show 6 * j + 2 < 2 ^ 31 by omega)]
  refine lv_aload_n hx hb dL_law_471 rfl (lv_at hl 5 rfl) ?_
  refine lv_iload hx hb dL_law_472 (lv_at hl 1 rfl) ?_
  refine lv_iconst (v := 3) hx hb dL_law_474 (by decide) ?_
  refine lv_iadd hx hb dL_law_475 ?_
  refine lv_topi (fun i476 ei476 => ?_)
  have ei476 : i476 = nI (6 * j + 3) := ei476.trans (nI_add (6 * j) 3)
  subst ei476
  refine va_sld hx hb hScr hbl hbA hS (vp_in_nI (show 6 * j + 3 < L by omega) (by omega)) dL_law_476 ?_
  rw [nI_clamp (show 6 * j + 3 < 2 ^ 31 by omega)]
  refine lv_aload_n hx hb dL_law_477 rfl (lv_at hl 5 rfl) ?_
  refine lv_iload hx hb dL_law_478 (lv_at hl 1 rfl) ?_
  refine lv_iconst (v := 4) hx hb dL_law_480 (by decide) ?_
  refine lv_iadd hx hb dL_law_481 ?_
  refine lv_topi (fun i482 ei482 => ?_)
  have ei482 : i482 = nI (6 * j + 4) := ei482.trans (nI_add (6 * j) 4)
  subst ei482
  refine va_sld hx hb hScr hbl hbA hS (vp_in_nI (show 6 * j + 4 < L by omega) (by omega)) dL_law_482 ?_
  rw [nI_clamp (show 6 * j + 4 < 2 ^ 31 by omega)]
  have hmz : ∀ q, mA Γ q → gA Γ q := fun q h => by have := h.1; show gz Γ ≤ q; omega
  refine va_calll (va_runV (As := [.int (xs (6 * j + 1)), .int (xs (6 * j + 2)), .int (xs (6 * j + 3)), .int (xs (6 * j + 4))]) (rest := []) ⟨hx, hb, hml, hown, hg⟩ (c_M_part l Γ H1 (t := (xs (6 * j + 1))) (lo := (xs (6 * j + 2))) (hi := (xs (6 * j + 3))) (wh := (xs (6 * j + 4))) hP1 hD (by omega) hmd hMI) (cwV 4 hg gL_71 rfl rfl rfl (by decide +kernel) ⟨Nat.le_of_ble_eq_true rfl, Nat.le_of_ble_eq_true rfl⟩) (gP_V hW hS (ci := 2) rfl (hP1 0 _ rfl)) rfl rfl hl.1 rfl (lv_room (Nat.le_of_ble_eq_true rfl)) dL_law_483 ⟨by show 20 + 26 * j + 4 + 0 ≤ 657075; omega, by show 6000 + 112 * j + 24 + 0 ≤ 7124880; omega⟩) hS (fun q _ h => hmz q h) (fun q h => hmz q h) (fun r2 u2 t8 H2 locs2 ht2 hvm2 hp2 hB2 hz2 hk2 hS => ?_)
  rw [ht2] at hB2
  have hX2 : hX (mA Γ) H1 H2 := ⟨hz2, fun q h1 h2 => hk2 q h1 h2⟩
  have hSk : ∀ {rt9 : Nat → Option Nat} {md9 : Nat} {V9 : Nat → Nat → Option Int64} {S9 : Nat → Nat → Int32}, SX Γ H1 x ro md9 rt9 V9 S9 → SX Γ H2 x ro md9 rt9 V9 S9 := fun h => h.kept hX2 (fun h => by have := h.1; omega) (fun h => by have := h.1; omega) (fun q h => by have := h.2; omega)
  have hJk : ∀ {f9 : Nat → Int64}, oJ Γ H1 out 1 f9 → oJ Γ H2 out 1 f9 := fun h => hX2.at h (fun h => by have := h.2; omega)
  have hall : ∃ er2 md2, LI Γ H2 x ro out A er2 md2 ∧ r = er2 ∧ (r = 0 → ∃ fo3, oJ Γ H2 out 1 fo3 ∧ fo3 (0 : Int32).toNatClampNeg = r2) := by
    obtain ⟨u1, val⟩ := u
    obtain ⟨hS1, fo1, hJ1, hfo⟩ := hB
    rcases hp with ⟨h1, hr1, q1⟩ | ⟨h1, hr1, q1⟩ | ⟨h1, hr1, q1⟩
    · obtain ⟨fla1, fot1, hB2⟩ := hB2
      rcases hp2 with ⟨h2, -, -⟩ | ⟨h2, tj, lj, hj9, wj, a1, a2, a3, a4, a5, a6, a7, a8, a9, -⟩
      · subst h2
        exact ⟨1, md, ⟨fof, fke, fst, fnu, fno, fla1, fot1, rt, fo1, hSk hS1, hB2, vD_map (by rfl) hD, hMI, hmd1, hJk hJ1⟩, hr1, fun h => by rw [hr1] at h; exact absurd h (by decide)⟩
      · exact absurd ⟨⟨tj, a1, a2⟩, ⟨lj, a3, a4⟩, ⟨hj9, a5, a6⟩, by rw [a4, a6]; exact nI_le a9 (by omega), ⟨wj, a7, a8⟩⟩ q1
    · exact q1.elim
    · obtain ⟨fla1, fot1, hB2⟩ := hB2
      obtain ⟨ti, li, hi9, wi, b1, b2, b3, b4, b5, b6, b7, b8, b9, b10⟩ := q1
      rcases hp2 with ⟨h2, hbad, -⟩ | ⟨h2, tj, lj, hj9, wj, a1, a2, a3, a4, a5, a6, a7, a8, a9, a10⟩
      · exact absurd ⟨⟨ti, b1, b2⟩, ⟨li, b3, b4⟩, ⟨hi9, b5, b6⟩, by rw [b4, b6]; exact nI_le b9 (by omega), ⟨wi, b7, b8⟩⟩ hbad
      · subst h2
        rw [nI_inj a2 b2 (by omega) (by omega), nI_inj a4 b4 (by omega) (by omega), nI_inj a6 b6 (by omega) (by omega), nI_inj a8 b8 (by omega) (by omega)] at a10
        have b10 : val = ag (mV fof fke fnu fno ti) (mSt fof fke fst ti) wi li (hi9 + 1 - li) := b10
        exact ⟨0, md, ⟨fof, fke, fst, fnu, fno, fla1, fot1, rt, fo1, hSk hS1, hB2, vD_map (by rfl) hD, hMI, hmd1, hJk hJ1⟩, hr1, fun _ => ⟨fo1, hJk hJ1, (hfo h1).trans (by rw [b10, a10])⟩⟩
  refine lv_lstore (lv' := [(6, .long r2), (5, .int r), (4, .int (nI (6 * j))), (3, .ref out), (2, .ref (A 0)), (1, .ref x), (0, .ref b)]) hx hb dL_law_486 hl (by decide) rfl (fun ls hl => ?_)
  refine lv_aload_n hx hb dL_law_488 rfl (lv_at hl 4 rfl) ?_
  obtain ⟨er2, md2, hLI, hE, hV⟩ := hall
  obtain ⟨fof2, fke2, fst2, fnu2, fno2, fla2, fot2, rt2, fo2, hSX2, hP2, hD2, hM2, hm2, hJ2⟩ := id hLI
  refine vp_callSi (W.runV (As := []) (rest := []) ⟨hx, hb, hml, hown, hg⟩ (c_M_thrown l Γ H2 hP2) (cwV 0 hg gL_53 rfl rfl rfl (by decide +kernel) ⟨Nat.le_of_ble_eq_true rfl, Nat.le_of_ble_eq_true rfl⟩) (gP_V hW hS (ci := 2) rfl (hP2 0 _ rfl)) rfl rfl hl.1 rfl (lv_room (Nat.le_of_ble_eq_true rfl)) dL_law_489 ⟨by show 20 + 26 * j + 4 + 0 + 0 ≤ 657075; omega, by show 6000 + 112 * j + 24 + 0 + 0 ≤ 7124880; omega⟩) (fun r4 hr4 => ?_)
  subst hr4
  refine lv_iload hx hb dL_law_492 (lv_at hl 1 rfl) ?_
  refine lv_icmp_eq (tgt := 499) hx hb dL_law_494 (by decide) (fun k1 => ?_) (fun k1 => ?_)
  · refine lv_iload hx hb dL_law_499 (lv_at hl 1 rfl) ?_
    refine lv_if_ne (tgt := 515) hx hb dL_law_501 (by decide) (fun k2 => ?_) (fun k2 => ?_)
    · refine lv_goto (tgt := 667) hx hb dL_law_515 (by decide) ?_
      refine W.widen (k := 20 + 26 * j + 26) (n := 6000 + 112 * j + 112) (by omega) (by omega) ?_
      exact hk H2 locs2 ls r4 md2 hLI (by omega) hS (lv_sub hl [2, 3, 4, 5, 6] rfl)
    · obtain ⟨fo3, hJ3, hV3⟩ := hV k2
      refine lv_aload_n hx hb dL_law_504 rfl (lv_at hl 3 rfl) ?_
      refine lv_iconst (v := 0) hx hb dL_law_505 (by decide) ?_
      refine va_lald (D := Γ.1) (cl := gC) (tys := gT Γ) hx hb hW.1 (p1 hJ3) 0 0 rfl rfl (by unfold vp_in; decide) dL_law_506 ?_
      refine lv_lload hx hb dL_law_507 (lv_at hl 0 rfl) ?_
      refine W.lcmp hx hb dL_law_509 ?_
      refine lv_if_eq (tgt := 515) hx hb dL_law_510 (by decide) (fun k3 => ?_) (fun k3 => ?_)
      · refine lv_goto (tgt := 667) hx hb dL_law_515 (by decide) ?_
        refine W.widen (k := 20 + 26 * j + 26) (n := 6000 + 112 * j + 112) (by omega) (by omega) ?_
        exact hk H2 locs2 ls r4 md2 hLI (by omega) hS (lv_sub hl [2, 3, 4, 5, 6] rfl)
      · exact absurd ((lg_cmp_eq _ _).mpr hV3) k3
  · exact absurd hE.symm k1
set_option maxHeartbeats 4000000 in
set_option maxRecDepth 100000 in
theorem law_at {p : Program} {l : Launch} {e : Env} {s : State} {m : MethodId} {below : List Frame} {meth : Method} {c : Code} {b L : Nat} {xs : Nat → Int32} {Γ : gE} {x ro out : Nat} {A : Nat → Nat} (hnt : l.stackTraces = false) (C0 : lw_At p s m meth c b L xs) (hW : PW Γ s) (hgz : gz Γ = s.heap.size) (hZ : ZF Γ x ro out) {j md : Nat} {er : Int32} {H : Heap} {locs : List Loc} {ls : Array Slot} (hL : L ≤ 3072) (hj : 6 * j + 6 ≤ L) (hI : LI Γ H x ro out A er md) (hbz : gb0 Γ ≤ H.size) (hS : va_S (gA Γ) s.heap H locs) (hl : lv_has ls 8 [(4, .int (nI (6 * j))), (3, .ref out), (2, .ref (A 0)), (1, .ref x), (0, .ref b)]) (hk : ∀ (H2 : Heap) (locs2 : List Loc) (ls2 : Array Slot) (er2 : Int32) (md2 : Nat), LI Γ H2 x ro out A er2 md2 → gb0 Γ ≤ H2.size → va_S (gA Γ) s.heap H2 locs2 → lv_has ls2 8 [(4, .int (nI (6 * j))), (3, .ref out), (2, .ref (A 0)), (1, .ref x), (0, .ref b)] → W p l e room_1 s m #[Value.ref b] below meth c H2 locs2 (20 + 26 * j + 26) (6000 + 112 * j + 112) (lw_Z below #[Value.ref b] s) (F0 m 667 ls2 [])) : W p l e room_1 s m #[Value.ref b] below meth c H locs (20 + 26 * j) (6000 + 112 * j) (lw_Z below #[Value.ref b] s) (F0 m 518 ls []) := by
  obtain ⟨hx, hb, hr, hml, hown, hts, hScr, hbl, hlocks, hgv⟩ := C0
  have hown : s.vm.findClass RL = some m.cls := hown
  have hg : ∀ w ∈ gW, w.before #[Value.ref b] s = true := fun w h => hts w (gW_tbl h)
  have hbA : ¬ gA Γ b := by unfold gA; omega
  obtain ⟨fof, fke, fst, fnu, fno, fla, fot, rt, fo, hSX, hP, hD, hMI, hmd1, hJ⟩ := hI
  obtain ⟨z1, z2, z3, z4, z5, z6, z7, z8⟩ := hZ
  have hmd : md ≤ 400 := hSX.2.2.1
  refine lv_aload_n hx hb dL_law_518 rfl (lv_at hl 3 rfl) ?_
  refine lv_aload_n hx hb dL_law_519 rfl (lv_at hl 4 rfl) ?_
  refine lv_iload hx hb dL_law_520 (lv_at hl 0 rfl) ?_
  refine lv_iconst (v := 1) hx hb dL_law_522 (by decide) ?_
  refine lv_iadd hx hb dL_law_523 ?_
  refine lv_topi (fun i524 ei524 => ?_)
  have ei524 : i524 = nI (6 * j + 1) := ei524.trans (nI_add (6 * j) 1)
  subst ei524
  refine va_sld hx hb hScr hbl hbA hS (vp_in_nI (show 6 * j + 1 < L by omega) (by omega)) dL_law_524 ?_
  rw [nI_clamp (show 6 * j + 1 < 2 ^ 31 by omega)]
  refine lv_aload_n hx hb dL_law_525 rfl (lv_at hl 4 rfl) ?_
  refine lv_iload hx hb dL_law_526 (lv_at hl 0 rfl) ?_
  refine lv_iconst (v := 2) hx hb dL_law_528 (by decide) ?_
  refine lv_iadd hx hb dL_law_529 ?_
  refine lv_topi (fun i530 ei530 => ?_)
  have ei530 : i530 = nI (6 * j + 2) := ei530.trans (nI_add (6 * j) 2)
  subst ei530
  refine va_sld hx hb hScr hbl hbA hS (vp_in_nI (show 6 * j + 2 < L by omega) (by omega)) dL_law_530 ?_
  rw [nI_clamp (show 6 * j + 2 < 2 ^ 31 by omega)]
  refine lv_aload_n hx hb dL_law_531 rfl (lv_at hl 1 rfl) ?_
  have hzo : gz Γ ≤ out := by omega
  have hsz : gz Γ ≤ H.size := by have := hS.1; omega
  refine va_calli (vx_runSW (As := [.ref x, .int (xs (6 * j + 1)), .int (xs (6 * j + 2)), .ref out]) (rest := []) ⟨hx, hb, hml, hown, hg⟩ (c_L_at l hnt Γ H (t := (xs (6 * j + 1))) (k := (xs (6 * j + 2))) hSX hJ z5 z1 z2 hzo (by omega) (by omega) z8 (by omega) (by omega) hbz) (vx_cwSW 4 hg gL_72 rfl rfl rfl (by decide +kernel) ⟨Nat.le_of_ble_eq_true rfl, Nat.le_of_ble_eq_true rfl⟩) (gP_S hW hS) rfl rfl hl.1 rfl (lv_room (Nat.le_of_ble_eq_true rfl)) dL_law_532 ⟨by show 20 + 26 * j + 2 ≤ 657075; omega, by show 6000 + 112 * j + 12 ≤ 7124880; omega⟩) hS (fun q _ h => by rw [show q = out from h]; exact hzo) (fun q h => h.elim (fun h => by rw [h]; exact hzo) (fun h => Nat.le_trans hsz h)) (fun r u t9 H1 locs1 ht hvm hp hB hz1 hk1 hS => ?_)
  rw [ht] at hB
  have hP1 := wM_kept hP hD hk1 (fun q hq => fun h => by have := hq.1; have := hq.2; omega)
  refine lv_istore (lv' := [(5, .int r), (4, .int (nI (6 * j))), (3, .ref out), (2, .ref (A 0)), (1, .ref x), (0, .ref b)]) hx hb dL_law_535 hl (by decide) rfl (fun ls hl => ?_)
  refine lv_aload_n hx hb dL_law_537 rfl (lv_at hl 3 rfl) ?_
  refine lv_aload_n hx hb dL_law_538 rfl (lv_at hl 5 rfl) ?_
  refine lv_iload hx hb dL_law_539 (lv_at hl 1 rfl) ?_
  refine lv_iconst (v := 1) hx hb dL_law_541 (by decide) ?_
  refine lv_iadd hx hb dL_law_542 ?_
  refine lv_topi (fun i543 ei543 => ?_)
  have ei543 : i543 = nI (6 * j + 1) := ei543.trans (nI_add (6 * j) 1)
  subst ei543
  refine va_sld hx hb hScr hbl hbA hS (vp_in_nI (show 6 * j + 1 < L by omega) (by omega)) dL_law_543 ?_
  rw [nI_clamp (show 6 * j + 1 < 2 ^ 31 by omega)]
  refine lv_aload_n hx hb dL_law_544 rfl (lv_at hl 5 rfl) ?_
  refine lv_iload hx hb dL_law_545 (lv_at hl 1 rfl) ?_
  refine lv_iconst (v := 2) hx hb dL_law_547 (by decide) ?_
  refine lv_iadd hx hb dL_law_548 ?_
  refine lv_topi (fun i549 ei549 => ?_)
  have ei549 : i549 = nI (6 * j + 2) := ei549.trans (nI_add (6 * j) 2)
  subst ei549
  refine va_sld hx hb hScr hbl hbA hS (vp_in_nI (show 6 * j + 2 < L by omega) (by omega)) dL_law_549 ?_
  rw [nI_clamp (show 6 * j + 2 < 2 ^ 31 by omega)]
  have hmz : ∀ q, mA Γ q → gA Γ q := fun q h => by have := h.1; show gz Γ ≤ q; omega
  refine va_calli (va_runV (As := [.int (xs (6 * j + 1)), .int (xs (6 * j + 2))]) (rest := []) ⟨hx, hb, hml, hown, hg⟩ (c_M_at l Γ H1 (t := (xs (6 * j + 1))) (n := (xs (6 * j + 2))) hP1 hD (by omega) hmd hMI) (cwV 2 hg gL_74 rfl rfl rfl (by decide +kernel) ⟨Nat.le_of_ble_eq_true rfl, Nat.le_of_ble_eq_true rfl⟩) (gP_V hW hS (ci := 2) rfl (hP1 0 _ rfl)) rfl rfl hl.1 rfl (lv_room (Nat.le_of_ble_eq_true rfl)) dL_law_550 ⟨by show 20 + 26 * j + 2 + 0 ≤ 657075; omega, by show 6000 + 112 * j + 12 + 0 ≤ 7124880; omega⟩) hS (fun q _ h => hmz q h) (fun q h => hmz q h) (fun r2 u2 t8 H2 locs2 ht2 hvm2 hp2 hB2 hz2 hk2 hS => ?_)
  rw [ht2] at hB2
  have hX2 : hX (mA Γ) H1 H2 := ⟨hz2, fun q h1 h2 => hk2 q h1 h2⟩
  have hSk : ∀ {rt9 : Nat → Option Nat} {md9 : Nat} {V9 : Nat → Nat → Option Int64} {S9 : Nat → Nat → Int32}, SX Γ H1 x ro md9 rt9 V9 S9 → SX Γ H2 x ro md9 rt9 V9 S9 := fun h => h.kept hX2 (fun h => by have := h.1; omega) (fun h => by have := h.1; omega) (fun q h => by have := h.2; omega)
  have hJk : ∀ {f9 : Nat → Int64}, oJ Γ H1 out 1 f9 → oJ Γ H2 out 1 f9 := fun h => hX2.at h (fun h => by have := h.2; omega)
  have hall : ∃ er2 md2, LI Γ H2 x ro out A er2 md2 ∧ r = er2 ∧ (r = 0 → ∃ fo3, oJ Γ H2 out 1 fo3 ∧ fo3 (0 : Int32).toNatClampNeg = r2.toInt64) := by
    obtain ⟨u1, val⟩ := u
    obtain ⟨hS1, fo1, hJ1, hfo⟩ := hB
    rcases hp with ⟨h1, hr1, q1⟩ | ⟨h1, hr1, q1⟩ | ⟨h1, hr1, q1⟩
    · obtain ⟨fla1, fot1, hB2⟩ := hB2
      rcases hp2 with ⟨h2, -, -⟩ | ⟨h2, ⟨tj, a1, a2, -⟩, -⟩ | ⟨h2, tj, K, a1, a2, -⟩
      · subst h2
        exact ⟨1, md, ⟨fof, fke, fst, fnu, fno, fla1, fot1, rt, fo1, hSk hS1, hB2, vD_map (by rfl) hD, hMI, hmd1, hJk hJ1⟩, hr1, fun h => by rw [hr1] at h; exact absurd h (by decide)⟩
      · exact absurd ⟨tj, a1, a2⟩ q1
      · exact absurd ⟨tj, a1, a2⟩ q1
    · obtain ⟨fla1, fot1, hB2⟩ := hB2
      obtain ⟨ti, b1, b2, b3⟩ := q1
      rcases hp2 with ⟨h2, hbad, -⟩ | ⟨h2, -, -⟩ | ⟨h2, tj, K, a1, a2, a3, a4, a5, a6⟩
      · exact absurd ⟨ti, b1, b2⟩ hbad
      · subst h2
        exact ⟨2, md, ⟨fof, fke, fst, fnu, fno, fla1, fot1, rt, fo1, hSk hS1, hB2, vD_map (by rfl) hD, hMI, hmd1, hJk hJ1⟩, hr1, fun h => by rw [hr1] at h; exact absurd h (by decide)⟩
      · rw [nI_inj a2 b2 (by omega) (by omega)] at a5 a6
        exact absurd ⟨_, cnt_lt a3 a5, a6⟩ b3
    · obtain ⟨fla1, fot1, hB2⟩ := hB2
      obtain ⟨ti, K9, b1, b2, b3, b4, b5, b6⟩ := q1
      rcases hp2 with ⟨h2, hbad, -⟩ | ⟨h2, ⟨tj, a1, a2, a3⟩, -⟩ | ⟨h2, tj, K, a1, a2, a3, a4, a5, a6⟩
      · exact absurd ⟨ti, b1, b2⟩ hbad
      · rw [nI_inj a2 b2 (by omega) (by omega)] at a3
        exact absurd ⟨_, cnt_lt b3 b5, b6⟩ a3
      · subst h2
        rw [nI_inj a2 b2 (by omega) (by omega)] at a5 a6
        have hc1 := cnt_lt a3 a5
        have hc2 := cnt_lt b3 b5
        have hc3 := cnt_le (mV fof fke fnu fno ti) 0 1024
        have eK : K = K9 := cnt_inj a5 b5 ((nI_eq (by omega) (by omega)).mp (a6.symm.trans b6))
        have b4 : val = (nI K9).toInt64 := b4
        exact ⟨0, md, ⟨fof, fke, fst, fnu, fno, fla1, fot1, rt, fo1, hSk hS1, hB2, vD_map (by rfl) hD, hMI, hmd1, hJk hJ1⟩, hr1, fun _ => ⟨fo1, hJk hJ1, (hfo h1).trans (by rw [b4, a4, eK])⟩⟩
  refine lv_istore (lv' := [(6, .int r2), (5, .int r), (4, .int (nI (6 * j))), (3, .ref out), (2, .ref (A 0)), (1, .ref x), (0, .ref b)]) hx hb dL_law_553 hl (by decide) rfl (fun ls hl => ?_)
  refine lv_aload_n hx hb dL_law_555 rfl (lv_at hl 4 rfl) ?_
  obtain ⟨er2, md2, hLI, hE, hV⟩ := hall
  obtain ⟨fof2, fke2, fst2, fnu2, fno2, fla2, fot2, rt2, fo2, hSX2, hP2, hD2, hM2, hm2, hJ2⟩ := id hLI
  refine vp_callSi (W.runV (As := []) (rest := []) ⟨hx, hb, hml, hown, hg⟩ (c_M_thrown l Γ H2 hP2) (cwV 0 hg gL_53 rfl rfl rfl (by decide +kernel) ⟨Nat.le_of_ble_eq_true rfl, Nat.le_of_ble_eq_true rfl⟩) (gP_V hW hS (ci := 2) rfl (hP2 0 _ rfl)) rfl rfl hl.1 rfl (lv_room (Nat.le_of_ble_eq_true rfl)) dL_law_556 ⟨by show 20 + 26 * j + 2 + 0 + 0 ≤ 657075; omega, by show 6000 + 112 * j + 12 + 0 + 0 ≤ 7124880; omega⟩) (fun r4 hr4 => ?_)
  subst hr4
  refine lv_iload hx hb dL_law_559 (lv_at hl 1 rfl) ?_
  refine lv_icmp_eq (tgt := 566) hx hb dL_law_561 (by decide) (fun k1 => ?_) (fun k1 => ?_)
  · refine lv_iload hx hb dL_law_566 (lv_at hl 1 rfl) ?_
    refine lv_if_ne (tgt := 583) hx hb dL_law_568 (by decide) (fun k2 => ?_) (fun k2 => ?_)
    · refine lv_goto (tgt := 667) hx hb dL_law_583 (by decide) ?_
      refine W.widen (k := 20 + 26 * j + 26) (n := 6000 + 112 * j + 112) (by omega) (by omega) ?_
      exact hk H2 locs2 ls r4 md2 hLI (by omega) hS (lv_sub hl [2, 3, 4, 5, 6] rfl)
    · obtain ⟨fo3, hJ3, hV3⟩ := hV k2
      refine lv_aload_n hx hb dL_law_571 rfl (lv_at hl 3 rfl) ?_
      refine lv_iconst (v := 0) hx hb dL_law_572 (by decide) ?_
      refine va_lald (D := Γ.1) (cl := gC) (tys := gT Γ) hx hb hW.1 (p1 hJ3) 0 0 rfl rfl (by unfold vp_in; decide) dL_law_573 ?_
      refine lv_iload hx hb dL_law_574 (lv_at hl 0 rfl) ?_
      refine lv_i2l (v := r2.toInt64) hx hb dL_law_576 rfl ?_
      refine W.lcmp hx hb dL_law_577 ?_
      refine lv_if_eq (tgt := 583) hx hb dL_law_578 (by decide) (fun k3 => ?_) (fun k3 => ?_)
      · refine lv_goto (tgt := 667) hx hb dL_law_583 (by decide) ?_
        refine W.widen (k := 20 + 26 * j + 26) (n := 6000 + 112 * j + 112) (by omega) (by omega) ?_
        exact hk H2 locs2 ls r4 md2 hLI (by omega) hS (lv_sub hl [2, 3, 4, 5, 6] rfl)
      · exact absurd ((lg_cmp_eq _ _).mpr hV3) k3
  · exact absurd hE.symm k1
set_option maxHeartbeats 4000000 in
set_option maxRecDepth 100000 in
theorem law_differ {p : Program} {l : Launch} {e : Env} {s : State} {m : MethodId} {below : List Frame} {meth : Method} {c : Code} {b L : Nat} {xs : Nat → Int32} {Γ : gE} {x ro out : Nat} {A : Nat → Nat} (hnt : l.stackTraces = false) (C0 : lw_At p s m meth c b L xs) (hW : PW Γ s) (hgz : gz Γ = s.heap.size) (hZ : ZF Γ x ro out) {j md : Nat} {er : Int32} {H : Heap} {locs : List Loc} {ls : Array Slot} (hL : L ≤ 3072) (hj : 6 * j + 6 ≤ L) (hI : LI Γ H x ro out A er md) (hbz : gb0 Γ ≤ H.size) (hS : va_S (gA Γ) s.heap H locs) (hl : lv_has ls 8 [(4, .int (nI (6 * j))), (3, .ref out), (2, .ref (A 0)), (1, .ref x), (0, .ref b)]) (hk : ∀ (H2 : Heap) (locs2 : List Loc) (ls2 : Array Slot) (er2 : Int32) (md2 : Nat), LI Γ H2 x ro out A er2 md2 → gb0 Γ ≤ H2.size → va_S (gA Γ) s.heap H2 locs2 → lv_has ls2 8 [(4, .int (nI (6 * j))), (3, .ref out), (2, .ref (A 0)), (1, .ref x), (0, .ref b)] → W p l e room_1 s m #[Value.ref b] below meth c H2 locs2 (20 + 26 * j + 26) (6000 + 112 * j + 112) (lw_Z below #[Value.ref b] s) (F0 m 667 ls2 [])) : W p l e room_1 s m #[Value.ref b] below meth c H locs (20 + 26 * j) (6000 + 112 * j) (lw_Z below #[Value.ref b] s) (F0 m 586 ls []) := by
  obtain ⟨hx, hb, hr, hml, hown, hts, hScr, hbl, hlocks, hgv⟩ := C0
  have hown : s.vm.findClass RL = some m.cls := hown
  have hg : ∀ w ∈ gW, w.before #[Value.ref b] s = true := fun w h => hts w (gW_tbl h)
  have hbA : ¬ gA Γ b := by unfold gA; omega
  obtain ⟨fof, fke, fst, fnu, fno, fla, fot, rt, fo, hSX, hP, hD, hMI, hmd1, hJ⟩ := hI
  obtain ⟨z1, z2, z3, z4, z5, z6, z7, z8⟩ := hZ
  have hmd : md ≤ 400 := hSX.2.2.1
  refine lv_aload_n hx hb dL_law_586 rfl (lv_at hl 3 rfl) ?_
  refine lv_aload_n hx hb dL_law_587 rfl (lv_at hl 4 rfl) ?_
  refine lv_iload hx hb dL_law_588 (lv_at hl 0 rfl) ?_
  refine lv_iconst (v := 1) hx hb dL_law_590 (by decide) ?_
  refine lv_iadd hx hb dL_law_591 ?_
  refine lv_topi (fun i592 ei592 => ?_)
  have ei592 : i592 = nI (6 * j + 1) := ei592.trans (nI_add (6 * j) 1)
  subst ei592
  refine va_sld hx hb hScr hbl hbA hS (vp_in_nI (show 6 * j + 1 < L by omega) (by omega)) dL_law_592 ?_
  rw [nI_clamp (show 6 * j + 1 < 2 ^ 31 by omega)]
  refine lv_aload_n hx hb dL_law_593 rfl (lv_at hl 4 rfl) ?_
  refine lv_iload hx hb dL_law_594 (lv_at hl 0 rfl) ?_
  refine lv_iconst (v := 2) hx hb dL_law_596 (by decide) ?_
  refine lv_iadd hx hb dL_law_597 ?_
  refine lv_topi (fun i598 ei598 => ?_)
  have ei598 : i598 = nI (6 * j + 2) := ei598.trans (nI_add (6 * j) 2)
  subst ei598
  refine va_sld hx hb hScr hbl hbA hS (vp_in_nI (show 6 * j + 2 < L by omega) (by omega)) dL_law_598 ?_
  rw [nI_clamp (show 6 * j + 2 < 2 ^ 31 by omega)]
  refine lv_aload_n hx hb dL_law_599 rfl (lv_at hl 1 rfl) ?_
  have hzo : gz Γ ≤ out := by omega
  have hsz : gz Γ ≤ H.size := by have := hS.1; omega
  refine va_calli (vx_runSW (As := [.ref x, .int (xs (6 * j + 1)), .int (xs (6 * j + 2)), .ref out]) (rest := []) ⟨hx, hb, hml, hown, hg⟩ (c_L_differ l hnt Γ H (a := (xs (6 * j + 1))) (b := (xs (6 * j + 2))) hSX hJ z5 z1 z2 hzo (by omega) (by omega) z8 (by omega) (by omega) hbz) (vx_cwSW 4 hg gL_75 rfl rfl rfl (by decide +kernel) ⟨Nat.le_of_ble_eq_true rfl, Nat.le_of_ble_eq_true rfl⟩) (gP_S hW hS) rfl rfl hl.1 rfl (lv_room (Nat.le_of_ble_eq_true rfl)) dL_law_600 ⟨by show 20 + 26 * j + 2 ≤ 657075; omega, by show 6000 + 112 * j + 12 ≤ 7124880; omega⟩) hS (fun q _ h => by rw [show q = out from h]; exact hzo) (fun q h => h.elim (fun h => by rw [h]; exact hzo) (fun h => Nat.le_trans hsz h)) (fun r u t9 H1 locs1 ht hvm hp hB hz1 hk1 hS => ?_)
  rw [ht] at hB
  have hP1 := wM_kept hP hD hk1 (fun q hq => fun h => by have := hq.1; have := hq.2; omega)
  refine lv_istore (lv' := [(5, .int r), (4, .int (nI (6 * j))), (3, .ref out), (2, .ref (A 0)), (1, .ref x), (0, .ref b)]) hx hb dL_law_603 hl (by decide) rfl (fun ls hl => ?_)
  refine lv_aload_n hx hb dL_law_605 rfl (lv_at hl 3 rfl) ?_
  refine lv_aload_n hx hb dL_law_606 rfl (lv_at hl 5 rfl) ?_
  refine lv_iload hx hb dL_law_607 (lv_at hl 1 rfl) ?_
  refine lv_iconst (v := 1) hx hb dL_law_609 (by decide) ?_
  refine lv_iadd hx hb dL_law_610 ?_
  refine lv_topi (fun i611 ei611 => ?_)
  have ei611 : i611 = nI (6 * j + 1) := ei611.trans (nI_add (6 * j) 1)
  subst ei611
  refine va_sld hx hb hScr hbl hbA hS (vp_in_nI (show 6 * j + 1 < L by omega) (by omega)) dL_law_611 ?_
  rw [nI_clamp (show 6 * j + 1 < 2 ^ 31 by omega)]
  refine lv_aload_n hx hb dL_law_612 rfl (lv_at hl 5 rfl) ?_
  refine lv_iload hx hb dL_law_613 (lv_at hl 1 rfl) ?_
  refine lv_iconst (v := 2) hx hb dL_law_615 (by decide) ?_
  refine lv_iadd hx hb dL_law_616 ?_
  refine lv_topi (fun i617 ei617 => ?_)
  have ei617 : i617 = nI (6 * j + 2) := ei617.trans (nI_add (6 * j) 2)
  subst ei617
  refine va_sld hx hb hScr hbl hbA hS (vp_in_nI (show 6 * j + 2 < L by omega) (by omega)) dL_law_617 ?_
  rw [nI_clamp (show 6 * j + 2 < 2 ^ 31 by omega)]
  have hmz : ∀ q, mA Γ q → gA Γ q := fun q h => by have := h.1; show gz Γ ≤ q; omega
  refine va_calli (va_runV (As := [.int (xs (6 * j + 1)), .int (xs (6 * j + 2))]) (rest := []) ⟨hx, hb, hml, hown, hg⟩ (c_M_differ l Γ H1 (a := (xs (6 * j + 1))) (b := (xs (6 * j + 2))) hP1 hD (by omega) hmd hMI) (cwV 2 hg gL_77 rfl rfl rfl (by decide +kernel) ⟨Nat.le_of_ble_eq_true rfl, Nat.le_of_ble_eq_true rfl⟩) (gP_V hW hS (ci := 2) rfl (hP1 0 _ rfl)) rfl rfl hl.1 rfl (lv_room (Nat.le_of_ble_eq_true rfl)) dL_law_618 ⟨by show 20 + 26 * j + 2 + 0 ≤ 657075; omega, by show 6000 + 112 * j + 12 + 0 ≤ 7124880; omega⟩) hS (fun q _ h => hmz q h) (fun q h => hmz q h) (fun r2 u2 t8 H2 locs2 ht2 hvm2 hp2 hB2 hz2 hk2 hS => ?_)
  rw [ht2] at hB2
  have hX2 : hX (mA Γ) H1 H2 := ⟨hz2, fun q h1 h2 => hk2 q h1 h2⟩
  have hSk : ∀ {rt9 : Nat → Option Nat} {md9 : Nat} {V9 : Nat → Nat → Option Int64} {S9 : Nat → Nat → Int32}, SX Γ H1 x ro md9 rt9 V9 S9 → SX Γ H2 x ro md9 rt9 V9 S9 := fun h => h.kept hX2 (fun h => by have := h.1; omega) (fun h => by have := h.1; omega) (fun q h => by have := h.2; omega)
  have hJk : ∀ {f9 : Nat → Int64}, oJ Γ H1 out 1 f9 → oJ Γ H2 out 1 f9 := fun h => hX2.at h (fun h => by have := h.2; omega)
  have hall : ∃ er2 md2, LI Γ H2 x ro out A er2 md2 ∧ r = er2 ∧ (r = 0 → ∃ fo3, oJ Γ H2 out 1 fo3 ∧ fo3 (0 : Int32).toNatClampNeg = r2.toInt64) := by
    obtain ⟨u1, val⟩ := u
    obtain ⟨hS1, fo1, hJ1, hfo⟩ := hB
    rcases hp with ⟨h1, hr1, q1⟩ | ⟨h1, hr1, q1⟩ | ⟨h1, hr1, q1⟩
    · obtain ⟨fla1, fot1, hB2⟩ := hB2
      rcases hp2 with ⟨h2, -, -⟩ | ⟨h2, aj, bj, a1, a2, a3, a4, -⟩
      · subst h2
        exact ⟨1, md, ⟨fof, fke, fst, fnu, fno, fla1, fot1, rt, fo1, hSk hS1, hB2, vD_map (by rfl) hD, hMI, hmd1, hJk hJ1⟩, hr1, fun h => by rw [hr1] at h; exact absurd h (by decide)⟩
      · exact absurd ⟨⟨aj, a1, a2⟩, ⟨bj, a3, a4⟩⟩ q1
    · exact q1.elim
    · obtain ⟨fla1, fot1, hB2⟩ := hB2
      obtain ⟨ai, bi, b1, b2, b3, b4, b5⟩ := q1
      rcases hp2 with ⟨h2, hbad, -⟩ | ⟨h2, aj, bj, a1, a2, a3, a4, a5⟩
      · exact absurd ⟨⟨ai, b1, b2⟩, ⟨bi, b3, b4⟩⟩ hbad
      · subst h2
        rw [nI_inj a2 b2 (by omega) (by omega), nI_inj a4 b4 (by omega) (by omega)] at a5
        have b5 : val = (nI (dcn (mV fof fke fnu fno ai) (mV fof fke fnu fno bi) 0 1024)).toInt64 := b5
        exact ⟨0, md, ⟨fof, fke, fst, fnu, fno, fla1, fot1, rt, fo1, hSk hS1, hB2, vD_map (by rfl) hD, hMI, hmd1, hJk hJ1⟩, hr1, fun _ => ⟨fo1, hJk hJ1, (hfo h1).trans (by rw [b5, a5])⟩⟩
  refine lv_istore (lv' := [(6, .int r2), (5, .int r), (4, .int (nI (6 * j))), (3, .ref out), (2, .ref (A 0)), (1, .ref x), (0, .ref b)]) hx hb dL_law_621 hl (by decide) rfl (fun ls hl => ?_)
  refine lv_aload_n hx hb dL_law_623 rfl (lv_at hl 4 rfl) ?_
  obtain ⟨er2, md2, hLI, hE, hV⟩ := hall
  obtain ⟨fof2, fke2, fst2, fnu2, fno2, fla2, fot2, rt2, fo2, hSX2, hP2, hD2, hM2, hm2, hJ2⟩ := id hLI
  refine vp_callSi (W.runV (As := []) (rest := []) ⟨hx, hb, hml, hown, hg⟩ (c_M_thrown l Γ H2 hP2) (cwV 0 hg gL_53 rfl rfl rfl (by decide +kernel) ⟨Nat.le_of_ble_eq_true rfl, Nat.le_of_ble_eq_true rfl⟩) (gP_V hW hS (ci := 2) rfl (hP2 0 _ rfl)) rfl rfl hl.1 rfl (lv_room (Nat.le_of_ble_eq_true rfl)) dL_law_624 ⟨by show 20 + 26 * j + 2 + 0 + 0 ≤ 657075; omega, by show 6000 + 112 * j + 12 + 0 + 0 ≤ 7124880; omega⟩) (fun r4 hr4 => ?_)
  subst hr4
  refine lv_iload hx hb dL_law_627 (lv_at hl 1 rfl) ?_
  refine lv_icmp_eq (tgt := 634) hx hb dL_law_629 (by decide) (fun k1 => ?_) (fun k1 => ?_)
  · refine lv_iload hx hb dL_law_634 (lv_at hl 1 rfl) ?_
    refine lv_if_ne (tgt := 651) hx hb dL_law_636 (by decide) (fun k2 => ?_) (fun k2 => ?_)
    · refine lv_goto (tgt := 667) hx hb dL_law_651 (by decide) ?_
      refine W.widen (k := 20 + 26 * j + 26) (n := 6000 + 112 * j + 112) (by omega) (by omega) ?_
      exact hk H2 locs2 ls r4 md2 hLI (by omega) hS (lv_sub hl [2, 3, 4, 5, 6] rfl)
    · obtain ⟨fo3, hJ3, hV3⟩ := hV k2
      refine lv_aload_n hx hb dL_law_639 rfl (lv_at hl 3 rfl) ?_
      refine lv_iconst (v := 0) hx hb dL_law_640 (by decide) ?_
      refine va_lald (D := Γ.1) (cl := gC) (tys := gT Γ) hx hb hW.1 (p1 hJ3) 0 0 rfl rfl (by unfold vp_in; decide) dL_law_641 ?_
      refine lv_iload hx hb dL_law_642 (lv_at hl 0 rfl) ?_
      refine lv_i2l (v := r2.toInt64) hx hb dL_law_644 rfl ?_
      refine W.lcmp hx hb dL_law_645 ?_
      refine lv_if_eq (tgt := 651) hx hb dL_law_646 (by decide) (fun k3 => ?_) (fun k3 => ?_)
      · refine lv_goto (tgt := 667) hx hb dL_law_651 (by decide) ?_
        refine W.widen (k := 20 + 26 * j + 26) (n := 6000 + 112 * j + 112) (by omega) (by omega) ?_
        exact hk H2 locs2 ls r4 md2 hLI (by omega) hS (lv_sub hl [2, 3, 4, 5, 6] rfl)
      · exact absurd ((lg_cmp_eq _ _).mpr hV3) k3
  · exact absurd hE.symm k1
set_option maxHeartbeats 4000000 in
set_option maxRecDepth 100000 in
theorem law_tables {p : Program} {l : Launch} {e : Env} {s : State} {m : MethodId} {below : List Frame} {meth : Method} {c : Code} {b L : Nat} {xs : Nat → Int32} {Γ : gE} {x ro out : Nat} {A : Nat → Nat} (hnt : l.stackTraces = false) (C0 : lw_At p s m meth c b L xs) (hW : PW Γ s) (hgz : gz Γ = s.heap.size) (hZ : ZF Γ x ro out) {j md : Nat} {er : Int32} {H : Heap} {locs : List Loc} {ls : Array Slot} (hL : L ≤ 3072) (hj : 6 * j + 6 ≤ L) (hI : LI Γ H x ro out A er md) (hbz : gb0 Γ ≤ H.size) (hS : va_S (gA Γ) s.heap H locs) (hl : lv_has ls 8 [(4, .int (nI (6 * j))), (3, .ref out), (2, .ref (A 0)), (1, .ref x), (0, .ref b)]) (hk : ∀ (H2 : Heap) (locs2 : List Loc) (ls2 : Array Slot) (er2 : Int32) (md2 : Nat), LI Γ H2 x ro out A er2 md2 → gb0 Γ ≤ H2.size → va_S (gA Γ) s.heap H2 locs2 → lv_has ls2 8 [(4, .int (nI (6 * j))), (3, .ref out), (2, .ref (A 0)), (1, .ref x), (0, .ref b)] → W p l e room_1 s m #[Value.ref b] below meth c H2 locs2 (20 + 26 * j + 26) (6000 + 112 * j + 112) (lw_Z below #[Value.ref b] s) (F0 m 667 ls2 [])) : W p l e room_1 s m #[Value.ref b] below meth c H locs (20 + 26 * j) (6000 + 112 * j) (lw_Z below #[Value.ref b] s) (F0 m 654 ls []) := by
  obtain ⟨hx, hb, hr, hml, hown, hts, hScr, hbl, hlocks, hgv⟩ := C0
  have hown : s.vm.findClass RL = some m.cls := hown
  have hg : ∀ w ∈ gW, w.before #[Value.ref b] s = true := fun w h => hts w (gW_tbl h)
  have hbA : ¬ gA Γ b := by unfold gA; omega
  obtain ⟨fof, fke, fst, fnu, fno, fla, fot, rt, fo, hSX, hP, hD, hMI, hmd1, hJ⟩ := hI
  obtain ⟨z1, z2, z3, z4, z5, z6, z7, z8⟩ := hZ
  have hmd : md ≤ 400 := hSX.2.2.1
  refine lv_aload_n hx hb dL_law_654 rfl (lv_at hl 3 rfl) ?_
  refine vp_callSi (W.runV (As := []) (rest := []) ⟨hx, hb, hml, hown, hg⟩ (c_S_tables l Γ H hSX.1) (cwV 0 hg gL_78 rfl rfl rfl (by decide +kernel) ⟨Nat.le_of_ble_eq_true rfl, Nat.le_of_ble_eq_true rfl⟩) (gP_V hW hS (ci := 1) rfl hSX.1) rfl rfl hl.1 rfl (lv_room (Nat.le_of_ble_eq_true rfl)) dL_law_655 ⟨by show 20 + 26 * j + 0 ≤ 657075; omega, by show 6000 + 112 * j + 0 ≤ 7124880; omega⟩) (fun r hr9 => ?_)
  subst hr9
  refine lv_aload_n hx hb dL_law_658 rfl (lv_at hl 2 rfl) ?_
  have hP1 := hP
  obtain ⟨H1, eH1⟩ : ∃ H1, H1 = H := ⟨H, rfl⟩
  rw [← eH1] at hP1 hS hSX hJ hbz ⊢
  have hmz : ∀ q, mA Γ q → gA Γ q := fun q h => by have := h.1; show gz Γ ≤ q; omega
  refine va_calli (va_runV (As := []) (rest := [.int (nI md)]) ⟨hx, hb, hml, hown, hg⟩ (c_M_tables l Γ H1 hP1 hD (by omega)) (cwV 0 hg gL_81 rfl rfl rfl (by decide +kernel) ⟨Nat.le_of_ble_eq_true rfl, Nat.le_of_ble_eq_true rfl⟩) (gP_V hW hS (ci := 2) rfl (hP1 0 _ rfl)) rfl rfl hl.1 rfl (lv_room (Nat.le_of_ble_eq_true rfl)) dL_law_659 ⟨by show 20 + 26 * j + 0 + 0 ≤ 657075; omega, by show 6000 + 112 * j + 0 + 0 ≤ 7124880; omega⟩) hS (fun q _ h => hmz q h) (fun q h => hmz q h) (fun r2 u2 t8 H2 locs2 ht2 hvm2 hp2 hB2 hz2 hk2 hS => ?_)
  rw [ht2] at hB2
  have hX2 : hX (mA Γ) H1 H2 := ⟨hz2, fun q h1 h2 => hk2 q h1 h2⟩
  have hSk : ∀ {rt9 : Nat → Option Nat} {md9 : Nat} {V9 : Nat → Nat → Option Int64} {S9 : Nat → Nat → Int32}, SX Γ H1 x ro md9 rt9 V9 S9 → SX Γ H2 x ro md9 rt9 V9 S9 := fun h => h.kept hX2 (fun h => by have := h.1; omega) (fun h => by have := h.1; omega) (fun q h => by have := h.2; omega)
  have hJk : ∀ {f9 : Nat → Int64}, oJ Γ H1 out 1 f9 → oJ Γ H2 out 1 f9 := fun h => hX2.at h (fun h => by have := h.2; omega)
  have hLI : LI Γ H2 x ro out A 0 md := ⟨fof, fke, fst, fnu, fno, fla, fot, rt, fo, hSk hSX, hB2, vD_map (by rfl) hD, hMI, hmd1, hJk hJ⟩
  refine lv_icmp_eq (tgt := 667) hx hb dL_law_662 (by decide) (fun k1 => ?_) (fun k1 => ?_)
  · refine W.widen (k := 20 + 26 * j + 26) (n := 6000 + 112 * j + 112) (by omega) (by omega) ?_
    exact hk H2 locs2 ls 0 md hLI (by omega) hS (lv_sub hl [0, 1, 2, 3, 4] rfl)
  · exact absurd hp2.symm k1
end
section
/-! the law's loop -/
theorem sub6 {L i : Nat} (hL : L ≤ 3072) (hi : i ≤ 3072) : (Int32.ofNat L - 6 < nI i) ↔ L < i + 6 := by
  have h1 := pk_sub_toInt (a := L) (b := 6) (by omega) (by omega)
  have h2 : (Int32.ofNat L - 6).toInt = (L : Int) - 6 := h1
  rw [Int32.lt_iff_toInt_lt, h2, nI_toInt (by omega)]
  omega
set_option maxHeartbeats 4000000 in
set_option maxRecDepth 100000 in
theorem law_loop {p : Program} {l : Launch} {e : Env} {s : State} {m : MethodId} {below : List Frame} {meth : Method} {c : Code} {b L : Nat} {xs : Nat → Int32} {Γ : gE} {x ro out : Nat} {A : Nat → Nat} (hnt : l.stackTraces = false) (C0 : lw_At p s m meth c b L xs) (hW : PW Γ s) (hgz : gz Γ = s.heap.size) (hZ : ZF Γ x ro out) (hL : L ≤ 3072) : ∀ (n j md : Nat) (er : Int32) (H : Heap) (locs : List Loc) (ls : Array Slot), 6 * j ≤ L → L + 1 ≤ 6 * j + 6 * n → LI Γ H x ro out A er md → gb0 Γ ≤ H.size → va_S (gA Γ) s.heap H locs → lv_has ls 8 [(4, .int (nI (6 * j))), (3, .ref out), (2, .ref (A 0)), (1, .ref x), (0, .ref b)] → W p l e room_1 s m #[Value.ref b] below meth c H locs (20 + 26 * j) (6000 + 112 * j) (lw_Z below #[Value.ref b] s) (F0 m 23 ls []) := by
  obtain ⟨hx, hb, hr, hml, hown0, hts, hScr, hbl, hlocks, hgv⟩ := id C0
  have hown : s.vm.findClass RL = some m.cls := hown0
  have hg : ∀ w ∈ gW, w.before #[Value.ref b] s = true := fun w h => hts w (gW_tbl h)
  have hbA : ¬ gA Γ b := by unfold gA; omega
  intro n
  induction n with
  | zero =>
    intro j md er H locs ls h1 h2
    omega
  | succ n ih =>
    intro j md er H locs ls h1 h2 hI hbz hS hl
    refine lv_iload hx hb dL_law_23 (lv_at hl 0 rfl) ?_
    refine lv_aload_n hx hb dL_law_25 rfl (lv_at hl 4 rfl) ?_
    refine va_slen hx hb hScr hbl hbA hS dL_law_26 ?_
    refine lv_bipush (v := 6) hx hb dL_law_27 (by decide) ?_
    refine lv_isub hx hb dL_law_29 ?_
    refine lv_icmp_gt (tgt := 673) hx hb dL_law_30 (by decide) (fun c1 => ?_) (fun c1 => ?_)
    · refine lv_iconst (v := 1) hx hb dL_law_673 (by decide) ?_
      refine va_forget (fun q hq => by have := hS.2.2 q hq; unfold gA at this; omega) ?_
      refine W.widen (k := 657075) (n := 7124880) (by omega) (by omega) ?_
      exact lw_ret hx hb hr hlocks dL_law_674
    · have hj : 6 * j + 6 ≤ L := by
        rcases Nat.lt_or_ge L (6 * j + 6) with h | h
        · exact absurd ((sub6 hL (by omega)).mpr h) c1
        · exact h
      have hk : ∀ (H2 : Heap) (locs2 : List Loc) (ls2 : Array Slot) (er2 : Int32) (md2 : Nat), LI Γ H2 x ro out A er2 md2 → gb0 Γ ≤ H2.size → va_S (gA Γ) s.heap H2 locs2 → lv_has ls2 8 [(4, .int (nI (6 * j))), (3, .ref out), (2, .ref (A 0)), (1, .ref x), (0, .ref b)] → W p l e room_1 s m #[Value.ref b] below meth c H2 locs2 (20 + 26 * j + 26) (6000 + 112 * j + 112) (lw_Z below #[Value.ref b] s) (F0 m 667 ls2 []) := by
        intro H2 locs2 ls2 er2 md2 hI2 hz2 hS2 hl
        rw [show 20 + 26 * j + 26 = 20 + 26 * (j + 1) by omega, show 6000 + 112 * j + 112 = 6000 + 112 * (j + 1) by omega]
        refine lv_iinc (v := nI (6 * (j + 1))) (lv' := [(4, .int (nI (6 * (j + 1)))), (3, .ref out), (2, .ref (A 0)), (1, .ref x), (0, .ref b)]) hx hb dL_law_667 hl (k := 0) rfl (by rw [show 6 * (j + 1) = 6 * j + 6 by omega]; exact nI_add (6 * j) 6) (by decide) rfl (fun ls hl => ?_)
        refine lv_goto (tgt := 23) hx hb dL_law_670 (by decide) ?_
        exact ih (j + 1) md2 er2 H2 locs2 ls (by omega) (by omega) hI2 hz2 hS2 (lv_sub hl [0, 1, 2, 3, 4] rfl)
      refine lv_aload_n hx hb dL_law_33 rfl (lv_at hl 4 rfl) ?_
      refine lv_iload hx hb dL_law_34 (lv_at hl 0 rfl) ?_
      refine va_sld hx hb hScr hbl hbA hS (vp_in_nI (show 6 * j < L by omega) (by omega)) dL_law_36 ?_
      rw [nI_clamp (show 6 * j < 2 ^ 31 by omega)]
      refine lv_bipush (v := 7) hx hb dL_law_37 (by decide) ?_
      refine lv_iand hx hb dL_law_39 ?_
      obtain ⟨wj, hwj, ewj⟩ := pk_andE (xs (6 * j)) (m := 7) 3 (by decide)
      have hwj : wj < 8 := hwj
      refine lv_topi (fun sv esv => ?_)
      have esv : sv = nI wj := esv.trans (ewj)
      subst esv
      rcases (show wj = 0 ∨ wj = 1 ∨ wj = 2 ∨ wj = 3 ∨ wj = 4 ∨ wj = 5 ∨ wj = 6 ∨ wj = 7 by omega) with rfl | rfl | rfl | rfl | rfl | rfl | rfl | rfl
      · refine lv_tableIn (off := 48) (tgt := 88) hx hb dL_law_40 (by decide) (by decide) (by decide) (by decide) ?_
        exact law_put hnt C0 hW hgz hZ hL hj hI hbz hS hl hk
      · refine lv_tableIn (off := 172) (tgt := 212) hx hb dL_law_40 (by decide) (by decide) (by decide) (by decide) ?_
        exact law_delete hnt C0 hW hgz hZ hL hj hI hbz hS hl hk
      · refine lv_tableIn (off := 252) (tgt := 292) hx hb dL_law_40 (by decide) (by decide) (by decide) (by decide) ?_
        exact law_get hnt C0 hW hgz hZ hL hj hI hbz hS hl hk
      · refine lv_tableIn (off := 319) (tgt := 359) hx hb dL_law_40 (by decide) (by decide) (by decide) (by decide) ?_
        exact law_stamp hnt C0 hW hgz hZ hL hj hI hbz hS hl hk
      · refine lv_tableIn (off := 387) (tgt := 427) hx hb dL_law_40 (by decide) (by decide) (by decide) (by decide) ?_
        exact law_part hnt C0 hW hgz hZ hL hj hI hbz hS hl hk
      · refine lv_tableIn (off := 478) (tgt := 518) hx hb dL_law_40 (by decide) (by decide) (by decide) (by decide) ?_
        exact law_at hnt C0 hW hgz hZ hL hj hI hbz hS hl hk
      · refine lv_tableIn (off := 546) (tgt := 586) hx hb dL_law_40 (by decide) (by decide) (by decide) (by decide) ?_
        exact law_differ hnt C0 hW hgz hZ hL hj hI hbz hS hl hk
      · refine lv_tableIn (off := 614) (tgt := 654) hx hb dL_law_40 (by decide) (by decide) (by decide) (by decide) ?_
        exact law_tables hnt C0 hW hgz hZ hL hj hI hbz hS hl hk
end
section
/-! the law from its entry -/
theorem nW_tbl : ∀ w ∈ nW, w ∈ lw_tbl := by decide +kernel
theorem arr_of {s : State} {args : Array Value} {ty : FieldType} (h : (Cond.arrayClass ty).before args s = true) (hty : ∀ C, ty ≠ .object C) : ∃ c, ArrOfT s c ty ∧ va_RA s c ty := by
  obtain ⟨c, k, comp, h1, h2, h3⟩ := Cond.arrayClass_spec (args := args) (first := s) (o := none) (s := s) (idx := []) h
  refine ⟨c, fun n z => ⟨fun k h => (by cases h), k, h2, comp, h3⟩, ?_⟩
  cases ty <;> first | exact absurd rfl (hty _) | exact h1
theorem arr_o {s : State} (h : va_AO RB s) : ∃ c, ArrOfT s c (.object RB) ∧ va_RA s c (.object RB) := by
  obtain ⟨comp, c, k, h1, -, h2, h3, h4⟩ := Cond.arrayOver_spec h
  exact ⟨c, fun n z => ⟨fun k h => (by cases h), k, h2, comp, h3⟩, k, comp, h2, h3, h1, h4⟩
theorem PN_start {s : State} {b : Nat} (hts : ∀ w ∈ lw_tbl, w.before #[Value.ref b] s = true) (hgv : (Jvm.Cond.and given_1 narrow_1).before #[Value.ref b] s = true) : PN s := by
  have hs := flat_of_before _ hgv
  refine ⟨fun w hw => va_Nw.of (nW_tab w hw) (hts w (nW_tbl w hw)), fun q hq => ?_, fun q hq => ?_, va_AO.of (hts (.arrayOver (.object RB)) (by decide +kernel))⟩
  · simp only [txts, List.mem_cons, List.not_mem_nil, or_false] at hq
    rcases hq with rfl | rfl | rfl | rfl | rfl | rfl | rfl | rfl
    · obtain ⟨a, c, cA, kA, q1, -⟩ := Cond.exactly_spec (args := #[Value.ref b]) (first := s) (o := none) (s := s) (idx := []) (t := .string "StampTables" 81) (cls := "java/lang/String") (hs _ (by decide +kernel))
      exact ⟨a, vk_R.of (hts (.stringRef RS 81 "no such table") (by decide +kernel)) q1⟩
    · obtain ⟨a, c, cA, kA, q1, -⟩ := Cond.exactly_spec (args := #[Value.ref b]) (first := s) (o := none) (s := s) (idx := []) (t := .string "StampTables" 83) (cls := "java/lang/String") (hs _ (by decide +kernel))
      exact ⟨a, vk_R.of (hts (.stringRef RS 83 "no such key") (by decide +kernel)) q1⟩
    · obtain ⟨a, c, cA, kA, q1, -⟩ := Cond.exactly_spec (args := #[Value.ref b]) (first := s) (o := none) (s := s) (idx := []) (t := .string "StampTables" 86) (cls := "java/lang/String") (hs _ (by decide +kernel))
      exact ⟨a, vk_R.of (hts (.stringRef RS 86 "no such stamp") (by decide +kernel)) q1⟩
    · obtain ⟨a, c, cA, kA, q1, -⟩ := Cond.exactly_spec (args := #[Value.ref b]) (first := s) (o := none) (s := s) (idx := []) (t := .string "StampTables" 88) (cls := "java/lang/String") (hs _ (by decide +kernel))
      exact ⟨a, vk_R.of (hts (.stringRef RS 88 "there are 400 tables") (by decide +kernel)) q1⟩
    · obtain ⟨a, c, cA, kA, q1, -⟩ := Cond.exactly_spec (args := #[Value.ref b]) (first := s) (o := none) (s := s) (idx := []) (t := .string "StampTables" 52) (cls := "java/lang/String") (hs _ (by decide +kernel))
      exact ⟨a, vk_R.of (hts (.stringRef RS 52 "the key has no number") (by decide +kernel)) q1⟩
    · obtain ⟨a, c, cA, kA, q1, -⟩ := Cond.exactly_spec (args := #[Value.ref b]) (first := s) (o := none) (s := s) (idx := []) (t := .string "StampTables" 59) (cls := "java/lang/String") (hs _ (by decide +kernel))
      exact ⟨a, vk_R.of (hts (.stringRef RS 59 "low is above high") (by decide +kernel)) q1⟩
    · obtain ⟨a, c, cA, kA, q1, -⟩ := Cond.exactly_spec (args := #[Value.ref b]) (first := s) (o := none) (s := s) (idx := []) (t := .string "StampTables" 62) (cls := "java/lang/String") (hs _ (by decide +kernel))
      exact ⟨a, vk_R.of (hts (.stringRef RS 62 "no such what") (by decide +kernel)) q1⟩
    · obtain ⟨a, c, cA, kA, q1, -⟩ := Cond.exactly_spec (args := #[Value.ref b]) (first := s) (o := none) (s := s) (idx := []) (t := .string "StampTables" 70) (cls := "java/lang/String") (hs _ (by decide +kernel))
      exact ⟨a, vk_R.of (hts (.stringRef RS 70 "no key has so many keys with numbers below it") (by decide +kernel)) q1⟩
  · simp only [ncs, List.mem_cons, List.not_mem_nil, or_false] at hq
    rcases hq with rfl | rfl
    · exact va_Nc.of (hs (.not (.castable xIO xIA)) (by decide +kernel))
    · exact va_Nc.of (hs (.not (.castable xUO xIA)) (by decide +kernel))
theorem PZ_start {Γ : gE} {s : State} {b : Nat} (hgz : gz Γ = s.heap.size) (hts : ∀ w ∈ lw_tbl, w.before #[Value.ref b] s = true) (hgv : (Jvm.Cond.and given_1 narrow_1).before #[Value.ref b] s = true) : PZ Γ s s.heap := by
  have hs := flat_of_before _ hgv
  have hA : ∀ a : Nat, a < s.heap.size → ¬ gA Γ a := fun a h => by unfold gA; omega
  exact ⟨by omega, vx_Zqof (hts (.laysStatic Bundle.tN "UNASSIGNED_STACK" Bundle.steD) (by decide +kernel)) (hts (.initialized Bundle.tN) (by decide +kernel)) (hs (.isRef (.static Bundle.tN "UNASSIGNED_STACK" Bundle.steD)) (by decide +kernel)) hA, vx_Zqof (hts (.laysStatic Bundle.tN "SUPPRESSED_SENTINEL" Bundle.listD) (by decide +kernel)) (hts (.initialized Bundle.tN) (by decide +kernel)) (hs (.isRef (.static Bundle.tN "SUPPRESSED_SENTINEL" Bundle.listD)) (by decide +kernel)) hA⟩
set_option maxHeartbeats 4000000 in
set_option maxRecDepth 100000 in
theorem whole_start {p : Program} {e : Env} {s : State} {m : MethodId} {below : List Frame} {meth : Method} {c : Code} (l : Launch) (hnt : l.stackTraces = false) {b L : Nat} {xs : Nat → Int32} (hL : L ≤ 3072) (C0 : lw_At p s m meth c b L xs) : W p l e room_1 s m #[Value.ref b] below meth c s.heap [] 0 0 (lw_Z below #[Value.ref b] s) (entryFrame m ([Value.ref b] : List Value).toArray 8) := by
  obtain ⟨hx, hb, hr, hml, hown0, hts, hScr, hbl, hlocks, hgv⟩ := id C0
  have hown : s.vm.findClass RL = some m.cls := hown0
  have hg : ∀ w ∈ gW, w.before #[Value.ref b] s = true := fun w h => hts w (gW_tbl h)
  obtain ⟨c0, iS0, hKn0⟩ := u_known (C := RB) (T := TB) (N := 3) (n := 3) hg inB (hg _ kw152)
  obtain ⟨c1, iS1, hKn1⟩ := u_known (C := RS) (T := TS) (N := 2) (n := 2) hg inS (hg _ kw22)
  obtain ⟨c2, iS2, hKn2⟩ := u_known (C := RM) (T := TM) (N := 9) (n := 9) hg inM (hg _ kw284)
  obtain ⟨D, hKc⟩ : ∃ (D : va_G), ∀ (k : Nat) (q : vw_C), gC[k]? = some q → u_Kn s q.1 q.2.1 q.2.2 (D.1 k) (D.2 k) := by
    refine ⟨(fun k => if k = 0 then c0 else if k = 1 then c1 else c2, fun k => if k = 0 then iS0 else if k = 1 then iS1 else iS2), ?_⟩
    intro k q hq
    match k, hq with
    | 0, hq => cases hq; exact hKn0
    | 1, hq => cases hq; exact hKn1
    | 2, hq => cases hq; exact hKn2
    | k + 3, hq => simp [gC] at hq
  have hPN := PN_start hts hgv
  obtain ⟨cJ, hJa⟩ := arr_of (hg _ kw170) (fun C h => by cases h)
  obtain ⟨cI, hIa⟩ := arr_of (hg _ kw317) (fun C h => by cases h)
  obtain ⟨cZ, hZa⟩ := arr_of (hg _ kw318) (fun C h => by cases h)
  obtain ⟨cO, hOa⟩ := arr_o hPN.2.2.2
  have hKall : ∀ (z0 z1 z2 : Nat), PW (D, (s.heap.size, z0, z1, z2), (cJ, cO, cI, cZ)) s := by
    intro z0 z1 z2
    refine ⟨⟨hKc, fun k q hk => ?_⟩, hPN, PZ_start rfl hts hgv⟩
    match k, hk with
    | 0, hk => cases hk; exact hJa
    | 1, hk => cases hk; exact hOa
    | 2, hk => cases hk; exact hIa
    | 3, hk => cases hk; exact hZa
    | k + 4, hk => simp [gT] at hk
  have hl := lv_entry ([.ref b]) (n := 8) (Nat.le_of_ble_eq_true rfl)
  rw [lg_entry_eq]
  generalize (lg_sl ([.ref b]) ++ List.replicate (8 - (lg_sl ([.ref b])).length) Slot.unset).toArray = ls at hl ⊢
  have hl : lv_has ls 8 [(0, .ref b)] := hl
  obtain ⟨Γ, eΓ⟩ : ∃ Γ : gE, Γ = (D, (s.heap.size, 0, 0, 0), (cJ, cO, cI, cZ)) := ⟨_, rfl⟩
  have hW : PW Γ s := by rw [eΓ]; exact hKall 0 0 0
  have hgz : gz Γ = s.heap.size := by rw [eΓ]
  have hA : ∀ q, s.heap.size ≤ q → nA s q := fun _ h => h
  have hS : va_S (nA s) s.heap s.heap [] := va_S.rf
  refine va_new (D := Γ.1) (cl := gC) (tys := gT Γ) (ws := []) (A := nA s) (H0 := s.heap) (ci := 1) (fs := [.null, .int 0]) (C := RS) (T := TS) (N := 2) hx hb hg inS tyS tyS_ok hown (hg _ kw21) (hg _ kw22) (hg _ kw11) hW.1 p0 d0 hS hA rfl (fun j hj => by rcases (show j = 0 ∨ j = 1 by omega) with rfl | rfl <;> rfl) (Nat.le_of_ble_eq_true rfl) (Nat.le_of_ble_eq_true rfl) dL_law_0 (fun x Hx hP hD hSx => ?_)
  have hOx : va_at Γ.1 gC (x, .inr (1, [.null, .int 0])) Hx := hP 0 _ rfl
  have hxA : s.heap.size ≤ x := hD.2 0 _ rfl
  have hSg : va_S (gA Γ) s.heap Hx [] := vS_g hW hSx
  have hxl := hOx.lt
  refine lv_dup hx hb dL_law_3 rfl ?_
  refine va_callv (va_runI (As := []) (rest := [.ref x]) ⟨hx, hb, hml, hown, hg⟩ (c_S_init l Γ Hx hOx) (cwI 0 hg (gI kw25) rfl rfl rfl (hg _ kw11) (hg _ kw23) (hg _ kw24) rfl (by decide +kernel) ⟨Nat.le_of_ble_eq_true rfl, Nat.le_of_ble_eq_true rfl⟩) (gP_S hW hSg) rfl rfl hl.1 rfl (lv_room (Nat.le_of_ble_eq_true rfl)) dL_law_4 ⟨Nat.le_of_ble_eq_true rfl, Nat.le_of_ble_eq_true rfl⟩) hSg (fun q _ h => by rw [show q = x from h]; show gz Γ ≤ x; omega) (fun q h => Or.elim h (fun h => by rw [show q = x from h]; show gz Γ ≤ x; omega) (fun h => Nat.le_trans (show gz Γ ≤ Hx.size by omega) h)) (fun ro t1 Ha locs1 ht1 hvm1 hro hB1 hz1 hk1 hSa => ?_)
  rw [ht1] at hB1
  obtain ⟨hOa, hRa⟩ := hB1
  have hxa := hOa.lt
  have hra := hRa.lt
  refine va_forget (fun q hq => by have := hSa.2.2 q hq; unfold gA at this; omega) ?_
  refine lv_astore_n (lv' := [(1, .ref x), (0, .ref b)]) hx hb dL_law_7 rfl hl (by decide) rfl (fun ls hl => ?_)
  have hSb : va_S (fun q => Ha.size ≤ q) Ha Ha [] := va_S.rf
  refine va_new (D := Γ.1) (cl := gC) (tys := gT Γ) (ws := []) (A := (fun q => Ha.size ≤ q)) (H0 := Ha) (ci := 2) (fs := [.int 0, .null, .null, .null, .null, .null, .null, .null, .int 0]) (C := RM) (T := TM) (N := 9) hx hb hg inM tyM tyM_ok hown (hg _ kw283) (hg _ kw284) (hg _ kw12) hW.1 p0 d0 hSb (fun _ h => h) rfl (fun j hj => by rcases (show j = 0 ∨ j = 1 ∨ j = 2 ∨ j = 3 ∨ j = 4 ∨ j = 5 ∨ j = 6 ∨ j = 7 ∨ j = 8 by omega) with rfl | rfl | rfl | rfl | rfl | rfl | rfl | rfl | rfl <;> rfl) (Nat.le_of_ble_eq_true rfl) (Nat.le_of_ble_eq_true rfl) dL_law_8 (fun mm Hmm hP hD hSmm => ?_)
  have hOm : va_at Γ.1 gC (mm, .inr (2, [.int 0, .null, .null, .null, .null, .null, .null, .null, .int 0])) Hmm := hP 0 _ rfl
  have hmA : Ha.size ≤ mm := hD.2 0 _ rfl
  have hml9 := hOm.lt
  have hXm : hX (fun _ => False) Ha Hmm := ⟨hSmm.1, fun q h1 _ => hSmm.2.1 q h1 (Nat.not_le.mpr h1)⟩
  have hSg2 : va_S (gA Γ) s.heap Hmm [] := ⟨Nat.le_trans hSa.1 hXm.1, fun q h1 h2 => (hXm.2 q (Nat.lt_of_lt_of_le h1 hSa.1) id).trans (hSa.2.1 q h1 h2), fun q hq => nomatch hq⟩
  refine lv_dup hx hb dL_law_11 rfl ?_
  refine va_callv (va_runI (As := []) (rest := [.ref mm]) ⟨hx, hb, hml, hown, hg⟩ (c_M_init l Γ Hmm hOm) (cwI 0 hg (gI kw287) rfl rfl rfl (hg _ kw12) (hg _ kw285) (hg _ kw286) rfl (by decide +kernel) ⟨Nat.le_of_ble_eq_true rfl, Nat.le_of_ble_eq_true rfl⟩) (gP_S hW hSg2) rfl rfl hl.1 rfl (lv_room (Nat.le_of_ble_eq_true rfl)) dL_law_12 ⟨Nat.le_of_ble_eq_true rfl, Nat.le_of_ble_eq_true rfl⟩) hSg2 (fun q _ h => by rw [show q = mm from h]; show gz Γ ≤ mm; have := hSa.1; omega) (fun q h => Or.elim h (fun h => by rw [show q = mm from h]; show gz Γ ≤ mm; have := hSa.1; omega) (fun h => Nat.le_trans (show gz Γ ≤ Hmm.size by have := hSa.1; have := hXm.1; omega) h)) (fun A t2 Hb locs2 ht2 hvm2 hpA hB2 hz2 hk2 hSbb => ?_)
  rw [ht2] at hB2
  obtain ⟨eA0, hDA⟩ := hpA
  have hXb : hX (fun q => q = mm) Hmm Hb := ⟨hz2, fun q h1 h2 => hk2 q h1 h2⟩
  have hOb := hXb.at (hXm.at hOa id) (fun h => by have h : x = mm := h; omega)
  have hRb := hXb.at (hXm.at hRa id) (fun h => by have h : ro = mm := h; omega)
  refine va_forget (fun q hq => by have := hSbb.2.2 q hq; unfold gA at this; omega) ?_
  rw [← eA0]
  refine lv_astore_n (lv' := [(2, .ref (A 0)), (1, .ref x), (0, .ref b)]) hx hb dL_law_15 rfl hl (by decide) rfl (fun ls hl => ?_)
  refine lv_iconst (v := 1) hx hb dL_law_16 (by decide) ?_
  have hSc : va_S (fun q => Hb.size ≤ q) Hb Hb [] := va_S.rf
  refine va_newa (atype := .long) (D := Γ.1) (cl := gC) (tys := gT Γ) (ws := []) (A := fun q => Hb.size ≤ q) (H0 := Hb) (ty := .long) (a0 := (1, .inr (.inl (fun _ => 0)))) (N' := 1) hx hb (hg _ kw170) rfl hW.1 p0 d0 hSc (fun _ h => h) (fun cA => rfl) (by decide) (by decide) (by decide) (Nat.le_of_ble_eq_true rfl) (Nat.le_of_ble_eq_true rfl) dL_law_17 (fun out cA Hc hK hP hD hSd => ?_)
  have eA := kJ_eq hW.1 hK
  subst eA
  have hJ : oJ Γ Hc out 1 (fun _ => 0) := hP 0 _ rfl
  have hoA : Hb.size ≤ out := hD.2 0 _ rfl
  have hol := hJ.lt
  have hXc : hX (fun _ => False) Hb Hc := ⟨hSd.1, fun q h1 _ => hSd.2.1 q h1 (Nat.not_le.mpr h1)⟩
  have hSg3 : va_S (gA Γ) s.heap Hc [] := ⟨Nat.le_trans hSbb.1 hXc.1, fun q h1 h2 => (hXc.2 q (Nat.lt_of_lt_of_le h1 hSbb.1) id).trans (hSbb.2.1 q h1 h2), fun q hq => nomatch hq⟩
  refine lv_astore_n (lv' := [(3, .ref out), (2, .ref (A 0)), (1, .ref x), (0, .ref b)]) hx hb dL_law_19 rfl hl (by decide) rfl (fun ls hl => ?_)
  refine lv_iconst (v := 0) hx hb dL_law_20 (by decide) ?_
  refine lv_istore (lv' := [(4, .int 0), (3, .ref out), (2, .ref (A 0)), (1, .ref x), (0, .ref b)]) hx hb dL_law_21 hl (by decide) rfl (fun ls hl => ?_)
  obtain ⟨Γ2, eΓ2⟩ : ∃ Γ2 : gE, Γ2 = (D, (s.heap.size, Ha.size, Hb.size, Hc.size), (cJ, cO, cI, cZ)) := ⟨_, rfl⟩
  have hW2 : PW Γ2 s := by rw [eΓ2]; exact hKall _ _ _
  have hgz2 : gz Γ2 = s.heap.size := by rw [eΓ2]
  have g1 : gm0 Γ2 = Ha.size := by rw [eΓ2]
  have g2 : gm1 Γ2 = Hb.size := by rw [eΓ2]
  have g3 : gb0 Γ2 = Hc.size := by rw [eΓ2]
  have hZ2 : ZF Γ2 x ro out := by unfold ZF; rw [hgz2, g1, g2, g3]; have := hXm.1; have := hXb.1; have := hSa.1; refine ⟨hxA, by omega, hxa, hra, by omega, by omega, hoA, hol⟩
  have hO2 : oS Γ2 Hc x ro (nI 1) := by rw [eΓ2]; rw [eΓ] at hOb; exact hXc.at hOb id
  have hR2 : oO Γ2 Hc ro 400 (fun _ => none) := by rw [eΓ2]; rw [eΓ] at hRb; exact hXc.at hRb id
  have hJ2 : oJ Γ2 Hc out 1 (fun _ => 0) := by rw [eΓ2]; rw [eΓ] at hJ; exact hJ
  have hP2 : va_P Γ2.1 gC (wM Γ2 A 0 (nI 1) (fun _ => 0) (fun _ => 0) (fun _ => 0) (fun _ => 0) (fun _ => 0) (fun _ => 0) (fun _ => 0)) Hc := by
    rw [eΓ] at hB2
    rw [eΓ2]
    exact va_P.kept hB2 (fun k q hq => hXc.2 q.1 (hB2 k q hq).lt id)
  have hD2 : va_D (mA Γ2) (wM Γ2 A 0 (nI 1) (fun _ => 0) (fun _ => 0) (fun _ => 0) (fun _ => 0) (fun _ => 0) (fun _ => 0) (fun _ => 0)) := by
    rw [eΓ] at hDA hB2
    have h9 : va_D (mA Γ2) (wM (D, (s.heap.size, 0, 0, 0), (cJ, cO, cI, cZ)) A 0 (nI 1) (fun _ => 0) (fun _ => 0) (fun _ => 0) (fun _ => 0) (fun _ => 0) (fun _ => 0) (fun _ => 0)) := hDA.weaken (fun k q hq h => by
      have hlt := (hB2 k q hq).lt
      have h8 := hXm.1
      unfold mA; rw [g1, g2]
      exact ⟨h.elim (fun h => by omega) (fun h => by omega), hlt⟩)
    rw [eΓ2]
    rw [eΓ2] at h9
    exact h9
  have hMI : MI 1 (fun _ => 0) (fun _ => 0) (fun _ => 0) (fun _ => 0) := fun c h1 h2 => by omega
  have hSX : SX Γ2 Hc x ro 1 (fun _ => none) (mV (fun _ => 0) (fun _ => 0) (fun _ => 0) (fun _ => 0)) (mSt (fun _ => 0) (fun _ => 0) (fun _ => 0)) := by
    refine ⟨hO2, hR2, by omega, fun t ht => ⟨mSt_wf (by omega) hMI ht, TR.ofNone (fun k h1 h2 => ?_)⟩⟩
    rw [show t = 0 by omega]
    simp [mV, mSt, wq_0]
  have hLI : LI Γ2 Hc x ro out A 0 1 := ⟨_, _, _, _, _, _, _, _, _, hSX, hP2, hD2, hMI, Nat.le_refl _, hJ2⟩
  have hSg4 : va_S (gA Γ2) s.heap Hc [] := vS_mono hSg3 (fun q h => by unfold gA at h ⊢; omega)
  refine W.widen (k := 20 + 26 * 0) (n := 6000 + 112 * 0) (by omega) (by omega) ?_
  exact law_loop hnt C0 hW2 hgz2 hZ2 hL (L + 1) 0 1 0 Hc [] ls (by omega) (by omega) hLI (by omega) hSg4 (lv_sub hl [0, 1, 2, 3, 4] rfl)
end
section
set_option maxHeartbeats 4000000 in
theorem lw_walk (l : Launch) (hnt : l.stackTraces = false) (b : Addr) (xs : List Int32) : MetFree l x (headSpec (Jvm.Cond.code x code maxLocals ret :: tables_1) room_1) (lw_P b xs) (fun _ _ _ _ _ => True) lw_Q := by
  refine MetFree.of_bodyS (code := code) (maxLocals := maxLocals) (ret := ret) (by decide) ?_ ?_
  · intro args s m h hn
    obtain ⟨meth, c, h1, h2, h3, h4, h5, h6, -, -⟩ := Cond.code_spec hn (atoms_spec (ws := Jvm.Cond.code x code maxLocals ret :: tables_1) h _ List.mem_cons_self)
    exact ⟨meth, c, h1, h2, h3, h4, h5, h6⟩
  · intro p e s m args below meth c s₁ B hml0 hP _
    obtain ⟨rfl, hx, hbd, hgv⟩ := hP
    obtain ⟨scr, harrAt, hlist, hof, hsmall⟩ := hx
    obtain ⟨hcb, hkn, -, -⟩ := State.arrayAt?_spec harrAt
    have hown : s.vm.findClass R_law = some m.cls := findClass_of_methodNamed B.named
    have hts0 : ∀ c ∈ (Jvm.Cond.code x code maxLocals ret :: tables_1), c.before #[Value.ref b] s = true := atoms_spec (ws := Jvm.Cond.code x code maxLocals ret :: tables_1) B.pre
    have hts : ∀ w ∈ lw_tbl, w.before #[Value.ref b] s = true := k2_hts_sels lw_privs (fun w hw => hts0 w (List.mem_cons_of_mem _ hw)) lw_privs_ok
    have hml : c.maxLocals = 8 := B.maxLocals_eq (hts0 _ List.mem_cons_self)
    have X₀ : Stand p l e room_1 s m #[Value.ref b] below meth c s₁ [] 0 0 := Stand.of_body B
    have hh0 : s₁.heap = s.heap := by rw [B.state]; rfl
    have hsz : scr.slots.size = xs.length := by rw [← Array.length_toList, hlist, List.length_map]
    have hval : ∀ j : Nat, j < xs.length → scr.slots[j]? = some (.int (xs.getD j 0)) := fun j hj => by
      rw [← Array.getElem?_toList, hlist]
      simp [hj]
    have hbl : b < s.heap.size := (Array.getElem?_eq_some_iff.mp hcb).1
    have hX : va_X b xs.length (fun j => xs.getD j 0) s s.heap := ⟨scr, hcb, hof, hkn, hsz, hval⟩
    have K : W p l e room_1 s m #[Value.ref b] below meth c s₁.heap [] 0 0 (lw_Z below #[Value.ref b] s) (entryFrame m ([Value.ref b] : List Value).toArray 8) := by
      rw [hh0]
      exact whole_start l hnt hbd ⟨B.exec, B.bytes, B.returns, hml, hown, hts, hX, hbl, B.notSynchronized, hgv⟩
    obtain ⟨t, a1, o, b1, b2, b3⟩ := K s₁ rfl X₀
    exact ⟨t, o, a1, b1, b2, b3⟩
theorem lw_pre_spec {args : Array Value} {s : State} (h : (Jvm.Cond.and given_1 narrow_1).before args s = true) (hr : rest_1_c.before args s = true) : ∃ (b : Addr) (xs : List Int32), lw_P b xs args s := by
  have hs := flat_of_before _ h
  have hq := flat_of_before _ hr
  have hc : (Cond.count 1).before args s = true := hs _ (by decide +kernel)
  have harr : (Cond.arrayOf (.arg 0) .int).before args s = true := hs _ (by decide +kernel)
  have hle : (Cond.le (.length (.arg 0)) (.int 3072)).before args s = true := hs _ (by decide +kernel)
  have hlen : (Cond.isInt (.length (.arg 0))).before args s = true := hq _ (by decide +kernel)
  have hall : (Cond.all (.arg 0) (.isInt (.elem (.arg 0) (.index 0)))).before args s = true := hq _ (by decide +kernel)
  obtain ⟨b, xs, hb, hx⟩ := State.ints_of_pre rfl harr hlen hall
  have hsm : xs.length < 2 ^ 31 := hx.choose_spec.2.2.2
  have hev : (Term.length (.arg 0)).eval args s none [] s = some (.int xs.length.toInt32) := hx.length_eval hb
  have hv := Cond.le_ints hev (show (Term.int 3072).eval args s none [] s = some (.int 3072) from rfl)
  have hd : xs.length.toInt32 ≤ 3072 := by
    simpa [Cond.before, Cond.holds, hv] using hle
  have hN : xs.length ≤ 3072 := (Int32.ofNat_le_ofNat hsm (by decide)).mp (show Int32.ofNat xs.length ≤ Int32.ofNat 3072 from hd)
  exact ⟨b, xs, Cond.one_arg hc (show args[0]? = some (.ref b) from hb), hx, hN, h⟩
theorem lw_comes (l : Launch) (hnt : l.stackTraces = false) : Comes l x (Jvm.Cond.code x code maxLocals ret :: tables_1) room_1 (fun tb e args s => Calls_1 tb e args s ∧ rest_1 tb e args s ∧ Pre_1 tb e args s)
    (fun _ _ args s o t => lw_Q args s o t) := by
  intro p e ha hc hk s m args below hf hfit hheap happ hpre
  obtain ⟨b, xs, hP⟩ := lw_pre_spec hpre.2.2 hpre.2.1
  obtain ⟨k, o, h1, h2, h3, hQ⟩   := lw_walk l hnt b xs p e ha hc hk s m args below hf ((Spec.applies_iff_loose hf).mp happ).1 hP trivial
  exact ⟨k, o, h1, h2, h3, hQ⟩
theorem lw_frame {s t : State} {o : Outcome} {args : Array Value} (h : Framed s o t [] 657075 7124880) :
    Framed s o t (fieldLocs frame_1_writes args s ++ arrayLocs frame_1_arrays args s ++ staticLocs frame_1_statics s) 657075 7124880 := h
theorem lw_limb (L : Cond) (hL : ∀ (args : Array Value) (s t : State), L.after args s (.returned (some (.int 1))) t = true) :
    ArmFor flags0 classFile x code maxLocals ret World_1 tables_1 room_1 Calls_1 rest_1 Pre_1
      (fun tb e a s o t => postC L tb e a s o t ∧ Framed s o t (fieldLocs frame_1_writes a s ++ arrayLocs frame_1_arrays a s ++ staticLocs frame_1_statics s) 657075 7124880) := by
  intro l hfl _ _ p e ha hc hk s m args below hf hfit hheap happ hpre
  have hnt : l.stackTraces = false := by unfold Launch.stackTraces; rw [hfl]; decide
  obtain ⟨k, o, h1, h2, h3, rfl, hF⟩ := lw_comes l hnt p e ha hc hk s m args below hf hfit hheap happ hpre
  exact ⟨k, _, h1, h2, h3, hL args s _, lw_frame hF⟩
theorem i_vc : Claimed_1_1 ∧ Claimed_1_2 := ⟨lw_limb limb_1_1 (fun args s t => by simp [limb_1_1, Cond.after, Cond.holds, Cond.value]), lw_limb limb_1_2 (fun args s t => Cond.after_iff.mpr (by
  first | (rw [show limb_1_2 = Cond.eq .result (.int 1) from rfl, Cond.eq_ints (x := 1) (y := 1) rfl rfl]; simp; done) | (simp [limb_1_2, Cond.value, Term.eval]; done)))⟩
end
