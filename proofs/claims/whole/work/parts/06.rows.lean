/-! rows for references that may be null, and shapes of this claim -/
theorem cat_rf (r : Option Nat) : (va_rf r).category = 1 := by cases r <;> rfl
section QR
variable {p : Program} {l : Launch} {e : Env} {R : Room} {s : State} {m : MethodId} {args : Array Value} {below : List Frame} {meth : Method} {c : Code} {H : Heap} {locs : List Loc} {cells slots : Nat} {Q : State → Prop}
variable {cc : ByteArray} {pc : Nat} {ls : Array Slot} {rest : List Value}
theorem q_aload_n (hexec : p.tables.exec = Jvm.exec) (hb : c.code = cc) {k : Fin 4} {i : Nat} {r : Option Nat} (hdg : decode cc pc = .ok (.aload_n k, 1)) (hi : (k : Nat) = i) (hl : ls[i]? = some (.val (va_rf r)))
    (kk : W p l e R s m args below meth c H locs cells slots Q (F0 m (pc + 1) ls (va_rf r :: rest))) : W p l e R s m args below meth c H locs cells slots Q (F0 m pc ls (rest)) := by
  cases r with
  | none => exact lv_aload_nN hexec hb hdg hi hl kk
  | some x => exact lv_aload_n hexec hb hdg hi hl kk
theorem q_aload (hexec : p.tables.exec = Jvm.exec) (hb : c.code = cc) {i : Nat} {r : Option Nat} (hdg : decode cc pc = .ok (.aload i, 2)) (hl : ls[i]? = some (.val (va_rf r)))
    (kk : W p l e R s m args below meth c H locs cells slots Q (F0 m (pc + 2) ls (va_rf r :: rest))) : W p l e R s m args below meth c H locs cells slots Q (F0 m pc ls (rest)) := by
  cases r with
  | none => exact lv_aloadN hexec hb hdg hl kk
  | some x => exact lv_aload hexec hb hdg hl kk
theorem q_astore_n (hexec : p.tables.exec = Jvm.exec) (hb : c.code = cc) {k : Fin 4} {i nL : Nat} {r : Option Nat} {lv lv' : List (Nat × Value)} (hdg : decode cc pc = .ok (.astore_n k, 1)) (hi : (k : Nat) = i) (h : lv_has ls nL lv) (hn : i < nL) (hl : (i, va_rf r) :: lv.filter (fun q => !(q.1 == i) && !(q.1 + 1 == i && q.2.category == 2)) = lv')
    (kk : ∀ ls' : Array Slot, lv_has ls' nL lv' → W p l e R s m args below meth c H locs cells slots Q (F0 m (pc + 1) ls' rest)) : W p l e R s m args below meth c H locs cells slots Q (F0 m pc ls (va_rf r :: rest)) := by
  cases r with
  | none => exact lv_astore_nN hexec hb hdg hi h hn hl kk
  | some x => exact lv_astore_n hexec hb hdg hi h hn hl kk
theorem q_astore (hexec : p.tables.exec = Jvm.exec) (hb : c.code = cc) {i nL : Nat} {r : Option Nat} {lv lv' : List (Nat × Value)} (hdg : decode cc pc = .ok (.astore i, 2)) (h : lv_has ls nL lv) (hn : i < nL) (hl : (i, va_rf r) :: lv.filter (fun q => !(q.1 == i) && !(q.1 + 1 == i && q.2.category == 2)) = lv')
    (kk : ∀ ls' : Array Slot, lv_has ls' nL lv' → W p l e R s m args below meth c H locs cells slots Q (F0 m (pc + 2) ls' rest)) : W p l e R s m args below meth c H locs cells slots Q (F0 m pc ls (va_rf r :: rest)) := by
  cases r with
  | none => exact lv_astoreN hexec hb hdg h hn hl kk
  | some x => exact lv_astore hexec hb hdg h hn hl kk
theorem q_ifnonnull (hexec : p.tables.exec = Jvm.exec) (hb : c.code = cc) {r : Option Nat} {off : Int} {tgt : Nat} (hdg : decode cc pc = .ok (.ifnonnull off, 3)) (ht : (pc : Int) + off = (tgt : Int))
    (kt : ∀ x, r = some x → W p l e R s m args below meth c H locs cells slots Q (F0 m tgt ls rest)) (kf : r = none → W p l e R s m args below meth c H locs cells slots Q (F0 m (pc + 3) ls rest)) : W p l e R s m args below meth c H locs cells slots Q (F0 m pc ls (va_rf r :: rest)) := by
  cases r with
  | none => exact lv_ifnonnullN hexec hb hdg (kf rfl)
  | some x => exact lv_ifnonnull hexec hb hdg ht (kt x rfl)
theorem q_ifnull (hexec : p.tables.exec = Jvm.exec) (hb : c.code = cc) {r : Option Nat} {off : Int} {tgt : Nat} (hdg : decode cc pc = .ok (.ifnull off, 3)) (ht : (pc : Int) + off = (tgt : Int))
    (kt : r = none → W p l e R s m args below meth c H locs cells slots Q (F0 m tgt ls rest)) (kf : ∀ x, r = some x → W p l e R s m args below meth c H locs cells slots Q (F0 m (pc + 3) ls rest)) : W p l e R s m args below meth c H locs cells slots Q (F0 m pc ls (va_rf r :: rest)) := by
  cases r with
  | none => exact lv_ifnullN hexec hb hdg ht (kt rfl)
  | some x => exact lv_ifnull hexec hb hdg (kf x rfl)
end QR
/-- a block: its two halves and its array -/
abbrev oB (Γ : gE) (H : Heap) (a : Nat) (lo up : Option Nat) (tk : Nat) : Prop := va_at Γ.1 gC (a, .inr (0, [va_rf lo, va_rf up, .ref tk])) H
/-- an array of five longs -/
abbrev oJ (Γ : gE) (H : Heap) (a : Nat) (n : Nat) (f : Nat → Int64) : Prop := va_at Γ.1 gC (a, .inl (kJ Γ, n, .inr (.inl f))) H
/-- the StampTables object -/
abbrev oS (Γ : gE) (H : Heap) (a ro : Nat) (md : Int32) : Prop := va_at Γ.1 gC (a, .inr (1, [.ref ro, .int md])) H
/-- an array of blocks -/
abbrev oO (Γ : gE) (H : Heap) (a : Nat) (n : Nat) (f : Nat → Option Nat) : Prop := va_at Γ.1 gC (a, .inl (kO Γ, n, .inr (.inr (.inr (.inr f))))) H
abbrev oI (Γ : gE) (H : Heap) (a : Nat) (n : Nat) (f : Nat → Int32) : Prop := va_at Γ.1 gC (a, .inl (kI Γ, n, .inl f)) H
abbrev oZ (Γ : gE) (H : Heap) (a : Nat) (n : Nat) (f : Nat → Int32) : Prop := va_at Γ.1 gC (a, .inl (kZ Γ, n, .inl f)) H
/-- what is taken together of no key, and of two neighbouring parts -/
def tkN (w : Nat) : Int64 := if w = 0 ∨ w = 1 then 0 else -1
def cmb (w : Nat) (a b : Int64) : Int64 := if w = 2 then (if a = -1 then b else a) else if w = 3 then (if b = -1 then a else b) else if w = 4 then (if b < a then a else b) else a + b
/-- a reference's array, a null one's too -/
def bT (Γ : gE) (H : Heap) (r : Option Nat) (f : Nat → Int64) : Prop := match r with
  | none => ∀ w, w ≤ 4 → f w = tkN w
  | some a => gb0 Γ ≤ a ∧ ∃ (lo up : Option Nat) (tk : Nat), oB Γ H a lo up tk ∧ gb0 Γ ≤ tk ∧ oJ Γ H tk 5 f
/-- its halves -/
def bL (Γ : gE) (H : Heap) (r lo up : Option Nat) : Prop := match r with
  | none => lo = none ∧ up = none
  | some a => gb0 Γ ≤ a ∧ ∃ tk : Nat, oB Γ H a lo up tk
