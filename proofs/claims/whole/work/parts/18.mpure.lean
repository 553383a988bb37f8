/-! the reference's tables, as its arrays tell them -/
def MI (mn : Nat) (fof fke fst fno : Nat → Int32) : Prop := ∀ c, 0 < c → c < mn → (∃ p, p < c ∧ fof c = nI p) ∧ (∃ k, k < 1024 ∧ fke c = nI k) ∧ okS (fst c) ∧ (fno c = 0 ∨ fno c = 1)
/-- the entry that wrote key k last, from c back: 0 is none -/
def wr (fof fke : Nat → Int32) (k : Nat) : Nat → Nat → Nat
  | 0, _ => 0
  | n + 1, c => if c = 0 then 0 else if fke c = nI k then c else wr fof fke k n (fof c).toNatClampNeg
theorem wr_fuel {mn : Nat} {fof fke fst fno : Nat → Int32} (hmn : mn ≤ 400) (h : MI mn fof fke fst fno) (k : Nat) : ∀ (n n' c : Nat), c < n → c < n' → c < mn → wr fof fke k n c = wr fof fke k n' c := by
  intro n
  induction n with
  | zero => intro n' c h1; omega
  | succ n ih =>
    intro n' c h1 h2 h3
    obtain ⟨n', rfl⟩ : ∃ x, n' = x + 1 := ⟨n' - 1, by omega⟩
    by_cases h0 : c = 0
    · simp [wr, h0]
    · obtain ⟨⟨p, hp, ep⟩, -⟩ := h c (by omega) h3
      have hc : (fof c).toNatClampNeg = p := by rw [ep]; exact nI_clamp (by omega)
      simp only [wr, h0, if_false, hc]
      rw [ih n' p (by omega) (by omega) (by omega)]
def wq (fof fke : Nat → Int32) (t k : Nat) : Nat := wr fof fke k 400 t
theorem wq_0 (fof fke : Nat → Int32) (k : Nat) : wq fof fke 0 k = 0 := by simp [wq, wr]
theorem wq_hit {fof fke : Nat → Int32} {c k : Nat} (hc : 0 < c) (h : fke c = nI k) : wq fof fke c k = c := by
  simp [wq, wr, h, show ¬ c = 0 by omega]
theorem wq_miss {mn : Nat} {fof fke fst fno : Nat → Int32} (hmn : mn ≤ 400) (h : MI mn fof fke fst fno) {c p k : Nat} (hc : 0 < c) (hcm : c < mn) (hp : p < c) (ep : fof c = nI p) (hk : ¬ fke c = nI k) : wq fof fke c k = wq fof fke p k := by
  have hcl : (fof c).toNatClampNeg = p := by rw [ep]; exact nI_clamp (by omega)
  unfold wq
  have hst : wr fof fke k (399 + 1) c = wr fof fke k 399 p := by rw [wr, if_neg (show ¬ c = 0 by omega), if_neg hk, hcl]
  rw [show wr fof fke k 400 c = wr fof fke k 399 p from hst]
  exact wr_fuel hmn h k 399 400 p (by omega) (by omega) (by omega)
theorem wq_ok {mn : Nat} {fof fke fst fno : Nat → Int32} (hmn : mn ≤ 400) (h : MI mn fof fke fst fno) (k : Nat) : ∀ c, c < mn → wq fof fke c k ≤ c ∧ (wq fof fke c k ≠ 0 → fke (wq fof fke c k) = nI k) := by
  intro c
  induction c using Nat.strongRecOn with
  | _ c ih =>
    intro hc
    by_cases h0 : c = 0
    · subst h0
      rw [wq_0]
      exact ⟨Nat.le_refl _, fun h => absurd rfl h⟩
    · obtain ⟨⟨p, hp, ep⟩, -⟩ := h c (by omega) hc
      by_cases hk : fke c = nI k
      · rw [wq_hit (by omega) hk]
        exact ⟨Nat.le_refl _, fun _ => hk⟩
      · rw [wq_miss hmn h (by omega) hc hp ep hk]
        obtain ⟨h1, h2⟩ := ih p hp (by omega)
        exact ⟨by omega, h2⟩
theorem wr_congr {mn : Nat} {fof fke fst fno fof' fke' : Nat → Int32} (hmn : mn ≤ 400) (h : MI mn fof fke fst fno) (he : ∀ c, c < mn → fof c = fof' c ∧ fke c = fke' c) (k : Nat) : ∀ (n c : Nat), c < mn → wr fof fke k n c = wr fof' fke' k n c := by
  intro n
  induction n with
  | zero => intro c _; rfl
  | succ n ih =>
    intro c hc
    by_cases h0 : c = 0
    · simp [wr, h0]
    · obtain ⟨⟨p, hp, ep⟩, -⟩ := h c (by omega) hc
      obtain ⟨e1, e2⟩ := he c hc
      have hcl : (fof c).toNatClampNeg = p := by rw [ep]; exact nI_clamp (by omega)
      simp only [wr, h0, if_false, ← e2, ← e1, hcl]
      rw [ih p (by omega)]
def mV (fof fke : Nat → Int32) (fnu : Nat → Int64) (fno : Nat → Int32) (t k : Nat) : Option Int64 := if wq fof fke t k = 0 then none else if fno (wq fof fke t k) = 0 then some (fnu (wq fof fke t k)) else none
def mSt (fof fke fst : Nat → Int32) (t k : Nat) : Int32 := if wq fof fke t k = 0 then -1 else fst (wq fof fke t k)
theorem mSt_wf {mn : Nat} {fof fke fst fno : Nat → Int32} (hmn : mn ≤ 400) (h : MI mn fof fke fst fno) {t : Nat} (ht : t < mn) : wfS (mSt fof fke fst t) := by
  intro k
  unfold mSt
  have h1 := wq_ok hmn h k t ht
  by_cases h0 : wq fof fke t k = 0
  · rw [if_pos h0]; decide
  · rw [if_neg h0]
    obtain ⟨-, -, h3, -⟩ := h _ (by omega) (Nat.lt_of_le_of_lt h1.1 ht)
    have := Int32.le_iff_toInt_le.mp h3.1
    simp at this
    omega
/-- a new entry -/
theorem new_MI {mn t k : Nat} {fof fke fst fno : Nat → Int32} {st no : Int32} (h : MI mn fof fke fst fno) (ht : t < mn) (hk : k < 1024) (hst : okS st) (hno : no = 0 ∨ no = 1) : MI (mn + 1) (upd fof mn (nI t)) (upd fke mn (nI k)) (upd fst mn st) (upd fno mn no) := by
  intro c h0 hc
  by_cases e : c = mn
  · subst e
    rw [pk_us, pk_us, pk_us, pk_us]
    exact ⟨⟨t, ht, rfl⟩, ⟨k, hk, rfl⟩, hst, hno⟩
  · rw [pk_un e, pk_un e, pk_un e, pk_un e]
    exact h c h0 (by omega)
theorem new_wq {mn t k : Nat} {fof fke fst fno : Nat → Int32} (hmn : mn < 400) (h1 : 1 ≤ mn) (h : MI mn fof fke fst fno) (ht : t < mn) (hk : k < 1024) (k' : Nat) (hk' : k' < 1024) :
    (∀ t', t' < mn → wq (upd fof mn (nI t)) (upd fke mn (nI k)) t' k' = wq fof fke t' k') ∧ wq (upd fof mn (nI t)) (upd fke mn (nI k)) mn k' = (if k' = k then mn else wq fof fke t k') := by
  have hag : ∀ t', t' < mn → wq (upd fof mn (nI t)) (upd fke mn (nI k)) t' k' = wq fof fke t' k' := fun t' ht' =>
    (wr_congr (by omega) h (fun c hc => ⟨(pk_un (by omega)).symm, (pk_un (by omega)).symm⟩) k' 400 t' ht').symm
  refine ⟨hag, ?_⟩
  have hM := new_MI (st := 0) (no := 0) h ht hk ⟨by decide, by decide⟩ (Or.inl rfl)
  by_cases e : k' = k
  · rw [if_pos e, wq_hit (by omega) (by rw [pk_us, e])]
  · rw [if_neg e, wq_miss (by omega) hM (by omega) (by omega) ht pk_us (by rw [pk_us]; exact fun q => e ((nI_eq (by omega) (by omega)).mp q).symm), hag t ht]
theorem new_V {mn t k : Nat} {fof fke fst fno : Nat → Int32} {fnu : Nat → Int64} {v : Int64} {no : Int32} (hmn : mn < 400) (h1 : 1 ≤ mn) (h : MI mn fof fke fst fno) (ht : t < mn) (hk : k < 1024) (k' : Nat) (hk' : k' < 1024) :
    (∀ t', t' < mn → mV (upd fof mn (nI t)) (upd fke mn (nI k)) (vp_updL fnu mn v) (upd fno mn no) t' k' = mV fof fke fnu fno t' k') ∧ mV (upd fof mn (nI t)) (upd fke mn (nI k)) (vp_updL fnu mn v) (upd fno mn no) mn k' = va_up (mV fof fke fnu fno t) k (if no = 0 then some v else none) k' := by
  obtain ⟨ha, hb⟩ := new_wq hmn h1 h ht hk k' hk'
  have hlt : ∀ t', t' < mn → wq fof fke t' k' ≠ mn := fun t' ht' => by have := (wq_ok (by omega) h k' t' ht').1; omega
  constructor
  · intro t' ht'
    unfold mV
    rw [ha t' ht', pk_un (hlt t' ht'), pk_uLn (hlt t' ht')]
  · unfold mV
    rw [hb]
    by_cases e : k' = k
    · subst e
      rw [if_pos rfl, va_up_self, if_neg (by omega), pk_us, pk_uLs]
    · rw [if_neg e, va_up_ne _ _ e, pk_un (hlt t ht), pk_uLn (hlt t ht)]
theorem new_S {mn t k : Nat} {fof fke fst fno : Nat → Int32} {st : Int32} (hmn : mn < 400) (h1 : 1 ≤ mn) (h : MI mn fof fke fst fno) (ht : t < mn) (hk : k < 1024) (k' : Nat) (hk' : k' < 1024) :
    (∀ t', t' < mn → mSt (upd fof mn (nI t)) (upd fke mn (nI k)) (upd fst mn st) t' k' = mSt fof fke fst t' k') ∧ mSt (upd fof mn (nI t)) (upd fke mn (nI k)) (upd fst mn st) mn k' = va_up (mSt fof fke fst t) k st k' := by
  obtain ⟨ha, hb⟩ := new_wq hmn h1 h ht hk k' hk'
  have hlt : ∀ t', t' < mn → wq fof fke t' k' ≠ mn := fun t' ht' => by have := (wq_ok (by omega) h k' t' ht').1; omega
  constructor
  · intro t' ht'
    unfold mSt
    rw [ha t' ht', pk_un (hlt t' ht')]
  · unfold mSt
    rw [hb]
    by_cases e : k' = k
    · subst e
      rw [if_pos rfl, va_up_self, if_neg (by omega), pk_us]
    · rw [if_neg e, va_up_ne _ _ e, pk_un (hlt t ht)]
/-- the reference's world -/
def mA (Γ : gE) : Nat → Prop := fun q => gm0 Γ ≤ q ∧ q < gm1 Γ
abbrev wM (Γ : gE) (A : Nat → Nat) (er mn : Int32) (fof fke fst : Nat → Int32) (fnu : Nat → Int64) (fno fla fot : Nat → Int32) : va_W :=
  [(A 0, .inr (2, [.int er, .ref (A 1), .ref (A 2), .ref (A 3), .ref (A 4), .ref (A 5), .ref (A 6), .ref (A 7), .int mn])), (A 1, .inl (kI Γ, 400, .inl fof)), (A 2, .inl (kI Γ, 400, .inl fke)), (A 3, .inl (kI Γ, 400, .inl fst)), (A 4, .inl (kJ Γ, 400, .inr (.inl fnu))), (A 5, .inl (kZ Γ, 400, .inl fno)), (A 6, .inl (kI Γ, 1024, .inl fla)), (A 7, .inl (kI Γ, 1024, .inl fot))]
theorem vD_map {A : Nat → Prop} {ws ws' : va_W} (h : ws.map Prod.fst = ws'.map Prod.fst) (hD : va_D A ws) : va_D A ws' := by
  have key : ∀ (k : Nat) (q : Nat × va_E), ws'[k]? = some q → ∃ q0, ws[k]? = some q0 ∧ q0.1 = q.1 := by
    intro k q hk
    have h1 : (ws'.map Prod.fst)[k]? = some q.1 := by rw [List.getElem?_map, hk]; rfl
    rw [← h, List.getElem?_map] at h1
    cases hw : ws[k]? with
    | none => rw [hw] at h1; cases h1
    | some q0 => rw [hw] at h1; exact ⟨q0, rfl, Option.some.inj h1⟩
  refine ⟨fun i j x y hi hj hxy => ?_, fun k q hk => ?_⟩
  · obtain ⟨x0, h1, h2⟩ := key i x hi
    obtain ⟨y0, h3, h4⟩ := key j y hj
    exact hD.1 i j x0 y0 h1 h3 (h2.trans (hxy.trans h4.symm))
  · obtain ⟨q0, h1, h2⟩ := key k q hk
    rw [← h2]
    exact hD.2 k q0 h1
theorem vS_m {Γ : gE} {s : State} {H : Heap} {locs : List Loc} (hm : gz Γ ≤ gm0 Γ) (hS : va_S (mA Γ) s.heap H locs) : va_S (gA Γ) s.heap H locs := vS_mono hS (fun q h => Nat.le_trans hm h.1)
