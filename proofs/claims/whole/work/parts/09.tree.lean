/-! the tree of a table: block r stands for the 2^L keys from a on -/
def TR (Γ : gE) (H : Heap) (V : Nat → Option Int64) (S : Nat → Int32) : Nat → Nat → Option Nat → Prop
  | 0, a, r => (∃ f, bT Γ H r f ∧ ∀ w, w ≤ 4 → f w = ag V S w a 1) ∧ (r = none → V a = none ∧ S a = -1)
  | L + 1, a, r => (∃ f, bT Γ H r f ∧ ∀ w, w ≤ 4 → f w = ag V S w a (2 ^ (L + 1))) ∧ ∃ lo up, bL Γ H r lo up ∧ TR Γ H V S L a lo ∧ TR Γ H V S L (a + 2 ^ L) up
theorem TR.f {Γ : gE} {H : Heap} {V : Nat → Option Int64} {S : Nat → Int32} {L a : Nat} {r : Option Nat} (h : TR Γ H V S L a r) : ∃ f, bT Γ H r f ∧ ∀ w, w ≤ 4 → f w = ag V S w a (2 ^ L) := by
  cases L with
  | zero => exact h.1
  | succ L => exact h.1
theorem pow2_s (L : Nat) : 2 ^ (L + 1) = 2 ^ L + 2 ^ L := by rw [Nat.pow_succ]; omega
theorem TR.nul {Γ : gE} {H : Heap} {V : Nat → Option Int64} {S : Nat → Int32} : ∀ {L a : Nat}, TR Γ H V S L a none → ∀ k, a ≤ k → k < a + 2 ^ L → V k = none ∧ S k = -1 := by
  intro L
  induction L with
  | zero =>
    intro a h k h1 h2
    rw [show k = a by simp at h2; omega]
    exact h.2 rfl
  | succ L ih =>
    intro a h k h1 h2
    obtain ⟨-, lo, up, ⟨rfl, rfl⟩, h3, h4⟩ := h
    rw [pow2_s] at h2
    by_cases hk : k < a + 2 ^ L
    · exact ih h3 k h1 hk
    · exact ih h4 k (by omega) (by omega)
theorem TR.ofNone {Γ : gE} {H : Heap} {V : Nat → Option Int64} {S : Nat → Int32} : ∀ {L a : Nat}, (∀ k, a ≤ k → k < a + 2 ^ L → V k = none ∧ S k = -1) → TR Γ H V S L a none := by
  intro L
  induction L with
  | zero =>
    intro a h
    refine ⟨⟨tkN, fun w _ => rfl, fun w hw => (ag_none hw 1 (fun k h1 h2 => h k h1 h2)).symm⟩, fun _ => h a (Nat.le_refl _) (by simp)⟩
  | succ L ih =>
    intro a h
    have hp := pow2_s L
    refine ⟨⟨tkN, fun w _ => rfl, fun w hw => (ag_none hw _ h).symm⟩, Option.none, Option.none, ⟨rfl, rfl⟩, ih (fun k h1 h2 => h k h1 (by omega)), ih (fun k h1 h2 => h k (by omega) (by omega))⟩
theorem TR.congr {Γ : gE} {H : Heap} {V V' : Nat → Option Int64} {S S' : Nat → Int32} : ∀ {L a : Nat} {r : Option Nat}, TR Γ H V S L a r → (∀ k, a ≤ k → k < a + 2 ^ L → V k = V' k ∧ S k = S' k) → TR Γ H V' S' L a r := by
  intro L
  induction L with
  | zero =>
    intro a r h hc
    obtain ⟨⟨f, hf, hv⟩, hn⟩ := h
    refine ⟨⟨f, hf, fun w hw => (hv w hw).trans (ag_congr 1 (fun k h1 h2 => hc k h1 h2))⟩, fun e => ?_⟩
    have h1 := hc a (Nat.le_refl _) (by simp)
    have h2 := hn e
    exact ⟨h1.1.symm.trans h2.1, h1.2.symm.trans h2.2⟩
  | succ L ih =>
    intro a r h hc
    obtain ⟨⟨f, hf, hv⟩, lo, up, hb, h1, h2⟩ := h
    have hp := pow2_s L
    exact ⟨⟨f, hf, fun w hw => (hv w hw).trans (ag_congr _ hc)⟩, lo, up, hb, ih h1 (fun k h3 h4 => hc k h3 (by omega)), ih h2 (fun k h3 h4 => hc k (by omega) (by omega))⟩
/-- cells from b0 on stay -/
abbrev hb (Γ : gE) (H H1 : Heap) : Prop := hX (fun q => q < gb0 Γ) H H1
theorem bT.kept {Γ : gE} {H H1 : Heap} {r : Option Nat} {f : Nat → Int64} (h : bT Γ H r f) (hk : hb Γ H H1) : bT Γ H1 r f := by
  cases r with
  | none => exact h
  | some x =>
    obtain ⟨hz, lo, up, tk, h1, hz2, h2⟩ := h
    exact ⟨hz, lo, up, tk, hk.at h1 (Nat.not_lt.mpr hz), hz2, hk.at h2 (Nat.not_lt.mpr hz2)⟩
theorem bL.kept {Γ : gE} {H H1 : Heap} {r lo up : Option Nat} (h : bL Γ H r lo up) (hk : hb Γ H H1) : bL Γ H1 r lo up := by
  cases r with
  | none => exact h
  | some x =>
    obtain ⟨hz, tk, h1⟩ := h
    exact ⟨hz, tk, hk.at h1 (Nat.not_lt.mpr hz)⟩
theorem TR.kept {Γ : gE} {H H1 : Heap} {V : Nat → Option Int64} {S : Nat → Int32} (hk : hb Γ H H1) : ∀ {L a : Nat} {r : Option Nat}, TR Γ H V S L a r → TR Γ H1 V S L a r := by
  intro L
  induction L with
  | zero =>
    intro a r h
    obtain ⟨⟨f, hf, hv⟩, hn⟩ := h
    exact ⟨⟨f, hf.kept hk, hv⟩, hn⟩
  | succ L ih =>
    intro a r h
    obtain ⟨⟨f, hf, hv⟩, lo, up, hb, h1, h2⟩ := h
    exact ⟨⟨f, hf.kept hk, hv⟩, lo, up, hb.kept hk, ih h1, ih h2⟩
theorem oB.det {Γ : gE} {H : Heap} {a tk tk' : Nat} {lo up lo' up' : Option Nat} (h : oB Γ H a lo up tk) (h' : oB Γ H a lo' up' tk') : lo = lo' ∧ up = up' ∧ tk = tk' := by
  obtain ⟨r, hr, cell, h1, -, -, h2⟩ := h
  obtain ⟨r', hr', cell', h1', -, -, h2'⟩ := h'
  cases Option.some.inj (h1.symm.trans h1')
  cases hr; cases hr'
  have e0 := Option.some.inj ((h2 0 (by decide)).symm.trans (h2' 0 (by decide)))
  have e1 := Option.some.inj ((h2 1 (by decide)).symm.trans (h2' 1 (by decide)))
  have e2 := Option.some.inj ((h2 2 (by decide)).symm.trans (h2' 2 (by decide)))
  simp only [vp_V] at e0 e1 e2
  refine ⟨?_, ?_, ?_⟩
  · cases lo <;> cases lo' <;> simp_all [va_rf]
  · cases up <;> cases up' <;> simp_all [va_rf]
  · simpa using e2
theorem oJ.det {Γ : gE} {H : Heap} {a n : Nat} {f f' : Nat → Int64} (h : oJ Γ H a n f) (h' : oJ Γ H a n f') : ∀ w, w < n → f w = f' w := by
  intro w hw
  have e : vp_cell (kJ Γ) (n, .inr (.inl f)) = vp_cell (kJ Γ) (n, .inr (.inl f')) := Option.some.inj (Eq.trans (Eq.symm h) h')
  have e1 : (vp_cell (kJ Γ) (n, .inr (.inl f))).slots[w]? = (vp_cell (kJ Γ) (n, .inr (.inl f'))).slots[w]? := by rw [e]
  have r1 : (arrV (kJ Γ) n (fun j => Value.long (f j))).slots[w]? = some (.long (f w)) := arrV_read _ _ hw
  have r2 : (arrV (kJ Γ) n (fun j => Value.long (f' j))).slots[w]? = some (.long (f' w)) := arrV_read _ _ hw
  have e2 : (arrV (kJ Γ) n (fun j => Value.long (f j))).slots[w]? = (arrV (kJ Γ) n (fun j => Value.long (f' j))).slots[w]? := e1
  rw [r1, r2] at e2
  simpa using e2
theorem bT.det {Γ : gE} {H : Heap} {r : Option Nat} {f f' : Nat → Int64} (h : bT Γ H r f) (h' : bT Γ H r f') : ∀ w, w ≤ 4 → f w = f' w := by
  cases r with
  | none => exact fun w hw => (h w hw).trans (h' w hw).symm
  | some x =>
    obtain ⟨-, lo, up, tk, h1, -, h2⟩ := h
    obtain ⟨-, lo', up', tk', h1', -, h2'⟩ := h'
    obtain ⟨-, -, rfl⟩ := oB.det h1 h1'
    exact fun w hw => oJ.det h2 h2' w (by omega)
theorem bL.det {Γ : gE} {H : Heap} {r lo up lo' up' : Option Nat} (h : bL Γ H r lo up) (h' : bL Γ H r lo' up') : lo = lo' ∧ up = up' := by
  cases r with
  | none => exact ⟨h.1.trans h'.1.symm, h.2.trans h'.2.symm⟩
  | some x =>
    obtain ⟨-, tk, h1⟩ := h
    obtain ⟨-, tk', h1'⟩ := h'
    obtain ⟨e1, e2, -⟩ := oB.det h1 h1'
    exact ⟨e1, e2⟩
theorem TR.det {Γ : gE} {H : Heap} {V V' : Nat → Option Int64} {S S' : Nat → Int32} (hS : wfS S) (hS' : wfS S') : ∀ {L a : Nat} {r : Option Nat}, TR Γ H V S L a r → TR Γ H V' S' L a r → ∀ k, a ≤ k → k < a + 2 ^ L → V k = V' k := by
  intro L
  induction L with
  | zero =>
    intro a r h h' k h1 h2
    obtain ⟨⟨f, hf, hv⟩, -⟩ := h
    obtain ⟨⟨f', hf', hv'⟩, -⟩ := h'
    have hd := hf.det hf'
    rw [show k = a by simp at h2; omega]
    have e : ∀ w, w ≤ 4 → lfv V S w a = lfv V' S' w a := fun w hw => by rw [← ag_one hS hw, ← ag_one hS' hw, ← hv w hw, ← hv' w hw]; exact hd w hw
    exact lfv_inj (e 0 (by omega)) (e 1 (by omega))
  | succ L ih =>
    intro a r h h' k h1 h2
    obtain ⟨-, lo, up, hb, h3, h4⟩ := h
    obtain ⟨-, lo', up', hb', h3', h4'⟩ := h'
    obtain ⟨rfl, rfl⟩ := hb.det hb'
    rw [pow2_s] at h2
    by_cases hk : k < a + 2 ^ L
    · exact ih h3 h3' k h1 hk
    · exact ih h4 h4' k (by omega) (by omega)
