/-! pure: what is taken together of a part, by keys -/
theorem cmb_assoc (w : Nat) (a b c : Int64) : cmb w (cmb w a b) c = cmb w a (cmb w b c) := by
  unfold cmb
  by_cases h2 : w = 2
  · simp only [h2, if_true]
    by_cases ha : a = -1 <;> simp [ha]
  · by_cases h3 : w = 3
    · simp only [h3, if_true]
      by_cases hc : c = -1 <;> simp [hc]
    · by_cases h4 : w = 4
      · simp only [h4, if_true]
        by_cases x1 : b < a <;> by_cases x2 : c < b <;> by_cases x3 : c < a <;> simp [x1, x2, x3] <;> (simp only [Int64.lt_iff_toInt_lt] at x1 x2 x3; exfalso; omega)
      · simp only [h2, h3, h4, if_false]
        exact Int64.add_assoc a b c
def geM (x : Int64) : Prop := -1 ≤ x.toInt
theorem cmb_l {w : Nat} {b : Int64} (hw : w ≤ 4) (hb : w = 4 → geM b) : cmb w (tkN w) b = b := by
  rcases (show w = 0 ∨ w = 1 ∨ w = 2 ∨ w = 3 ∨ w = 4 by omega) with rfl | rfl | rfl | rfl | rfl
  · simp [cmb, tkN]
  · simp [cmb, tkN]
  · simp [cmb, tkN]
  · by_cases h : b = -1 <;> simp [cmb, tkN, h]
  · have h := hb rfl
    by_cases h1 : b < -1
    · rw [Int64.lt_iff_toInt_lt, show (-1 : Int64).toInt = -1 from rfl] at h1
      unfold geM at h
      omega
    · simp [cmb, tkN, h1]
theorem cmb_r {w : Nat} {a : Int64} (hw : w ≤ 4) (ha : w = 4 → geM a) : cmb w a (tkN w) = a := by
  rcases (show w = 0 ∨ w = 1 ∨ w = 2 ∨ w = 3 ∨ w = 4 by omega) with rfl | rfl | rfl | rfl | rfl
  · simp [cmb, tkN]
  · simp [cmb, tkN]
  · by_cases h : a = -1 <;> simp [cmb, tkN, h]
  · simp [cmb, tkN]
  · have h := ha rfl
    by_cases h1 : -1 < a
    · simp [cmb, tkN, h1]
    · have h2 : a = -1 := by
        rw [Int64.lt_iff_toInt_lt, show (-1 : Int64).toInt = -1 from rfl] at h1
        unfold geM at h
        apply Int64.toInt_inj.mp
        rw [show (-1 : Int64).toInt = -1 from rfl]
        omega
      simp [cmb, tkN, h2]
theorem cmb_ge {a b : Int64} (ha : geM a) (hb : geM b) : geM (cmb 4 a b) := by
  by_cases h : b < a <;> simp [cmb, h] <;> assumption
theorem tkN_ge : geM (tkN 4) := by unfold geM; decide
/-- a key's own: has it a number, the number, the key, the key, its stamp -/
def lfv (V : Nat → Option Int64) (S : Nat → Int32) (w k : Nat) : Int64 := if w = 0 then (if (V k).isSome then 1 else 0) else if w = 1 then (V k).getD 0 else if w = 4 then (S k).toInt64 else (if (V k).isSome then lN k else -1)
def ag (V : Nat → Option Int64) (S : Nat → Int32) (w a : Nat) : Nat → Int64
  | 0 => tkN w
  | n + 1 => cmb w (ag V S w a n) (lfv V S w (a + n))
def wfS (S : Nat → Int32) : Prop := ∀ k, -1 ≤ (S k).toInt
theorem lfv_ge {V : Nat → Option Int64} {S : Nat → Int32} (h : wfS S) (k : Nat) : geM (lfv V S 4 k) := by
  have h1 := h k
  unfold geM lfv
  simp only [if_false, if_true, show ¬ (4 : Nat) = 0 by decide, show ¬ (4 : Nat) = 1 by decide, Int32.toInt_toInt64]
  exact h1
theorem ag_ge {V : Nat → Option Int64} {S : Nat → Int32} (h : wfS S) (a : Nat) : ∀ n, geM (ag V S 4 a n)
  | 0 => tkN_ge
  | n + 1 => cmb_ge (ag_ge h a n) (lfv_ge h _)
theorem ag_ge' {V : Nat → Option Int64} {S : Nat → Int32} (h : wfS S) (w a n : Nat) : w = 4 → geM (ag V S w a n) := fun e => by rw [e]; exact ag_ge h a n
theorem ag_split {V : Nat → Option Int64} {S : Nat → Int32} {w : Nat} (h : wfS S) (hw : w ≤ 4) (a n : Nat) : ∀ m, ag V S w a (n + m) = cmb w (ag V S w a n) (ag V S w (a + n) m)
  | 0 => (cmb_r hw (ag_ge' h w a n)).symm
  | m + 1 => by
    show cmb w (ag V S w a (n + m)) (lfv V S w (a + (n + m))) = cmb w (ag V S w a n) (cmb w (ag V S w (a + n) m) (lfv V S w (a + n + m)))
    rw [ag_split h hw a n m, cmb_assoc, Nat.add_assoc]
theorem ag_one {V : Nat → Option Int64} {S : Nat → Int32} {w : Nat} (h : wfS S) (hw : w ≤ 4) (a : Nat) : ag V S w a 1 = lfv V S w a := cmb_l hw (fun e => by rw [e]; exact lfv_ge h _)
theorem ag_congr {V V' : Nat → Option Int64} {S S' : Nat → Int32} {w a : Nat} : ∀ n, (∀ k, a ≤ k → k < a + n → V k = V' k ∧ S k = S' k) → ag V S w a n = ag V' S' w a n
  | 0, _ => rfl
  | n + 1, h => by
    have h1 := h (a + n) (by omega) (by omega)
    show cmb w (ag V S w a n) (lfv V S w (a + n)) = cmb w (ag V' S' w a n) (lfv V' S' w (a + n))
    rw [ag_congr n (fun k h2 h3 => h k h2 (by omega))]
    unfold lfv
    rw [h1.1, h1.2]
theorem lfv_none {V : Nat → Option Int64} {S : Nat → Int32} {w k : Nat} (hw : w ≤ 4) (h1 : V k = none) (h2 : S k = -1) : lfv V S w k = tkN w := by
  rcases (show w = 0 ∨ w = 1 ∨ w = 2 ∨ w = 3 ∨ w = 4 by omega) with rfl | rfl | rfl | rfl | rfl <;> simp [lfv, tkN, h1, h2]
theorem tkN_idem {w : Nat} (hw : w ≤ 4) : cmb w (tkN w) (tkN w) = tkN w := cmb_l hw (fun e => by rw [e]; exact tkN_ge)
theorem ag_none {V : Nat → Option Int64} {S : Nat → Int32} {w a : Nat} (hw : w ≤ 4) : ∀ n, (∀ k, a ≤ k → k < a + n → V k = none ∧ S k = -1) → ag V S w a n = tkN w
  | 0, _ => rfl
  | n + 1, h => by
    have h1 := h (a + n) (by omega) (by omega)
    show cmb w (ag V S w a n) (lfv V S w (a + n)) = tkN w
    rw [ag_none hw n (fun k h2 h3 => h k h2 (by omega)), lfv_none hw h1.1 h1.2, tkN_idem hw]
/-- how many keys have numbers -/
def cnt (V : Nat → Option Int64) (a : Nat) : Nat → Nat
  | 0 => 0
  | n + 1 => cnt V a n + (if (V (a + n)).isSome then 1 else 0)
theorem cnt_le (V : Nat → Option Int64) (a : Nat) : ∀ n, cnt V a n ≤ n
  | 0 => Nat.le_refl _
  | n + 1 => by
    have := cnt_le V a n
    show cnt V a n + (if (V (a + n)).isSome then 1 else 0) ≤ n + 1
    split <;> omega
theorem cnt_split (V : Nat → Option Int64) (a n : Nat) : ∀ m, cnt V a (n + m) = cnt V a n + cnt V (a + n) m
  | 0 => rfl
  | m + 1 => by
    show cnt V a (n + m) + (if (V (a + (n + m))).isSome then 1 else 0) = cnt V a n + (cnt V (a + n) m + (if (V (a + n + m)).isSome then 1 else 0))
    rw [cnt_split V a n m, Nat.add_assoc a n m]
    omega
theorem ag_cnt (V : Nat → Option Int64) (S : Nat → Int32) (a : Nat) : ∀ n, ag V S 0 a n = lN (cnt V a n)
  | 0 => rfl
  | n + 1 => by
    show cmb 0 (ag V S 0 a n) (lfv V S 0 (a + n)) = lN (cnt V a n + (if (V (a + n)).isSome then 1 else 0))
    rw [ag_cnt V S a n, ← lN_add]
    by_cases h : (V (a + n)).isSome = true
    · simp [cmb, lfv, h]; rfl
    · simp [cmb, lfv, h]; rfl
/-- only the keys from lo to hi -/
def rV (V : Nat → Option Int64) (lo hi : Nat) : Nat → Option Int64 := fun k => if lo ≤ k ∧ k ≤ hi then V k else none
def rS (S : Nat → Int32) (lo hi : Nat) : Nat → Int32 := fun k => if lo ≤ k ∧ k ≤ hi then S k else -1
theorem rS_wf {S : Nat → Int32} {lo hi : Nat} (h : wfS S) : wfS (rS S lo hi) := by
  intro k
  unfold rS
  split
  · exact h k
  · decide
theorem ag_r_in {V : Nat → Option Int64} {S : Nat → Int32} {w a n lo hi : Nat} (h1 : lo ≤ a) (h2 : a + n ≤ hi + 1) : ag (rV V lo hi) (rS S lo hi) w a n = ag V S w a n :=
  ag_congr n (fun k h3 h4 => by unfold rV rS; rw [if_pos ⟨by omega, by omega⟩, if_pos ⟨by omega, by omega⟩]; exact ⟨rfl, rfl⟩)
theorem ag_r_out {V : Nat → Option Int64} {S : Nat → Int32} {w a n lo hi : Nat} (hw : w ≤ 4) (h : a + n ≤ lo ∨ hi < a) : ag (rV V lo hi) (rS S lo hi) w a n = tkN w :=
  ag_none hw n (fun k h3 h4 => by unfold rV rS; rw [if_neg (by omega), if_neg (by omega)]; exact ⟨rfl, rfl⟩)
theorem ag_r_none {V : Nat → Option Int64} {S : Nat → Int32} {w a n lo hi : Nat} (hw : w ≤ 4) (h : ∀ k, a ≤ k → k < a + n → V k = none ∧ S k = -1) : ag (rV V lo hi) (rS S lo hi) w a n = tkN w :=
  ag_none hw n (fun k h3 h4 => by have := h k h3 h4; unfold rV rS; rw [this.1, this.2]; simp)
theorem ag_r_all {V : Nat → Option Int64} {S : Nat → Int32} {w lo hi : Nat} (hS : wfS S) (hw : w ≤ 4) (h1 : lo ≤ hi) (h2 : hi < 1024) : ag (rV V lo hi) (rS S lo hi) w 0 1024 = ag V S w lo (hi + 1 - lo) := by
  have hwf := rS_wf (lo := lo) (hi := hi) hS
  have e1 : (1024 : Nat) = lo + ((hi + 1 - lo) + (1023 - hi)) := by omega
  rw [e1, ag_split hwf hw, ag_split hwf hw, ag_r_out (a := 0) (n := lo) hw (Or.inl (by omega)), ag_r_out (a := 0 + lo + (hi + 1 - lo)) hw (Or.inr (by omega)), Nat.zero_add, cmb_r hw (ag_ge' hwf _ _ _), cmb_l hw (ag_ge' hwf _ _ _)]
  exact ag_r_in (by omega) (by omega)
/-- how many keys differ -/
def dcn (V V' : Nat → Option Int64) (a : Nat) : Nat → Nat
  | 0 => 0
  | n + 1 => dcn V V' a n + (if V (a + n) = V' (a + n) then 0 else 1)
theorem dcn_le (V V' : Nat → Option Int64) (a : Nat) : ∀ n, dcn V V' a n ≤ n
  | 0 => Nat.le_refl _
  | n + 1 => by
    have := dcn_le V V' a n
    show dcn V V' a n + (if V (a + n) = V' (a + n) then 0 else 1) ≤ n + 1
    split <;> omega
theorem dcn_split (V V' : Nat → Option Int64) (a n : Nat) : ∀ m, dcn V V' a (n + m) = dcn V V' a n + dcn V V' (a + n) m
  | 0 => rfl
  | m + 1 => by
    show dcn V V' a (n + m) + (if V (a + (n + m)) = V' (a + (n + m)) then 0 else 1) = dcn V V' a n + (dcn V V' (a + n) m + (if V (a + n + m) = V' (a + n + m) then 0 else 1))
    rw [dcn_split V V' a n m, Nat.add_assoc a n m]
    omega
theorem dcn_same {V V' : Nat → Option Int64} {a : Nat} : ∀ n, (∀ k, a ≤ k → k < a + n → V k = V' k) → dcn V V' a n = 0
  | 0, _ => rfl
  | n + 1, h => by
    show dcn V V' a n + (if V (a + n) = V' (a + n) then 0 else 1) = 0
    rw [dcn_same n (fun k h1 h2 => h k h1 (by omega)), if_pos (h (a + n) (by omega) (by omega))]
/-- a key's leaf tells its number -/
theorem lfv_inj {V V' : Nat → Option Int64} {S S' : Nat → Int32} {k : Nat} (h0 : lfv V S 0 k = lfv V' S' 0 k) (h1 : lfv V S 1 k = lfv V' S' 1 k) : V k = V' k := by
  simp only [lfv, if_true, if_false, show ¬ (1 : Nat) = 0 by decide] at h0 h1
  cases hv : V k <;> cases hv' : V' k <;> simp_all
theorem lfv_of {V V' : Nat → Option Int64} {S S' : Nat → Int32} {k w : Nat} (h : V k = V' k) (hw : w = 0 ∨ w = 1) : lfv V S w k = lfv V' S' w k := by
  rcases hw with rfl | rfl <;> simp [lfv, h]
