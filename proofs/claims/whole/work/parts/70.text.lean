/-! the tokens of a text -/
section TEXT
def skp (c : Nat → Nat) (p : Nat → Bool) : Nat → Nat → Nat
  | 0, i => i
  | k + 1, i => if p (c i) then skp c p k (i + 1) else i
def nv (c : Nat → Nat) : Nat → Nat → Nat → Nat
  | 0, _, a => a
  | k + 1, i, a => nv c k (i + 1) (10 * a + c i - 48)
def nw (c : Nat → Nat) : Nat → Nat → Nat → Nat
  | 0, _, a => a
  | k + 1, i, a => nw c k (i + 1) (if a ≤ 999 then 10 * a + c i - 48 else a)
def iv (lo hi x : Nat) : Bool := decide (lo ≤ x ∧ x ≤ hi)
def spc (x : Nat) : Bool := decide (x = 32)
theorem skp_ge (c : Nat → Nat) (p : Nat → Bool) : ∀ k i, i ≤ skp c p k i ∧ skp c p k i ≤ i + k
  | 0, i => ⟨Nat.le_refl _, Nat.le_refl _⟩
  | k + 1, i => by
    have := skp_ge c p k (i + 1)
    rw [skp]
    split <;> omega
theorem skp_in (c : Nat → Nat) (p : Nat → Bool) : ∀ k i j, i ≤ j → j < skp c p k i → p (c j) = true
  | 0, i, j, h1, h2 => by
    rw [skp] at h2
    omega
  | k + 1, i, j, h1, h2 => by
    rw [skp] at h2
    by_cases h : p (c i) = true
    · rw [if_pos h] at h2
      by_cases hj : j = i
      · rw [hj]
        exact h
      · exact skp_in c p k (i + 1) j (by omega) h2
    · rw [if_neg h] at h2
      omega
theorem skp_end (c : Nat → Nat) (p : Nat → Bool) : ∀ k i, skp c p k i < i + k → p (c (skp c p k i)) = false
  | 0, i, h => by
    rw [skp] at h
    omega
  | k + 1, i, h => by
    rw [skp] at h ⊢
    by_cases hp : p (c i) = true
    · rw [if_pos hp] at h ⊢
      exact skp_end c p k (i + 1) (by omega)
    · rw [if_neg hp]
      simpa using hp
def tS (c : Nat → Nat) (L i : Nat) : Nat := skp c spc (L - i) i
def tF (c : Nat → Nat) (L s : Nat) : Nat := if L ≤ s then s else if iv 97 122 (c s) then skp c (iv 97 122) (L - s) s else if iv 48 57 (c s) then skp c (iv 48 57) (L - s) s else s + 1
def tG (c : Nat → Nat) (L s : Nat) : Nat := if L ≤ s then 3 else if iv 97 122 (c s) then (if tF c L s - s = 1 then c s else 4) else if iv 48 57 (c s) then (if tF c L s - s = 1 ∨ (tF c L s - s ≤ 3 ∧ c s ≠ 48) then 1 else 4) else if c s = 59 then 2 else 4
def tE (c : Nat → Nat) (L i : Nat) : Nat := tF c L (tS c L i)
def tK (c : Nat → Nat) (L i : Nat) : Nat := tG c L (tS c L i)
def tV (c : Nat → Nat) (L i : Nat) : Nat := nv c (tE c L i - tS c L i) (tS c L i) 0
theorem tS_le {c : Nat → Nat} {L i : Nat} (hi : i ≤ L) : i ≤ tS c L i ∧ tS c L i ≤ L := by
  have := skp_ge c spc (L - i) i
  unfold tS
  omega
theorem tF_le {c : Nat → Nat} {L s : Nat} (hs : s ≤ L) : s ≤ tF c L s ∧ tF c L s ≤ L ∧ (s < L → s < tF c L s) := by
  unfold tF
  by_cases h : L ≤ s
  · rw [if_pos h]
    omega
  · have e : L - s = (L - s - 1) + 1 := by omega
    rw [if_neg h]
    by_cases h1 : iv 97 122 (c s) = true
    · have := skp_ge c (iv 97 122) (L - s - 1) (s + 1)
      rw [if_pos h1, e, skp, if_pos h1]
      omega
    · rw [if_neg h1]
      by_cases h2 : iv 48 57 (c s) = true
      · have := skp_ge c (iv 48 57) (L - s - 1) (s + 1)
        rw [if_pos h2, e, skp, if_pos h2]
        omega
      · rw [if_neg h2]
        omega
theorem tE_le {c : Nat → Nat} {L i : Nat} (hi : i ≤ L) : i ≤ tE c L i ∧ tE c L i ≤ L ∧ (tK c L i ≠ 3 → i < tE c L i) := by
  have h1 := tS_le (c := c) hi
  have h2 := tF_le (c := c) h1.2
  unfold tE
  refine ⟨by omega, h2.2.1, fun h => ?_⟩
  have : tS c L i < L := by
    by_cases q : L ≤ tS c L i
    · exfalso
      apply h
      unfold tK tG
      rw [if_pos q]
    · omega
  have := h2.2.2 this
  omega
/-! numbers -/
theorem nw_ge {c : Nat → Nat} : ∀ k i a, (∀ j, i ≤ j → j < i + k → iv 48 57 (c j) = true) → a ≤ nw c k i a
  | 0, _, _, _ => Nat.le_refl _
  | k + 1, i, a, h => by
    have hi := h i (Nat.le_refl _) (by omega)
    unfold iv at hi
    have hi := of_decide_eq_true hi
    rw [nw]
    have ih := nw_ge k (i + 1) (if a ≤ 999 then 10 * a + c i - 48 else a) (fun j a b => h j (by omega) (by omega))
    split at ih <;> rename_i hh
    · rw [if_pos hh]
      omega
    · rw [if_neg hh]
      exact ih
theorem num_eq {c : Nat → Nat} {s k : Nat} (hk : 1 ≤ k) (h : ∀ j, s ≤ j → j < s + k → iv 48 57 (c j) = true) : ((k = 1 ∨ (k ≤ 3 ∧ c s ≠ 48)) → nw c k s 0 = nv c k s 0 ∧ nv c k s 0 ≤ 999) ∧ (¬ (k = 1 ∨ (k ≤ 3 ∧ c s ≠ 48)) → 999 < nw c k s 0 ∨ (c s = 48 ∧ 1 < k)) := by
  have d : ∀ j, s ≤ j → j < s + k → 48 ≤ c j ∧ c j ≤ 57 := fun j a b => by
    have := h j a b
    unfold iv at this
    exact of_decide_eq_true this
  have d0 := d s (Nat.le_refl _) (by omega)
  constructor
  · intro hc
    have hk3 : k = 1 ∨ k = 2 ∨ k = 3 := by omega
    rcases hk3 with rfl | rfl | rfl
    · simp only [nw, nv]
      rw [if_pos (by omega)]
      omega
    · have d1 := d (s + 1) (by omega) (by omega)
      simp only [nw, nv]
      rw [if_pos (show 0 ≤ 999 by omega), if_pos (by omega)]
      omega
    · have d1 := d (s + 1) (by omega) (by omega)
      have d2 := d (s + 1 + 1) (by omega) (by omega)
      simp only [nw, nv]
      rw [if_pos (show 0 ≤ 999 by omega), if_pos (show 10 * 0 + c s - 48 ≤ 999 by omega), if_pos (by omega)]
      omega
  · intro hc
    by_cases h48 : c s = 48
    · exact Or.inr ⟨h48, by omega⟩
    · left
      obtain ⟨k', rfl⟩ : ∃ k', k = k' + 4 := ⟨k - 4, by omega⟩
      have d1 := d (s + 1) (by omega) (by omega)
      have d2 := d (s + 1 + 1) (by omega) (by omega)
      have d3 := d (s + 1 + 1 + 1) (by omega) (by omega)
      simp only [nw]
      rw [if_pos (show 0 ≤ 999 by omega), if_pos (show 10 * 0 + c s - 48 ≤ 999 by omega), if_pos (show 10 * (10 * 0 + c s - 48) + c (s + 1) - 48 ≤ 999 by omega), if_pos (by omega)]
      have := nw_ge (c := c) k' (s + 1 + 1 + 1 + 1) (10 * (10 * (10 * (10 * 0 + c s - 48) + c (s + 1) - 48) + c (s + 1 + 1) - 48) + c (s + 1 + 1 + 1) - 48) (fun j a b => h j (by omega) (by omega))
      omega
end TEXT
