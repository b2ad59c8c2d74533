/-! counting the sets -/
section WHY
def cb (p : Nat → Bool) : Nat → Nat
  | 0 => 0
  | c + 1 => cb p c + (p c).toNat
theorem cb_congr {p q : Nat → Bool} : ∀ k, (∀ c, c < k → p c = q c) → cb p k = cb q k
  | 0, _ => rfl
  | k + 1, h => by rw [cb, cb, cb_congr k (fun c hc => h c (by omega)), h k (by omega)]
theorem cb_add (p : Nat → Bool) (a : Nat) : ∀ b, cb p (a + b) = cb p a + cb (fun c => p (a + c)) b
  | 0 => rfl
  | b + 1 => by
    show cb p (a + b) + (p (a + b)).toNat = cb p a + (cb (fun c => p (a + c)) b + (p (a + b)).toNat)
    rw [cb_add p a b, Nat.add_assoc]
theorem cb_false : ∀ k, cb (fun _ => false) k = 0
  | 0 => rfl
  | k + 1 => by rw [cb, cb_false k]; rfl
theorem cb_and (b : Bool) (p : Nat → Bool) (k : Nat) : cb (fun c => b && p c) k = b.toNat * cb p k := by
  cases b
  · rw [show (fun c => false && p c) = fun _ => false from rfl, cb_false]
    simp
  · rw [show (fun c => true && p c) = p from rfl]
    simp
/-- a code's digits make P ones and Q tens forgotten, none but what cc carries -/
def qq (cc : Nat → Nat) : Nat → Nat → Nat → Nat → Bool
  | 0, P, Q, _ => decide (P = 0) && decide (Q = 0)
  | k + 1, P, Q, c => decide (fg c k % 2 ≤ cc k % 2 ∧ fg c k / 2 ≤ cc k / 2 ∧ fg c k % 2 ≤ P ∧ fg c k / 2 ≤ Q) && qq cc k (P - fg c k % 2) (Q - fg c k / 2) c
def c1 (cc : Nat → Nat) : Nat → Nat
  | 0 => 0
  | k + 1 => c1 cc k + cc k % 2
def c2 (cc : Nat → Nat) : Nat → Nat
  | 0 => 0
  | k + 1 => c2 cc k + cc k / 2
theorem qq_congr {cc : Nat → Nat} : ∀ k P Q c c', (∀ i, i < k → fg c i = fg c' i) → qq cc k P Q c = qq cc k P Q c'
  | 0, _, _, _, _, _ => rfl
  | k + 1, P, Q, c, c', h => by
    rw [qq, qq, h k (by omega), qq_congr k _ _ c c' (fun i hi => h i (by omega))]
theorem fg_top {k f c : Nat} (hf : f < 4) (hc : c < 4 ^ k) : fg (f * 4 ^ k + c) k = f := by
  unfold fg
  have hp : 0 < 4 ^ k := Nat.pow_pos (by decide)
  rw [Nat.mul_comm, Nat.mul_add_div hp, Nat.div_eq_of_lt hc, Nat.add_zero, Nat.mod_eq_of_lt hf]
theorem fg_low {k f c i : Nat} (hi : i < k) : fg (f * 4 ^ k + c) i = fg c i := by
  unfold fg
  have hp : 0 < 4 ^ i := Nat.pow_pos (by decide)
  have e : f * 4 ^ k = 4 ^ i * (4 * (f * 4 ^ (k - i - 1))) := by
    have : 4 ^ k = 4 ^ i * (4 * 4 ^ (k - i - 1)) := by
      have h1 : k = i + ((k - i - 1) + 1) := by omega
      rw [← Nat.pow_succ', ← Nat.pow_add, ← h1]
    rw [this, Nat.mul_left_comm, Nat.mul_left_comm f 4]
  rw [e, Nat.mul_add_div hp]
  omega
theorem qq_top {cc : Nat → Nat} {k P Q f c : Nat} (hf : f < 4) (hc : c < 4 ^ k) : qq cc (k + 1) P Q (f * 4 ^ k + c) = (decide (f % 2 ≤ cc k % 2 ∧ f / 2 ≤ cc k / 2 ∧ f % 2 ≤ P ∧ f / 2 ≤ Q) && qq cc k (P - f % 2) (Q - f / 2) c) := by
  rw [qq, fg_top hf hc, qq_congr k _ _ _ c (fun i hi => fg_low hi)]
theorem chN_s (a P : Nat) (hP : 1 ≤ P) : chN (a + 1) P = chN a (P - 1) + chN a P := by
  obtain ⟨p, rfl⟩ : ∃ p, P = p + 1 := ⟨P - 1, by omega⟩
  rw [chN]
  rfl
theorem chN_0 (a : Nat) : chN a 0 = 1 := by
  cases a <;> rfl
theorem qq_count {cc : Nat → Nat} (hcc : ∀ i, cc i < 4) : ∀ k P Q, cb (qq cc k P Q) (4 ^ k) = chN (c1 cc k) P * chN (c2 cc k) Q
  | 0, P, Q => by
    show 0 + (decide (P = 0) && decide (Q = 0)).toNat = chN 0 P * chN 0 Q
    cases P <;> cases Q <;> simp [chN]
  | k + 1, P, Q => by
    have ih := qq_count hcc k
    have e4 : 4 ^ (k + 1) = 4 ^ k + (4 ^ k + (4 ^ k + 4 ^ k)) := by rw [Nat.pow_succ]; omega
    have st : ∀ f, f < 4 → cb (fun c => qq cc (k + 1) P Q (f * 4 ^ k + c)) (4 ^ k) = (decide (f % 2 ≤ cc k % 2 ∧ f / 2 ≤ cc k / 2 ∧ f % 2 ≤ P ∧ f / 2 ≤ Q)).toNat * (chN (c1 cc k) (P - f % 2) * chN (c2 cc k) (Q - f / 2)) := by
      intro f hf
      rw [cb_congr (4 ^ k) (fun c hc => qq_top hf hc), cb_and, ih]
    have s0 := st 0 (by decide)
    have s1 := st 1 (by decide)
    have s2 := st 2 (by decide)
    have s3 := st 3 (by decide)
    rw [e4, cb_add, cb_add, cb_add]
    have a0 : cb (qq cc (k + 1) P Q) (4 ^ k) = cb (fun c => qq cc (k + 1) P Q (0 * 4 ^ k + c)) (4 ^ k) := cb_congr _ (fun c _ => by rw [Nat.zero_mul, Nat.zero_add])
    have a1 : cb (fun c => qq cc (k + 1) P Q (4 ^ k + c)) (4 ^ k) = cb (fun c => qq cc (k + 1) P Q (1 * 4 ^ k + c)) (4 ^ k) := cb_congr _ (fun c _ => by rw [Nat.one_mul])
    have a2 : cb (fun c => qq cc (k + 1) P Q (4 ^ k + (4 ^ k + c))) (4 ^ k) = cb (fun c => qq cc (k + 1) P Q (2 * 4 ^ k + c)) (4 ^ k) := cb_congr _ (fun c _ => by congr 1; omega)
    have a3 : cb (fun c => qq cc (k + 1) P Q (4 ^ k + (4 ^ k + (4 ^ k + c)))) (4 ^ k) = cb (fun c => qq cc (k + 1) P Q (3 * 4 ^ k + c)) (4 ^ k) := cb_congr _ (fun c _ => by congr 1; omega)
    rw [a0, a1, a2, a3, s0, s1, s2, s3, c1, c2]
    have hk := hcc k
    have hc : cc k = 0 ∨ cc k = 1 ∨ cc k = 2 ∨ cc k = 3 := by omega
    generalize c1 cc k = a
    generalize c2 cc k = b
    have r : ∀ x y : Nat, x * y + x * 0 = x * y := fun x y => by simp
    by_cases hP : 1 ≤ P
    · by_cases hQ : 1 ≤ Q
      · rcases hc with h | h | h | h <;> rw [h] <;> simp [hP, hQ, chN_s, Nat.add_mul, Nat.mul_add] <;> omega
      · have hQ0 : Q = 0 := by omega
        subst hQ0
        rcases hc with h | h | h | h <;> rw [h] <;> simp [hP, chN_s, chN_0, Nat.add_mul, Nat.mul_add] <;> omega
    · have hP0 : P = 0 := by omega
      subst hP0
      by_cases hQ : 1 ≤ Q
      · rcases hc with h | h | h | h <;> rw [h] <;> simp [hQ, chN_s, chN_0, Nat.add_mul, Nat.mul_add] <;> omega
      · have hQ0 : Q = 0 := by omega
        subst hQ0
        rcases hc with h | h | h | h <;> rw [h] <;> simp [chN_0]
end WHY
