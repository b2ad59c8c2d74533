/-! which books to lay together -/
section LURE
def fstN (q : Nat → Bool) : Nat → Nat → Option Nat
  | 0, _ => none
  | k + 1, i => if q i then some i else fstN q k (i + 1)
def fst2 (q : Nat → Nat → Bool) : Nat → Nat → Option (Nat × Nat)
  | 0, _ => none
  | k + 1, i => match fstN (q i) (14 - i) (i + 1) with
    | some j => some (i, j)
    | none => fst2 q k (i + 1)
def fst3 (q : Nat → Nat → Bool) : Nat → Nat → Option (Nat × Nat)
  | 0, _ => none
  | k + 1, i => match fstN (q i) (35 - i) (i + 1) with
    | some j => some (i, j)
    | none => fst3 q k (i + 1)
theorem fstN_none {q : Nat → Bool} : ∀ k i, fstN q k i = none → ∀ j, i ≤ j → j < i + k → q j = false
  | 0, i, _, j, h1, h2 => by omega
  | k + 1, i, h, j, h1, h2 => by
    rw [fstN] at h
    by_cases hq : q i = true
    · rw [if_pos hq] at h
      cases h
    · rw [if_neg hq] at h
      by_cases e : j = i
      · subst e
        simpa using hq
      · exact fstN_none k (i + 1) h j (by omega) (by omega)
theorem fstN_some {q : Nat → Bool} : ∀ k i x, fstN q k i = some x → i ≤ x ∧ x < i + k ∧ q x = true
  | 0, i, x, h => by cases h
  | k + 1, i, x, h => by
    rw [fstN] at h
    by_cases hq : q i = true
    · rw [if_pos hq] at h
      cases h
      exact ⟨Nat.le_refl _, by omega, hq⟩
    · rw [if_neg hq] at h
      obtain ⟨h1, h2, h3⟩ := fstN_some k (i + 1) x h
      exact ⟨by omega, by omega, h3⟩
theorem fstN_congr {q q' : Nat → Bool} : ∀ k i, (∀ j, i ≤ j → j < i + k → q j = q' j) → fstN q k i = fstN q' k i
  | 0, _, _ => rfl
  | k + 1, i, h => by
    rw [fstN, fstN, h i (Nat.le_refl _) (by omega), fstN_congr k (i + 1) (fun j a b => h j (by omega) (by omega))]
theorem fst2_congr {q q' : Nat → Nat → Bool} : ∀ k i, i + k ≤ 15 → (∀ a b, a < b → b < 15 → q a b = q' a b) → fst2 q k i = fst2 q' k i
  | 0, _, _, _ => rfl
  | k + 1, i, hk, h => by
    rw [fst2, fst2, fst2_congr k (i + 1) (by omega) h, fstN_congr (14 - i) (i + 1) (fun j a b => h i j (by omega) (by omega))]
theorem fst2_some {q : Nat → Nat → Bool} : ∀ k i x, i + k ≤ 15 → fst2 q k i = some x → x.1 < x.2 ∧ x.2 < 15 ∧ q x.1 x.2 = true
  | 0, i, x, _, h => by cases h
  | k + 1, i, x, hk, h => by
    rw [fst2] at h
    cases e : fstN (q i) (14 - i) (i + 1) with
    | some j =>
      rw [e] at h
      cases h
      obtain ⟨h1, h2, h3⟩ := fstN_some _ _ _ e
      exact ⟨by show i < j; omega, by show j < 15; omega, h3⟩
    | none =>
      rw [e] at h
      exact fst2_some k (i + 1) x (by omega) h
/-- a pair of the thirty-six: the touch of it -/
def vd (e : Nat) : Bool := decide (e / 6 < e % 6)
def ix (e : Nat) : Nat := (List.range e).countP vd
def eOf (i : Nat) : Nat := [1, 2, 3, 4, 5, 8, 9, 10, 11, 15, 16, 17, 22, 23, 29].getD i 36
theorem ix_dec : ∀ e : Nat, e < 36 → ix e ≤ 15 ∧ ix (e + 1) = ix e + (vd e).toNat ∧ (vd e = true → ix e < 15 ∧ eOf (ix e) = e ∧ ti (e / 6) (e % 6) = ix e) := by decide +kernel
theorem eOf_dec : ∀ i : Nat, i < 15 → eOf i < 36 ∧ vd (eOf i) = true ∧ ix (eOf i) = i ∧ ti (eOf i / 6) (eOf i % 6) = i := by decide +kernel
theorem ix0 : ix 0 = 0 := rfl
theorem ix36 : ix 36 = 15 := by decide +kernel
theorem fst36 (q : Nat → Bool) : ∀ k e, e + k = 36 → fstN (fun x => vd x && q (ix x)) k e = (fstN q (15 - ix e) (ix e)).map eOf
  | 0, e, h => by
    have : e = 36 := by omega
    subst this
    rw [ix36]
    rfl
  | k + 1, e, h => by
    obtain ⟨h1, h2, h3⟩ := ix_dec e (by omega)
    have ih := fst36 q k (e + 1) (by omega)
    rw [fstN, ih, h2]
    cases hv : vd e
    · simp
    · obtain ⟨h4, h5, -⟩ := h3 hv
      have e1 : 15 - ix e = (15 - (ix e + 1)) + 1 := by omega
      rw [e1, fstN]
      cases hq : q (ix e)
      · simp
      · simp [h5]
theorem fstN_false {q : Nat → Bool} (h : ∀ j, q j = false) : ∀ k i, fstN q k i = none
  | 0, _ => rfl
  | k + 1, i => by rw [fstN, h i, fstN_false h k (i + 1)]; rfl
theorem fst3_36 (q : Nat → Nat → Bool) : ∀ k e, e + k = 36 → fst3 (fun x y => vd x && (vd y && q (ix x) (ix y))) k e = (fst2 q (15 - ix e) (ix e)).map (fun x => (eOf x.1, eOf x.2))
  | 0, e, h => by
    have : e = 36 := by omega
    subst this
    rw [ix36]
    rfl
  | k + 1, e, h => by
    obtain ⟨h1, h2, h3⟩ := ix_dec e (by omega)
    have ih := fst3_36 q k (e + 1) (by omega)
    rw [fst3, ih, h2]
    cases hv : vd e
    · rw [fstN_false (fun j => by simp)]
      simp
    · obtain ⟨h4, h5, -⟩ := h3 hv
      have e1 : 15 - ix e = (15 - (ix e + 1)) + 1 := by omega
      have e2 := fst36 (q (ix e)) (35 - e) (e + 1) (by omega)
      have e3 : fstN (fun y => true && (vd y && q (ix e) (ix y))) (35 - e) (e + 1) = fstN (fun y => vd y && q (ix e) (ix y)) (35 - e) (e + 1) := fstN_congr _ _ (fun j _ _ => by simp)
      rw [e3, e2, h2, hv, e1, fst2]
      have e4 : 15 - (ix e + Bool.toNat true) = 14 - ix e := by
        show 15 - (ix e + 1) = 14 - ix e
        omega
      rw [e4]
      have e5 : ix e + Bool.toNat true = ix e + 1 := rfl
      rw [e5]
      cases fstN (q (ix e)) (14 - ix e) (ix e + 1) with
      | some j => simp [h5]
      | none =>
        have e6 : 15 - (ix e + 1) = 14 - ix e := by omega
        simp [e6]
/-! the way depends on the touches among the books alone -/
theorem bst_congr {t : Nat → Nat} {p p' : Nat → Bool} : ∀ n, (∀ j, j < n → p j = p' j) → bst t p n = bst t p' n
  | 0, _ => rfl
  | k + 1, h => by
    unfold bst
    rw [h k (by omega), bst_congr k (fun j hj => h j (by omega))]
theorem goP_congr {t : Nat → Nat} {p p' : Nat → Nat → Bool} {R n b : Nat} (h : ∀ j, j < n → p b j = p' b j) : goP t p R n b = goP t p' R n b := by
  unfold goP
  rw [bst_congr n h]
theorem gon_congr {g g' : Nat → Nat} {n : Nat} (h : ∀ b, b < n → g b = g' b) (hl : ∀ b, b < n → g' b < n) : ∀ d b, b < n → gon g d b = gon g' d b
  | 0, _, _ => rfl
  | d + 1, b, hb => by
    rw [gon, gon, h b hb, gon_congr h hl d _ (hl b hb)]
def des (t : Nat → Nat) (R n d s T : Nat) : Nat := gon (go t T R n) d s
theorem des_congr {t : Nat → Nat} {R n d s T T' : Nat} (hs : s < n) (h : ∀ x y, x < n → y < n → nbr T x y = nbr T' x y) : des t R n d s T = des t R n d s T' :=
  gon_congr (fun b hb => goP_congr (t := t) (R := R) (fun j hj => h b j hb hj)) (fun b hb => go_lt hb) d s hs
def hiI (i : Nat) : Nat := eOf i % 6
theorem hi_dec : ∀ x : Nat, x < 6 → ∀ y : Nat, y < 6 → x ≠ y → hiI (ti x y) = max x y := by decide +kernel
def frI (n T i : Nat) : Bool := decide (hiI i < n) && !T.testBit i
theorem or_bit {T i : Nat} (h : T.testBit i = true) : T ||| 2 ^ i = T := by
  apply Nat.eq_of_testBit_eq
  intro j
  rw [Nat.testBit_or, Nat.testBit_two_pow]
  by_cases hij : i = j
  · subst hij
    simp [h]
  · simp [hij]
theorem xor_bit {T i : Nat} (h : T.testBit i = false) : T ^^^ 2 ^ i = T ||| 2 ^ i := by
  apply Nat.eq_of_testBit_eq
  intro j
  rw [Nat.testBit_or, Nat.testBit_xor, Nat.testBit_two_pow]
  by_cases hij : i = j
  · subst hij
    simp [h]
  · simp [hij]
theorem des_notfree {t : Nat → Nat} {R n d s T T0 i : Nat} (hn : n ≤ 6) (hs : s < n) (hT : ∀ j, T.testBit j = true → T0.testBit j = true) (hf : frI n T i = false) : des t R n d s (T0 ||| 2 ^ i) = des t R n d s T0 := by
  unfold frI at hf
  by_cases hb : T.testBit i = true
  · rw [or_bit (hT i hb)]
  · have hhi : n ≤ hiI i := by
      have hb' : T.testBit i = false := by simpa using hb
      rw [hb'] at hf
      simpa using hf
    apply des_congr hs
    intro x y hx hy
    unfold nbr
    by_cases hxy : x = y
    · subst hxy
      simp
    · have hne : i ≠ ti x y := by
        intro h
        have := hi_dec x (by omega) y (by omega) hxy
        rw [← h] at this
        omega
      rw [Nat.testBit_or, Nat.testBit_two_pow]
      simp [hne]
theorem lure_1 {t : Nat → Nat} {R n d s T b : Nat} (hn : n ≤ 6) (hs : s < n) (h0 : des t R n d s T ≠ b) : fstN (fun i => des t R n d s (T ||| 2 ^ i) == b) 15 0 = fstN (fun i => frI n T i && (des t R n d s (T ||| 2 ^ i) == b)) 15 0 := by
  apply fstN_congr
  intro j _ _
  cases hf : frI n T j
  · rw [des_notfree hn hs (fun _ h => h) hf]
    simp [h0]
  · simp
theorem lure_2 {t : Nat → Nat} {R n d s T b : Nat} (hn : n ≤ 6) (hs : s < n) (h1 : ∀ i, i < 15 → des t R n d s (T ||| 2 ^ i) ≠ b) : fst2 (fun i j => des t R n d s (T ||| (2 ^ i ||| 2 ^ j)) == b) 15 0 = fst2 (fun i j => (frI n T i && frI n T j) && (des t R n d s (T ||| (2 ^ i ||| 2 ^ j)) == b)) 15 0 := by
  apply fst2_congr 15 0 (Nat.le_refl _)
  intro i j hij hj
  cases hfi : frI n T i
  · have e : T ||| (2 ^ i ||| 2 ^ j) = (T ||| 2 ^ j) ||| 2 ^ i := by rw [Nat.or_comm (2 ^ i), Nat.or_assoc]
    rw [e, des_notfree hn hs (fun q h => by rw [Nat.testBit_or, h]; rfl) hfi]
    simp [h1 j hj]
  · cases hfj : frI n T j
    · have e : T ||| (2 ^ i ||| 2 ^ j) = (T ||| 2 ^ i) ||| 2 ^ j := by rw [Nat.or_assoc]
      rw [e, des_notfree hn hs (fun q h => by rw [Nat.testBit_or, h]; rfl) hfj]
      simp [h1 i (by omega)]
    · simp
end LURE
