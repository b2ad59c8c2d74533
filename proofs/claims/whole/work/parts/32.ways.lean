/-! where it goes: the ranking, the first in it, the best of those that touch -/
section WAYS
def ti (x y : Nat) : Nat := min x y * (11 - min x y) / 2 + max x y - min x y - 1
def nbr (T x y : Nat) : Bool := (x != y) && T.testBit (ti x y)
theorem touchBit_iI : ∀ x : Nat, x < 6 → ∀ y : Nat, y < 6 → x ≠ y → fX7_touchBit (iI (x : Int)) (iI (y : Int)) = iI ((2 ^ ti x y : Nat) : Int) := by decide +kernel
theorem ti_lt : ∀ x : Nat, x < 6 → ∀ y : Nat, y < 6 → x ≠ y → ti x y < 15 := by decide +kernel
theorem and_bit0 (n j : Nat) : n &&& 2 ^ j = 0 ↔ n.testBit j = false := by
  constructor
  · intro h
    have h1 : (n &&& 2 ^ j).testBit j = false := by rw [h]; simp
    rw [Nat.testBit_and] at h1
    simpa using h1
  · intro h
    apply Nat.eq_of_testBit_eq
    intro i
    rw [Nat.testBit_and]
    by_cases hi : j = i
    · subst hi; simp [h]
    · simp [Nat.testBit_two_pow_of_ne hi]
theorem and_bit (T t : Nat) (hT : T < 2147483648) : iI (T : Int) &&& iI ((2 ^ t : Nat) : Int) = 0 ↔ T.testBit t = false := by
  rw [iI_and]
  have hle : T &&& 2 ^ t ≤ T := Nat.and_le_left
  rw [iI_lit 0, iI_eq (by omega) (by omega) (by decide) (by decide), ← and_bit0]
  constructor
  · intro h
    have h3 : (OfNat.ofNat 0 : Int) = 0 := rfl
    rw [h3] at h
    omega
  · intro h
    rw [h]
    rfl
theorem trap_bit {R k : Nat} (hR : R < 2147483648) (hk : k < 32) : (iI (R : Int) >>> (iI (k : Int) &&& 31)) &&& (1 : Int32) = iI (((R.testBit k).toNat : Nat) : Int) := by
  rw [iI_shr hR hk, iI_lit 1]
  have e : iI ((R / 2 ^ k : Nat) : Int) &&& iI (OfNat.ofNat 1) = iI ((R / 2 ^ k &&& 1 : Nat) : Int) := iI_and _ 1
  rw [e]
  congr 2
  rw [show (1 : Nat) = 2 ^ 1 - 1 from rfl, Nat.and_two_pow_sub_one_eq_mod, Nat.testBit_eq_decide_div_mod_eq]
  have h2 : R / 2 ^ k % 2 < 2 := Nat.mod_lt _ (by decide)
  by_cases h : R / 2 ^ k % 2 = 1
  · simp [h]
  · have h0 : R / 2 ^ k % 2 = 0 := by omega
    simp [h0]
theorem b_toNat_0 (b : Bool) : iI ((b.toNat : Nat) : Int) = 0 ↔ b = false := by
  cases b <;> decide
/-- the best of those that p holds of: most t, of several the least -/
def bst (t : Nat → Nat) (p : Nat → Bool) : Nat → Option Nat
  | 0 => none
  | k + 1 => if p k then (match bst t p k with | none => some k | some j => if t j < t k then some k else some j) else bst t p k
def isB (t : Nat → Nat) (p : Nat → Bool) (n : Nat) : Option Nat → Prop
  | none => ∀ y, y < n → p y = false
  | some x => x < n ∧ p x = true ∧ ∀ y, y < n → p y = true → t y < t x ∨ (t y = t x ∧ x ≤ y)
theorem bst_isB (t : Nat → Nat) (p : Nat → Bool) : ∀ n, isB t p n (bst t p n)
  | 0 => fun y h => absurd h (Nat.not_lt_zero y)
  | k + 1 => by
    have ih := bst_isB t p k
    unfold bst
    by_cases hp : p k = true
    · rw [if_pos hp]
      cases hb : bst t p k with
      | none =>
        rw [hb] at ih
        refine ⟨Nat.lt_succ_self k, hp, fun y hy hpy => ?_⟩
        by_cases h : y = k
        · subst h
          exact Or.inr ⟨rfl, Nat.le_refl _⟩
        · have := ih y (by omega)
          rw [hpy] at this
          cases this
      | some j =>
        rw [hb] at ih
        obtain ⟨h1, h2, h3⟩ := ih
        show isB t p (k + 1) (if t j < t k then some k else some j)
        by_cases ht : t j < t k
        · rw [if_pos ht]
          refine ⟨Nat.lt_succ_self k, hp, fun y hy hpy => ?_⟩
          by_cases h : y = k
          · subst h
            exact Or.inr ⟨rfl, Nat.le_refl _⟩
          · rcases h3 y (by omega) hpy with q | ⟨q, -⟩ <;> exact Or.inl (by omega)
        · rw [if_neg ht]
          refine ⟨by omega, h2, fun y hy hpy => ?_⟩
          by_cases h : y = k
          · subst h
            by_cases e : t y = t j
            · exact Or.inr ⟨e, by omega⟩
            · exact Or.inl (by omega)
          · exact h3 y (by omega) hpy
    · rw [if_neg hp]
      cases hb : bst t p k with
      | none =>
        rw [hb] at ih
        intro y hy
        by_cases h : y = k
        · subst h
          simpa using hp
        · exact ih y (by omega)
      | some j =>
        rw [hb] at ih
        obtain ⟨h1, h2, h3⟩ := ih
        refine ⟨by omega, h2, fun y hy hpy => ?_⟩
        by_cases h : y = k
        · subst h
          exact absurd hpy hp
        · exact h3 y (by omega) hpy
theorem isB_uniq {t : Nat → Nat} {p : Nat → Bool} {n : Nat} : ∀ {a b : Option Nat}, isB t p n a → isB t p n b → a = b
  | none, none, _, _ => rfl
  | none, some x, h, h2 => by
    have := h x h2.1
    rw [h2.2.1] at this
    cases this
  | some x, none, h, h2 => by
    have := h2 x h.1
    rw [h.2.1] at this
    cases this
  | some x, some y, h, h2 => by
    have a1 := h.2.2 y h2.1 h2.2.1
    have a2 := h2.2.2 x h.1 h.2.1
    congr 1
    omega
/-- the first in the row r, from the place i on, m of them -/
def fnd (r : Nat → Nat) (p : Nat → Bool) : Nat → Nat → Option Nat
  | 0, _ => none
  | m + 1, i => if p (r i) then some (r i) else fnd r p m (i + 1)
def RK (r t : Nat → Nat) (n : Nat) : Prop := (∀ i, i < n → r i < n) ∧ (∀ k, k < n → ∃ i, i < n ∧ r i = k) ∧ ∀ i j, i < j → j < n → t (r j) < t (r i) ∨ (t (r j) = t (r i) ∧ r i < r j)
theorem fnd_spec (r : Nat → Nat) (p : Nat → Bool) : ∀ m i, match fnd r p m i with
    | none => ∀ j, i ≤ j → j < i + m → p (r j) = false
    | some x => ∃ j, i ≤ j ∧ j < i + m ∧ x = r j ∧ p (r j) = true ∧ ∀ j', i ≤ j' → j' < j → p (r j') = false
  | 0, i => fun j h1 h2 => absurd h2 (by omega)
  | m + 1, i => by
    have ih := fnd_spec r p m (i + 1)
    unfold fnd
    by_cases hp : p (r i) = true
    · rw [if_pos hp]
      exact ⟨i, Nat.le_refl _, by omega, rfl, hp, fun j' h1 h2 => absurd h2 (by omega)⟩
    · rw [if_neg hp]
      cases hf : fnd r p m (i + 1) with
      | none =>
        rw [hf] at ih
        intro j h1 h2
        by_cases h : j = i
        · subst h
          simpa using hp
        · exact ih j (by omega) (by omega)
      | some x =>
        rw [hf] at ih
        obtain ⟨j, h1, h2, h3, h4, h5⟩ := ih
        refine ⟨j, by omega, by omega, h3, h4, fun j' q1 q2 => ?_⟩
        by_cases h : j' = i
        · subst h
          simpa using hp
        · exact h5 j' (by omega) q2
theorem fnd_isB {r t : Nat → Nat} {p : Nat → Bool} {n : Nat} (h : RK r t n) : isB t p n (fnd r p n 0) := by
  have hs := fnd_spec r p n 0
  cases hf : fnd r p n 0 with
  | none =>
    rw [hf] at hs
    intro y hy
    obtain ⟨i, hi, rfl⟩ := h.2.1 y hy
    exact hs i (Nat.zero_le _) (by omega)
  | some x =>
    rw [hf] at hs
    obtain ⟨j, -, h2, rfl, h4, h5⟩ := hs
    refine ⟨h.1 j (by omega), h4, fun y hy hpy => ?_⟩
    obtain ⟨i, hi, rfl⟩ := h.2.1 y hy
    by_cases hij : i < j
    · have := h5 i (Nat.zero_le _) hij
      rw [hpy] at this
      cases this
    · by_cases e : i = j
      · subst e
        exact Or.inr ⟨rfl, Nat.le_refl _⟩
      · rcases h.2.2 j i (by omega) hi with q | ⟨q1, q2⟩
        · exact Or.inl q
        · exact Or.inr ⟨q1, by omega⟩
theorem fnd_bst {r t : Nat → Nat} {p : Nat → Bool} {n : Nat} (h : RK r t n) : fnd r p n 0 = bst t p n := isB_uniq (fnd_isB h) (bst_isB t p n)
/-- where it goes from b -/
def go (t : Nat → Nat) (T R n b : Nat) : Nat := if R.testBit b then b else (bst t (nbr T b) n).getD b
theorem bst_lt {t : Nat → Nat} {p : Nat → Bool} {n x : Nat} (h : bst t p n = some x) : x < n := by
  have := bst_isB t p n
  rw [h] at this
  exact this.1
theorem go_lt {t : Nat → Nat} {T R n b : Nat} (hb : b < n) : go t T R n b < n := by
  unfold go
  split
  · exact hb
  · cases h : bst t (nbr T b) n with
    | none => exact hb
    | some x => exact bst_lt h
theorem goesTo_L {rk : Nat → Int32} {r : Nat → Nat} {n T b : Nat} (hn : n ≤ 6) (hT : T < 32768) (hb : b < n) (hr : ∀ i, i < n → rk i = iI (r i) ∧ r i < n) : ∀ (m i : Nat), i ≤ n → n - i < m → fX6_goesTo_L15 rk (iI n) (iI b) (iI T) m (iI i) = some (iI (((fnd r (nbr T b) (n - i) i).getD b : Nat)))
  | 0, i, _, h => absurd h (Nat.not_lt_zero _)
  | m + 1, i, hi, hm => by
    rw [fX6_goesTo_L15]
    by_cases h : n ≤ i
    · rw [if_pos (by rw [iI_le (by omega) (by omega) (by omega) (by omega)]; omega)]
      have e : n - i = 0 := by omega
      rw [e]
      rfl
    · rw [if_neg (by rw [iI_le (by omega) (by omega) (by omega) (by omega)]; omega)]
      have e : n - i = (n - (i + 1)) + 1 := by omega
      have hri := hr i (by omega)
      rw [vg_iI (by omega) (by omega) (by omega), iI_clamp (by omega) (by omega), Int.toNat_natCast, hri.1]
      have e1 : iI (i : Int) + 1 = iI ((i + 1 : Nat) : Int) := by rw [iI_lit, iI_add]; rfl
      rw [e1, goesTo_L hn hT hb hr m (i + 1) (by omega) (by omega), e, fnd]
      by_cases h2 : r i = b
      · have hp : nbr T b (r i) = false := by simp [nbr, h2]
        rw [if_pos (by rw [h2]), if_neg (by rw [hp]; decide)]
      · rw [if_neg (by rw [iI_eq (by omega) (by omega) (by omega) (by omega)]; omega)]
        rw [touchBit_iI b (by omega) (r i) (by omega) (fun q => h2 q.symm)]
        have hnb : nbr T b (r i) = T.testBit (ti b (r i)) := by simp [nbr, Ne.symm h2]
        by_cases h3 : T.testBit (ti b (r i)) = true
        · rw [if_neg (by rw [and_bit T _ (by omega)]; simp [h3]), if_pos (by rw [hnb]; exact h3)]
          rfl
        · rw [if_pos (by rw [and_bit T _ (by omega)]; simpa using h3), if_neg (by rw [hnb]; exact h3)]
theorem goesTo_iI {N : Nat} {rk : Nat → Int32} {r t : Nat → Nat} {n T R b : Nat} (hN : 10 ≤ N) (hn : n ≤ 6) (hT : T < 32768) (hR : R < 64) (hb : b < n) (hr : ∀ i, i < n → rk i = iI (r i)) (hk : RK r t n) : fX6_goesTo N rk (iI n) (iI R) (iI b) (iI T) = some (iI ((go t T R n b : Nat) : Int)) := by
  unfold fX6_goesTo go
  rw [trap_bit (by omega) (by omega)]
  cases h : R.testBit b
  · rw [if_pos (by decide)]
    have e := goesTo_L (m := N) (i := 0) hn hT hb (fun i hi => ⟨hr i hi, hk.1 i hi⟩) (Nat.zero_le _) (by omega)
    have e0 : (0 : Int32) = iI ((0 : Nat) : Int) := rfl
    rw [e0, e, Nat.sub_zero, fnd_bst hk]
    rfl
  · rw [if_neg (by decide)]
    rfl
/-! the ranking -/
theorem rank_L {r : Nat → Nat} {t : Nat → Nat} {k : Nat} (hk : k < 6) (ht : ∀ i, t i < 10) : ∀ (m at' : Nat) (w3 w4 : Nat → Int32), at' ≤ k → at' < m → (∀ i, i < at' → w3 i = iI (r i) ∧ w4 i = iI (t (r i))) → (∀ i, at' < i → i ≤ k → w3 i = iI (r (i - 1)) ∧ w4 i = iI (t (r (i - 1))) ∧ t (r (i - 1)) < t k) →
    ∃ (e : Nat) (v3 v4 : Nat → Int32), fX6_rank_L15 (iI k) (iI k) (iI (t k)) m (iI at') w3 w4 = some (upd v3 e (iI k), upd v4 e (iI (t k)), iI (k + 1)) ∧ e ≤ k ∧ (∀ i, i < e → v3 i = iI (r i) ∧ v4 i = iI (t (r i))) ∧ (∀ i, e < i → i ≤ k → v3 i = iI (r (i - 1)) ∧ v4 i = iI (t (r (i - 1))) ∧ t (r (i - 1)) < t k) ∧ (e = 0 ∨ t k ≤ t (r (e - 1)))
  | 0, at', w3, w4, _, h, _, _ => absurd h (Nat.not_lt_zero _)
  | m + 1, at', w3, w4, h1, h2, h3, h4 => by
    have e1 : iI (k : Int) + (1 : Int32) = iI (k + 1) := by rw [iI_lit, iI_add] <;> rfl
    rw [fX6_rank_L15]
    have eJ : fX6_rank_J65 (iI k) (iI k) (iI (t k)) (iI (at' : Int)) w3 w4 = some (upd w3 at' (iI k), upd w4 at' (iI (t k)), iI (k + 1)) := by
      unfold fX6_rank_J65
      rw [vg_iI (by omega) (by omega) (by omega), vg_iI (by omega) (by omega) (by omega), iI_clamp (by omega) (by omega), Int.toNat_natCast, e1]
    by_cases h : at' = 0
    · rw [if_pos (by subst h; decide), eJ]
      exact ⟨at', w3, w4, rfl, h1, h3, h4, Or.inl h⟩
    · rw [if_neg (by rw [iI_lit 0, iI_le (by omega) (by omega) (by decide) (by decide)]; show ¬ (at' : Int) ≤ 0; omega)]
      have e2 : iI (at' : Int) - (1 : Int32) = iI ((at' - 1 : Nat) : Int) := by rw [iI_lit, iI_sub]; congr 1; show (at' : Int) - 1 = _; omega
      have e3 : iI (at' : Int) + (-1) = iI ((at' - 1 : Nat) : Int) := by rw [iI_lit, iI_neg, iI_add]; congr 1; show (at' : Int) + -1 = _; omega
      have h5 := h3 (at' - 1) (by omega)
      have ht1 := ht k
      have ht2 := ht (r (at' - 1))
      rw [e2, e3]
      simp only [vg_iI (show (0 : Int) ≤ ((at' - 1 : Nat) : Int) by omega) (show ((at' - 1 : Nat) : Int) < ((6 : Nat) : Int) by omega) (by omega), vg_iI (show (0 : Int) ≤ (at' : Int) by omega) (show (at' : Int) < ((6 : Nat) : Int) by omega) (by omega), iI_clamp (show (0 : Int) ≤ ((at' - 1 : Nat) : Int) by omega) (by omega), iI_clamp (show (0 : Int) ≤ (at' : Int) by omega) (by omega), Int.toNat_natCast, h5.1, h5.2]
      by_cases h6 : t k ≤ t (r (at' - 1))
      · rw [if_pos (by rw [iI_le (by omega) (by omega) (by omega) (by omega)]; omega), eJ]
        exact ⟨at', w3, w4, rfl, h1, h3, h4, Or.inr h6⟩
      · rw [if_neg (by rw [iI_le (by omega) (by omega) (by omega) (by omega)]; omega)]
        obtain ⟨e, v3, v4, q1, q2, q3⟩ := rank_L hk ht m (at' - 1) (upd w3 at' (iI (r (at' - 1)))) (upd w4 at' (iI (t (r (at' - 1))))) (by omega) (by omega) (fun i hi => by
          rw [pk_un (by omega), pk_un (by omega)]
          exact h3 i (by omega)) (fun i hi hi2 => by
          by_cases hia : i = at'
          · subst hia
            rw [pk_us, pk_us]
            exact ⟨rfl, rfl, by omega⟩
          · rw [pk_un hia, pk_un hia]
            exact h4 i (by omega) hi2)
        exact ⟨e, v3, v4, q1, q2, q3⟩
theorem rank_iI {N : Nat} {rk tn : Nat → Int32} {r t : Nat → Nat} {k : Nat} (hN : 10 ≤ N) (hk : k < 6) (ht : ∀ i, t i < 10) (h : RK r t k) (ha : ∀ i, i < k → rk i = iI (r i) ∧ tn i = iI (t (r i))) :
    ∃ (rk' tn' : Nat → Int32) (r' : Nat → Nat), fX6_rank N rk tn (iI k) (iI k) (iI (t k)) = some (rk', tn', iI (k + 1)) ∧ RK r' t (k + 1) ∧ ∀ i, i < k + 1 → rk' i = iI (r' i) ∧ tn' i = iI (t (r' i)) := by
  obtain ⟨e, v3, v4, q1, q2, q3, q4, q5⟩ := rank_L (r := r) hk ht N k rk tn (Nat.le_refl _) (by omega) ha (fun i h1 h2 => absurd h1 (by omega))
  obtain ⟨h1, h2, h3⟩ := h
  refine ⟨upd v3 e (iI k), upd v4 e (iI (t k)), fun i => if i < e then r i else if i = e then k else r (i - 1), ?_, ⟨fun i hi => ?_, fun j hj => ?_, fun i j hij hj => ?_⟩, fun i hi => ?_⟩
  · unfold fX6_rank
    rw [if_pos (by rw [iI_lit 6, iI_lt (by omega) (by omega) (by decide) (by decide)]; show (k : Int) < 6; omega), q1]
  · show (if i < e then r i else if i = e then k else r (i - 1)) < k + 1
    split
    · have := h1 i (by omega)
      omega
    · split
      · omega
      · have := h1 (i - 1) (by omega)
        omega
  · by_cases hjk : j = k
    · refine ⟨e, by omega, ?_⟩
      show (if e < e then r e else if e = e then k else r (e - 1)) = j
      rw [if_neg (by omega), if_pos rfl, hjk]
    · obtain ⟨i, hi, hij⟩ := h2 j (by omega)
      by_cases hie : i < e
      · refine ⟨i, by omega, ?_⟩
        show (if i < e then r i else if i = e then k else r (i - 1)) = j
        rw [if_pos hie, hij]
      · refine ⟨i + 1, by omega, ?_⟩
        show (if i + 1 < e then r (i + 1) else if i + 1 = e then k else r (i + 1 - 1)) = j
        rw [if_neg (by omega), if_neg (by omega), Nat.add_sub_cancel, hij]
  · show t (if j < e then r j else if j = e then k else r (j - 1)) < t (if i < e then r i else if i = e then k else r (i - 1)) ∨ (t (if j < e then r j else if j = e then k else r (j - 1)) = t (if i < e then r i else if i = e then k else r (i - 1)) ∧ (if i < e then r i else if i = e then k else r (i - 1)) < (if j < e then r j else if j = e then k else r (j - 1)))
    by_cases hje : j < e
    · rw [if_pos hje, if_pos (by omega)]
      exact h3 i j hij (by omega)
    · rw [if_neg hje]
      by_cases hje2 : j = e
      · rw [if_pos hje2, if_pos (by omega)]
        have hb := h1 i (by omega)
        rcases q5 with q | q
        · omega
        · by_cases hi1 : i = e - 1
          · subst hi1
            omega
          · rcases h3 i (e - 1) (by omega) (by omega) with z | ⟨z, -⟩ <;> omega
      · rw [if_neg hje2]
        by_cases hie : i < e
        · rw [if_pos hie]
          exact h3 i (j - 1) (by omega) (by omega)
        · rw [if_neg hie]
          by_cases hie2 : i = e
          · rw [if_pos hie2]
            have := (q4 j (by omega) (by omega)).2.2
            exact Or.inl this
          · rw [if_neg hie2]
            exact h3 (i - 1) (j - 1) (by omega) (by omega)
  · show upd v3 e (iI k) i = iI ((if i < e then r i else if i = e then k else r (i - 1) : Nat) : Int) ∧ upd v4 e (iI (t k)) i = iI ((t (if i < e then r i else if i = e then k else r (i - 1)) : Nat) : Int)
    by_cases hie : i < e
    · rw [pk_un (by omega), pk_un (by omega), if_pos hie]
      exact q3 i hie
    · by_cases hie2 : i = e
      · subst hie2
        rw [pk_us, pk_us, if_neg hie, if_pos rfl]
        exact ⟨rfl, rfl⟩
      · rw [pk_un hie2, pk_un hie2, if_neg hie, if_neg hie2]
        have := q4 i (by omega) (by omega)
        exact ⟨this.1, this.2.1⟩
theorem iI_s (i : Nat) : iI (i : Int) + 1 = iI ((i + 1 : Nat) : Int) := by rw [iI_lit, iI_add] <;> rfl
def tt (A B : Nat → Nat) (F k : Nat) : Nat := tnI (wri (A k) (B k) (fg F k))
theorem tt_lt (A B : Nat → Nat) (F k : Nat) : tt A B F k < 10 := tnI_lt _
/-- the books' numbers in a pair of rows -/
def rowsAt (n : Nat) (A B : Nat → Nat) (a b : Nat → Int32) : Prop := ∀ i, i < n → A i ≤ 999 ∧ B i ≤ 999 ∧ a i = iI (A i) ∧ b i = iI (B i)
theorem waysNow_L {N n F R : Nat} {A B : Nat → Nat} {a b : Nat → Int32} (hN : 10 ≤ N) (hn : n ≤ 6) (hF : F < 4096) (hab : rowsAt n A B a b) : ∀ (m i : Nat) (rk tn : Nat → Int32) (r : Nat → Nat), i ≤ n → n - i < m → RK r (tt A B F) i → (∀ j, j < i → rk j = iI (r j) ∧ tn j = iI (tt A B F (r j))) →
    ∃ (rk' tn' : Nat → Int32) (r' : Nat → Nat), fX7_waysNow_L24 N a b (iI n) (iI F) (iI R) m (iI i) rk tn (iI i) = some (rk', tn', iI n, iI R) ∧ RK r' (tt A B F) n ∧ ∀ j, j < n → rk' j = iI (r' j)
  | 0, i, _, _, _, _, h, _, _ => absurd h (Nat.not_lt_zero _)
  | m + 1, i, rk, tn, r, hi, hm, hk, ha => by
    rw [fX7_waysNow_L24]
    by_cases h : n ≤ i
    · have e : i = n := by omega
      subst e
      rw [if_pos (by rw [iI_le (by omega) (by omega) (by omega) (by omega)]; omega)]
      exact ⟨rk, tn, r, rfl, hk, fun j hj => (ha j hj).1⟩
    · rw [if_neg (by rw [iI_le (by omega) (by omega) (by omega) (by omega)]; omega)]
      obtain ⟨hA, hB, hA1, hB1⟩ := hab i (by omega)
      rw [written_iI hF (by omega) hA1 hB1, Option.bind_some]
      have w1 := wri_lo (x := A i) (y := B i) (fg_lt F i)
      have w2 := wri_hi (f := fg F i) hA hB
      rw [tensOf_iI (by omega) (by omega)]
      obtain ⟨rk', tn', r', q1, q2, q3⟩ := rank_iI (N := N) (rk := rk) (tn := tn) (r := r) (t := tt A B F) (k := i) hN (by omega) (tt_lt A B F) hk ha
      rw [show tnI (wri (A i) (B i) (fg F i)) = tt A B F i from rfl, q1, Option.bind_some, iI_s]
      exact waysNow_L hN hn hF hab m (i + 1) rk' tn' r' (by omega) (by omega) q2 q3
theorem waysNow_iI {N n F R : Nat} {A B : Nat → Nat} {a b : Nat → Int32} (hN : 10 ≤ N) (hn : n ≤ 6) (hF : F < 4096) (hab : rowsAt n A B a b) (rk tn : Nat → Int32) (sz tr : Int32) :
    ∃ (rk' tn' : Nat → Int32) (r' : Nat → Nat), fX7_waysNow N a b (iI n) (iI F) (iI R) rk tn sz tr = some (rk', tn', iI n, iI R) ∧ RK r' (tt A B F) n ∧ ∀ j, j < n → rk' j = iI (r' j) :=
  waysNow_L hN hn hF hab N 0 rk tn id (Nat.zero_le _) (by omega) ⟨fun i h => absurd h (Nat.not_lt_zero _), fun i h => absurd h (Nat.not_lt_zero _), fun i j h h2 => absurd h2 (Nat.not_lt_zero _)⟩ (fun i h => absurd h (Nat.not_lt_zero _))
/-! the walk -/
def gon (g : Nat → Nat) : Nat → Nat → Nat
  | 0, b => b
  | d + 1, b => gon g d (g b)
theorem gon_lt {g : Nat → Nat} {n : Nat} (hg : ∀ b, b < n → g b < n) : ∀ d b, b < n → gon g d b < n
  | 0, b, h => h
  | d + 1, b, h => gon_lt hg d (g b) (hg b h)
theorem walk_L {N : Nat} {rk : Nat → Int32} {r t : Nat → Nat} {n T R d : Nat} (hN : 10 ≤ N) (hn : n ≤ 6) (hT : T < 32768) (hR : R < 64) (hr : ∀ i, i < n → rk i = iI (r i)) (hk : RK r t n) (hd : d ≤ 200) : ∀ (m i b : Nat), i ≤ d → d - i < m → b < n → fX6_walk_L6 N rk (iI n) (iI R) (iI d) (iI T) m (iI b) (iI i) = some (iI ((gon (go t T R n) (d - i) b : Nat) : Int))
  | 0, i, b, _, h, _ => absurd h (Nat.not_lt_zero _)
  | m + 1, i, b, hi, hm, hb => by
    rw [fX6_walk_L6]
    by_cases h : d ≤ i
    · rw [if_pos (by rw [iI_le (by omega) (by omega) (by omega) (by omega)]; omega)]
      have e : d - i = 0 := by omega
      rw [e]
      rfl
    · rw [if_neg (by rw [iI_le (by omega) (by omega) (by omega) (by omega)]; omega)]
      rw [goesTo_iI hN hn hT hR hb hr hk, Option.bind_some, iI_s, walk_L hN hn hT hR hr hk hd m (i + 1) _ (by omega) (by omega) (go_lt hb)]
      have e : d - i = (d - (i + 1)) + 1 := by omega
      rw [e]
      rfl
theorem walk_iI {N : Nat} {rk : Nat → Int32} {r t : Nat → Nat} {n T R d b : Nat} (hN : 300 ≤ N) (hn : n ≤ 6) (hT : T < 32768) (hR : R < 64) (hr : ∀ i, i < n → rk i = iI (r i)) (hk : RK r t n) (hd : d ≤ 200) (hb : b < n) : fX6_walk N rk (iI n) (iI R) (iI b) (iI d) (iI T) = some (iI ((gon (go t T R n) d b : Nat) : Int)) :=
  walk_L (by omega) hn hT hR hr hk hd N 0 b (Nat.zero_le _) (by omega) hb
end WAYS
