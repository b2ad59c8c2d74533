/-! carries forgotten, touches: their bits -/
section BITS45
theorem fg_sh (F i : Nat) : fg F i = F >>> (2 * i) % 2 ^ 2 := by
  unfold fg
  rw [Nat.shiftRight_eq_div_pow, Nat.pow_mul]
theorem fg_or (a b i : Nat) : fg (a ||| b) i = fg a i ||| fg b i := by
  rw [fg_sh, fg_sh, fg_sh, Nat.shiftRight_or_distrib, Nat.or_mod_two_pow]
theorem fg_and (a b i : Nat) : fg (a &&& b) i = fg a i &&& fg b i := by
  rw [fg_sh, fg_sh, fg_sh, Nat.shiftRight_and_distrib, Nat.and_mod_two_pow]
theorem fg_one : ∀ b : Nat, b < 6 → ∀ p : Nat, p < 2 → ∀ j : Nat, j < 6 → fg (2 ^ p * 2 ^ (2 * b)) j = (if j = b then 2 ^ p else 0) := by decide +kernel
theorem one_lt : ∀ b : Nat, b < 6 → ∀ p : Nat, p < 2 → 2 ^ p * 2 ^ (2 * b) < 2 ^ 12 := by decide +kernel
theorem fg_not : ∀ b : Nat, b < 6 → ∀ j : Nat, j < 6 → fg (3 * 2 ^ (2 * b) ^^^ 4294967295) j = (if j = b then 0 else 3) := by decide +kernel
theorem and3 : ∀ f : Nat, f < 4 → f &&& 3 = f := by decide +kernel
theorem forg_dec : ∀ c : Nat, c < 4 → ∀ f : Nat, f < 4 → ∀ p : Nat, p < 2 → ((((iI (c : Int) &&& (iI (f : Int) ^^^ (-1 : Int32))) &&& ((1 : Int32) <<< (iI (p : Int) &&& 31))) = 0) ↔ (((iI (c : Int) >>> (iI (p : Int) &&& 31)) &&& (1 : Int32)) = 0 ∨ ((iI (f : Int) >>> (iI (p : Int) &&& 31)) &&& (1 : Int32)) = 1)) := by decide +kernel
theorem pops_f : ∀ f : Nat, f < 4 → (iI ((pops 15 f : Nat) : Int) = 0 ↔ iI (f : Int) = 0) := by decide +kernel
theorem m1_iI : (-1 : Int32) = iI ((4294967295 : Nat) : Int) := by decide
/-- the row, one book's forgotten carries anew -/
theorem row_F {S : NS} {now : Nat → Int32} {F' b v : Nat} (hR : ∀ j, j < 15 → now j = rowS S j) (hb : b < 6) (hF : ∀ j, j < 6 → fg F' j = if j = b then v else fg S.1 j) : ∀ j, j < 15 → upd now b (iI (v : Int)) j = rowS (F', S.2) j := by
  intro j hj
  by_cases h : j = b
  · subst h
    rw [pk_us, rowS_lo hb, hF j hb, if_pos rfl]
  · rw [pk_un h, hR j hj]
    unfold rowS
    by_cases h1 : j < 6
    · rw [if_pos h1, if_pos h1, hF j h1, if_neg h]
    · rw [if_neg h1, if_neg h1]
theorem ti_injC : (List.range 6).all (fun a => (List.range 6).all fun b => (List.range 6).all fun x => (List.range 6).all fun y => a == b || (x == y || ((ti x y == ti a b) == ((x == a && y == b) || (x == b && y == a))))) = true := by decide +kernel
theorem ti_injB (a : Nat) (ha : a < 6) (b : Nat) (hb : b < 6) (hab : a ≠ b) (x : Nat) (hx : x < 6) (y : Nat) (hy : y < 6) (hxy : x ≠ y) : (ti x y == ti a b) = ((x == a && y == b) || (x == b && y == a)) := by
  have h1 := List.all_eq_true.mp ti_injC a (List.mem_range.mpr ha)
  have h2 := List.all_eq_true.mp h1 b (List.mem_range.mpr hb)
  have h3 := List.all_eq_true.mp h2 x (List.mem_range.mpr hx)
  have h4 := List.all_eq_true.mp h3 y (List.mem_range.mpr hy)
  rw [show (a == b) = false by simp [hab], show (x == y) = false by simp [hxy], Bool.false_or, Bool.false_or] at h4
  exact beq_iff_eq.mp h4
theorem ti_inj (a : Nat) (ha : a < 6) (b : Nat) (hb : b < 6) (hab : a ≠ b) (x : Nat) (hx : x < 6) (y : Nat) (hy : y < 6) (hxy : x ≠ y) : ti x y = ti a b ↔ ((x = a ∧ y = b) ∨ (x = b ∧ y = a)) := by
  have h := ti_injB a ha b hb hab x hx y hy hxy
  rw [← beq_iff_eq, h]
  simp
theorem nbr_xor {T a b x y : Nat} (ha : a < 6) (hb : b < 6) (hab : a ≠ b) (hx : x < 6) (hy : y < 6) : nbr (T ^^^ 2 ^ ti a b) x y = (nbr T x y ^^ (decide ((x = a ∧ y = b) ∨ (x = b ∧ y = a)))) := by
  unfold nbr
  by_cases hxy : x = y
  · subst hxy
    have : ¬ ((x = a ∧ x = b) ∨ (x = b ∧ x = a)) := by omega
    simp [this]
  · have h := ti_inj a ha b hb hab x hx y hy hxy
    rw [Nat.testBit_xor, Nat.testBit_two_pow]
    have e : (decide (ti a b = ti x y)) = decide ((x = a ∧ y = b) ∨ (x = b ∧ y = a)) := by
      apply decide_eq_decide.mpr
      rw [← h]
      exact eq_comm
    have hne : (x != y) = true := by simp [hxy]
    rw [e, hne, Bool.true_and, Bool.true_and]
theorem mk6_xor {T a b : Nat} (ha : a < 6) (hb : b < 6) (hab : a ≠ b) : mk6 (nbr T a) ^^^ 2 ^ b = mk6 (nbr (T ^^^ 2 ^ ti a b) a) := by
  apply mk6_eq
  · exact xor_lt64 _ (mk6_lt _) b hb
  · intro o ho
    rw [Nat.testBit_xor, mk6_bit _ _ ho, nbr_xor ha hb hab ha ho, Nat.testBit_two_pow]
    congr 1
    apply decide_eq_decide.mpr
    omega
theorem ti_comm (a b : Nat) : ti a b = ti b a := by
  unfold ti
  rw [Nat.min_comm, Nat.max_comm]
theorem mk6_congr {p q : Nat → Bool} (h : ∀ o, o < 6 → p o = q o) : mk6 p = mk6 q := by
  unfold mk6
  rw [h 0 (by decide), h 1 (by decide), h 2 (by decide), h 3 (by decide), h 4 (by decide), h 5 (by decide)]
theorem mk6_other {T a b x : Nat} (ha : a < 6) (hb : b < 6) (hab : a ≠ b) (hx : x < 6) (h1 : x ≠ a) (h2 : x ≠ b) : mk6 (nbr (T ^^^ 2 ^ ti a b) x) = mk6 (nbr T x) := by
  apply mk6_congr
  intro o ho
  rw [nbr_xor ha hb hab hx ho]
  have : ¬ ((x = a ∧ o = b) ∨ (x = b ∧ o = a)) := by omega
  simp [this]
/-! how many touches -/
theorem pops_bit (x k : Nat) : x >>> k % 2 = (x.testBit k).toNat := by
  rw [Nat.testBit_eq_decide_div_mod_eq, Nat.shiftRight_eq_div_pow]
  have h2 : x / 2 ^ k % 2 < 2 := Nat.mod_lt _ (by decide)
  by_cases h : x / 2 ^ k % 2 = 1
  · simp [h]
  · have h0 : x / 2 ^ k % 2 = 0 := by omega
    simp [h0]
theorem pops_mk6d : ∀ b0 b1 b2 b3 b4 b5 : Bool, pops 15 (b0.toNat + 2 * b1.toNat + 4 * b2.toNat + 8 * b3.toNat + 16 * b4.toNat + 32 * b5.toNat) = b0.toNat + b1.toNat + b2.toNat + b3.toNat + b4.toNat + b5.toNat := by decide +kernel
theorem pops_mk6 (p : Nat → Bool) : pops 15 (mk6 p) = (p 0).toNat + (p 1).toNat + (p 2).toNat + (p 3).toNat + (p 4).toNat + (p 5).toNat := pops_mk6d _ _ _ _ _ _
theorem pops15 (x : Nat) : pops 15 x = (x.testBit 0).toNat + (x.testBit 1).toNat + (x.testBit 2).toNat + (x.testBit 3).toNat + (x.testBit 4).toNat + (x.testBit 5).toNat + (x.testBit 6).toNat + (x.testBit 7).toNat + (x.testBit 8).toNat + (x.testBit 9).toNat + (x.testBit 10).toNat + (x.testBit 11).toNat + (x.testBit 12).toNat + (x.testBit 13).toNat + (x.testBit 14).toNat := by
  simp only [pops, pops_bit]
  omega
theorem nbr_rows (T : Nat) : pops 15 (mk6 (nbr T 0)) + pops 15 (mk6 (nbr T 1)) + pops 15 (mk6 (nbr T 2)) + pops 15 (mk6 (nbr T 3)) + pops 15 (mk6 (nbr T 4)) + pops 15 (mk6 (nbr T 5)) = 2 * pops 15 T := by
  simp only [pops_mk6]
  rw [pops15 T]
  have d : ∀ x y : Nat, nbr T x y = ((x != y) && T.testBit (ti x y)) := fun x y => rfl
  simp only [d]
  have t01 : ti 0 1 = 0 := rfl
  have t02 : ti 0 2 = 1 := rfl
  have t03 : ti 0 3 = 2 := rfl
  have t04 : ti 0 4 = 3 := rfl
  have t05 : ti 0 5 = 4 := rfl
  have t12 : ti 1 2 = 5 := rfl
  have t13 : ti 1 3 = 6 := rfl
  have t14 : ti 1 4 = 7 := rfl
  have t15 : ti 1 5 = 8 := rfl
  have t23 : ti 2 3 = 9 := rfl
  have t24 : ti 2 4 = 10 := rfl
  have t25 : ti 2 5 = 11 := rfl
  have t34 : ti 3 4 = 12 := rfl
  have t35 : ti 3 5 = 13 := rfl
  have t45 : ti 4 5 = 14 := rfl
  simp only [ti_comm 1 0, ti_comm 2 0, ti_comm 2 1, ti_comm 3 0, ti_comm 3 1, ti_comm 3 2, ti_comm 4 0, ti_comm 4 1, ti_comm 4 2, ti_comm 4 3, ti_comm 5 0, ti_comm 5 1, ti_comm 5 2, ti_comm 5 3, ti_comm 5 4, t01, t02, t03, t04, t05, t12, t13, t14, t15, t23, t24, t25, t34, t35, t45]
  simp
  omega
theorem touches8_iI {N T : Nat} {now : Nat → Int32} (hN : 300 ≤ N) (hT : T < 32768) (h : ∀ b, b < 6 → now (6 + b) = iI ((mk6 (nbr T b) : Nat) : Int)) : fX8_touches N now = some (iI ((pops 15 T : Nat) : Int)) := by
  unfold fX8_touches
  obtain ⟨n, rfl⟩ : ∃ n, N = n + 7 := ⟨N - 7, by omega⟩
  have st : ∀ (b : Nat), b < 6 → ∀ (m s : Nat), fX8_touches_L4 (n + 7) now (m + 1) (iI (s : Int)) (iI (b : Int)) = fX8_touches_L4 (n + 7) now m (iI ((s + pops 15 (mk6 (nbr T b)) : Nat) : Int)) (iI ((b + 1 : Nat) : Int)) := by
    intro b hb m s
    have hl := mk6_lt (nbr T b)
    have e : (6 : Int32) + iI (b : Int) = iI ((6 + b : Nat) : Int) := by rw [iI_lit 6, iI_add] <;> congr 1
    rw [fX8_touches_L4, if_neg (by rw [iI_lit 6, iI_le (by decide) (by decide) (by omega) (by omega)]; show ¬ (6 : Int) ≤ b; omega), e, vg_iI (by omega) (by omega) (by omega), iI_clamp (by omega) (by omega), Int.toNat_natCast, h b hb, manyOf_iI (by omega) (by omega), Option.bind_some, iI_addN, iI_s]
  have e0 : (0 : Int32) = iI ((0 : Nat) : Int) := rfl
  rw [e0, st 0 (by decide), st 1 (by decide), st 2 (by decide), st 3 (by decide), st 4 (by decide), st 5 (by decide), fX8_touches_L4, if_pos (by decide)]
  have hr := nbr_rows T
  have hp : pops 15 T < 16 := by
    rw [pops15]
    have hb : ∀ b : Bool, b.toNat ≤ 1 := fun b => by cases b <;> decide
    have h0 := hb (T.testBit 0)
    have h1 := hb (T.testBit 1)
    have h2 := hb (T.testBit 2)
    have h3 := hb (T.testBit 3)
    have h4 := hb (T.testBit 4)
    have h5 := hb (T.testBit 5)
    have h6 := hb (T.testBit 6)
    have h7 := hb (T.testBit 7)
    have h8 := hb (T.testBit 8)
    have h9 := hb (T.testBit 9)
    have h10 := hb (T.testBit 10)
    have h11 := hb (T.testBit 11)
    have h12 := hb (T.testBit 12)
    have h13 := hb (T.testBit 13)
    have h14 := hb (T.testBit 14)
    omega
  simp only [Nat.zero_add, Nat.reduceAdd]
  rw [hr]
  rw [iI_lit 2, iI_div (by omega) (by omega) (by decide) (by decide)]
  congr 2
  show ((2 * pops 15 T : Nat) : Int) / 2 = _
  omega
/-- the set of those below k, bit by bit -/
theorem msk_bit (q : Nat → Bool) : ∀ (k i m o : Nat), (msk q m k i).testBit o = (m.testBit o || (decide (i ≤ o ∧ o < i + k) && q o))
  | 0, i, m, o => by
    have e : decide (i ≤ o ∧ o < i + 0) = false := decide_eq_false (by omega)
    rw [msk, e]
    simp
  | k + 1, i, m, o => by
    rw [msk, msk_bit q k (i + 1)]
    by_cases ho : o = i
    · subst ho
      have h1 : ¬ (o + 1 ≤ o ∧ o < o + 1 + k) := by omega
      have h2 : o ≤ o ∧ o < o + (k + 1) := by omega
      cases hq : q o
      · simp [h1]
      · simp [h1, h2]
    · have e : decide (i ≤ o ∧ o < i + (k + 1)) = decide (i + 1 ≤ o ∧ o < i + 1 + k) := by
        apply decide_eq_decide.mpr
        omega
      rw [e]
      cases hq : q i
      · simp
      · simp [Nat.testBit_or, Nat.testBit_two_pow_of_ne (Ne.symm ho)]
theorem msk_mk6 {q : Nat → Bool} {n : Nat} (hn : n ≤ 6) (h : ∀ o, o < 6 → q o = true → o < n) : msk q 0 n 0 = mk6 q := by
  apply Nat.eq_of_testBit_eq
  intro o
  rw [msk_bit]
  by_cases ho : o < 6
  · rw [mk6_bit _ _ ho]
    cases hq : q o
    · simp
    · have := h o ho hq
      simp [this]
  · have e : (mk6 q).testBit o = false := Nat.testBit_lt_two_pow (by have h1 := mk6_lt q; have : 2 ^ 6 ≤ 2 ^ o := Nat.pow_le_pow_right (by decide) (by omega); omega)
    have e2 : decide (0 ≤ o ∧ o < 0 + n) = false := decide_eq_false (by omega)
    rw [e, e2]
    simp
end BITS45
