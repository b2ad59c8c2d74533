/-! the same of the reference -/
section NEAR
def mk6 (p : Nat → Bool) : Nat := (p 0).toNat + 2 * (p 1).toNat + 4 * (p 2).toNat + 8 * (p 3).toNat + 16 * (p 4).toNat + 32 * (p 5).toNat
theorem mk6_dec : ∀ b0 b1 b2 b3 b4 b5 : Bool, ∀ o : Nat, o < 6 → (b0.toNat + 2 * b1.toNat + 4 * b2.toNat + 8 * b3.toNat + 16 * b4.toNat + 32 * b5.toNat).testBit o = (match o with | 0 => b0 | 1 => b1 | 2 => b2 | 3 => b3 | 4 => b4 | _ => b5) := by decide +kernel
theorem mk6_bit (p : Nat → Bool) (o : Nat) (ho : o < 6) : (mk6 p).testBit o = p o := by
  unfold mk6
  rw [mk6_dec _ _ _ _ _ _ o ho]
  match o, ho with
  | 0, _ => rfl
  | 1, _ => rfl
  | 2, _ => rfl
  | 3, _ => rfl
  | 4, _ => rfl
  | 5, _ => rfl
theorem mk6_lt (p : Nat → Bool) : mk6 p < 64 := by
  unfold mk6
  have h : ∀ b : Bool, b.toNat ≤ 1 := fun b => by cases b <;> decide
  have h0 := h (p 0)
  have h1 := h (p 1)
  have h2 := h (p 2)
  have h3 := h (p 3)
  have h4 := h (p 4)
  have h5 := h (p 5)
  omega
theorem mk6_eq {m : Nat} {p : Nat → Bool} (hm : m < 64) (h : ∀ o, o < 6 → m.testBit o = p o) : m = mk6 p := by
  apply Nat.eq_of_testBit_eq
  intro i
  by_cases hi : i < 6
  · rw [h i hi, mk6_bit p i hi]
  · have h64 : 64 ≤ 2 ^ i := by
      have : 2 ^ 6 ≤ 2 ^ i := Nat.pow_le_pow_right (by decide) (by omega)
      exact this
    rw [Nat.testBit_lt_two_pow (by omega), Nat.testBit_lt_two_pow (by have := mk6_lt p; omega)]
def goP (t : Nat → Nat) (p : Nat → Nat → Bool) (R n b : Nat) : Nat := if R.testBit b then b else (bst t (p b) n).getD b
theorem goP_lt {t : Nat → Nat} {p : Nat → Nat → Bool} {R n b : Nat} (hb : b < n) : goP t p R n b < n := by
  unfold goP
  split
  · exact hb
  · cases h : bst t (p b) n with
    | none => exact hb
    | some x => exact bst_lt h
theorem go_goP (t : Nat → Nat) (T R n b : Nat) : go t T R n b = goP t (nbr T) R n b := rfl
/-- near tells who touches -/
def nearIs (p : Nat → Nat → Bool) (near : Nat → Int32) : Prop := ∀ b, b < 6 → near b = iI ((mk6 (p b) : Nat) : Int)
/-- what the reference holds of the books and of now -/
def M8 (n : Nat) (A B : Nat → Nat) (F R : Nat) (books nA nB now : Nat → Int32) : Prop := n ≤ 6 ∧ F < 4096 ∧ R < 64 ∧ books 0 = iI n ∧ rowsAt n A B nA nB ∧ (∀ k, k < n → now k = iI ((fg F k : Nat) : Int)) ∧ now 12 = iI R
theorem t0 : (0 : Int32).toNatClampNeg = 0 := by decide
theorem t1 : (1 : Int32).toNatClampNeg = 1 := by decide
theorem t12 : (12 : Int32).toNatClampNeg = 12 := by decide
theorem t13 : (13 : Int32).toNatClampNeg = 13 := by decide
theorem t14 : (14 : Int32).toNatClampNeg = 14 := by decide
theorem t15 : (15 : Int32).toNatClampNeg = 15 := by decide
theorem bit_1 (b : Bool) : iI ((b.toNat : Nat) : Int) = 1 ↔ b = true := by cases b <;> decide
theorem goesTo8_L {N n F R b : Nat} {A B : Nat → Nat} {books nA nB now near : Nat → Int32} {p : Nat → Nat → Bool} (hN : 10 ≤ N) (hM : M8 n A B F R books nA nB now) (hp : nearIs p near) (hb : b < n) : ∀ (m i : Nat), i ≤ n → n - i < m → ∀ (f g : Int32), (match bst (tt A B F) (p b) i with | none => f = (-9) ∧ g = (-1) | some j => f = iI j ∧ g = iI (tt A B F j)) →
    fX8_goesTo_L8 N books nA nB now near (iI b) m f g (iI i) = some (iI ((goP (tt A B F) p R n b : Nat) : Int))
  | 0, i, _, h, _, _, _ => absurd h (Nat.not_lt_zero _)
  | m + 1, i, hi, hm, f, g, hfg => by
    obtain ⟨hn, hF, hR, hbk, hab, hf, h12⟩ := id hM
    rw [fX8_goesTo_L8, t0, hbk]
    by_cases h : n ≤ i
    · have e : i = n := by omega
      subst e
      rw [if_pos (by rw [iI_le (by omega) (by omega) (by omega) (by omega)]; omega)]
      unfold goP
      rw [t12, h12, trap_bit (by omega) (by omega)]
      cases hbst : bst (tt A B F) (p b) i with
      | none =>
        rw [hbst] at hfg
        rw [if_pos hfg.1]
        cases R.testBit b <;> rfl
      | some j =>
        rw [hbst] at hfg
        have hj := bst_lt hbst
        rw [if_neg (by rw [hfg.1, iI_lit 9, iI_neg, iI_eq (by omega) (by omega) (by decide) (by decide)]; show ¬ (j : Int) = -9; omega)]
        cases hR2 : R.testBit b
        · rw [if_neg (by decide), hfg.1]
          rfl
        · rw [if_pos (by decide)]
          rfl
    · rw [if_neg (by rw [iI_le (by omega) (by omega) (by omega) (by omega)]; omega)]
      obtain ⟨hA, hB, hA1, hB1⟩ := hab i (by omega)
      have w1 := wri_lo (x := A i) (y := B i) (fg_lt F i)
      have w2 := wri_hi (f := fg F i) hA hB
      rw [written8_iI (fg_lt F i) (by omega) hA1 hB1 (hf i (by omega)), Option.bind_some, tens8_iI hN (by omega) (by omega), Option.bind_some, vg_iI (by omega) (by omega) (by omega), iI_clamp (by omega) (by omega), Int.toNat_natCast, hp b (by omega)]
      have hmk := mk6_lt (p b)
      rw [trap_bit (by omega) (by omega), mk6_bit (p b) i (by omega), iI_s]
      have ih := goesTo8_L hN hM hp hb m (i + 1) (by omega) (by omega)
      have htt : iI ((tnI (wri (A i) (B i) (fg F i)) : Nat) : Int) = iI ((tt A B F i : Nat) : Int) := rfl
      rw [htt]
      have hti := tt_lt A B F i
      by_cases hpi : p b i = true
      · rw [if_pos ((bit_1 _).mpr hpi)]
        cases hbst : bst (tt A B F) (p b) i with
        | none =>
          rw [hbst] at hfg
          rw [if_neg (by rw [hfg.2, iI_lit 1, iI_neg, iI_le (by omega) (by omega) (by decide) (by decide)]; show ¬ ((tt A B F i : Nat) : Int) ≤ -1; omega)]
          apply ih
          unfold bst
          rw [if_pos hpi, hbst]
          exact ⟨rfl, rfl⟩
        | some j =>
          rw [hbst] at hfg
          have htj := tt_lt A B F j
          rw [hfg.2]
          by_cases hlt : tt A B F j < tt A B F i
          · rw [if_neg (by rw [iI_le (by omega) (by omega) (by omega) (by omega)]; omega)]
            apply ih
            unfold bst
            rw [if_pos hpi, hbst]
            simp only [if_pos hlt]
            first | exact ⟨rfl, rfl⟩ | exact ⟨trivial, trivial⟩
          · rw [if_pos (by rw [iI_le (by omega) (by omega) (by omega) (by omega)]; omega)]
            apply ih
            unfold bst
            rw [if_pos hpi, hbst]
            simp only [if_neg hlt]
            first | exact ⟨hfg.1, rfl⟩ | exact ⟨hfg.1, trivial⟩
      · rw [if_neg (fun q => hpi ((bit_1 _).mp q))]
        apply ih
        unfold bst
        rw [if_neg hpi]
        exact hfg
theorem goesTo8_iI {N n F R b : Nat} {A B : Nat → Nat} {books nA nB now near : Nat → Int32} {p : Nat → Nat → Bool} (hN : 10 ≤ N) (hM : M8 n A B F R books nA nB now) (hp : nearIs p near) (hb : b < n) : fX8_goesTo N books nA nB now near (iI b) = some (iI ((goP (tt A B F) p R n b : Nat) : Int)) :=
  goesTo8_L hN hM hp hb N 0 (Nat.zero_le _) (by have := hM.1; omega) _ _ ⟨rfl, rfl⟩
theorem goesIn8_L {N n F R d : Nat} {A B : Nat → Nat} {books nA nB now near : Nat → Int32} {p : Nat → Nat → Bool} (hN : 10 ≤ N) (hM : M8 n A B F R books nA nB now) (hp : nearIs p near) (hd : d ≤ 200) : ∀ (m i b : Nat), i ≤ d → d - i < m → b < n → fX8_goesIn_L5 N books nA nB now near (iI d) m (iI b) (iI i) = some (iI ((gon (goP (tt A B F) p R n) (d - i) b : Nat) : Int))
  | 0, i, b, _, h, _ => absurd h (Nat.not_lt_zero _)
  | m + 1, i, b, hi, hm, hb => by
    rw [fX8_goesIn_L5]
    by_cases h : d ≤ i
    · rw [if_pos (by rw [iI_le (by omega) (by omega) (by omega) (by omega)]; omega)]
      have e : d - i = 0 := by omega
      rw [e]
      rfl
    · rw [if_neg (by rw [iI_le (by omega) (by omega) (by omega) (by omega)]; omega)]
      rw [goesTo8_iI hN hM hp hb, Option.bind_some, iI_s, goesIn8_L hN hM hp hd m (i + 1) _ (by omega) (by omega) (goP_lt hb)]
      have e : d - i = (d - (i + 1)) + 1 := by omega
      rw [e]
      rfl
theorem goesIn8_iI {N n F R d b : Nat} {A B : Nat → Nat} {books nA nB now near : Nat → Int32} {p : Nat → Nat → Bool} (hN : 300 ≤ N) (hM : M8 n A B F R books nA nB now) (hp : nearIs p near) (hd : d ≤ 200) (hb : b < n) : fX8_goesIn N books nA nB now near (iI b) (iI d) = some (iI ((gon (goP (tt A B F) p R n) d b : Nat) : Int)) :=
  goesIn8_L (by omega) hM hp hd N 0 b (Nat.zero_le _) (by omega) hb
theorem takeNear_L {now : Nat → Int32} : ∀ (m i : Nat) (w : Nat → Int32), i ≤ 6 → 6 - i < m → (∀ b, b < i → w b = now (6 + b)) → ∃ w', fX8_takeNear_L2 now m (iI i) w = some w' ∧ ∀ b, b < 6 → w' b = now (6 + b)
  | 0, i, _, _, h, _ => absurd h (Nat.not_lt_zero _)
  | m + 1, i, w, hi, hm, hw => by
    rw [fX8_takeNear_L2]
    by_cases h : 6 ≤ i
    · rw [if_pos (by rw [iI_lit 6, iI_le (by decide) (by decide) (by omega) (by omega)]; show (6 : Int) ≤ i; omega)]
      exact ⟨w, rfl, fun b hb => hw b (by omega)⟩
    · rw [if_neg (by rw [iI_lit 6, iI_le (by decide) (by decide) (by omega) (by omega)]; show ¬ (6 : Int) ≤ i; omega)]
      have e : (6 : Int32) + iI (i : Int) = iI ((6 + i : Nat) : Int) := by rw [iI_lit, iI_add]; congr 1
      rw [e, vg_iI (by omega) (by omega) (by omega), vg_iI (by omega) (by omega) (by omega), iI_clamp (by omega) (by omega), iI_clamp (by omega) (by omega), Int.toNat_natCast, Int.toNat_natCast, iI_s]
      refine takeNear_L m (i + 1) _ (by omega) (by omega) (fun b hb => ?_)
      by_cases hbi : b = i
      · subst hbi
        rw [pk_us]
      · rw [pk_un hbi]
        exact hw b (by omega)
theorem takeNear_iI {N : Nat} (hN : 10 ≤ N) (now near : Nat → Int32) : ∃ w', fX8_takeNear N now near = some w' ∧ ∀ b, b < 6 → w' b = now (6 + b) := takeNear_L N 0 near (by decide) (by omega) (fun b h => absurd h (Nat.not_lt_zero _))
end NEAR
