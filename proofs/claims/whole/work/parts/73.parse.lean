/-! both read the items alike -/
section ITEMS
def FX (b0 : Int32) (x7 x8 w6 w7 w8 : Nat → Int32) : Prop := w6 0 = b0 ∧ ∀ i, i < 6 → w7 i = x7 i ∧ w8 i = x8 i
def DR (b0 : Int32) (x7 x8 : Nat → Int32) (n : Nat) (A B : Nat → Nat) (T : Nat) (o : Int) (a b w6 w7 w8 w9 : Nat → Int32) (w10 w11 : Int32) : Prop := n ≤ 6 ∧ rowsAt n A B a b ∧ T < 32768 ∧ (∀ x y, x < 6 → y < 6 → nbr T x y = true → x < n ∧ y < n) ∧ (o = -9 ∨ (0 ≤ o ∧ o < n)) ∧ FX b0 x7 x8 w6 w7 w8 ∧ w6 1 = iI n ∧ (∀ i, i < n → w7 (6 + i) = iI (A i) ∧ w8 (6 + i) = iI (B i)) ∧ (∀ x, x < 6 → w9 x = iI ((mk6 (nbr T x) : Nat) : Int)) ∧ w10 = iI o ∧ w11 = (if o = -9 then 0 else 1)
def Out (N : Nat) (now isK : Nat → Int32) (L sn : Int32) (b0 : Int32) (x7 x8 : Nat → Int32) (r7 : Option (Int32 × Int32 × Int32 × Int32 × Int32 × (Nat → Int32) × (Nat → Int32) × Int32 × Int32 × Int32)) (r8 : Option (Int32 × (Nat → Int32) × (Nat → Int32) × (Nat → Int32) × (Nat → Int32) × (Nat → Int32) × (Nat → Int32) × Int32 × Int32 × Int32 × Int32 × Int32 × Int32 × Int32 × Int32 × Int32)) : Prop :=
  (∃ (x n : Nat) (A B : Nat → Nat) (T : Nat) (o : Int) (a b w6 w7 w8 w9 : Nat → Int32) (w10 w11 p t bg v y12 y13 y14 y15 : Int32), x ≤ 150 ∧ r7 = some (iI x, p, t, bg, v, a, b, iI n, iI T, iI o) ∧ r8 = fX8_books_J91 N now isK L sn (iI x) w6 w7 w8 w9 w10 w11 y12 y13 y14 y15 (-9) ∧ DR b0 x7 x8 n A B T o a b w6 w7 w8 w9 w10 w11) ∨
  (∃ (s : Nat) (a b w6 w7 w8 w9 : Nat → Int32) (x8' w10 w11 p t v z8 z9 z10 y12 y13 y14 y15 : Int32), s ≤ 150 ∧ r7 = some (iI (-9), p, t, iI s, v, a, b, z8, z9, z10) ∧ r8 = fX8_books_J91 N now isK L sn x8' w6 w7 w8 w9 w10 w11 y12 y13 y14 y15 (iI s) ∧ FX b0 x7 x8 w6 w7 w8)
theorem fault_end {N m s : Nat} {text now isK w6 w7 w8 w9 : Nat → Int32} {L sn x w10 w11 y12 y13 y14 y15 : Int32} (hs : s < 1000) : fX8_books_L21 N text now isK L sn (m + 1) x w6 w7 w8 w9 w10 w11 y12 y13 y14 y15 (iI (s : Int)) = fX8_books_J91 N now isK L sn x w6 w7 w8 w9 w10 w11 y12 y13 y14 y15 (iI (s : Int)) := by
  rw [fX8_books_L21, if_neg (m9_nat hs)]
theorem mayBe_no {k : Nat} {w6 : Nat → Int32} {w11 : Int32} (hk : k < 200) (h1 : k ≠ 98) (h2 : k ≠ 116) (h3 : k ≠ 111) : fX8_mayBe w6 w11 (iI (k : Int)) = 0 := by
  unfold fX8_mayBe
  rw [if_neg (by rw [iI_lit 98, iI_eq (by omega) (by omega) (by decide) (by decide)]; show ¬ (k : Int) = 98; omega), if_neg (by rw [iI_lit 116, iI_eq (by omega) (by omega) (by decide) (by decide)]; show ¬ (k : Int) = 116; omega), if_neg (by rw [iI_lit 111, iI_eq (by omega) (by omega) (by decide) (by decide)]; show ¬ (k : Int) = 111; omega)]
/-- a touch more -/
theorem nbr_or {T a b x y : Nat} (ha : a < 6) (hb : b < 6) (hab : a ≠ b) (hx : x < 6) (hy : y < 6) : nbr (T ||| 2 ^ ti a b) x y = (nbr T x y || (decide ((x = a ∧ y = b) ∨ (x = b ∧ y = a)))) := by
  unfold nbr
  by_cases hxy : x = y
  · subst hxy
    have : ¬ ((x = a ∧ x = b) ∨ (x = b ∧ x = a)) := by omega
    simp [this]
  · have h := ti_inj a ha b hb hab x hx y hy hxy
    rw [Nat.testBit_or, Nat.testBit_two_pow]
    have e : (decide (ti a b = ti x y)) = decide ((x = a ∧ y = b) ∨ (x = b ∧ y = a)) := by
      apply decide_eq_decide.mpr
      rw [← h]
      exact eq_comm
    have hne : (x != y) = true := by simp [hxy]
    rw [e, hne, Bool.true_and, Bool.true_and]
theorem or_lt64 : ∀ R : Nat, R < 64 → ∀ b : Nat, b < 6 → R ||| 2 ^ b < 64 := by decide +kernel
theorem mk6_or {T a b : Nat} (ha : a < 6) (hb : b < 6) (hab : a ≠ b) : mk6 (nbr T a) ||| 2 ^ b = mk6 (nbr (T ||| 2 ^ ti a b) a) := by
  apply mk6_eq
  · exact or_lt64 _ (mk6_lt _) b hb
  · intro o ho
    rw [Nat.testBit_or, mk6_bit _ _ ho, nbr_or ha hb hab ha ho, Nat.testBit_two_pow]
    congr 1
    apply decide_eq_decide.mpr
    omega
theorem mk6_oro {T a b x : Nat} (ha : a < 6) (hb : b < 6) (hab : a ≠ b) (hx : x < 6) (h1 : x ≠ a) (h2 : x ≠ b) : mk6 (nbr (T ||| 2 ^ ti a b) x) = mk6 (nbr T x) := by
  apply mk6_congr
  intro o ho
  rw [nbr_or ha hb hab hx ho]
  have : ¬ ((x = a ∧ o = b) ∨ (x = b ∧ o = a)) := by omega
  simp [this]
theorem DR_book {b0 : Int32} {x7 x8 : Nat → Int32} {n : Nat} {A B : Nat → Nat} {T : Nat} {o : Int} {a b w6 w7 w8 w9 : Nat → Int32} {w10 w11 : Int32} (h : DR b0 x7 x8 n A B T o a b w6 w7 w8 w9 w10 w11) (hn : n < 6) {u v : Nat} (hu : u ≤ 999) (hv : v ≤ 999) : DR b0 x7 x8 (n + 1) (fun j => if j = n then u else A j) (fun j => if j = n then v else B j) T o (upd a n (iI (u : Int))) (upd b n (iI (v : Int))) (upd w6 1 (iI ((n + 1 : Nat) : Int))) (upd w7 (6 + n) (iI (u : Int))) (upd w8 (6 + n) (iI (v : Int))) w9 w10 w11 := by
  obtain ⟨h1, h2, h3, h4, h5, ⟨h6, h6'⟩, h7, h8, h9, h10, h11⟩ := h
  refine ⟨by omega, fun i hi => ?_, h3, fun x y hx hy hq => by have := h4 x y hx hy hq; omega, by omega, ⟨by rw [pk_un (by decide)]; exact h6, fun i hi => ⟨by rw [pk_un (by omega)]; exact (h6' i hi).1, by rw [pk_un (by omega)]; exact (h6' i hi).2⟩⟩, pk_us, fun i hi => ?_, h9, h10, h11⟩
  · by_cases hin : i = n
    · subst hin
      dsimp only
      rw [if_pos rfl, if_pos rfl, pk_us, pk_us]
      exact ⟨hu, hv, rfl, rfl⟩
    · dsimp only
      rw [if_neg hin, if_neg hin, pk_un hin, pk_un hin]
      exact h2 i (by omega)
  · by_cases hin : i = n
    · subst hin
      dsimp only
      rw [if_pos rfl, if_pos rfl, pk_us, pk_us]
      exact ⟨rfl, rfl⟩
    · dsimp only
      rw [if_neg hin, if_neg hin, pk_un (by omega), pk_un (by omega)]
      exact h8 i (by omega)
theorem DR_touch {b0 : Int32} {x7 x8 : Nat → Int32} {n : Nat} {A B : Nat → Nat} {T : Nat} {o : Int} {a b w6 w7 w8 w9 : Nat → Int32} {w10 w11 : Int32} (h : DR b0 x7 x8 n A B T o a b w6 w7 w8 w9 w10 w11) {u v : Nat} (hu : u < n) (hv : v < n) (huv : u ≠ v) : DR b0 x7 x8 n A B (T ||| 2 ^ ti u v) o a b w6 w7 w8 (upd (upd w9 u (w9 u ||| ((1 : Int32) <<< (iI (v : Int) &&& 31)))) v ((upd w9 u (w9 u ||| ((1 : Int32) <<< (iI (v : Int) &&& 31)))) v ||| ((1 : Int32) <<< (iI (u : Int) &&& 31)))) w10 w11 := by
  obtain ⟨h1, h2, h3, h4, h5, h6, h7, h8, h9, h10, h11⟩ := h
  have htl := ti_lt u (by omega) v (by omega) huv
  refine ⟨h1, h2, Nat.or_lt_two_pow (n := 15) h3 (Nat.pow_lt_pow_right (by decide) htl), fun x y hx hy hq => ?_, h5, h6, h7, h8, fun x hx => ?_, h10, h11⟩
  · rw [nbr_or (by omega) (by omega) huv hx hy] at hq
    by_cases hc : (x = u ∧ y = v) ∨ (x = v ∧ y = u)
    · omega
    · rw [decide_eq_false hc, Bool.or_false] at hq
      exact h4 x y hx hy hq
  · have ea := mk6_or (T := T) (a := u) (b := v) (by omega) (by omega) huv
    have eb := mk6_or (T := T) (a := v) (b := u) (by omega) (by omega) (Ne.symm huv)
    rw [ti_comm v u] at eb
    by_cases hxv : x = v
    · subst hxv
      rw [pk_us, pk_un (Ne.symm huv), h9 _ hx, bitor (by omega), eb]
    · rw [pk_un hxv]
      by_cases hxu : x = u
      · subst hxu
        rw [pk_us, h9 _ hx, bitor (by omega), ea]
      · rw [pk_un hxu, h9 x hx, mk6_oro (by omega) (by omega) huv hx hxu hxv]
end ITEMS
