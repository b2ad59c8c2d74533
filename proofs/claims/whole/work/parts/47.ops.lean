/-! the public calls: a book, now, what proofs do not find, marks -/
section OPS7
theorem neigh_L {n T b : Nat} (hn : n ≤ 6) (hT : T < 32768) (hb : b < 6) : ∀ (m i s : Nat), i ≤ n → n - i < m → fX7_neighbours_L4 (iI (n : Int)) (iI (T : Int)) (iI (b : Int)) m (iI (s : Int)) (iI (i : Int)) = some (iI ((msk (nbr T b) s (n - i) i : Nat) : Int))
  | 0, _, _, _, h => absurd h (Nat.not_lt_zero _)
  | m + 1, i, s, hi, hm => by
    rw [fX7_neighbours_L4]
    by_cases h : n ≤ i
    · rw [if_pos (by rw [iI_le (by omega) (by omega) (by omega) (by omega)]; omega)]
      have e : n - i = 0 := by omega
      rw [e]
      rfl
    · rw [if_neg (by rw [iI_le (by omega) (by omega) (by omega) (by omega)]; omega)]
      have e : n - i = (n - (i + 1)) + 1 := by omega
      rw [e, msk, iI_s]
      by_cases hib : i = b
      · subst hib
        rw [if_pos rfl, neigh_L hn hT hb m (i + 1) s (by omega) (by omega), show nbr T i i = false by simp [nbr]]
        rfl
      · rw [if_neg (by rw [iI_eq (by omega) (by omega) (by omega) (by omega)]; omega), touchBit_iI b hb i (by omega) (Ne.symm hib)]
        have hti := ti_lt b hb i (by omega) (Ne.symm hib)
        have hnb : nbr T b i = T.testBit (ti b i) := by simp [nbr, Ne.symm hib]
        rw [hnb]
        by_cases hc : iI (T : Int) &&& iI ((2 ^ ti b i : Nat) : Int) = 0
        · rw [if_pos hc, (and_bit _ _ (by omega)).mp hc, neigh_L hn hT hb m (i + 1) s (by omega) (by omega)]
          rfl
        · have ht : T.testBit (ti b i) = true := by
            cases h2 : T.testBit (ti b i)
            · exact absurd ((and_bit _ _ (by omega)).mpr h2) hc
            · rfl
          rw [if_neg hc, ht, bitor (by omega), neigh_L hn hT hb m (i + 1) _ (by omega) (by omega)]
          rfl
theorem neigh_iI {N n T b : Nat} (hN : 300 ≤ N) (hn : n ≤ 6) (hT : T < 32768) (hb : b < n) (hw : ∀ x y, x < 6 → y < 6 → nbr T x y = true → x < n ∧ y < n) : fX7_neighbours N (iI (n : Int)) (iI (T : Int)) (iI (b : Int)) = some (iI ((mk6 (nbr T b) : Nat) : Int)) := by
  have e0 : (0 : Int32) = iI ((0 : Nat) : Int) := rfl
  unfold fX7_neighbours
  rw [e0, neigh_L hn hT (by omega) N 0 0 (Nat.zero_le _) (by omega), Nat.sub_zero, msk_mk6 hn (fun o ho hq => (hw b o (by omega) ho hq).2)]
theorem one_lo {n : Nat} {S : NS} (hS : wfS n S) (hn : n ≤ 6) : -10 < S.2.2.2.1 ∧ S.2.2.2.1 < 10 := by
  rcases hS.2.2.2.1 with h | ⟨h1, h2⟩ <;> omega
theorem op_book {N : Nat} (hN : 40000 ≤ N) {a_text_bytes : Nat → Int32} {v_text_length : Int32} {a_told_a : Nat → Int32} {a_told_b : Nat → Int32} {v_told_size : Int32} {v_now_forgotten : Int32} {v_now_touches : Int32} {v_now_trapped : Int32} {v_now_one : Int32} {v_now_date : Int32} {a_history_steps : Nat → Int64} {v_history_known : Int32} {a_firstImage_history_steps : Nat → Int64} {v_firstImage_history_known : Int32} {v_firstImage_packed : Int64} {v_firstImage_kept : Int32} {a_secondImage_history_steps : Nat → Int64} {v_secondImage_history_known : Int32} {v_secondImage_packed : Int64} {v_secondImage_kept : Int32} {a_seen_days : Nat → Int32} {a_seen_books : Nat → Int32} {a_seen_there : Nat → Int32} {v_seen_size : Int32} {v_traced : Int64} {ma_text : Nat → Int32} {mv_typed : Int32} {ma_books : Nat → Int32} {ma_numberA : Nat → Int32} {ma_numberB : Nat → Int32} {ma_now : Nat → Int32} {ma_isKept : Nat → Int32} {ma_seenDays : Nat → Int32} {ma_seenBook : Nat → Int32} {ma_seenIs : Nat → Int32} {mv_seen : Int32} {mv_trace : Int64} (hI : Inv a_text_bytes v_text_length a_told_a a_told_b v_told_size v_now_forgotten v_now_touches v_now_trapped v_now_one v_now_date a_history_steps v_history_known a_firstImage_history_steps v_firstImage_history_known v_firstImage_packed v_firstImage_kept a_secondImage_history_steps v_secondImage_history_known v_secondImage_packed v_secondImage_kept a_seen_days a_seen_books a_seen_there v_seen_size v_traced ma_text mv_typed ma_books ma_numberA ma_numberB ma_now ma_isKept ma_seenDays ma_seenBook ma_seenIs mv_seen mv_trace) (p1 : Int32) (p2 : Int32) : ∃ (q : Int32) (r : Int32), fX7_book N a_told_a a_told_b v_told_size v_now_forgotten v_now_touches v_now_trapped v_now_one p1 p2 = some q ∧ fX8_book N ma_books ma_numberA ma_numberB ma_now p1 p2 = some r ∧ q = r ∧ Inv a_text_bytes v_text_length a_told_a a_told_b v_told_size v_now_forgotten v_now_touches v_now_trapped v_now_one v_now_date a_history_steps v_history_known a_firstImage_history_steps v_firstImage_history_known v_firstImage_packed v_firstImage_kept a_secondImage_history_steps v_secondImage_history_known v_secondImage_packed v_secondImage_kept a_seen_days a_seen_books a_seen_there v_seen_size v_traced ma_text mv_typed ma_books ma_numberA ma_numberB ma_now ma_isKept ma_seenDays ma_seenBook ma_seenIs mv_seen mv_trace := by
  have hI0 := hI
  obtain ⟨n, A, B, S, h, k, hT, ⟨hn, rfl, hbk, hab, hab8⟩, hS, ⟨rfl, rfl, rfl, rfl, rfl, hR⟩, hH, hI1, hI2, hW, rfl⟩ := hI
  unfold fX7_book fX8_book
  rw [isBook8 hbk]
  rcases bookC hn p1 with hb | ⟨b, hb2, rfl, hb⟩
  · exact ⟨_, _, if_pos hb, if_pos hb, rfl, hI0⟩
  rw [if_neg hb, if_neg hb]
  obtain ⟨hA, hB, hA1, hB1⟩ := hab b hb2
  obtain ⟨-, -, hA8, hB8⟩ := hab8 b hb2
  have hb6 : b < 6 := by omega
  have ho := one_lo hS hn
  have hf : ma_now b = iI ((fg S.1 b : Nat) : Int) := by rw [hR b (by omega), rowS_lo hb6]
  have h13 : ma_now 13 = iI S.2.2.2.1 := by rw [hR 13 (by decide), rowS_13]
  rw [written_iI hS.1 hb6 hA1 hB1, written8_iI (fg_lt _ _) hb6 hA8 hB8 hf, shown_iI hS.1 hb6 hA1 hB1 ho.1 ho.2, shown8_iI (fg_lt _ _) hb6 hA8 hB8 hf h13 ho.1 ho.2, carries_iI hb6 hA1 hB1 hA hB, carries8_iI (by omega) hb6 hA8 hB8 hA hB, forgottenIn_iI hS.1 hb6, neigh_iI (by omega) hn hS.2.1 hb2 hS.2.2.2.2.2, traps_bit hS.2.2.1 hb6, v0, v6, t12, hR 12 (by decide), rowS_12, trap_bit (by have := hS.2.2.1; omega) (by omega)]
  simp only [vg_iI (show (0 : Int) ≤ (b : Int) by omega) (show (b : Int) < ((6 : Nat) : Int) by omega) (by omega), vg_iI (show (0 : Int) ≤ (b : Int) by omega) (show (b : Int) < ((12 : Nat) : Int) by omega) (by omega), vg_iI (show (0 : Int) ≤ (b : Int) by omega) (show (b : Int) < ((498 : Nat) : Int) by omega) (by omega), vg_iI (show (0 : Int) ≤ ((6 + b : Nat) : Int) by omega) (show ((6 + b : Nat) : Int) < ((498 : Nat) : Int) by omega) (by omega), iI_clamp (show (0 : Int) ≤ (b : Int) by omega) (by omega), iI_clamp (show (0 : Int) ≤ ((6 + b : Nat) : Int) by omega) (by omega), Int.toNat_natCast, Option.bind_some, hA1, hB1, hA8, hB8, hf]
  rw [hR (6 + b) (by omega), rowS_mi hb6]
  have key : ∀ x : Option Int32, x.isSome = true → ∀ y : Option Int32, x = y → ∃ q r : Int32, x = some q ∧ y = some r ∧ q = r := by
    intro x hx y hy
    subst hy
    obtain ⟨q, rfl⟩ := Option.isSome_iff_exists.mp hx
    exact ⟨q, q, rfl, rfl, rfl⟩
  have e7 : (if iI (((S.2.2.1.testBit b).toNat : Nat) : Int) = 0 then some (0 : Int32) else some 1) = some (iI (((S.2.2.1.testBit b).toNat : Nat) : Int)) := by
    cases S.2.2.1.testBit b <;> decide
  rw [e7]
  suffices hs : ∃ q r : Int32, _ = some q ∧ _ = some r ∧ q = r from by
    obtain ⟨q, r, h1, h2, h3⟩ := hs
    exact ⟨q, r, h1, h2, h3, hI0⟩
  apply key
  · by_cases c0 : p2 = 0
    · rw [if_pos c0]; rfl
    rw [if_neg c0]
    by_cases c1 : p2 = 1
    · rw [if_pos c1]; rfl
    rw [if_neg c1]
    by_cases c2 : p2 = 2
    · rw [if_pos c2]; rfl
    rw [if_neg c2]
    by_cases c3 : p2 = 3
    · rw [if_pos c3]; rfl
    rw [if_neg c3]
    by_cases c4 : p2 = 4
    · rw [if_pos c4]; rfl
    rw [if_neg c4]
    by_cases c5 : p2 = 5
    · rw [if_pos c5]; rfl
    rw [if_neg c5]
    by_cases c6 : p2 = 6
    · rw [if_pos c6]; rfl
    rw [if_neg c6]
    by_cases c7 : p2 = 7
    · rw [if_pos c7]; rfl
    rw [if_neg c7]
    rfl
  · rfl
/-! now -/
theorem now_L {N n F : Nat} {A B : Nat → Nat} {o : Int} {a b books nA nB now : Nat → Int32} (p1 : Int32) (hn : n ≤ 6) (hF : F < 4096) (ho : -10 < o) (ho2 : o < 10) (hab : rowsAt n A B a b) (hab8 : rowsAt n A B nA nB) (hbk : books 0 = iI n) (hR : ∀ k, k < n → now k = iI ((fg F k : Nat) : Int)) (h13 : now 13 = iI o) : ∀ (m i : Nat) (x2 x3 x4 x5 : Int32), i ≤ n → n - i < m →
    ∃ c2 c3 c4 c5, fX8_now_L13 N books nA nB now p1 m x2 x3 x4 x5 (iI (i : Int)) = fX8_now_L13 N books nA nB now p1 1 c2 c3 c4 c5 (iI (n : Int)) ∧ fX7_shownTogether_L4 a b (iI (n : Int)) (iI (F : Int)) (iI o) m x2 (iI (i : Int)) = some c2 ∧ fX7_summedTogether_L4 a b (iI (n : Int)) m x3 (iI (i : Int)) = some c3 ∧ fX7_notDividedBy_L4 a b (iI (n : Int)) (iI (F : Int)) (iI o) 9 m x4 (iI (i : Int)) = some c4 ∧ fX7_notDividedBy_L4 a b (iI (n : Int)) (iI (F : Int)) (iI o) 11 m x5 (iI (i : Int)) = some c5
  | 0, _, _, _, _, _, _, h => absurd h (Nat.not_lt_zero _)
  | m + 1, i, x2, x3, x4, x5, hi, hm => by
    by_cases h : n ≤ i
    · have hin : i = n := by omega
      subst hin
      have hle : iI (i : Int) ≤ iI (i : Int) := by rw [iI_le (by omega) (by omega) (by omega) (by omega)]; omega
      refine ⟨x2, x3, x4, x5, ?_, ?_, ?_, ?_, ?_⟩
      · rw [fX8_now_L13, fX8_now_L13, t0, hbk, if_pos hle, if_pos hle]
      · rw [fX7_shownTogether_L4, if_pos hle]
      · rw [fX7_summedTogether_L4, if_pos hle]
      · rw [fX7_notDividedBy_L4, if_pos hle]
      · rw [fX7_notDividedBy_L4, if_pos hle]
    · have hlt : ¬ iI (n : Int) ≤ iI (i : Int) := by rw [iI_le (by omega) (by omega) (by omega) (by omega)]; omega
      obtain ⟨hA, hB, hA1, hB1⟩ := hab i (by omega)
      obtain ⟨-, -, hA8, hB8⟩ := hab8 i (by omega)
      have hi6 : i < 6 := by omega
      rw [fX8_now_L13, fX7_shownTogether_L4, fX7_summedTogether_L4, fX7_notDividedBy_L4, fX7_notDividedBy_L4, t0, hbk, if_neg hlt, if_neg hlt, if_neg hlt, if_neg hlt, if_neg hlt, shown_iI hF hi6 hA1 hB1 ho ho2, shown8_iI (fg_lt _ _) hi6 hA8 hB8 (hR i (by omega)) h13 ho ho2, sum_iI hi6 hA1 hB1, sum8_iI hi6 hA8 hB8]
      simp only [Option.bind_some]
      unfold fX8_now_J75 fX7_divides
      rw [if_neg (show ¬ (9 : Int32) = 0 by decide), if_neg (show ¬ (11 : Int32) = 0 by decide)]
      rw [show (9 : Int32) = iI 9 from rfl, show (11 : Int32) = iI 11 from rfl, vz_iI (by decide) (by decide) (by decide), vz_iI (by decide) (by decide) (by decide), iI_s]
      generalize ((iI (wri (A i) (B i) (fg F i) + if o = (i : Int) then 10 else 0) - iI ((A i : Int) + (B i : Int))) : Int32) = D
      have z0 : (0 : Int32) = 0 ↔ True := by simp
      by_cases h9 : (D - D / iI 9 * iI 9) = 0
      · rw [if_pos h9, if_pos h9, Option.bind_some, if_neg z1]
        by_cases h11 : (D - D / iI 11 * iI 11) = 0
        · rw [if_pos h11, if_pos h11, Option.bind_some, if_neg z1, Int32.or_zero, Int32.or_zero]
          exact now_L p1 hn hF ho ho2 hab hab8 hbk hR h13 m (i + 1) _ _ _ _ (by omega) (by omega)
        · rw [if_neg h11, if_neg h11, Option.bind_some, if_pos rfl, Int32.or_zero]
          exact now_L p1 hn hF ho ho2 hab hab8 hbk hR h13 m (i + 1) _ _ _ _ (by omega) (by omega)
      · rw [if_neg h9, if_neg h9, Option.bind_some, if_pos rfl]
        by_cases h11 : (D - D / iI 11 * iI 11) = 0
        · rw [if_pos h11, if_pos h11, Option.bind_some, if_neg z1, Int32.or_zero]
          exact now_L p1 hn hF ho ho2 hab hab8 hbk hR h13 m (i + 1) _ _ _ _ (by omega) (by omega)
        · rw [if_neg h11, if_neg h11, Option.bind_some, if_pos rfl]
          exact now_L p1 hn hF ho ho2 hab hab8 hbk hR h13 m (i + 1) _ _ _ _ (by omega) (by omega)
theorem op_now {N : Nat} (hN : 40000 ≤ N) {a_text_bytes : Nat → Int32} {v_text_length : Int32} {a_told_a : Nat → Int32} {a_told_b : Nat → Int32} {v_told_size : Int32} {v_now_forgotten : Int32} {v_now_touches : Int32} {v_now_trapped : Int32} {v_now_one : Int32} {v_now_date : Int32} {a_history_steps : Nat → Int64} {v_history_known : Int32} {a_firstImage_history_steps : Nat → Int64} {v_firstImage_history_known : Int32} {v_firstImage_packed : Int64} {v_firstImage_kept : Int32} {a_secondImage_history_steps : Nat → Int64} {v_secondImage_history_known : Int32} {v_secondImage_packed : Int64} {v_secondImage_kept : Int32} {a_seen_days : Nat → Int32} {a_seen_books : Nat → Int32} {a_seen_there : Nat → Int32} {v_seen_size : Int32} {v_traced : Int64} {ma_text : Nat → Int32} {mv_typed : Int32} {ma_books : Nat → Int32} {ma_numberA : Nat → Int32} {ma_numberB : Nat → Int32} {ma_now : Nat → Int32} {ma_isKept : Nat → Int32} {ma_seenDays : Nat → Int32} {ma_seenBook : Nat → Int32} {ma_seenIs : Nat → Int32} {mv_seen : Int32} {mv_trace : Int64} (hI : Inv a_text_bytes v_text_length a_told_a a_told_b v_told_size v_now_forgotten v_now_touches v_now_trapped v_now_one v_now_date a_history_steps v_history_known a_firstImage_history_steps v_firstImage_history_known v_firstImage_packed v_firstImage_kept a_secondImage_history_steps v_secondImage_history_known v_secondImage_packed v_secondImage_kept a_seen_days a_seen_books a_seen_there v_seen_size v_traced ma_text mv_typed ma_books ma_numberA ma_numberB ma_now ma_isKept ma_seenDays ma_seenBook ma_seenIs mv_seen mv_trace) (p1 : Int32) : ∃ (q : Int32) (r : Int32), fX7_now N a_told_a a_told_b v_told_size v_now_forgotten v_now_touches v_now_one v_now_date p1 = some q ∧ fX8_now N ma_books ma_numberA ma_numberB ma_now p1 = some r ∧ q = r ∧ Inv a_text_bytes v_text_length a_told_a a_told_b v_told_size v_now_forgotten v_now_touches v_now_trapped v_now_one v_now_date a_history_steps v_history_known a_firstImage_history_steps v_firstImage_history_known v_firstImage_packed v_firstImage_kept a_secondImage_history_steps v_secondImage_history_known v_secondImage_packed v_secondImage_kept a_seen_days a_seen_books a_seen_there v_seen_size v_traced ma_text mv_typed ma_books ma_numberA ma_numberB ma_now ma_isKept ma_seenDays ma_seenBook ma_seenIs mv_seen mv_trace := by
  have hI0 := hI
  obtain ⟨n, A, B, S, h, k, hT, ⟨hn, rfl, hbk, hab, hab8⟩, hS, ⟨rfl, rfl, rfl, rfl, rfl, hR⟩, hH, hI1, hI2, hW, rfl⟩ := hI
  have ho := one_lo hS hn
  have hf : ∀ k, k < n → ma_now k = iI ((fg S.1 k : Nat) : Int) := fun k hk => by rw [hR k (by omega), rowS_lo (by omega)]
  have h13 : ma_now 13 = iI S.2.2.2.1 := by rw [hR 13 (by decide), rowS_13]
  obtain ⟨e2, e3, e4, e5, w1, w2, w3, w4, w5⟩ := now_L (N := N) p1 hn hS.1 ho.1 ho.2 hab hab8 hbk hf h13 N 0 0 0 0 0 (Nat.zero_le _) (by omega)
  have e0 : (0 : Int32) = iI ((0 : Nat) : Int) := rfl
  rw [← e0] at w1 w2 w3 w4 w5
  unfold fX7_now fX8_now fX7_shownTogether fX7_summedTogether fX7_notDividedBy
  rw [w1, w2, w3, w4, w5, fX8_now_L13, t0, hbk, if_pos (show iI (n : Int) ≤ iI (n : Int) by rw [iI_le (by omega) (by omega) (by omega) (by omega)]; omega), t13, t14, h13, hR 14 (by decide), rowS_14, touches8_iI (N := N) (by omega) hS.2.1 (fun c hc => (hR (6 + c) (by omega)).trans (rowS_mi hc)), bitCount_iI hS.2.1]
  simp only [Option.bind_some]
  by_cases c0 : p1 = 0
  · exact ⟨_, _, if_pos c0, if_pos c0, rfl, hI0⟩
  rw [if_neg c0]
  by_cases c1 : p1 = 1
  · exact ⟨_, _, if_pos c1, if_pos c1, rfl, hI0⟩
  rw [if_neg c1]
  by_cases c2 : p1 = 2
  · exact ⟨_, _, if_pos c2, if_pos c2, rfl, hI0⟩
  rw [if_neg c2]
  by_cases c3 : p1 = 3
  · exact ⟨_, _, if_pos c3, if_pos c3, rfl, hI0⟩
  rw [if_neg c3]
  by_cases c4 : p1 = 4
  · exact ⟨_, _, if_pos c4, if_pos c4, rfl, hI0⟩
  rw [if_neg c4]
  by_cases c5 : p1 = 5
  · exact ⟨_, _, if_pos c5, if_pos c5, rfl, hI0⟩
  rw [if_neg c5]
  by_cases c6 : p1 = 6
  · exact ⟨_, _, if_pos c6, if_pos c6, rfl, hI0⟩
  rw [if_neg c6]
  exact ⟨_, _, rfl, rfl, rfl, hI0⟩
/-! what proofs do not find -/
theorem hid_bind {by' : Int32} (h : by' = 9 ∨ by' = 11) (a m : Int32) (K : Int32 → Option Int32) : (if m = a then K 0 else (fX8_isHidden (m - a) by').bind K) = (fX7_hiddenMisreading a m by').bind K := by
  unfold fX7_hiddenMisreading fX8_isHidden fX7_divides
  by_cases e : m = a
  · rw [if_pos e, if_pos e, Option.bind_some]
  rw [if_neg e, if_neg e]
  have hz : ∀ X : Option Int32, vz by' X = X := by
    intro X
    rcases h with rfl | rfl
    · exact vz_iI (k := 9) (by decide) (by decide) (by decide)
    · exact vz_iI (k := 11) (by decide) (by decide) (by decide)
  have hb0 : ¬ by' = 0 := by
    rcases h with rfl | rfl <;> decide
  rw [if_neg hb0]
  simp only [hz]
  by_cases e2 : (m - a - (m - a) / by' * by') = 0
  · rw [if_pos e2, Option.bind_some, Option.bind_some, if_neg z1, Option.bind_some]
  · rw [if_neg e2, Option.bind_some, Option.bind_some, if_pos rfl, Option.bind_some]
theorem hid_some {by' : Int32} (h : by' = 9 ∨ by' = 11) (a m : Int32) : ∃ r, fX7_hiddenMisreading a m by' = some r := by
  unfold fX7_hiddenMisreading fX7_divides
  by_cases e : m = a
  · exact ⟨_, if_pos e⟩
  have hz : ∀ X : Option Int32, vz by' X = X := by
    intro X
    rcases h with rfl | rfl
    · exact vz_iI (k := 9) (by decide) (by decide) (by decide)
    · exact vz_iI (k := 11) (by decide) (by decide) (by decide)
  have hb0 : ¬ by' = 0 := by
    rcases h with rfl | rfl <;> decide
  rw [if_neg e, if_neg hb0, hz]
  by_cases e2 : (m - a - (m - a) / by' * by') = 0
  · rw [if_pos e2, Option.bind_some, if_neg z1]
    exact ⟨_, rfl⟩
  · rw [if_neg e2, Option.bind_some, if_pos rfl]
    exact ⟨_, rfl⟩
theorem hid_10 {by' : Int32} (h : by' = 9 ∨ by' = 11) : fX8_isHidden 10 by' = some 0 ∧ fX8_isHidden 100 by' = some 0 := by
  rcases h with rfl | rfl <;> decide +kernel
theorem hid_iI {N b : Nat} {A B : Nat → Nat} {a nA nB : Nat → Int32} {by' : Int32} (hN : 300 ≤ N) (h : by' = 9 ∨ by' = 11) (hb : b < 6) (hA : A b ≤ 999) (hB : B b ≤ 999) (ha : a b = iI (A b)) (hA8 : nA b = iI (A b)) (hB8 : nB b = iI (B b)) : ∃ r, fX7_hidden_J22 a (iI (b : Int)) by' = some r ∧ fX8_hidden_J22 N nA nB (iI (b : Int)) by' = some r := by
  obtain ⟨i10, i100⟩ := hid_10 h
  unfold fX7_hidden_J22 fX8_hidden_J22 fX7_hiddenMisreadings fX7_number
  rw [iI_clamp (by omega) (by omega), vg_iI (by omega) (by omega) (by omega), vg_iI (by omega) (by omega) (by omega), Int.toNat_natCast, ha, hA8, figure0_iI (by omega) (by omega) (by omega), figure1_iI (by omega) (by omega) (by omega), figure2_iI (by omega) (by omega) (by omega), i10, carries8_iI (by omega) hb hA8 hB8 hA hB]
  simp only [Option.bind_some]
  have eJ : ∀ X : Int32, (if (iI ((car (A b) (B b) : Nat) : Int) &&& (1 : Int32)) = (1 : Int32) then fX8_hidden_J129 N nA nB (iI (b : Int)) by' (iI ((A b : Int) % 10)) (iI ((A b : Int) / 10 % 10)) X 0 0 else fX8_hidden_J129 N nA nB (iI (b : Int)) by' (iI ((A b : Int) % 10)) (iI ((A b : Int) / 10 % 10)) X 0 0) = fX8_hidden_J129 N nA nB (iI (b : Int)) by' (iI ((A b : Int) % 10)) (iI ((A b : Int) / 10 % 10)) X 0 0 := fun X => ite_self _
  rw [eJ]
  unfold fX8_hidden_J129
  rw [carries8_iI (by omega) hb hA8 hB8 hA hB, i100]
  simp only [Option.bind_some]
  rw [ite_self]
  unfold fX8_hidden_J155 fX8_hidden_J178 fX8_hidden_J201
  rw [iI_clamp (by omega) (by omega), Int.toNat_natCast, hA8]
  have e2 : iI (A b : Int) / (100 : Int32) = iI ((A b : Int) / 100 % 10) := by
    rw [iI_lit 100, iI_div (by omega) (by omega) (by decide) (by decide)]
    congr 1
    show (A b : Int) / 100 = _
    omega
  have e1 : (iI (A b : Int) / (10 : Int32)) - (iI (A b : Int) / (10 : Int32)) / (10 : Int32) * (10 : Int32) = iI ((A b : Int) / 10 % 10) := by
    simp (disch := omega) only [iI_lit, iI_div, iI_mul, iI_sub]
    congr 1
    omega
  have e0 : iI (A b : Int) - iI (A b : Int) / (10 : Int32) * (10 : Int32) = iI ((A b : Int) % 10) := by
    simp (disch := omega) only [iI_lit, iI_div, iI_mul, iI_sub]
    congr 1
    omega
  rw [e2, e1, e0]
  generalize iI ((A b : Int) / 100 % 10) = X2
  generalize iI ((A b : Int) / 10 % 10) = X1
  generalize iI ((A b : Int) % 10) = X0
  generalize iI (A b : Int) = X
  obtain ⟨r1, h1⟩ := hid_some h X ((100 : Int32) * X2 + (10 : Int32) * X0 + X1)
  obtain ⟨r2, h2⟩ := hid_some h X ((100 : Int32) * X1 + (10 : Int32) * X2 + X0)
  obtain ⟨r3, h3⟩ := hid_some h X ((100 : Int32) * X0 + (10 : Int32) * X1 + X2)
  refine ⟨r1 + r2 + r3, ?_, ?_⟩
  · rw [h1, h2, h3]
    rfl
  · have k3 := fun (y1 y2 : Int32) => hid_bind h X ((100 : Int32) * X0 + (10 : Int32) * X1 + X2) (fun q => some ((0 : Int32) + 0 + 0 + y1 + y2 + q))
    simp only [k3, h3, Option.bind_some]
    have k2 := fun (y1 : Int32) => hid_bind h X ((100 : Int32) * X1 + (10 : Int32) * X2 + X0) (fun q => some ((0 : Int32) + 0 + 0 + y1 + q + r3))
    simp only [k2, h2, Option.bind_some]
    have k1 := hid_bind h X ((100 : Int32) * X2 + (10 : Int32) * X0 + X1) (fun q => some ((0 : Int32) + 0 + 0 + q + r2 + r3))
    rw [k1, h1, Option.bind_some, Int32.zero_add, Int32.zero_add, Int32.zero_add]
theorem op_hidden {N : Nat} (hN : 40000 ≤ N) {a_text_bytes : Nat → Int32} {v_text_length : Int32} {a_told_a : Nat → Int32} {a_told_b : Nat → Int32} {v_told_size : Int32} {v_now_forgotten : Int32} {v_now_touches : Int32} {v_now_trapped : Int32} {v_now_one : Int32} {v_now_date : Int32} {a_history_steps : Nat → Int64} {v_history_known : Int32} {a_firstImage_history_steps : Nat → Int64} {v_firstImage_history_known : Int32} {v_firstImage_packed : Int64} {v_firstImage_kept : Int32} {a_secondImage_history_steps : Nat → Int64} {v_secondImage_history_known : Int32} {v_secondImage_packed : Int64} {v_secondImage_kept : Int32} {a_seen_days : Nat → Int32} {a_seen_books : Nat → Int32} {a_seen_there : Nat → Int32} {v_seen_size : Int32} {v_traced : Int64} {ma_text : Nat → Int32} {mv_typed : Int32} {ma_books : Nat → Int32} {ma_numberA : Nat → Int32} {ma_numberB : Nat → Int32} {ma_now : Nat → Int32} {ma_isKept : Nat → Int32} {ma_seenDays : Nat → Int32} {ma_seenBook : Nat → Int32} {ma_seenIs : Nat → Int32} {mv_seen : Int32} {mv_trace : Int64} (hI : Inv a_text_bytes v_text_length a_told_a a_told_b v_told_size v_now_forgotten v_now_touches v_now_trapped v_now_one v_now_date a_history_steps v_history_known a_firstImage_history_steps v_firstImage_history_known v_firstImage_packed v_firstImage_kept a_secondImage_history_steps v_secondImage_history_known v_secondImage_packed v_secondImage_kept a_seen_days a_seen_books a_seen_there v_seen_size v_traced ma_text mv_typed ma_books ma_numberA ma_numberB ma_now ma_isKept ma_seenDays ma_seenBook ma_seenIs mv_seen mv_trace) (p1 : Int32) (p2 : Int32) : ∃ (q : Int32) (r : Int32), fX7_hidden a_told_a v_told_size p1 p2 = some q ∧ fX8_hidden N ma_books ma_numberA ma_numberB p1 p2 = some r ∧ q = r ∧ Inv a_text_bytes v_text_length a_told_a a_told_b v_told_size v_now_forgotten v_now_touches v_now_trapped v_now_one v_now_date a_history_steps v_history_known a_firstImage_history_steps v_firstImage_history_known v_firstImage_packed v_firstImage_kept a_secondImage_history_steps v_secondImage_history_known v_secondImage_packed v_secondImage_kept a_seen_days a_seen_books a_seen_there v_seen_size v_traced ma_text mv_typed ma_books ma_numberA ma_numberB ma_now ma_isKept ma_seenDays ma_seenBook ma_seenIs mv_seen mv_trace := by
  have hI0 := hI
  obtain ⟨n, A, B, S, h, k, hT, ⟨hn, rfl, hbk, hab, hab8⟩, hS, ⟨rfl, rfl, rfl, rfl, rfl, hR⟩, hH, hI1, hI2, hW, rfl⟩ := hI
  unfold fX7_hidden fX8_hidden
  rw [isBook8 hbk]
  rcases bookC hn p1 with hb | ⟨b, hb2, rfl, hb⟩
  · exact ⟨_, _, if_pos hb, if_pos hb, rfl, hI0⟩
  rw [if_neg hb, if_neg hb]
  obtain ⟨hA, hB, hA1, hB1⟩ := hab b hb2
  obtain ⟨-, -, hA8, hB8⟩ := hab8 b hb2
  by_cases h9 : p2 = 9
  · obtain ⟨r, r1, r2⟩ := hid_iI (N := N) (by omega) (Or.inl h9) (by omega) hA hB hA1 hA8 hB8
    exact ⟨r, r, (if_pos h9).trans r1, (if_pos h9).trans r2, rfl, hI0⟩
  rw [if_neg h9, if_neg h9]
  by_cases h11 : p2 = 11
  · obtain ⟨r, r1, r2⟩ := hid_iI (N := N) (by omega) (Or.inr h11) (by omega) hA hB hA1 hA8 hB8
    exact ⟨r, r, (if_pos h11).trans r1, (if_pos h11).trans r2, rfl, hI0⟩
  rw [if_neg h11, if_neg h11]
  exact ⟨_, _, rfl, rfl, rfl, hI0⟩
/-! marks -/
theorem lc11 (t : Int64) : t + lc_10 + 1 = t + lc_11 := by rw [Int64.add_assoc]; rfl
theorem lc101 (t : Int64) : t + lc_100 + 1 = t + lc_101 := by rw [Int64.add_assoc]; rfl
theorem lc1011 (t : Int64) : t + lc_1000 + lc_11 = t + lc_1011 := by rw [Int64.add_assoc]; rfl
theorem lc10101 (t : Int64) : t + lc_10000 + lc_101 = t + lc_10101 := by rw [Int64.add_assoc]; rfl
theorem lc100001 (t : Int64) : t + lc_100000 + 1 = t + lc_100001 := by rw [Int64.add_assoc]; rfl
theorem op_mark {N : Nat} (hN : 40000 ≤ N) {a_text_bytes : Nat → Int32} {v_text_length : Int32} {a_told_a : Nat → Int32} {a_told_b : Nat → Int32} {v_told_size : Int32} {v_now_forgotten : Int32} {v_now_touches : Int32} {v_now_trapped : Int32} {v_now_one : Int32} {v_now_date : Int32} {a_history_steps : Nat → Int64} {v_history_known : Int32} {a_firstImage_history_steps : Nat → Int64} {v_firstImage_history_known : Int32} {v_firstImage_packed : Int64} {v_firstImage_kept : Int32} {a_secondImage_history_steps : Nat → Int64} {v_secondImage_history_known : Int32} {v_secondImage_packed : Int64} {v_secondImage_kept : Int32} {a_seen_days : Nat → Int32} {a_seen_books : Nat → Int32} {a_seen_there : Nat → Int32} {v_seen_size : Int32} {v_traced : Int64} {ma_text : Nat → Int32} {mv_typed : Int32} {ma_books : Nat → Int32} {ma_numberA : Nat → Int32} {ma_numberB : Nat → Int32} {ma_now : Nat → Int32} {ma_isKept : Nat → Int32} {ma_seenDays : Nat → Int32} {ma_seenBook : Nat → Int32} {ma_seenIs : Nat → Int32} {mv_seen : Int32} {mv_trace : Int64} (hI : Inv a_text_bytes v_text_length a_told_a a_told_b v_told_size v_now_forgotten v_now_touches v_now_trapped v_now_one v_now_date a_history_steps v_history_known a_firstImage_history_steps v_firstImage_history_known v_firstImage_packed v_firstImage_kept a_secondImage_history_steps v_secondImage_history_known v_secondImage_packed v_secondImage_kept a_seen_days a_seen_books a_seen_there v_seen_size v_traced ma_text mv_typed ma_books ma_numberA ma_numberB ma_now ma_isKept ma_seenDays ma_seenBook ma_seenIs mv_seen mv_trace) (p1 : Int32) (p2 : Int32) : ∃ (q : (Int32 × Int64)) (r : (Int32 × Int64)), fX7_mark N a_told_a a_told_b v_told_size v_now_forgotten v_now_touches v_now_one v_now_date v_traced p1 p2 = some q ∧ fX8_mark N ma_books ma_numberA ma_numberB ma_now mv_trace p1 p2 = some r ∧ q.1 = r.1 ∧ Inv a_text_bytes v_text_length a_told_a a_told_b v_told_size v_now_forgotten v_now_touches v_now_trapped v_now_one v_now_date a_history_steps v_history_known a_firstImage_history_steps v_firstImage_history_known v_firstImage_packed v_firstImage_kept a_secondImage_history_steps v_secondImage_history_known v_secondImage_packed v_secondImage_kept a_seen_days a_seen_books a_seen_there v_seen_size q.2 ma_text mv_typed ma_books ma_numberA ma_numberB ma_now ma_isKept ma_seenDays ma_seenBook ma_seenIs mv_seen r.2 := by
  have hI0 := hI
  obtain ⟨n, A, B, S, h, k, hT, ⟨hn, rfl, hbk, hab, hab8⟩, hS, ⟨rfl, rfl, rfl, rfl, rfl, hR⟩, hH, hI1, hI2, hW, rfl⟩ := hI
  unfold fX7_mark fX8_mark
  rw [isBook8 hbk, in_within]
  rcases bookC hn p2 with hb | ⟨b, hb2, rfl, hb⟩
  · refine ⟨_, _, if_pos hb, ?_, rfl, hI0⟩
    by_cases hk : fX7_within p1 0 5 = 0
    · exact if_pos hk
    · exact (if_neg hk).trans (if_pos hb)
  rw [if_neg hb, if_neg hb]
  obtain ⟨hA, hB, hA1, hB1⟩ := hab b hb2
  obtain ⟨-, -, hA8, hB8⟩ := hab8 b hb2
  have hb6 : b < 6 := by omega
  have ho := one_lo hS hn
  have hf : ma_now b = iI ((fg S.1 b : Nat) : Int) := by rw [hR b (by omega), rowS_lo hb6]
  have h13 : ma_now 13 = iI S.2.2.2.1 := by rw [hR 13 (by decide), rowS_13]
  have hlo := wri_lo (x := A b) (y := B b) (fg_lt S.1 b)
  have hhi := wri_hi (f := fg S.1 b) hA hB
  have hml := mk6_lt (nbr S.2.1 b)
  unfold fX7_markOfLedger fX7_markOfShop fX7_markOfRates fX7_markOfTrain fX7_markOfChoir fX7_markOfBook vlet
  rw [shown_iI hS.1 hb6 hA1 hB1 ho.1 ho.2, shown8_iI (fg_lt _ _) hb6 hA8 hB8 hf h13 ho.1 ho.2, sum_iI hb6 hA1 hB1, sum8_iI hb6 hA8 hB8, neigh_iI (by omega) hn hS.2.1 hb2 hS.2.2.2.2.2, v6, t14, hR 14 (by decide), rowS_14]
  simp only [Option.bind_some, vg_iI (show (0 : Int) ≤ ((6 + b : Nat) : Int) by omega) (show ((6 + b : Nat) : Int) < ((498 : Nat) : Int) by omega) (by omega), iI_clamp (show (0 : Int) ≤ ((6 + b : Nat) : Int) by omega) (by omega), Int.toNat_natCast]
  rw [hR (6 + b) (by omega), rowS_mi hb6, manyOf_iI (by omega) (by omega)]
  rw [tensOf_iI (by split <;> omega) (by split <;> omega), tens8_iI (by omega) (by split <;> omega) (by split <;> omega), bitCount_iI (by omega)]
  simp only [Option.bind_some, lc11, lc101, lc1011, lc10101, lc100001]
  generalize (wri (A b) (B b) (fg S.1 b) + if S.2.2.2.1 = (b : Int) then (10 : Int) else 0) = V
  have fin : ∀ (x : Int32) (y : Int64), Inv a_text_bytes v_text_length a_told_a a_told_b (iI n) (iI S.1) (iI S.2.1) (iI S.2.2.1) (iI S.2.2.2.1) (iI S.2.2.2.2) a_history_steps v_history_known a_firstImage_history_steps v_firstImage_history_known v_firstImage_packed v_firstImage_kept a_secondImage_history_steps v_secondImage_history_known v_secondImage_packed v_secondImage_kept a_seen_days a_seen_books a_seen_there v_seen_size (x, y).2 ma_text mv_typed ma_books ma_numberA ma_numberB ma_now ma_isKept ma_seenDays ma_seenBook ma_seenIs mv_seen (x, y).2 := fun x y => ⟨n, A, B, S, h, k, hT, ⟨hn, rfl, hbk, hab, hab8⟩, hS, ⟨rfl, rfl, rfl, rfl, rfl, hR⟩, hH, hI1, hI2, hW, rfl⟩
  rcases win p1 0 5 0 5 rfl rfl (by decide) (by decide) with hz | ⟨kd, -, hk, rfl, hz⟩
  · have hne : ∀ q : Nat, q ≤ 5 → ¬ p1 = iI (q : Int) := by
      intro q hq hp
      subst hp
      have e0 : (0 : Int32) = iI 0 := rfl
      have e5 : (5 : Int32) = iI 5 := rfl
      rw [e0, e5] at hz
      have := (within_0 (by omega) (by omega) (by decide) (by decide) (by decide) (by decide)).mp hz
      omega
    rw [if_pos hz, if_neg (show ¬ p1 = 0 from hne 0 (by decide)), if_neg (show ¬ p1 = 1 from hne 1 (by decide)), if_neg (show ¬ p1 = 2 from hne 2 (by decide)), if_neg (show ¬ p1 = 3 from hne 3 (by decide)), if_neg (show ¬ p1 = 4 from hne 4 (by decide)), if_neg (show ¬ p1 = 5 from hne 5 (by decide))]
    exact ⟨_, _, rfl, rfl, rfl, hI0⟩
  rw [if_neg hz]
  have hq : ∀ a b : Nat, a ≤ 5 → b ≤ 5 → a ≠ b → ¬ iI (a : Int) = iI (b : Int) := by
    intro a b h1 h2 h3
    rw [iI_eq (by omega) (by omega) (by omega) (by omega)]
    omega
  have hc : kd = 0 ∨ kd = 1 ∨ kd = 2 ∨ kd = 3 ∨ kd = 4 ∨ kd = 5 := by omega
  have n10 : ¬ iI ((1 : Nat) : Int) = (0 : Int32) := by decide
  rcases hc with rfl | rfl | rfl | rfl | rfl | rfl
  · rw [if_pos (by decide), if_pos (by decide)]
    exact ⟨_, _, rfl, rfl, rfl, fin _ _⟩
  · rw [if_neg (by decide), if_pos (by decide), if_neg (by decide), if_pos (by decide)]
    exact ⟨_, _, rfl, rfl, rfl, fin _ _⟩
  · rw [if_neg (by decide), if_neg (by decide), if_pos (by decide), if_neg (by decide), if_neg (by decide), if_pos (by decide)]
    exact ⟨_, _, rfl, rfl, rfl, fin _ _⟩
  · rw [if_neg (by decide), if_neg (by decide), if_neg (by decide), if_pos (by decide), if_neg (by decide), if_neg (by decide), if_neg (by decide), if_pos (by decide)]
    exact ⟨_, _, rfl, rfl, Int32.mul_comm _ _, fin _ _⟩
  · rw [if_neg (by decide), if_neg (by decide), if_neg (by decide), if_neg (by decide), if_pos (by decide), if_neg (by decide), if_neg (by decide), if_neg (by decide), if_neg (by decide), if_pos (by decide)]
    exact ⟨_, _, rfl, rfl, rfl, fin _ _⟩
  · rw [if_neg (by decide), if_neg (by decide), if_neg (by decide), if_neg (by decide), if_neg (by decide), if_pos (by decide), if_neg (by decide), if_neg (by decide), if_neg (by decide), if_neg (by decide), if_neg (by decide)]
    exact ⟨_, _, rfl, rfl, rfl, fin _ _⟩
end OPS7
