/-! the public calls: carries forgotten, sums righted, books laid together -/
section OPS6
theorem v0 (k : Nat) : (0 : Int32) + iI (k : Int) = iI (k : Int) := by
  rw [iI_lit 0, iI_add]
  congr 1
  exact Int.zero_add _
theorem v6 (k : Nat) : (6 : Int32) + iI (k : Int) = iI ((6 + k : Nat) : Int) := by
  rw [iI_lit 6, iI_add] <;> congr 1
theorem op_forgets {N : Nat} (hN : 40000 ≤ N) {a_text_bytes : Nat → Int32} {v_text_length : Int32} {a_told_a : Nat → Int32} {a_told_b : Nat → Int32} {v_told_size : Int32} {v_now_forgotten : Int32} {v_now_touches : Int32} {v_now_trapped : Int32} {v_now_one : Int32} {v_now_date : Int32} {a_history_steps : Nat → Int64} {v_history_known : Int32} {a_firstImage_history_steps : Nat → Int64} {v_firstImage_history_known : Int32} {v_firstImage_packed : Int64} {v_firstImage_kept : Int32} {a_secondImage_history_steps : Nat → Int64} {v_secondImage_history_known : Int32} {v_secondImage_packed : Int64} {v_secondImage_kept : Int32} {a_seen_days : Nat → Int32} {a_seen_books : Nat → Int32} {a_seen_there : Nat → Int32} {v_seen_size : Int32} {v_traced : Int64} {ma_text : Nat → Int32} {mv_typed : Int32} {ma_books : Nat → Int32} {ma_numberA : Nat → Int32} {ma_numberB : Nat → Int32} {ma_now : Nat → Int32} {ma_isKept : Nat → Int32} {ma_seenDays : Nat → Int32} {ma_seenBook : Nat → Int32} {ma_seenIs : Nat → Int32} {mv_seen : Int32} {mv_trace : Int64} (hI : Inv a_text_bytes v_text_length a_told_a a_told_b v_told_size v_now_forgotten v_now_touches v_now_trapped v_now_one v_now_date a_history_steps v_history_known a_firstImage_history_steps v_firstImage_history_known v_firstImage_packed v_firstImage_kept a_secondImage_history_steps v_secondImage_history_known v_secondImage_packed v_secondImage_kept a_seen_days a_seen_books a_seen_there v_seen_size v_traced ma_text mv_typed ma_books ma_numberA ma_numberB ma_now ma_isKept ma_seenDays ma_seenBook ma_seenIs mv_seen mv_trace) (p1 : Int32) (p2 : Int32) : ∃ (q : (Int32 × Int32 × (Nat → Int64) × Int32)) (r : (Int32 × (Nat → Int32))), fX7_forgets a_told_a a_told_b v_told_size v_now_forgotten v_now_touches v_now_trapped v_now_one v_now_date a_history_steps v_history_known p1 p2 = some q ∧ fX8_forgets N ma_books ma_numberA ma_numberB ma_now p1 p2 = some r ∧ q.1 = r.1 ∧ Inv a_text_bytes v_text_length a_told_a a_told_b v_told_size q.2.1 v_now_touches v_now_trapped v_now_one v_now_date q.2.2.1 q.2.2.2 a_firstImage_history_steps v_firstImage_history_known v_firstImage_packed v_firstImage_kept a_secondImage_history_steps v_secondImage_history_known v_secondImage_packed v_secondImage_kept a_seen_days a_seen_books a_seen_there v_seen_size v_traced ma_text mv_typed ma_books ma_numberA ma_numberB r.2 ma_isKept ma_seenDays ma_seenBook ma_seenIs mv_seen mv_trace := by
  have hI0 := hI
  obtain ⟨n, A, B, S, h, k, hT, ⟨hn, rfl, hbk, hab, hab8⟩, hS, ⟨rfl, rfl, rfl, rfl, rfl, hR⟩, hH, hI1, hI2, hW, rfl⟩ := hI
  unfold fX7_forgets fX8_forgets
  rw [isBook8 hbk, in_within]
  rcases bookC hn p1 with hb | ⟨b, hb2, rfl, hb⟩
  · exact ⟨_, _, if_pos hb, if_pos hb, rfl, hI0⟩
  rw [if_neg hb, if_neg hb]
  rcases win p2 0 1 0 1 rfl rfl (by decide) (by decide) with hz | ⟨p, -, hp, rfl, hz⟩
  · exact ⟨_, _, if_pos hz, if_pos hz, rfl, hI0⟩
  rw [if_neg hz, if_neg hz]
  obtain ⟨hA, hB, hA1, hB1⟩ := hab b hb2
  obtain ⟨-, -, hA8, hB8⟩ := hab8 b hb2
  have hb6 : b < 6 := by omega
  have hF := hS.1
  rw [carries_iI hb6 hA1 hB1 hA hB, carries8_iI (by omega) hb6 hA8 hB8 hA hB, Option.bind_some, Option.bind_some, forgottenIn_iI hF hb6, v0]
  simp only [vg_iI (show (0 : Int) ≤ (b : Int) by omega) (show (b : Int) < ((498 : Nat) : Int) by omega) (by omega), iI_clamp (show (0 : Int) ≤ (b : Int) by omega) (by omega), Int.toNat_natCast]
  rw [hR b (by omega), rowS_lo hb6]
  have hd := forg_dec (car (A b) (B b)) (car_lt _ _) (fg S.1 b) (fg_lt _ _) p (by omega)
  by_cases h1 : ((iI ((car (A b) (B b) : Nat) : Int) &&& (iI ((fg S.1 b : Nat) : Int) ^^^ (-1 : Int32))) &&& ((1 : Int32) <<< (iI (p : Int) &&& 31))) = 0
  · rcases hd.mp h1 with h2 | h2
    · exact ⟨_, _, if_pos h1, if_pos h2, rfl, hI0⟩
    · by_cases h3 : ((iI ((car (A b) (B b) : Nat) : Int) >>> (iI (p : Int) &&& 31)) &&& (1 : Int32)) = 0
      · exact ⟨_, _, if_pos h1, if_pos h3, rfl, hI0⟩
      · exact ⟨_, _, if_pos h1, (if_neg h3).trans (if_pos h2), rfl, hI0⟩
  · have h2 : ¬ ((iI ((car (A b) (B b) : Nat) : Int) >>> (iI (p : Int) &&& 31)) &&& (1 : Int32)) = 0 := fun q => h1 (hd.mpr (Or.inl q))
    have h3 : ¬ ((iI ((fg S.1 b : Nat) : Int) >>> (iI (p : Int) &&& 31)) &&& (1 : Int32)) = 1 := fun q => h1 (hd.mpr (Or.inr q))
    rw [if_neg h1, if_neg h2, if_neg h3]
    obtain ⟨steps', now', q1, q2, q3, q4, q5⟩ := know_iI (N := N) (by omega) hS hR hH
    have hR' : ∀ j, j < 15 → now' j = rowS S j := fun j hj => (q3 j hj).trans (hR j hj)
    rw [q1, q2, Option.bind_some, Option.bind_some, hR' b (by omega), rowS_lo hb6, shl1 (by omega), iI_or]
    have e2b : (2 : Int32) * iI (b : Int) = iI ((2 * b : Nat) : Int) := by
      rw [iI_lit 2, iI_mul]
      congr 1
    rw [e2b, iI_shl _ (by omega), iI_or]
    have hF' : S.1 ||| 2 ^ p * 2 ^ (2 * b) < 4096 := Nat.or_lt_two_pow (n := 12) hF (one_lt b hb6 p (by omega))
    have hfg : ∀ j, j < 6 → fg (S.1 ||| 2 ^ p * 2 ^ (2 * b)) j = if j = b then fg S.1 b ||| 2 ^ p else fg S.1 j := by
      intro j hj
      rw [fg_or, fg_one b hb6 p (by omega) j hj]
      by_cases hjb : j = b
      · subst hjb
        rw [if_pos rfl, if_pos rfl]
      · rw [if_neg hjb, if_neg hjb, Nat.or_zero]
    have hv : fg S.1 b ||| 2 ^ p < 4 := by
      have := fg_lt (S.1 ||| 2 ^ p * 2 ^ (2 * b)) b
      rw [hfg b hb6, if_pos rfl] at this
      exact this
    rw [written_iI hF' hb6 hA1 hB1, written8_iI hv hb6 hA8 hB8 pk_us, hfg b hb6, if_pos rfl, Option.bind_some, Option.bind_some]
    refine ⟨_, _, rfl, rfl, rfl, n, A, B, (_, S.2), _, _, hT, ⟨hn, rfl, hbk, hab, hab8⟩, ⟨hF', hS.2⟩, ⟨rfl, rfl, rfl, rfl, rfl, row_F hR' hb6 hfg⟩, q5.kept (fun j a b => pk_un (by omega)), hI1.kept (fun j a b => (pk_un (by omega)).trans (q4 j (by omega))), hI2.kept (fun j a b => (pk_un (by omega)).trans (q4 j (by omega))), hW, rfl⟩
theorem op_rights {N : Nat} (hN : 40000 ≤ N) {a_text_bytes : Nat → Int32} {v_text_length : Int32} {a_told_a : Nat → Int32} {a_told_b : Nat → Int32} {v_told_size : Int32} {v_now_forgotten : Int32} {v_now_touches : Int32} {v_now_trapped : Int32} {v_now_one : Int32} {v_now_date : Int32} {a_history_steps : Nat → Int64} {v_history_known : Int32} {a_firstImage_history_steps : Nat → Int64} {v_firstImage_history_known : Int32} {v_firstImage_packed : Int64} {v_firstImage_kept : Int32} {a_secondImage_history_steps : Nat → Int64} {v_secondImage_history_known : Int32} {v_secondImage_packed : Int64} {v_secondImage_kept : Int32} {a_seen_days : Nat → Int32} {a_seen_books : Nat → Int32} {a_seen_there : Nat → Int32} {v_seen_size : Int32} {v_traced : Int64} {ma_text : Nat → Int32} {mv_typed : Int32} {ma_books : Nat → Int32} {ma_numberA : Nat → Int32} {ma_numberB : Nat → Int32} {ma_now : Nat → Int32} {ma_isKept : Nat → Int32} {ma_seenDays : Nat → Int32} {ma_seenBook : Nat → Int32} {ma_seenIs : Nat → Int32} {mv_seen : Int32} {mv_trace : Int64} (hI : Inv a_text_bytes v_text_length a_told_a a_told_b v_told_size v_now_forgotten v_now_touches v_now_trapped v_now_one v_now_date a_history_steps v_history_known a_firstImage_history_steps v_firstImage_history_known v_firstImage_packed v_firstImage_kept a_secondImage_history_steps v_secondImage_history_known v_secondImage_packed v_secondImage_kept a_seen_days a_seen_books a_seen_there v_seen_size v_traced ma_text mv_typed ma_books ma_numberA ma_numberB ma_now ma_isKept ma_seenDays ma_seenBook ma_seenIs mv_seen mv_trace) (p1 : Int32) : ∃ (q : (Int32 × Int32 × (Nat → Int64) × Int32)) (r : (Int32 × (Nat → Int32))), fX7_rights v_told_size v_now_forgotten v_now_touches v_now_trapped v_now_one v_now_date a_history_steps v_history_known p1 = some q ∧ fX8_rights N ma_books ma_now p1 = some r ∧ q.1 = r.1 ∧ Inv a_text_bytes v_text_length a_told_a a_told_b v_told_size q.2.1 v_now_touches v_now_trapped v_now_one v_now_date q.2.2.1 q.2.2.2 a_firstImage_history_steps v_firstImage_history_known v_firstImage_packed v_firstImage_kept a_secondImage_history_steps v_secondImage_history_known v_secondImage_packed v_secondImage_kept a_seen_days a_seen_books a_seen_there v_seen_size v_traced ma_text mv_typed ma_books ma_numberA ma_numberB r.2 ma_isKept ma_seenDays ma_seenBook ma_seenIs mv_seen mv_trace := by
  have hI0 := hI
  obtain ⟨n, A, B, S, h, k, hT, ⟨hn, rfl, hbk, hab, hab8⟩, hS, ⟨rfl, rfl, rfl, rfl, rfl, hR⟩, hH, hI1, hI2, hW, rfl⟩ := hI
  unfold fX7_rights fX8_rights
  rw [isBook8 hbk]
  rcases bookC hn p1 with hb | ⟨b, hb2, rfl, hb⟩
  · exact ⟨_, _, if_pos hb, if_pos hb, rfl, hI0⟩
  rw [if_neg hb, if_neg hb]
  have hb6 : b < 6 := by omega
  have hF := hS.1
  have hl := fg_lt S.1 b
  rw [forgottenIn_iI hF hb6, v0]
  simp only [vg_iI (show (0 : Int) ≤ (b : Int) by omega) (show (b : Int) < ((498 : Nat) : Int) by omega) (by omega), iI_clamp (show (0 : Int) ≤ (b : Int) by omega) (by omega), Int.toNat_natCast]
  rw [hR b (by omega), rowS_lo hb6, manyOf_iI (by omega) (by omega), Option.bind_some]
  by_cases h1 : iI ((fg S.1 b : Nat) : Int) = 0
  · exact ⟨_, _, if_pos h1, if_pos ((pops_f _ hl).mpr h1), rfl, hI0⟩
  rw [if_neg h1, if_neg (fun q => h1 ((pops_f _ hl).mp q)), bitCount_iI (by omega)]
  obtain ⟨steps', now', q1, q2, q3, q4, q5⟩ := know_iI (N := N) (by omega) hS hR hH
  have hR' : ∀ j, j < 15 → now' j = rowS S j := fun j hj => (q3 j hj).trans (hR j hj)
  have e2b : (2 : Int32) * iI (b : Int) = iI ((2 * b : Nat) : Int) := by
    rw [iI_lit 2, iI_mul]
    congr 1
  have e3 : (3 : Int32) = iI ((3 : Nat) : Int) := rfl
  have e0 : (0 : Int32) = iI ((0 : Nat) : Int) := rfl
  rw [q1, q2, Option.bind_some, Option.bind_some, e2b, e3, iI_shl _ (by omega), m1_iI, iI_xor, iI_and, e0]
  have hF' : S.1 &&& (3 * 2 ^ (2 * b) ^^^ 4294967295) < 4096 := Nat.lt_of_le_of_lt Nat.and_le_left hF
  have hfg : ∀ j, j < 6 → fg (S.1 &&& (3 * 2 ^ (2 * b) ^^^ 4294967295)) j = if j = b then 0 else fg S.1 j := by
    intro j hj
    rw [fg_and, fg_not b hb6 j hj]
    by_cases hjb : j = b
    · subst hjb
      rw [if_pos rfl, if_pos rfl, Nat.and_zero]
    · rw [if_neg hjb, if_neg hjb, and3 _ (fg_lt _ _)]
  refine ⟨_, _, rfl, rfl, rfl, n, A, B, (_, S.2), _, _, hT, ⟨hn, rfl, hbk, hab, hab8⟩, ⟨hF', hS.2⟩, ⟨rfl, rfl, rfl, rfl, rfl, row_F hR' hb6 hfg⟩, q5.kept (fun j a b => pk_un (by omega)), hI1.kept (fun j a b => (pk_un (by omega)).trans (q4 j (by omega))), hI2.kept (fun j a b => (pk_un (by omega)).trans (q4 j (by omega))), hW, rfl⟩
theorem op_lays {N : Nat} (hN : 40000 ≤ N) {a_text_bytes : Nat → Int32} {v_text_length : Int32} {a_told_a : Nat → Int32} {a_told_b : Nat → Int32} {v_told_size : Int32} {v_now_forgotten : Int32} {v_now_touches : Int32} {v_now_trapped : Int32} {v_now_one : Int32} {v_now_date : Int32} {a_history_steps : Nat → Int64} {v_history_known : Int32} {a_firstImage_history_steps : Nat → Int64} {v_firstImage_history_known : Int32} {v_firstImage_packed : Int64} {v_firstImage_kept : Int32} {a_secondImage_history_steps : Nat → Int64} {v_secondImage_history_known : Int32} {v_secondImage_packed : Int64} {v_secondImage_kept : Int32} {a_seen_days : Nat → Int32} {a_seen_books : Nat → Int32} {a_seen_there : Nat → Int32} {v_seen_size : Int32} {v_traced : Int64} {ma_text : Nat → Int32} {mv_typed : Int32} {ma_books : Nat → Int32} {ma_numberA : Nat → Int32} {ma_numberB : Nat → Int32} {ma_now : Nat → Int32} {ma_isKept : Nat → Int32} {ma_seenDays : Nat → Int32} {ma_seenBook : Nat → Int32} {ma_seenIs : Nat → Int32} {mv_seen : Int32} {mv_trace : Int64} (hI : Inv a_text_bytes v_text_length a_told_a a_told_b v_told_size v_now_forgotten v_now_touches v_now_trapped v_now_one v_now_date a_history_steps v_history_known a_firstImage_history_steps v_firstImage_history_known v_firstImage_packed v_firstImage_kept a_secondImage_history_steps v_secondImage_history_known v_secondImage_packed v_secondImage_kept a_seen_days a_seen_books a_seen_there v_seen_size v_traced ma_text mv_typed ma_books ma_numberA ma_numberB ma_now ma_isKept ma_seenDays ma_seenBook ma_seenIs mv_seen mv_trace) (p1 : Int32) (p2 : Int32) (p3 : Int32) : ∃ (q : (Int32 × Int32 × (Nat → Int64) × Int32)) (r : (Int32 × (Nat → Int32))), fX7_lays v_told_size v_now_forgotten v_now_touches v_now_trapped v_now_one v_now_date a_history_steps v_history_known p1 p2 p3 = some q ∧ fX8_lays N ma_books ma_now p1 p2 p3 = some r ∧ q.1 = r.1 ∧ Inv a_text_bytes v_text_length a_told_a a_told_b v_told_size v_now_forgotten q.2.1 v_now_trapped v_now_one v_now_date q.2.2.1 q.2.2.2 a_firstImage_history_steps v_firstImage_history_known v_firstImage_packed v_firstImage_kept a_secondImage_history_steps v_secondImage_history_known v_secondImage_packed v_secondImage_kept a_seen_days a_seen_books a_seen_there v_seen_size v_traced ma_text mv_typed ma_books ma_numberA ma_numberB r.2 ma_isKept ma_seenDays ma_seenBook ma_seenIs mv_seen mv_trace := by
  have hI0 := hI
  obtain ⟨n, A, B, S, h, k, hT, ⟨hn, rfl, hbk, hab, hab8⟩, hS, ⟨rfl, rfl, rfl, rfl, rfl, hR⟩, hH, hI1, hI2, hW, rfl⟩ := hI
  unfold fX7_lays fX8_lays
  rw [isBook8 hbk, isBook8 hbk, in_within]
  rcases bookC hn p1 with hb | ⟨a, ha2, rfl, ha⟩
  · exact ⟨_, _, if_pos hb, if_pos hb, rfl, hI0⟩
  rw [if_neg ha, if_neg ha]
  rcases bookC hn p2 with hb | ⟨b, hb2, rfl, hb⟩
  · exact ⟨_, _, if_pos hb, if_pos hb, rfl, hI0⟩
  rw [if_neg hb, if_neg hb]
  by_cases hab1 : iI (a : Int) = iI (b : Int)
  · exact ⟨_, _, if_pos hab1, if_pos hab1, rfl, hI0⟩
  rw [if_neg hab1, if_neg hab1]
  have hne : a ≠ b := fun q => hab1 (by rw [q])
  rcases win p3 0 1 0 1 rfl rfl (by decide) (by decide) with hz | ⟨p, -, hp, rfl, hz⟩
  · exact ⟨_, _, if_pos hz, if_pos hz, rfl, hI0⟩
  rw [if_neg hz, if_neg hz]
  have ha6 : a < 6 := by omega
  have hb6 : b < 6 := by omega
  have hTT := hS.2.1
  have htl := ti_lt a ha6 b hb6 hne
  have hma := mk6_lt (nbr S.2.1 a)
  have hmb := mk6_lt (nbr S.2.1 b)
  rw [touchBit_iI a ha6 b hb6 hne, v6, v6]
  simp only [vg_iI (show (0 : Int) ≤ ((6 + a : Nat) : Int) by omega) (show ((6 + a : Nat) : Int) < ((498 : Nat) : Int) by omega) (by omega), vg_iI (show (0 : Int) ≤ ((6 + b : Nat) : Int) by omega) (show ((6 + b : Nat) : Int) < ((498 : Nat) : Int) by omega) (by omega), iI_clamp (show (0 : Int) ≤ ((6 + a : Nat) : Int) by omega) (by omega), iI_clamp (show (0 : Int) ≤ ((6 + b : Nat) : Int) by omega) (by omega), Int.toNat_natCast]
  rw [hR (6 + a) (by omega), rowS_mi ha6, trap_bit (by omega) (by omega), mk6_bit _ _ hb6]
  have hnb : nbr S.2.1 a b = S.2.1.testBit (ti a b) := by simp [nbr, hne]
  rw [hnb]
  have eC : (if (iI (S.2.1 : Int) &&& iI ((2 ^ ti a b : Nat) : Int)) = 0 then fX7_lays_J57 (iI S.1) (iI S.2.1) (iI S.2.2.1) (iI S.2.2.2.1) (iI S.2.2.2.2) a_history_steps v_history_known (iI a) (iI b) (iI p) 0 else fX7_lays_J57 (iI S.1) (iI S.2.1) (iI S.2.2.1) (iI S.2.2.2.1) (iI S.2.2.2.2) a_history_steps v_history_known (iI a) (iI b) (iI p) 1) = fX7_lays_J67 (iI S.1) (iI S.2.1) (iI S.2.2.1) (iI S.2.2.2.1) (iI S.2.2.2.2) a_history_steps v_history_known (iI a) (iI b) (iI (((S.2.1.testBit (ti a b)).toNat : Nat) : Int)) (iI p) := by
    have hJ : ∀ y : Int32, fX7_lays_J57 (iI S.1) (iI S.2.1) (iI S.2.2.1) (iI S.2.2.2.1) (iI S.2.2.2.2) a_history_steps v_history_known (iI a) (iI b) (iI p) y = fX7_lays_J67 (iI S.1) (iI S.2.1) (iI S.2.2.1) (iI S.2.2.2.1) (iI S.2.2.2.2) a_history_steps v_history_known (iI a) (iI b) y (iI p) := by
      intro y
      unfold fX7_lays_J57
      exact p2_cases (p1 := 0) hp (fun z => fX7_lays_J67 (iI S.1) (iI S.2.1) (iI S.2.2.1) (iI S.2.2.2.1) (iI S.2.2.2.2) a_history_steps v_history_known (iI a) (iI b) y z)
    rw [hJ, hJ]
    cases hc : S.2.1.testBit (ti a b)
    · rw [if_pos ((and_bit _ _ (by omega)).mpr hc)]
      rfl
    · rw [if_neg (fun q => by rw [(and_bit _ _ (by omega)).mp q] at hc; cases hc)]
      rfl
  rw [eC]
  unfold fX7_lays_J67
  by_cases ho : iI (((S.2.1.testBit (ti a b)).toNat : Nat) : Int) = iI (p : Int)
  · exact ⟨_, _, if_pos ho, if_pos ho, rfl, hI0⟩
  rw [if_neg ho, if_neg ho]
  obtain ⟨steps', now', q1, q2, q3, q4, q5⟩ := know_iI (N := N) (by omega) hS hR hH
  have hR' : ∀ j, j < 15 → now' j = rowS S j := fun j hj => (q3 j hj).trans (hR j hj)
  have hT' : S.2.1 ^^^ 2 ^ ti a b < 32768 := Nat.xor_lt_two_pow (n := 15) hTT (Nat.pow_lt_pow_right (by decide) htl)
  rw [q1, q2, Option.bind_some, Option.bind_some, pk_un (show (6 + b) ≠ (6 + a) by omega), hR' (6 + a) (by omega), hR' (6 + b) (by omega), rowS_mi ha6, rowS_mi hb6, touchBit_iI a ha6 b hb6 hne, shl1 (by omega), shl1 (by omega), iI_xor, iI_xor, iI_xor, mk6_xor ha6 hb6 hne]
  have eb : mk6 (nbr S.2.1 b) ^^^ 2 ^ a = mk6 (nbr (S.2.1 ^^^ 2 ^ ti a b) b) := by
    rw [ti_comm a b]
    exact mk6_xor hb6 ha6 (Ne.symm hne)
  rw [eb]
  have hrow : ∀ j, j < 15 → upd (upd now' (6 + a) (iI ((mk6 (nbr (S.2.1 ^^^ 2 ^ ti a b) a) : Nat) : Int))) (6 + b) (iI ((mk6 (nbr (S.2.1 ^^^ 2 ^ ti a b) b) : Nat) : Int)) j = rowS (S.1, S.2.1 ^^^ 2 ^ ti a b, S.2.2) j := by
    intro j hj
    by_cases hjb : j = 6 + b
    · subst hjb
      rw [pk_us, rowS_mi hb6]
    rw [pk_un hjb]
    by_cases hja : j = 6 + a
    · subst hja
      rw [pk_us, rowS_mi ha6]
    rw [pk_un hja, hR' j hj]
    unfold rowS
    by_cases h1 : j < 6
    · rw [if_pos h1, if_pos h1]
    rw [if_neg h1, if_neg h1]
    by_cases h2 : j < 12
    · rw [if_pos h2, if_pos h2]
      dsimp only
      rw [mk6_other ha6 hb6 hne (by omega) (by omega) (by omega)]
    rw [if_neg h2, if_neg h2]
  have ht8 := touches8_iI (N := N) (by omega) hT' (fun c hc => (hrow (6 + c) (by omega)).trans (rowS_mi (S := (S.1, S.2.1 ^^^ 2 ^ ti a b, S.2.2)) hc))
  rw [ht8, Option.bind_some, bitCount_iI hT']
  refine ⟨_, _, rfl, rfl, rfl, n, A, B, (S.1, S.2.1 ^^^ 2 ^ ti a b, S.2.2), _, _, hT, ⟨hn, rfl, hbk, hab, hab8⟩, ⟨hS.1, hT', hS.2.2.1, hS.2.2.2.1, hS.2.2.2.2.1, fun x y hx hy hxy => ?_⟩, ⟨rfl, rfl, rfl, rfl, rfl, hrow⟩, q5.kept (fun j a b => (pk_un (by omega)).trans (pk_un (by omega))), hI1.kept (fun j a b => ((pk_un (by omega)).trans (pk_un (by omega))).trans (q4 j (by omega))), hI2.kept (fun j a b => ((pk_un (by omega)).trans (pk_un (by omega))).trans (q4 j (by omega))), hW, rfl⟩
  have hxy' : (nbr S.2.1 x y ^^ decide ((x = a ∧ y = b) ∨ (x = b ∧ y = a))) = true := by
    rw [← nbr_xor ha6 hb6 hne hx hy]
    exact hxy
  by_cases hc : (x = a ∧ y = b) ∨ (x = b ∧ y = a)
  · omega
  · rw [decide_eq_false hc, Bool.xor_false] at hxy'
    exact hS.2.2.2.2.2 x y hx hy hxy'
end OPS6
