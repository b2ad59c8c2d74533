section LURE3
theorem lureT {N : Nat} (hN : 10 ≤ N) (M p3 : Int32) (a b : Nat → Int32) (c d : Int32) : (if M = (-9 : Int32) then
            some ((-9 : Int32), a, b, c, d)
          else
            if p3 = (0 : Int32) then
              some ((fJ6_bitCount_0f7a4 M), a, b, c, d)
            else
              if p3 = (1 : Int32) then
                (fX7_twoOf N (fJ6_lowestOneBit_0f7a4 M)).bind fun q_14 =>
                some (q_14, a, b, c, d)
              else
                (fX7_twoOf N (M &&& ((fJ6_lowestOneBit_0f7a4 M) ^^^ (-1 : Int32)))).bind fun q_17 =>
                some (q_17, a, b, c, d)) = some ((if M = -9 then -9 else ansL p3 (fJ6_bitCount_0f7a4 M) (twoR (fJ6_lowestOneBit_0f7a4 M) 6 0) (twoR (M &&& ((fJ6_lowestOneBit_0f7a4 M) ^^^ (-1 : Int32))) 6 0)), a, b, c, d) := by
  rw [two_iI hN, two_iI hN, Option.bind_some, Option.bind_some]
  by_cases h : M = -9
  · rw [if_pos h, if_pos h]
  rw [if_neg h, if_neg h]
  unfold ansL
  by_cases c0 : p3 = 0
  · rw [if_pos c0, if_pos c0]
  rw [if_neg c0, if_neg c0]
  by_cases c1 : p3 = 1
  · rw [if_pos c1, if_pos c1]
  rw [if_neg c1, if_neg c1]
theorem op_lure {N : Nat} (hN : 40000 ≤ N) {a_text_bytes : Nat → Int32} {v_text_length : Int32} {a_told_a : Nat → Int32} {a_told_b : Nat → Int32} {v_told_size : Int32} {v_now_forgotten : Int32} {v_now_touches : Int32} {v_now_trapped : Int32} {v_now_one : Int32} {v_now_date : Int32} {a_history_steps : Nat → Int64} {v_history_known : Int32} {a_firstImage_history_steps : Nat → Int64} {v_firstImage_history_known : Int32} {v_firstImage_packed : Int64} {v_firstImage_kept : Int32} {a_secondImage_history_steps : Nat → Int64} {v_secondImage_history_known : Int32} {v_secondImage_packed : Int64} {v_secondImage_kept : Int32} {a_seen_days : Nat → Int32} {a_seen_books : Nat → Int32} {a_seen_there : Nat → Int32} {v_seen_size : Int32} {v_traced : Int64} {ma_text : Nat → Int32} {mv_typed : Int32} {ma_books : Nat → Int32} {ma_numberA : Nat → Int32} {ma_numberB : Nat → Int32} {ma_now : Nat → Int32} {ma_isKept : Nat → Int32} {ma_seenDays : Nat → Int32} {ma_seenBook : Nat → Int32} {ma_seenIs : Nat → Int32} {mv_seen : Int32} {mv_trace : Int64} (hI : Inv a_text_bytes v_text_length a_told_a a_told_b v_told_size v_now_forgotten v_now_touches v_now_trapped v_now_one v_now_date a_history_steps v_history_known a_firstImage_history_steps v_firstImage_history_known v_firstImage_packed v_firstImage_kept a_secondImage_history_steps v_secondImage_history_known v_secondImage_packed v_secondImage_kept a_seen_days a_seen_books a_seen_there v_seen_size v_traced ma_text mv_typed ma_books ma_numberA ma_numberB ma_now ma_isKept ma_seenDays ma_seenBook ma_seenIs mv_seen mv_trace) (a_ways_ranked : Nat → Int32) (a_ways_tens : Nat → Int32) (v_ways_size : Int32) (v_ways_trapped : Int32) (ma_near : Nat → Int32) (p1 : Int32) (p2 : Int32) (p3 : Int32) : ∃ (q : (Int32 × (Nat → Int32) × (Nat → Int32) × Int32 × Int32)) (r : (Int32 × (Nat → Int32))), fX7_lure N a_told_a a_told_b v_told_size v_now_forgotten v_now_touches v_now_trapped v_now_one a_ways_ranked a_ways_tens v_ways_size v_ways_trapped p1 p2 p3 = some q ∧ fX8_lure N ma_books ma_numberA ma_numberB ma_now ma_near p1 p2 p3 = some r ∧ q.1 = r.1 ∧ Inv a_text_bytes v_text_length a_told_a a_told_b v_told_size v_now_forgotten v_now_touches v_now_trapped v_now_one v_now_date a_history_steps v_history_known a_firstImage_history_steps v_firstImage_history_known v_firstImage_packed v_firstImage_kept a_secondImage_history_steps v_secondImage_history_known v_secondImage_packed v_secondImage_kept a_seen_days a_seen_books a_seen_there v_seen_size v_traced ma_text mv_typed ma_books ma_numberA ma_numberB ma_now ma_isKept ma_seenDays ma_seenBook ma_seenIs mv_seen mv_trace := by
  have hI0 := hI
  obtain ⟨n, A, B, S, h, k, hT, ⟨hn, rfl, hbk, hab, hab8⟩, hS, ⟨rfl, rfl, rfl, rfl, rfl, hR⟩, hH, hI1, hI2, hW, rfl⟩ := hI
  have hM : M8 n A B S.1 S.2.2.1 ma_books ma_numberA ma_numberB ma_now := M8_of (fo := 0) (tc := 0) (tr := 0) (on := 0) (da := 0) ⟨hn, rfl, hbk, hab, hab8⟩ hS hR
  unfold fX7_lure fX8_lure fX7_isSomewhere
  have h13 : ma_now 13 = iI S.2.2.2.1 := by rw [hR 13 (by decide), rowS_13]
  rw [isBook8 hbk, in_within, t13, h13]
  rcases bookC hn p1 with hb | ⟨b, hb2, rfl, hb⟩
  · exact ⟨_, _, if_pos hb, if_pos hb, rfl, hI0⟩
  rw [if_neg hb, if_neg hb]
  rcases win p2 1 20 1 20 rfl rfl (by decide) (by decide) with hz | ⟨d, hd1, hd, rfl, hz⟩
  · exact ⟨_, _, if_pos hz, if_pos hz, rfl, hI0⟩
  rw [if_neg hz, if_neg hz]
  rcases win p3 0 2 0 2 rfl rfl (by decide) (by decide) with hz | ⟨w, -, hw, rfl, hz⟩
  · exact ⟨_, _, if_pos hz, if_pos hz, rfl, hI0⟩
  rw [if_neg hz, if_neg hz]
  by_cases ho : fX7_isBook (iI n) (iI S.2.2.2.1) = 0
  · have e := one_no hS hn ho
    exact ⟨_, _, if_pos ho, if_pos (by rw [e]; rfl), rfl, hI0⟩
  obtain ⟨s, hs, e⟩ := one_yes hS hn ho
  rw [if_neg ho]
  rw [e] at h13 ⊢
  rw [e_m9, if_neg (nat_m9 s (by omega))]
  rw [e] at hI0
  obtain ⟨rk', tn', r', w1, w2, w3⟩ := waysNow_iI (N := N) (R := S.2.2.1) (by omega) hn hS.1 hab a_ways_ranked a_ways_tens v_ways_size v_ways_trapped
  have hnow : ∀ b, b < 6 → ma_now (6 + b) = iI ((mk6 (nbr S.2.1 b) : Nat) : Int) := fun c hc => (hR (6 + c) (by omega)).trans (rowS_mi hc)
  obtain ⟨nr, l0⟩ := isLured_0 (N := N) (by omega) hM hnow h13 hs hb2 (show d ≤ 200 by omega) ma_near
  have e9 : (-9 : Int32) = iI (-9) := rfl
  rw [e9] at l0
  unfold fX7_fewestMoreTouches
  have e0 : (0 : Int32) = iI ((0 : Nat) : Int) := rfl
  have hlur := lures_iI (N := N) (m := 0) (by omega) hn hS.2.1 (by decide) hS.2.2.1 w3 w2 (show d ≤ 200 by omega) hb2 hs
  rw [← e0, Nat.or_zero] at hlur
  rw [w1, Option.bind_some, hlur, Option.bind_some, l0, Option.bind_some]
  dsimp only
  have fin : ∀ M : Int32, ∃ q, (some (M, rk', tn', iI (n : Int), iI (S.2.2.1 : Int))).bind (fun q_9 : Int32 × (Nat → Int32) × (Nat → Int32) × Int32 × Int32 => if q_9.1 = iI (-9) then some (iI (-9), q_9.2.1, q_9.2.2.1, q_9.2.2.2.1, q_9.2.2.2.2) else if iI (w : Int) = (0 : Int32) then some ((fJ6_bitCount_0f7a4 q_9.1), q_9.2.1, q_9.2.2.1, q_9.2.2.2.1, q_9.2.2.2.2) else if iI (w : Int) = (1 : Int32) then (fX7_twoOf N (fJ6_lowestOneBit_0f7a4 q_9.1)).bind fun q_14 => some (q_14, q_9.2.1, q_9.2.2.1, q_9.2.2.2.1, q_9.2.2.2.2) else (fX7_twoOf N (q_9.1 &&& ((fJ6_lowestOneBit_0f7a4 q_9.1) ^^^ (-1 : Int32)))).bind fun q_17 => some (q_17, q_9.2.1, q_9.2.2.1, q_9.2.2.2.1, q_9.2.2.2.2)) = some q ∧ q.1 = (if M = -9 then -9 else ansL (iI (w : Int)) (fJ6_bitCount_0f7a4 M) (twoR (fJ6_lowestOneBit_0f7a4 M) 6 0) (twoR (M &&& ((fJ6_lowestOneBit_0f7a4 M) ^^^ (-1 : Int32))) 6 0)) := fun M => ⟨_, lureT (by omega) M (iI (w : Int)) rk' tn' (iI (n : Int)) (iI (S.2.2.1 : Int)), rfl⟩
  cases h0 : (des (tt A B S.1) S.2.2.1 n d s S.2.1 == b)
  · have hne0 : des (tt A B S.1) S.2.2.1 n d s S.2.1 ≠ b := by simpa using h0
    rw [if_pos (show iI ((false.toNat : Nat) : Int) = 0 from rfl), if_pos (show iI ((false.toNat : Nat) : Int) = 0 from rfl)]
    have hsg := single_L (N := N) (by omega) hn hS.2.1 hS.2.2.1 w3 w2 (show d ≤ 200 by omega) hb2 hs N 0 (Nat.zero_le _) (by omega)
    have hdb := double_L2 (N := N) (by omega) hn hS.2.1 hS.2.2.1 w3 w2 (show d ≤ 200 by omega) hb2 hs N 0 (Nat.zero_le _) (by omega)
    rw [← e0, Nat.sub_zero] at hsg hdb
    unfold fX7_firstSingleLure fX7_firstDoubleLure
    rw [hsg, Option.bind_some, hdb, Option.bind_some]
    obtain ⟨nw, l8⟩ := lure8_L71 (N := N) (p3 := iI (w : Int)) (Q := fun y => vd y && (frI n S.2.1 (ix y) && (des (tt A B S.1) S.2.2.1 n d s (S.2.1 ||| 2 ^ ix y) == b))) (Q2 := fun e y => vd e && (vd y && ((frI n S.2.1 (ix e) && frI n S.2.1 (ix y)) && (des (tt A B S.1) S.2.2.1 n d s (S.2.1 ||| (2 ^ ix e ||| 2 ^ ix y)) == b)))) (fun _ => rfl) (fun _ _ => rfl) (by omega) hM hnow h13 hs hb2 (show d ≤ 200 by omega) N 0 nr (Nat.zero_le _) (by omega)
    have f36 := fst36 (fun i => frI n S.2.1 i && (des (tt A B S.1) S.2.2.1 n d s (S.2.1 ||| 2 ^ i) == b)) 36 0 rfl
    have f3 := fst3_36 (fun i j => (frI n S.2.1 i && frI n S.2.1 j) && (des (tt A B S.1) S.2.2.1 n d s (S.2.1 ||| (2 ^ i ||| 2 ^ j)) == b)) 36 0 rfl
    rw [ix0, Nat.sub_zero] at f36 f3
    rw [← lure_1 hn hs hne0] at f36
    rw [← e0, Nat.sub_zero, f36, f3] at l8
    rw [l8]
    cases hf1 : fstN (fun i => des (tt A B S.1) S.2.2.1 n d s (S.2.1 ||| 2 ^ i) == b) 15 0 with
    | some i =>
      obtain ⟨-, hi15, -⟩ := fstN_some _ _ _ hf1
      obtain ⟨g1, g2, g3, g4⟩ := two_1 i (by omega)
      dsimp only [Option.map]
      rw [if_neg g4]
      obtain ⟨q, q1, q2⟩ := fin (iI ((2 ^ i : Nat) : Int))
      refine ⟨_, _, q1, rfl, ?_, hI0⟩
      rw [q2, if_neg g4, g1, g2, bitCount_iI (p2_lt15 i (by omega)), g3]
      rfl
    | none =>
      have hn1 := fstN_none _ _ hf1
      have e2 := lure_2 (t := tt A B S.1) (R := S.2.2.1) (T := S.2.1) (d := d) (b := b) hn hs (fun i hi => by simpa using hn1 i (Nat.zero_le _) (by omega))
      rw [← e2]
      dsimp only [Option.map]
      rw [if_pos (show iI (-9) = (-9 : Int32) from rfl)]
      cases hf2 : fst2 (fun i j => des (tt A B S.1) S.2.2.1 n d s (S.2.1 ||| (2 ^ i ||| 2 ^ j)) == b) 15 0 with
      | some x =>
        obtain ⟨hx1, hx2, -⟩ := fst2_some _ _ _ (Nat.le_refl _) hf2
        obtain ⟨g1, g2, g3, g4, g5⟩ := two_2 x.2 hx2 x.1 hx1
        obtain ⟨q, q1, q2⟩ := fin (iI ((2 ^ x.1 ||| 2 ^ x.2 : Nat) : Int))
        refine ⟨_, _, q1, rfl, ?_, hI0⟩
        rw [q2, if_neg g4, g1, g2, bitCount_iI g5, g3]
        rfl
      | none =>
        obtain ⟨q, q1, q2⟩ := fin (iI (-9))
        refine ⟨_, _, q1, rfl, ?_, hI0⟩
        rw [q2, if_pos (show iI (-9) = (-9 : Int32) from rfl)]
  · rw [if_neg (show ¬ iI ((true.toNat : Nat) : Int) = 0 by decide), if_neg (show ¬ iI ((true.toNat : Nat) : Int) = 0 by decide)]
    obtain ⟨q, q1, q2⟩ := fin 0
    have hans : ∃ r : Int32 × (Nat → Int32), (if iI (w : Int) = 0 then some ((0 : Int32), nr) else some (iI (-9), nr)) = some r ∧ r.1 = ansL (iI (w : Int)) 0 (-9) (-9) := by
      unfold ansL
      by_cases c0 : iI (w : Int) = 0
      · rw [if_pos c0, if_pos c0]
        exact ⟨_, rfl, rfl⟩
      · rw [if_neg c0, if_neg c0, ite_self]
        exact ⟨_, rfl, rfl⟩
    obtain ⟨r, r1, r2⟩ := hans
    refine ⟨_, _, q1, r1, ?_, hI0⟩
    rw [q2, r2, if_neg (by decide), two_0.1, two_0.2]
    rfl
end LURE3
