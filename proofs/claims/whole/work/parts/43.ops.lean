/-! the public calls: where it goes -/
section OPS3
theorem M8_of {n : Nat} {A B : Nat → Nat} {S : NS} {size fo tc tr on da : Int32} {a b books nA nB now : Nat → Int32} (hB : IvB n A B size a b books nA nB) (hS : wfS n S) (hR : ∀ j, j < 15 → now j = rowS S j) : M8 n A B S.1 S.2.2.1 books nA nB now :=
  ⟨hB.1, hS.1, hS.2.2.1, hB.2.2.1, hB.2.2.2.2, fun k hk => by rw [hR k (by have := hB.1; omega), rowS_lo (by have := hB.1; omega)], by rw [hR 12 (by decide)]; rfl⟩
theorem near_of {S : NS} {now near : Nat → Int32} (hR : ∀ j, j < 15 → now j = rowS S j) (hn : ∀ b, b < 6 → near b = now (6 + b)) : nearIs (nbr S.2.1) near := fun b hb => by
  rw [hn b hb, hR (6 + b) (by omega), rowS_mi hb]
theorem e_m9 : (-9 : Int32) = iI (-9) := rfl
theorem one_no {n : Nat} {S : NS} (hS : wfS n S) (hn : n ≤ 6) (h : fX7_isBook (iI n) (iI S.2.2.2.1) = 0) : S.2.2.2.1 = -9 := by
  rcases one_cases hS with e | ⟨s, hs, e⟩
  · exact e
  · rw [e] at h
    exact absurd h (isBook_of hn hs)
theorem one_yes {n : Nat} {S : NS} (hS : wfS n S) (hn : n ≤ 6) (h : ¬ fX7_isBook (iI n) (iI S.2.2.2.1) = 0) : ∃ s : Nat, s < n ∧ S.2.2.2.1 = s := by
  rcases one_cases hS with e | h2
  · rw [e] at h
    exact absurd (isBook_no hn) h
  · exact h2
theorem nat_m9 (s : Nat) (hs : s < 6) : ¬ iI (s : Int) = iI (-9) := by
  rw [iI_eq (by omega) (by omega) (by decide) (by decide)]
  omega
theorem op_inDays {N : Nat} (hN : 40000 ≤ N) {a_text_bytes : Nat → Int32} {v_text_length : Int32} {a_told_a : Nat → Int32} {a_told_b : Nat → Int32} {v_told_size : Int32} {v_now_forgotten : Int32} {v_now_touches : Int32} {v_now_trapped : Int32} {v_now_one : Int32} {v_now_date : Int32} {a_history_steps : Nat → Int64} {v_history_known : Int32} {a_firstImage_history_steps : Nat → Int64} {v_firstImage_history_known : Int32} {v_firstImage_packed : Int64} {v_firstImage_kept : Int32} {a_secondImage_history_steps : Nat → Int64} {v_secondImage_history_known : Int32} {v_secondImage_packed : Int64} {v_secondImage_kept : Int32} {a_seen_days : Nat → Int32} {a_seen_books : Nat → Int32} {a_seen_there : Nat → Int32} {v_seen_size : Int32} {v_traced : Int64} {ma_text : Nat → Int32} {mv_typed : Int32} {ma_books : Nat → Int32} {ma_numberA : Nat → Int32} {ma_numberB : Nat → Int32} {ma_now : Nat → Int32} {ma_isKept : Nat → Int32} {ma_seenDays : Nat → Int32} {ma_seenBook : Nat → Int32} {ma_seenIs : Nat → Int32} {mv_seen : Int32} {mv_trace : Int64} (hI : Inv a_text_bytes v_text_length a_told_a a_told_b v_told_size v_now_forgotten v_now_touches v_now_trapped v_now_one v_now_date a_history_steps v_history_known a_firstImage_history_steps v_firstImage_history_known v_firstImage_packed v_firstImage_kept a_secondImage_history_steps v_secondImage_history_known v_secondImage_packed v_secondImage_kept a_seen_days a_seen_books a_seen_there v_seen_size v_traced ma_text mv_typed ma_books ma_numberA ma_numberB ma_now ma_isKept ma_seenDays ma_seenBook ma_seenIs mv_seen mv_trace) (a_ways_ranked : Nat → Int32) (a_ways_tens : Nat → Int32) (v_ways_size : Int32) (v_ways_trapped : Int32) (ma_near : Nat → Int32) (p1 : Int32) : ∃ (q : (Int32 × (Nat → Int32) × (Nat → Int32) × Int32 × Int32)) (r : (Int32 × (Nat → Int32))), fX7_inDays N a_told_a a_told_b v_told_size v_now_forgotten v_now_touches v_now_trapped v_now_one a_ways_ranked a_ways_tens v_ways_size v_ways_trapped p1 = some q ∧ fX8_inDays N ma_books ma_numberA ma_numberB ma_now ma_near p1 = some r ∧ q.1 = r.1 ∧ Inv a_text_bytes v_text_length a_told_a a_told_b v_told_size v_now_forgotten v_now_touches v_now_trapped v_now_one v_now_date a_history_steps v_history_known a_firstImage_history_steps v_firstImage_history_known v_firstImage_packed v_firstImage_kept a_secondImage_history_steps v_secondImage_history_known v_secondImage_packed v_secondImage_kept a_seen_days a_seen_books a_seen_there v_seen_size v_traced ma_text mv_typed ma_books ma_numberA ma_numberB ma_now ma_isKept ma_seenDays ma_seenBook ma_seenIs mv_seen mv_trace := by
  have hI0 := hI
  obtain ⟨n, A, B, S, h, k, hT, ⟨hn, rfl, hbk, hab, hab8⟩, hS, ⟨rfl, rfl, rfl, rfl, rfl, hR⟩, hH, hI1, hI2, hW, rfl⟩ := hI
  have hM : M8 n A B S.1 S.2.2.1 ma_books ma_numberA ma_numberB ma_now := M8_of (fo := 0) (tc := 0) (tr := 0) (on := 0) (da := 0) ⟨hn, rfl, hbk, hab, hab8⟩ hS hR
  obtain ⟨nr, nr1, nr2⟩ := takeNear_iI (N := N) (by omega) ma_now ma_near
  unfold fX7_inDays fX8_inDays fX7_isSomewhere
  rw [in_within, nr1, t13, hR 13 (by decide), rowS_13, Option.bind_some]
  rcases win p1 0 99 0 99 rfl rfl (by decide) (by decide) with hz | ⟨d, -, hd, rfl, hz⟩
  · exact ⟨_, _, if_pos hz, if_pos hz, rfl, hI0⟩
  rw [if_neg hz, if_neg hz]
  by_cases ho : fX7_isBook (iI n) (iI S.2.2.2.1) = 0
  · have e := one_no hS hn ho
    exact ⟨_, _, if_pos ho, if_pos (by rw [e]; rfl), rfl, hI0⟩
  obtain ⟨s, hs, e⟩ := one_yes hS hn ho
  rw [if_neg ho]
  rw [e, e_m9, if_neg (nat_m9 s (by omega))]
  obtain ⟨rk', tn', r', w1, w2, w3⟩ := waysNow_iI (N := N) (R := S.2.2.1) (by omega) hn hS.1 hab a_ways_ranked a_ways_tens v_ways_size v_ways_trapped
  rw [w1, Option.bind_some]
  rw [walk_iI (by omega) hn hS.2.1 hS.2.2.1 w3 w2 (by omega) hs, goesIn8_iI (by omega) hM (near_of hR nr2) (by omega) hs, Option.bind_some, Option.bind_some]
  refine ⟨_, _, rfl, rfl, rfl, ?_⟩
  rw [e] at hI0
  exact hI0
theorem op_day {N : Nat} (hN : 40000 ≤ N) {a_text_bytes : Nat → Int32} {v_text_length : Int32} {a_told_a : Nat → Int32} {a_told_b : Nat → Int32} {v_told_size : Int32} {v_now_forgotten : Int32} {v_now_touches : Int32} {v_now_trapped : Int32} {v_now_one : Int32} {v_now_date : Int32} {a_history_steps : Nat → Int64} {v_history_known : Int32} {a_firstImage_history_steps : Nat → Int64} {v_firstImage_history_known : Int32} {v_firstImage_packed : Int64} {v_firstImage_kept : Int32} {a_secondImage_history_steps : Nat → Int64} {v_secondImage_history_known : Int32} {v_secondImage_packed : Int64} {v_secondImage_kept : Int32} {a_seen_days : Nat → Int32} {a_seen_books : Nat → Int32} {a_seen_there : Nat → Int32} {v_seen_size : Int32} {v_traced : Int64} {ma_text : Nat → Int32} {mv_typed : Int32} {ma_books : Nat → Int32} {ma_numberA : Nat → Int32} {ma_numberB : Nat → Int32} {ma_now : Nat → Int32} {ma_isKept : Nat → Int32} {ma_seenDays : Nat → Int32} {ma_seenBook : Nat → Int32} {ma_seenIs : Nat → Int32} {mv_seen : Int32} {mv_trace : Int64} (hI : Inv a_text_bytes v_text_length a_told_a a_told_b v_told_size v_now_forgotten v_now_touches v_now_trapped v_now_one v_now_date a_history_steps v_history_known a_firstImage_history_steps v_firstImage_history_known v_firstImage_packed v_firstImage_kept a_secondImage_history_steps v_secondImage_history_known v_secondImage_packed v_secondImage_kept a_seen_days a_seen_books a_seen_there v_seen_size v_traced ma_text mv_typed ma_books ma_numberA ma_numberB ma_now ma_isKept ma_seenDays ma_seenBook ma_seenIs mv_seen mv_trace) (a_ways_ranked : Nat → Int32) (a_ways_tens : Nat → Int32) (v_ways_size : Int32) (v_ways_trapped : Int32) (ma_near : Nat → Int32) : ∃ (q : (Int32 × Int32 × Int32 × (Nat → Int64) × Int32 × (Nat → Int32) × (Nat → Int32) × Int32 × Int32)) (r : (Int32 × (Nat → Int32) × (Nat → Int32))), fX7_day N a_told_a a_told_b v_told_size v_now_forgotten v_now_touches v_now_trapped v_now_one v_now_date a_history_steps v_history_known a_ways_ranked a_ways_tens v_ways_size v_ways_trapped = some q ∧ fX8_day N ma_books ma_numberA ma_numberB ma_now ma_near = some r ∧ q.1 = r.1 ∧ Inv a_text_bytes v_text_length a_told_a a_told_b v_told_size v_now_forgotten v_now_touches v_now_trapped q.2.1 q.2.2.1 q.2.2.2.1 q.2.2.2.2.1 a_firstImage_history_steps v_firstImage_history_known v_firstImage_packed v_firstImage_kept a_secondImage_history_steps v_secondImage_history_known v_secondImage_packed v_secondImage_kept a_seen_days a_seen_books a_seen_there v_seen_size v_traced ma_text mv_typed ma_books ma_numberA ma_numberB r.2.1 ma_isKept ma_seenDays ma_seenBook ma_seenIs mv_seen mv_trace := by
  have hI0 := hI
  obtain ⟨n, A, B, S, h, k, hT, ⟨hn, rfl, hbk, hab, hab8⟩, hS, ⟨rfl, rfl, rfl, rfl, rfl, hR⟩, hH, hI1, hI2, hW, rfl⟩ := hI
  unfold fX7_day fX8_day fX7_isSomewhere
  rw [t14, hR 14 (by decide), rowS_14]
  have hD := hS.2.2.2.2.1
  by_cases h9 : S.2.2.2.2 = 999
  · rw [h9, if_neg (by decide), if_pos (by decide)]
    rw [h9] at hI0
    exact ⟨_, _, rfl, rfl, rfl, hI0⟩
  rw [if_pos (by rw [iI_lit 999, iI_lt (by omega) (by omega) (by decide) (by decide)]; show (S.2.2.2.2 : Int) < 999; omega)]
  rw [if_neg (by rw [iI_lit 999, iI_eq (by omega) (by omega) (by decide) (by decide)]; show ¬ (S.2.2.2.2 : Int) = 999; omega)]
  obtain ⟨steps', now', q1, q2, q3, q4, q5⟩ := know_iI (N := N) (by omega) hS hR hH
  have hR' : ∀ j, j < 15 → now' j = rowS S j := fun j hj => (q3 j hj).trans (hR j hj)
  have hM : M8 n A B S.1 S.2.2.1 ma_books ma_numberA ma_numberB now' := M8_of (fo := 0) (tc := 0) (tr := 0) (on := 0) (da := 0) ⟨hn, rfl, hbk, hab, hab8⟩ hS hR'
  obtain ⟨nr, nr1, nr2⟩ := takeNear_iI (N := N) (by omega) now' ma_near
  rw [q1, q2, Option.bind_some, Option.bind_some, nr1, Option.bind_some, t13, hR' 13 (by decide), rowS_13]
  have e1 : iI (S.2.2.2.2 : Int) + (1 : Int32) = iI ((S.2.2.2.2 + 1 : Nat) : Int) := iI_s _
  have fin : ∀ (o' : Int) (hS' : o' = -9 ∨ (0 ≤ o' ∧ o' < n)), ∃ r8, fX8_day_J58 now' nr (iI o') = some r8 ∧ r8.1 = iI o' ∧ wfS n (S.1, S.2.1, S.2.2.1, o', S.2.2.2.2 + 1) ∧ (∀ j, j < 15 → r8.2.1 j = rowS (S.1, S.2.1, S.2.2.1, o', S.2.2.2.2 + 1) j) ∧ ∀ j, 15 ≤ j → r8.2.1 j = now' j := by
    intro o' ho'
    unfold fX8_day_J58
    rw [t13, t14]
    refine ⟨_, rfl, ?_, ⟨hS.1, hS.2.1, hS.2.2.1, ho', by show S.2.2.2.2 + 1 ≤ 999; omega, hS.2.2.2.2.2⟩, fun j hj => ?_, fun j hj => ?_⟩
    · rw [pk_un (by decide), pk_us]
    · dsimp only
      by_cases h14 : j = 14
      · subst h14
        rw [pk_us, pk_un (by decide), hR' 14 (by decide), rowS_14, e1]
        rfl
      · rw [pk_un h14]
        by_cases h13 : j = 13
        · subst h13
          rw [pk_us]
          rfl
        · rw [pk_un h13, hR' j hj]
          unfold rowS
          by_cases h1 : j < 6
          · rw [if_pos h1, if_pos h1]
          rw [if_neg h1, if_neg h1]
          by_cases h2 : j < 12
          · rw [if_pos h2, if_pos h2]
          rw [if_neg h2, if_neg h2]
          by_cases h3 : j = 12
          · rw [if_pos h3, if_pos h3]
          omega
    · dsimp only
      rw [pk_un (by omega), pk_un (by omega)]
  by_cases ho : fX7_isBook (iI n) (iI S.2.2.2.1) = 0
  · have e := one_no hS hn ho
    rw [if_pos ho, e, if_pos (show iI (-9) = (-9 : Int32) from rfl)]
    obtain ⟨r8, f1, f2, f3, f4, f5⟩ := fin (-9) (Or.inl rfl)
    unfold fX7_day_J55
    rw [e1]
    have f1' : fX8_day_J58 now' nr (-9) = some r8 := f1
    refine ⟨_, _, rfl, f1', f2.symm, n, A, B, _, _, _, hT, ⟨hn, rfl, hbk, hab, hab8⟩, f3, ⟨rfl, rfl, rfl, rfl, rfl, f4⟩, q5.kept (fun j a b => f5 j (by omega)), hI1.kept (fun j a b => (f5 j (by omega)).trans (q4 j (by omega))), hI2.kept (fun j a b => (f5 j (by omega)).trans (q4 j (by omega))), hW, rfl⟩
  · obtain ⟨s, hs, e⟩ := one_yes hS hn ho
    rw [if_neg ho, e, e_m9, if_neg (nat_m9 s (by omega))]
    obtain ⟨rk', tn', r', w1, w2, w3⟩ := waysNow_iI (N := N) (R := S.2.2.1) (by omega) hn hS.1 hab a_ways_ranked a_ways_tens v_ways_size v_ways_trapped
    rw [w1, Option.bind_some, goesTo_iI (by omega) hn hS.2.1 hS.2.2.1 hs w3 w2, Option.bind_some, goesTo8_iI (by omega) hM (near_of hR' nr2) hs, Option.bind_some]
    have hg : go (tt A B S.1) S.2.1 S.2.2.1 n s < n := go_lt hs
    obtain ⟨r8, f1, f2, f3, f4, f5⟩ := fin ((go (tt A B S.1) S.2.1 S.2.2.1 n s : Nat) : Int) (Or.inr ⟨by omega, by omega⟩)
    unfold fX7_day_J55
    rw [e1]
    refine ⟨_, _, rfl, f1, f2.symm, n, A, B, _, _, _, hT, ⟨hn, rfl, hbk, hab, hab8⟩, f3, ⟨rfl, rfl, rfl, rfl, rfl, f4⟩, q5.kept (fun j a b => f5 j (by omega)), hI1.kept (fun j a b => (f5 j (by omega)).trans (q4 j (by omega))), hI2.kept (fun j a b => (f5 j (by omega)).trans (q4 j (by omega))), hW, rfl⟩
theorem op_round {N : Nat} (hN : 40000 ≤ N) {a_text_bytes : Nat → Int32} {v_text_length : Int32} {a_told_a : Nat → Int32} {a_told_b : Nat → Int32} {v_told_size : Int32} {v_now_forgotten : Int32} {v_now_touches : Int32} {v_now_trapped : Int32} {v_now_one : Int32} {v_now_date : Int32} {a_history_steps : Nat → Int64} {v_history_known : Int32} {a_firstImage_history_steps : Nat → Int64} {v_firstImage_history_known : Int32} {v_firstImage_packed : Int64} {v_firstImage_kept : Int32} {a_secondImage_history_steps : Nat → Int64} {v_secondImage_history_known : Int32} {v_secondImage_packed : Int64} {v_secondImage_kept : Int32} {a_seen_days : Nat → Int32} {a_seen_books : Nat → Int32} {a_seen_there : Nat → Int32} {v_seen_size : Int32} {v_traced : Int64} {ma_text : Nat → Int32} {mv_typed : Int32} {ma_books : Nat → Int32} {ma_numberA : Nat → Int32} {ma_numberB : Nat → Int32} {ma_now : Nat → Int32} {ma_isKept : Nat → Int32} {ma_seenDays : Nat → Int32} {ma_seenBook : Nat → Int32} {ma_seenIs : Nat → Int32} {mv_seen : Int32} {mv_trace : Int64} (hI : Inv a_text_bytes v_text_length a_told_a a_told_b v_told_size v_now_forgotten v_now_touches v_now_trapped v_now_one v_now_date a_history_steps v_history_known a_firstImage_history_steps v_firstImage_history_known v_firstImage_packed v_firstImage_kept a_secondImage_history_steps v_secondImage_history_known v_secondImage_packed v_secondImage_kept a_seen_days a_seen_books a_seen_there v_seen_size v_traced ma_text mv_typed ma_books ma_numberA ma_numberB ma_now ma_isKept ma_seenDays ma_seenBook ma_seenIs mv_seen mv_trace) (a_ways_ranked : Nat → Int32) (a_ways_tens : Nat → Int32) (v_ways_size : Int32) (v_ways_trapped : Int32) (ma_near : Nat → Int32) (p1 : Int32) : ∃ (q : (Int32 × (Nat → Int32) × (Nat → Int32) × Int32 × Int32)) (r : (Int32 × (Nat → Int32))), fX7_round N a_told_a a_told_b v_told_size v_now_forgotten v_now_touches v_now_trapped v_now_one a_ways_ranked a_ways_tens v_ways_size v_ways_trapped p1 = some q ∧ fX8_round N ma_books ma_numberA ma_numberB ma_now ma_near p1 = some r ∧ q.1 = r.1 ∧ Inv a_text_bytes v_text_length a_told_a a_told_b v_told_size v_now_forgotten v_now_touches v_now_trapped v_now_one v_now_date a_history_steps v_history_known a_firstImage_history_steps v_firstImage_history_known v_firstImage_packed v_firstImage_kept a_secondImage_history_steps v_secondImage_history_known v_secondImage_packed v_secondImage_kept a_seen_days a_seen_books a_seen_there v_seen_size v_traced ma_text mv_typed ma_books ma_numberA ma_numberB ma_now ma_isKept ma_seenDays ma_seenBook ma_seenIs mv_seen mv_trace := by
  have hI0 := hI
  obtain ⟨n, A, B, S, h, k, hT, ⟨hn, rfl, hbk, hab, hab8⟩, hS, ⟨rfl, rfl, rfl, rfl, rfl, hR⟩, hH, hI1, hI2, hW, rfl⟩ := hI
  have hM : M8 n A B S.1 S.2.2.1 ma_books ma_numberA ma_numberB ma_now := M8_of (fo := 0) (tc := 0) (tr := 0) (on := 0) (da := 0) ⟨hn, rfl, hbk, hab, hab8⟩ hS hR
  obtain ⟨nr, nr1, nr2⟩ := takeNear_iI (N := N) (by omega) ma_now ma_near
  unfold fX7_round fX8_round fX7_isSomewhere
  rw [in_within, nr1, t13, hR 13 (by decide), rowS_13, Option.bind_some]
  rcases win p1 0 1 0 1 rfl rfl (by decide) (by decide) with hz | ⟨d, -, hd, rfl, hz⟩
  · exact ⟨_, _, if_pos hz, if_pos hz, rfl, hI0⟩
  rw [if_neg hz, if_neg hz]
  by_cases ho : fX7_isBook (iI n) (iI S.2.2.2.1) = 0
  · have e := one_no hS hn ho
    exact ⟨_, _, if_pos ho, if_pos (by rw [e]; rfl), rfl, hI0⟩
  obtain ⟨s, hs, e⟩ := one_yes hS hn ho
  have h13 : ma_now 13 = iI (s : Int) := by rw [hR 13 (by decide), rowS_13, e]
  rw [if_neg ho]
  rw [e, e_m9, if_neg (nat_m9 s (by omega))]
  obtain ⟨rk', tn', r', w1, w2, w3⟩ := waysNow_iI (N := N) (R := S.2.2.1) (by omega) hn hS.1 hab a_ways_ranked a_ways_tens v_ways_size v_ways_trapped
  obtain ⟨t, l, hRd⟩ := isR_ex (g := go (tt A B S.1) S.2.1 S.2.2.1 n) hn (fun b hb => go_lt hb) hs
  rw [w1, Option.bind_some]
  rw [lengthOfRound_iI (by omega) hn hS.2.1 hS.2.2.1 w3 w2 hs hRd, Option.bind_some, daysToRound_iI (by omega) hn hS.2.1 hS.2.2.1 w3 w2 hs hRd, Option.bind_some]
  have e0 : (0 : Int32) = iI ((0 : Nat) : Int) := rfl
  have e8 := round8_L32 (N := N) (p1 := iI (d : Int)) (by omega) hM (near_of hR nr2) hs h13 hRd N 0 (Nat.zero_le _) (by have := hRd.1; omega)
  rw [e] at hI0
  rw [e0, e8]
  have : d = 0 ∨ d = 1 := by omega
  rcases this with rfl | rfl
  · rw [show (if iI ((0 : Nat) : Int) = (0 : Int32) then iI (t : Int) else iI (l : Int)) = iI (t : Int) from if_pos rfl]
    exact ⟨_, _, if_neg (by decide), rfl, rfl, hI0⟩
  · rw [show (if iI ((1 : Nat) : Int) = (0 : Int32) then iI (t : Int) else iI (l : Int)) = iI (l : Int) from if_neg (by decide)]
    exact ⟨_, _, if_pos (by decide), rfl, rfl, hI0⟩
theorem bitor {m b : Nat} (hb : b < 31) : iI (m : Int) ||| ((1 : Int32) <<< (iI (b : Int) &&& 31)) = iI ((m ||| 2 ^ b : Nat) : Int) := by
  rw [shl1 hb, iI_or]
theorem bitor0 (m : Nat) : iI (m : Int) ||| (0 : Int32) = iI (m : Int) := by
  have e : (0 : Int32) = iI ((0 : Nat) : Int) := rfl
  rw [e, iI_or, Nat.or_zero]
/-- the set of those below k that q holds of, put to m -/
def msk (q : Nat → Bool) (m : Nat) : Nat → Nat → Nat
  | 0, _ => m
  | k + 1, i => msk q (if q i then m ||| 2 ^ i else m) k (i + 1)
theorem from_L {N n T R d b : Nat} {rk tn : Nat → Int32} {r t : Nat → Nat} (hN : 300 ≤ N) (hn : n ≤ 6) (hT : T < 32768) (hR : R < 64) (hr : ∀ i, i < n → rk i = iI (r i)) (hk : RK r t n) (hd : d ≤ 200) (hb : b < n) : ∀ (m i s : Nat), i ≤ n → n - i < m → fX7_from_L30 N (iI n) (iI T) (iI b) (iI d) (rk, tn, iI n, iI R) m (iI s) (iI i) = some (iI ((msk (fun x => gon (go t T R n) d x == b) s (n - i) i : Nat) : Int), rk, tn, iI n, iI R)
  | 0, i, s, _, h => absurd h (Nat.not_lt_zero _)
  | m + 1, i, s, hi, hm => by
    rw [fX7_from_L30]
    by_cases h : n ≤ i
    · rw [if_pos (by rw [iI_le (by omega) (by omega) (by omega) (by omega)]; omega)]
      have e : n - i = 0 := by omega
      rw [e]
      rfl
    · rw [if_neg (by rw [iI_le (by omega) (by omega) (by omega) (by omega)]; omega)]
      have e : n - i = (n - (i + 1)) + 1 := by omega
      have hlt : gon (go t T R n) d i < n := gon_lt (fun b hb => go_lt hb) d i (by omega)
      dsimp only
      rw [walk_iI hN hn hT hR hr hk hd (by omega), Option.bind_some, e, msk, iI_s]
      by_cases h2 : gon (go t T R n) d i = b
      · rw [if_pos (by rw [h2]), bitor (by omega), from_L hN hn hT hR hr hk hd hb m (i + 1) _ (by omega) (by omega), show (gon (go t T R n) d i == b) = true by simp [h2]]
        rfl
      · rw [if_neg (by rw [iI_eq (by omega) (by omega) (by omega) (by omega)]; omega), from_L hN hn hT hR hr hk hd hb m (i + 1) _ (by omega) (by omega), show (gon (go t T R n) d i == b) = false by simp [h2]]
        rfl
theorem from8_L {N n F R d b : Nat} {A B : Nat → Nat} {books nA nB now near : Nat → Int32} {p : Nat → Nat → Bool} (hN : 300 ≤ N) (hM : M8 n A B F R books nA nB now) (hp : nearIs p near) (hd : d ≤ 200) (hb : b < n) : ∀ (m i s : Nat), i ≤ n → n - i < m → fX8_from_L29 N books nA nB now (iI b) (iI d) near m (iI s) (iI i) = some (iI ((msk (fun x => gon (goP (tt A B F) p R n) d x == b) s (n - i) i : Nat) : Int), near)
  | 0, i, s, _, h => absurd h (Nat.not_lt_zero _)
  | m + 1, i, s, hi, hm => by
    have hn := hM.1
    rw [fX8_from_L29, t0, hM.2.2.2.1]
    by_cases h : n ≤ i
    · rw [if_pos (by rw [iI_le (by omega) (by omega) (by omega) (by omega)]; omega)]
      have e : n - i = 0 := by omega
      rw [e]
      rfl
    · rw [if_neg (by rw [iI_le (by omega) (by omega) (by omega) (by omega)]; omega)]
      have e : n - i = (n - (i + 1)) + 1 := by omega
      have hlt : gon (goP (tt A B F) p R n) d i < n := gon_lt (fun b hb => goP_lt hb) d i (by omega)
      rw [goesIn8_iI hN hM hp hd (by omega), Option.bind_some, e, msk, iI_s]
      by_cases h2 : gon (goP (tt A B F) p R n) d i = b
      · rw [if_pos (by rw [h2]), bitor (by omega), from8_L hN hM hp hd hb m (i + 1) _ (by omega) (by omega), show (gon (goP (tt A B F) p R n) d i == b) = true by simp [h2]]
        rfl
      · rw [if_neg (by rw [iI_eq (by omega) (by omega) (by omega) (by omega)]; omega), bitor0, from8_L hN hM hp hd hb m (i + 1) _ (by omega) (by omega), show (gon (goP (tt A B F) p R n) d i == b) = false by simp [h2]]
        rfl
theorem op_from {N : Nat} (hN : 40000 ≤ N) {a_text_bytes : Nat → Int32} {v_text_length : Int32} {a_told_a : Nat → Int32} {a_told_b : Nat → Int32} {v_told_size : Int32} {v_now_forgotten : Int32} {v_now_touches : Int32} {v_now_trapped : Int32} {v_now_one : Int32} {v_now_date : Int32} {a_history_steps : Nat → Int64} {v_history_known : Int32} {a_firstImage_history_steps : Nat → Int64} {v_firstImage_history_known : Int32} {v_firstImage_packed : Int64} {v_firstImage_kept : Int32} {a_secondImage_history_steps : Nat → Int64} {v_secondImage_history_known : Int32} {v_secondImage_packed : Int64} {v_secondImage_kept : Int32} {a_seen_days : Nat → Int32} {a_seen_books : Nat → Int32} {a_seen_there : Nat → Int32} {v_seen_size : Int32} {v_traced : Int64} {ma_text : Nat → Int32} {mv_typed : Int32} {ma_books : Nat → Int32} {ma_numberA : Nat → Int32} {ma_numberB : Nat → Int32} {ma_now : Nat → Int32} {ma_isKept : Nat → Int32} {ma_seenDays : Nat → Int32} {ma_seenBook : Nat → Int32} {ma_seenIs : Nat → Int32} {mv_seen : Int32} {mv_trace : Int64} (hI : Inv a_text_bytes v_text_length a_told_a a_told_b v_told_size v_now_forgotten v_now_touches v_now_trapped v_now_one v_now_date a_history_steps v_history_known a_firstImage_history_steps v_firstImage_history_known v_firstImage_packed v_firstImage_kept a_secondImage_history_steps v_secondImage_history_known v_secondImage_packed v_secondImage_kept a_seen_days a_seen_books a_seen_there v_seen_size v_traced ma_text mv_typed ma_books ma_numberA ma_numberB ma_now ma_isKept ma_seenDays ma_seenBook ma_seenIs mv_seen mv_trace) (a_ways_ranked : Nat → Int32) (a_ways_tens : Nat → Int32) (v_ways_size : Int32) (v_ways_trapped : Int32) (ma_near : Nat → Int32) (p1 : Int32) (p2 : Int32) : ∃ (q : (Int32 × (Nat → Int32) × (Nat → Int32) × Int32 × Int32)) (r : (Int32 × (Nat → Int32))), fX7_from N a_told_a a_told_b v_told_size v_now_forgotten v_now_touches v_now_trapped a_ways_ranked a_ways_tens v_ways_size v_ways_trapped p1 p2 = some q ∧ fX8_from N ma_books ma_numberA ma_numberB ma_now ma_near p1 p2 = some r ∧ q.1 = r.1 ∧ Inv a_text_bytes v_text_length a_told_a a_told_b v_told_size v_now_forgotten v_now_touches v_now_trapped v_now_one v_now_date a_history_steps v_history_known a_firstImage_history_steps v_firstImage_history_known v_firstImage_packed v_firstImage_kept a_secondImage_history_steps v_secondImage_history_known v_secondImage_packed v_secondImage_kept a_seen_days a_seen_books a_seen_there v_seen_size v_traced ma_text mv_typed ma_books ma_numberA ma_numberB ma_now ma_isKept ma_seenDays ma_seenBook ma_seenIs mv_seen mv_trace := by
  have hI0 := hI
  obtain ⟨n, A, B, S, h, k, hT, ⟨hn, rfl, hbk, hab, hab8⟩, hS, ⟨rfl, rfl, rfl, rfl, rfl, hR⟩, hH, hI1, hI2, hW, rfl⟩ := hI
  have hM : M8 n A B S.1 S.2.2.1 ma_books ma_numberA ma_numberB ma_now := M8_of (fo := 0) (tc := 0) (tr := 0) (on := 0) (da := 0) ⟨hn, rfl, hbk, hab, hab8⟩ hS hR
  obtain ⟨nr, nr1, nr2⟩ := takeNear_iI (N := N) (by omega) ma_now ma_near
  unfold fX7_from fX8_from
  rw [in_within, isBook8 hbk, nr1, Option.bind_some]
  rcases bookC hn p1 with hb | ⟨b, hb2, rfl, hb⟩
  · exact ⟨_, _, if_pos hb, if_pos hb, rfl, hI0⟩
  rw [if_neg hb, if_neg hb]
  rcases win p2 0 20 0 20 rfl rfl (by decide) (by decide) with hz | ⟨d, -, hd, rfl, hz⟩
  · exact ⟨_, _, if_pos hz, if_pos hz, rfl, hI0⟩
  rw [if_neg hz, if_neg hz]
  obtain ⟨rk', tn', r', w1, w2, w3⟩ := waysNow_iI (N := N) (R := S.2.2.1) (by omega) hn hS.1 hab a_ways_ranked a_ways_tens v_ways_size v_ways_trapped
  have e0 : (0 : Int32) = iI ((0 : Nat) : Int) := rfl
  rw [w1, Option.bind_some, e0, from_L (by omega) hn hS.2.1 hS.2.2.1 w3 w2 (by omega) hb2 N 0 0 (Nat.zero_le _) (by omega), from8_L (by omega) hM (near_of hR nr2) (by omega) hb2 N 0 0 (Nat.zero_le _) (by omega)]
  exact ⟨_, _, rfl, rfl, rfl, hI0⟩
end OPS3
