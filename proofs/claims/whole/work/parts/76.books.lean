/-! the public call books -/
section BOOKS
theorem plain_L {books : Nat → Int32} : ∀ (m i : Nat) (w : Nat → Int32), i ≤ 6 → 6 - i < m → (∀ x, x < i → w x = 0) → ∃ w', fX8_plain_L20 books m (iI (i : Int)) w = some (upd books 1 0, w', -9, 0) ∧ ∀ x, x < 6 → w' x = 0
  | 0, _, _, _, h, _ => absurd h (Nat.not_lt_zero _)
  | m + 1, i, w, hi, hm, hw => by
    rw [fX8_plain_L20, w1t]
    by_cases h : 6 ≤ i
    · rw [if_pos (by rw [iI_lit 6, iI_le (by decide) (by decide) (by omega) (by omega)]; show (6 : Int) ≤ i; omega)]
      exact ⟨w, rfl, fun x hx => hw x (by omega)⟩
    · rw [if_neg (by rw [iI_lit 6, iI_le (by decide) (by decide) (by omega) (by omega)]; show ¬ (6 : Int) ≤ i; omega), vg_iI (by omega) (by omega) (by omega), iI_clamp (by omega) (by omega), Int.toNat_natCast, iI_s]
      refine plain_L m (i + 1) _ (by omega) (by omega) (fun x hx => ?_)
      by_cases hxi : x = i
      · subst hxi
        exact pk_us
      · rw [pk_un hxi]
        exact hw x (by omega)
theorem copy_L {a b : Nat → Int32} {sz tc on : Int32} : ∀ (m i : Nat) (u v : Nat → Int32), i ≤ 6 → 6 - i < m → (∀ x, x < i → u x = a x ∧ v x = b x) → ∃ u' v', fX0_copyFrom_L2 a b sz tc on m (iI (i : Int)) u v = some (u', v', sz, tc, on) ∧ ∀ x, x < 6 → u' x = a x ∧ v' x = b x
  | 0, _, _, _, _, h, _ => absurd h (Nat.not_lt_zero _)
  | m + 1, i, u, v, hi, hm, hw => by
    rw [fX0_copyFrom_L2]
    by_cases h : 6 ≤ i
    · rw [if_pos (by rw [iI_lit 6, iI_le (by decide) (by decide) (by omega) (by omega)]; show (6 : Int) ≤ i; omega)]
      exact ⟨u, v, rfl, fun x hx => hw x (by omega)⟩
    · rw [if_neg (by rw [iI_lit 6, iI_le (by decide) (by decide) (by omega) (by omega)]; show ¬ (6 : Int) ≤ i; omega), vg_iI (by omega) (by omega) (by omega), vg_iI (by omega) (by omega) (by omega), vg_iI (by omega) (by omega) (by omega), vg_iI (by omega) (by omega) (by omega), iI_clamp (by omega) (by omega), Int.toNat_natCast, iI_s]
      refine copy_L m (i + 1) _ _ (by omega) (by omega) (fun x hx => ?_)
      by_cases hxi : x = i
      · subst hxi
        exact ⟨pk_us, pk_us⟩
      · rw [pk_un hxi, pk_un hxi]
        exact hw x (by omega)
theorem nar0 : vp_nar .boolean (0 : Int32) = 0 := by decide
theorem take_L35 {w6 w9 isK : Nat → Int32} {w10 : Int32} : ∀ (m i : Nat) (u v w : Nat → Int32), i ≤ 6 → 6 - i < m → ∃ u' v' w' k', fX8_takeDraft_L35 w6 w9 isK w10 m (iI (i : Int)) u v w = some (upd w6 0 (w6 1), u', v', upd (upd w' 13 w10) 15 0, k', 0) ∧ (∀ x, x < 6 → i ≤ x → u' x = u (6 + x) ∧ v' x = v (6 + x)) ∧ (∀ x, x < i → u' x = u x ∧ v' x = v x) ∧ (∀ x, w' x = if 6 + i ≤ x ∧ x < 12 then w9 (x - 6) else w x) ∧ k' 0 = 0 ∧ k' 1 = 0
  | 0, _, _, _, _, _, h => absurd h (Nat.not_lt_zero _)
  | m + 1, i, u, v, w, hi, hm => by
    rw [fX8_takeDraft_L35, w1t, t0, t13, t15, nar0]
    by_cases h : 6 ≤ i
    · rw [if_pos (by rw [iI_lit 6, iI_le (by decide) (by decide) (by omega) (by omega)]; show (6 : Int) ≤ i; omega)]
      exact ⟨u, v, w, _, rfl, fun x h1 h2 => by omega, fun x _ => ⟨rfl, rfl⟩, fun x => by rw [if_neg (by omega)], by rw [pk_un (by decide)]; exact pk_us, pk_us⟩
    · rw [if_neg (by rw [iI_lit 6, iI_le (by decide) (by decide) (by omega) (by omega)]; show ¬ (6 : Int) ≤ i; omega), v6]
      simp only [vg_iI (show (0 : Int) ≤ (i : Int) by omega) (show (i : Int) < ((12 : Nat) : Int) by omega) (by omega), vg_iI (show (0 : Int) ≤ (i : Int) by omega) (show (i : Int) < ((6 : Nat) : Int) by omega) (by omega), vg_iI (show (0 : Int) ≤ ((6 + i : Nat) : Int) by omega) (show ((6 + i : Nat) : Int) < ((12 : Nat) : Int) by omega) (by omega), vg_iI (show (0 : Int) ≤ ((6 + i : Nat) : Int) by omega) (show ((6 + i : Nat) : Int) < ((498 : Nat) : Int) by omega) (by omega), iI_clamp (show (0 : Int) ≤ (i : Int) by omega) (by omega), iI_clamp (show (0 : Int) ≤ ((6 + i : Nat) : Int) by omega) (by omega), Int.toNat_natCast, iI_s]
      obtain ⟨u', v', w', k', q1, q2, q3, q4, q5⟩ := take_L35 (w6 := w6) (w9 := w9) (isK := isK) (w10 := w10) m (i + 1) (upd u i (u (6 + i))) (upd v i (v (6 + i))) (upd w (6 + i) (w9 i)) (by omega) (by omega)
      refine ⟨u', v', w', k', q1, fun x h1 h2 => ?_, fun x h1 => ?_, fun x => ?_, q5⟩
      · by_cases hxi : x = i
        · subst hxi
          obtain ⟨a, b⟩ := q3 x (by omega)
          rw [a, b, pk_us, pk_us]
          exact ⟨rfl, rfl⟩
        · obtain ⟨a, b⟩ := q2 x h1 (by omega)
          rw [a, b, pk_un (by omega), pk_un (by omega)]
          exact ⟨rfl, rfl⟩
      · obtain ⟨a, b⟩ := q3 x (by omega)
        rw [a, b, pk_un (by omega), pk_un (by omega)]
        exact ⟨rfl, rfl⟩
      · rw [q4 x]
        by_cases hx : x = 6 + i
        · subst hx
          rw [if_neg (by omega), pk_us, if_pos (by omega), Nat.add_sub_cancel_left]
        · rw [pk_un hx]
          by_cases h2 : 6 + (i + 1) ≤ x ∧ x < 12
          · rw [if_pos h2, if_pos (by omega)]
          · rw [if_neg h2, if_neg (by omega)]
theorem take_L14 {N : Nat} {w6 w7 w8 w9 isK : Nat → Int32} {w10 : Int32} : ∀ (m i : Nat) (w : Nat → Int32), i ≤ 15 → 15 - i < m → ∃ w', fX8_takeDraft_L14 N w6 w7 w8 w9 isK w10 m (iI (i : Int)) w = fX8_takeDraft_L35 w6 w9 isK w10 N 0 w7 w8 w' ∧ ∀ x, w' x = if i ≤ x ∧ x < 15 then 0 else w x
  | 0, _, _, _, h => absurd h (Nat.not_lt_zero _)
  | m + 1, i, w, hi, hm => by
    rw [fX8_takeDraft_L14]
    by_cases h : 15 ≤ i
    · rw [if_pos (by rw [iI_lit 15, iI_le (by decide) (by decide) (by omega) (by omega)]; show (15 : Int) ≤ i; omega)]
      exact ⟨w, rfl, fun x => by rw [if_neg (by omega)]⟩
    · rw [if_neg (by rw [iI_lit 15, iI_le (by decide) (by decide) (by omega) (by omega)]; show ¬ (15 : Int) ≤ i; omega), vg_iI (by omega) (by omega) (by omega), iI_clamp (by omega) (by omega), Int.toNat_natCast, iI_s]
      obtain ⟨w', q1, q2⟩ := take_L14 (N := N) (w6 := w6) (w7 := w7) (w8 := w8) (w9 := w9) (isK := isK) (w10 := w10) m (i + 1) (upd w i 0) (by omega) (by omega)
      refine ⟨w', q1, fun x => ?_⟩
      rw [q2 x]
      by_cases hx : x = i
      · subst hx
        rw [if_neg (by omega), pk_us, if_pos (by omega)]
      · rw [pk_un hx]
        by_cases h2 : i + 1 ≤ x ∧ x < 15
        · rw [if_pos h2, if_pos (by omega)]
        · rw [if_neg h2, if_neg (by omega)]
theorem take_iI {N n : Nat} {b0 : Int32} {x7 x8 : Nat → Int32} {A B : Nat → Nat} {T : Nat} {o : Int} {a b w6 w7 w8 w9 : Nat → Int32} {w10 w11 : Int32} (hN : 300 ≤ N) (hD : DR b0 x7 x8 n A B T o a b w6 w7 w8 w9 w10 w11) (now isK : Nat → Int32) (sn : Int32) :
    ∃ u v w k, fX8_takeDraft N w6 w7 w8 w9 now isK w10 sn = some (upd w6 0 (w6 1), u, v, w, k, 0) ∧ rowsAt n A B u v ∧ (∀ j, j < 15 → w j = rowS (0, T, 0, o, 0) j) ∧ w 15 = 0 ∧ k 0 = 0 ∧ k 1 = 0 := by
  obtain ⟨h1, h2, h3, h4, h5, ⟨h6, h6'⟩, h7, h8, h9, h10, h11⟩ := hD
  obtain ⟨w1, q1, q2⟩ := take_L14 (N := N) (w6 := w6) (w7 := w7) (w8 := w8) (w9 := w9) (isK := isK) (w10 := w10) N 0 now (Nat.zero_le _) (by omega)
  obtain ⟨u, v, w', k', p1, p2, p3, p4, p5, p6⟩ := take_L35 (w6 := w6) (w9 := w9) (isK := isK) (w10 := w10) N 0 w7 w8 w1 (Nat.zero_le _) (by omega)
  have p1' : fX8_takeDraft_L35 w6 w9 isK w10 N 0 w7 w8 w1 = _ := p1
  refine ⟨u, v, _, k', (show fX8_takeDraft N w6 w7 w8 w9 now isK w10 sn = _ from q1).trans p1', fun i hi => ?_, fun j hj => ?_, pk_us, p5, p6⟩
  · obtain ⟨a1, a2⟩ := p2 i (by omega) (Nat.zero_le _)
    obtain ⟨c1, c2⟩ := h8 i hi
    obtain ⟨d1, d2, -, -⟩ := h2 i hi
    exact ⟨d1, d2, by rw [a1, c1], by rw [a2, c2]⟩
  · rw [pk_un (by omega)]
    by_cases h13 : j = 13
    · subst h13
      rw [pk_us, rowS_13]
      exact h10
    · rw [pk_un h13, p4 j]
      by_cases h12 : j < 12
      · by_cases h6j : 6 ≤ j
        · rw [if_pos (by omega), h9 (j - 6) (by omega)]
          unfold rowS
          rw [if_neg (by omega), if_pos h12]
        · rw [if_neg (by omega), q2 j, if_pos (by omega)]
          unfold rowS
          rw [if_pos (by omega)]
          have : fg 0 j = 0 := by
            unfold fg
            rw [Nat.zero_div]
          rw [this]
          rfl
      · rw [if_neg (by omega), q2 j, if_pos (by omega)]
        have hc : j = 12 ∨ j = 14 := by omega
        rcases hc with rfl | rfl
        · rfl
        · rfl
theorem op_books {N : Nat} (hN : 40000 ≤ N) {a_text_bytes : Nat → Int32} {v_text_length : Int32} {a_told_a : Nat → Int32} {a_told_b : Nat → Int32} {v_told_size : Int32} {v_now_forgotten : Int32} {v_now_touches : Int32} {v_now_trapped : Int32} {v_now_one : Int32} {v_now_date : Int32} {a_history_steps : Nat → Int64} {v_history_known : Int32} {a_firstImage_history_steps : Nat → Int64} {v_firstImage_history_known : Int32} {v_firstImage_packed : Int64} {v_firstImage_kept : Int32} {a_secondImage_history_steps : Nat → Int64} {v_secondImage_history_known : Int32} {v_secondImage_packed : Int64} {v_secondImage_kept : Int32} {a_seen_days : Nat → Int32} {a_seen_books : Nat → Int32} {a_seen_there : Nat → Int32} {v_seen_size : Int32} {v_traced : Int64} {ma_text : Nat → Int32} {mv_typed : Int32} {ma_books : Nat → Int32} {ma_numberA : Nat → Int32} {ma_numberB : Nat → Int32} {ma_now : Nat → Int32} {ma_isKept : Nat → Int32} {ma_seenDays : Nat → Int32} {ma_seenBook : Nat → Int32} {ma_seenIs : Nat → Int32} {mv_seen : Int32} {mv_trace : Int64} (hI : Inv a_text_bytes v_text_length a_told_a a_told_b v_told_size v_now_forgotten v_now_touches v_now_trapped v_now_one v_now_date a_history_steps v_history_known a_firstImage_history_steps v_firstImage_history_known v_firstImage_packed v_firstImage_kept a_secondImage_history_steps v_secondImage_history_known v_secondImage_packed v_secondImage_kept a_seen_days a_seen_books a_seen_there v_seen_size v_traced ma_text mv_typed ma_books ma_numberA ma_numberB ma_now ma_isKept ma_seenDays ma_seenBook ma_seenIs mv_seen mv_trace) (v_text_place : Int32) (v_text_token : Int32) (v_text_begin : Int32) (v_text_value : Int32) (a_draft_a : Nat → Int32) (a_draft_b : Nat → Int32) (v_draft_size : Int32) (v_draft_touches : Int32) (v_draft_one : Int32) (v_told_touches : Int32) (v_told_one : Int32) (ma_draftTouches : Nat → Int32) (mv_draftOne : Int32) (mv_oneTold : Int32) (mv_at : Int32) (mv_start : Int32) (mv_sort : Int32) (mv_value : Int32) (mv_fault : Int32) : ∃ (q : (Int32 × Int32 × Int32 × Int32 × Int32 × Int32 × (Nat → Int32) × (Nat → Int32) × Int32 × Int32 × Int32 × (Nat → Int32) × (Nat → Int32) × Int32 × Int32 × Int32 × Int32 × Int32 × Int32 × Int32 × Int32 × Int32 × Int32 × Int32 × Int32)) (r : (Int32 × (Nat → Int32) × (Nat → Int32) × (Nat → Int32) × (Nat → Int32) × (Nat → Int32) × (Nat → Int32) × Int32 × Int32 × Int32 × Int32 × Int32 × Int32 × Int32 × Int32 × Int32)), fX7_books N a_text_bytes v_text_length v_text_place v_text_token v_text_begin v_text_value a_draft_a a_draft_b v_draft_size v_draft_touches v_draft_one a_told_a a_told_b v_told_size v_told_touches v_told_one v_now_forgotten v_now_touches v_now_trapped v_now_one v_now_date v_history_known v_firstImage_kept v_secondImage_kept v_seen_size = some q ∧ fX8_books N ma_text ma_books ma_numberA ma_numberB ma_draftTouches ma_now ma_isKept mv_typed mv_draftOne mv_oneTold mv_at mv_start mv_sort mv_value mv_fault mv_seen = some r ∧ q.1 = r.1 ∧ Inv a_text_bytes q.2.1 q.2.2.2.2.2.2.2.2.2.2.2.1 q.2.2.2.2.2.2.2.2.2.2.2.2.1 q.2.2.2.2.2.2.2.2.2.2.2.2.2.1 q.2.2.2.2.2.2.2.2.2.2.2.2.2.2.2.2.1 q.2.2.2.2.2.2.2.2.2.2.2.2.2.2.2.2.2.1 q.2.2.2.2.2.2.2.2.2.2.2.2.2.2.2.2.2.2.1 q.2.2.2.2.2.2.2.2.2.2.2.2.2.2.2.2.2.2.2.1 q.2.2.2.2.2.2.2.2.2.2.2.2.2.2.2.2.2.2.2.2.1 a_history_steps q.2.2.2.2.2.2.2.2.2.2.2.2.2.2.2.2.2.2.2.2.2.1 a_firstImage_history_steps v_firstImage_history_known v_firstImage_packed q.2.2.2.2.2.2.2.2.2.2.2.2.2.2.2.2.2.2.2.2.2.2.1 a_secondImage_history_steps v_secondImage_history_known v_secondImage_packed q.2.2.2.2.2.2.2.2.2.2.2.2.2.2.2.2.2.2.2.2.2.2.2.1 a_seen_days a_seen_books a_seen_there q.2.2.2.2.2.2.2.2.2.2.2.2.2.2.2.2.2.2.2.2.2.2.2.2 v_traced ma_text r.2.2.2.2.2.2.2.1 r.2.1 r.2.2.1 r.2.2.2.1 r.2.2.2.2.2.1 r.2.2.2.2.2.2.1 ma_seenDays ma_seenBook ma_seenIs r.2.2.2.2.2.2.2.2.2.2.2.2.2.2.2 mv_trace := by
  obtain ⟨n, A, B, S, h, k, hT, ⟨hn, rfl, hbk, hab, hab8⟩, hS, ⟨rfl, rfl, rfl, rfl, rfl, hR⟩, hH, hI1, hI2, hW, rfl⟩ := hI
  have hTs := hT
  obtain ⟨L, c, hL, rfl, rfl, hc⟩ := hT
  have hx : TX L c a_text_bytes ma_text := ⟨hL, hc⟩
  have e0 : (0 : Int32) = iI ((0 : Nat) : Int) := rfl
  obtain ⟨wd, pl1, pl2⟩ := plain_L (books := ma_books) N 0 ma_draftTouches (Nat.zero_le _) (by omega) (fun x h => absurd h (Nat.not_lt_zero _))
  rw [← e0] at pl1
  obtain ⟨a1, s1, o1, v1, st1, st2⟩ := mdlStep (N := N) (by omega) hx (Nat.zero_le L) mv_start mv_sort mv_value
  rw [← e0] at st1
  have hD0 : DR (ma_books 0) ma_numberA ma_numberB 0 (fun _ => 0) (fun _ => 0) 0 (-9) a_draft_a a_draft_b (upd ma_books 1 0) ma_numberA ma_numberB wd (-9) 0 := by
    refine ⟨by decide, fun i hi => absurd hi (Nat.not_lt_zero _), by decide, fun x y _ _ hq => by simp [nbr] at hq, Or.inl rfl, ⟨pk_un (by decide), fun i _ => ⟨rfl, rfl⟩⟩, pk_us, fun i hi => absurd hi (Nat.not_lt_zero _), fun x hx => ?_, rfl, rfl⟩
    rw [pl2 x hx]
    have : mk6 (nbr 0 x) = 0 := by
      rw [mk6_congr (q := fun _ => false) (fun o _ => by simp [nbr])]
      rfl
    rw [this]
    rfl
  have hP := parse_L (N := N) (now := ma_now) (isK := ma_isKept) (sn := mv_seen) (by omega) hx N N 0 0 0 _ _ 0 (-9) a_draft_a a_draft_b (upd ma_books 1 0) ma_numberA ma_numberB wd (-9) 0 a1 s1 o1 v1 v_text_token v_text_begin v_text_value (Nat.zero_le _) (by omega) (by omega) (Nat.le_refl _) hD0 st2
  unfold fX7_books fX8_books fX8_plain fX5_readItems fX0_empty
  rw [pl1, Option.bind_some]
  dsimp only
  rw [st1, Option.bind_some]
  dsimp only
  rw [← e0] at hP
  have e9 : iI (-9) = (-9 : Int32) := rfl
  rw [e9] at hP
  rcases hP with ⟨x, n', A', B', T', o', a, b, w6, w7, w8, w9, w10, w11, p, t, bg, v, y12, y13, y14, y15, hx150, h7, h8, hD⟩ | ⟨s, a, b, w6, w7, w8, w9, x8', w10, w11, p, t, v, z8, z9, z10, y12, y13, y14, y15, hs, h7, h8, hF⟩
  · rw [h7, h8, Option.bind_some]
    dsimp only
    obtain ⟨u', v', cp1, cp2⟩ := copy_L (a := a) (b := b) (sz := iI (n' : Int)) (tc := iI (T' : Int)) (on := iI o') N 0 a_told_a a_told_b (Nat.zero_le _) (by omega) (fun x h => absurd h (Nat.not_lt_zero _))
    rw [← e0] at cp1
    obtain ⟨u8, v8, w8', k8, tk1, tk2, tk3, tk4, tk5, tk6⟩ := take_iI (N := N) (by omega) hD ma_now ma_isKept mv_seen
    unfold fX0_copyFrom fX8_books_J91
    rw [if_pos (by rw [iI_lit 0, iI_le (by decide) (by decide) (by omega) (by omega)]; show (0 : Int) ≤ x; omega), cp1, Option.bind_some, if_pos rfl, tk1, Option.bind_some]
    obtain ⟨h1, h2, h3, h4, h5, h6, h7', h8', h9, h10, h11⟩ := hD
    refine ⟨_, _, rfl, rfl, rfl, n', A', B', (0, T', 0, o', 0), h, 0, ⟨0, c, by decide, rfl, rfl, fun i hi => absurd hi (Nat.not_lt_zero _)⟩, ⟨h1, rfl, ?_, fun i hi => ?_, tk2⟩, ⟨show (0 : Nat) < 4096 by decide, h3, show (0 : Nat) < 64 by decide, h5, show (0 : Nat) ≤ 999 by decide, h4⟩, ⟨rfl, rfl, rfl, rfl, rfl, tk3⟩, ⟨by decide, rfl, tk4, fun i hi => absurd hi (Nat.not_lt_zero _)⟩, ⟨tk5.symm, Or.inl rfl⟩, ⟨tk6.symm, Or.inl rfl⟩, ⟨0, fun _ => 0, fun _ => 0, fun _ => 0, by decide, rfl, rfl, fun i hi => absurd hi (Nat.not_lt_zero _)⟩, rfl⟩
    · dsimp only
      rw [pk_us, h7']
    · obtain ⟨d1, d2, d3, d4⟩ := h2 i hi
      obtain ⟨c1, c2⟩ := cp2 i (by omega)
      exact ⟨d1, d2, by rw [← d3]; exact c1, by rw [← d4]; exact c2⟩
  · rw [h7, h8, Option.bind_some]
    dsimp only
    unfold fX8_books_J91
    rw [if_neg (by decide), if_neg (m9_nat (by omega))]
    refine ⟨_, _, rfl, rfl, rfl, n, A, B, S, h, k, hTs, ⟨hn, rfl, hF.1.trans hbk, hab, fun i hi => ?_⟩, hS, ⟨rfl, rfl, rfl, rfl, rfl, hR⟩, hH, hI1, hI2, hW, rfl⟩
    obtain ⟨d1, d2, d3, d4⟩ := hab8 i hi
    obtain ⟨c1, c2⟩ := hF.2 i (by omega)
    exact ⟨d1, d2, c1.trans d3, c2.trans d4⟩
end BOOKS
