/-! the public calls: the small ones -/
section OPS1
theorem win (p lo hi : Int32) (l h : Nat) (el : lo = iI l) (eh : hi = iI h) (hl : l < 1000000) (hh : h < 1000000) : fX7_within p lo hi = 0 ∨ ∃ k : Nat, l ≤ k ∧ k ≤ h ∧ p = iI k ∧ ¬ fX7_within p lo hi = 0 := by
  subst el
  subst eh
  obtain ⟨k, h1, h2, rfl⟩ := iI_ex p
  have e := within_0 (a := k) (b := l) (c := h) h1 h2 (by omega) (by omega) (by omega) (by omega)
  by_cases hk : (l : Int) ≤ k ∧ k ≤ h
  · refine Or.inr ⟨k.toNat, by omega, by omega, by congr 1; omega, fun q => (e.mp q) hk⟩
  · exact Or.inl (e.mpr hk)
theorem bookC {n : Nat} (hn : n ≤ 6) (p : Int32) : fX7_isBook (iI n) p = 0 ∨ ∃ b : Nat, b < n ∧ p = iI b ∧ ¬ fX7_isBook (iI n) p = 0 := by
  unfold fX7_isBook
  obtain ⟨k, h1, h2, rfl⟩ := iI_ex p
  have e1 : iI (n : Int) - (1 : Int32) = iI ((n : Int) - 1) := by rw [iI_lit, iI_sub] <;> rfl
  have e0 : (0 : Int32) = iI 0 := rfl
  rw [e1, e0]
  have e := within_0 (a := k) (b := 0) (c := (n : Int) - 1) h1 h2 (by decide) (by decide) (by omega) (by omega)
  by_cases hk : 0 ≤ k ∧ k ≤ (n : Int) - 1
  · refine Or.inr ⟨k.toNat, by omega, by congr 1; omega, fun q => (e.mp q) hk⟩
  · exact Or.inl (e.mpr hk)
theorem isBook_of {n b : Nat} (hn : n ≤ 6) (hb : b < n) : ¬ fX7_isBook (iI n) (iI b) = 0 := by
  rcases bookC hn (iI (b : Int)) with h | ⟨b', h1, h2, h3⟩
  · unfold fX7_isBook at h
    have e1 : iI (n : Int) - (1 : Int32) = iI ((n : Int) - 1) := by rw [iI_lit, iI_sub] <;> rfl
    have e0 : (0 : Int32) = iI 0 := rfl
    rw [e1, e0] at h
    exact absurd (show (0 : Int) ≤ b ∧ (b : Int) ≤ (n : Int) - 1 by omega) ((within_0 (by omega) (by omega) (by decide) (by decide) (by omega) (by omega)).mp h)
  · exact h3
theorem isBook_no {n : Nat} (hn : n ≤ 6) : fX7_isBook (iI n) (iI (-9)) = 0 := by
  unfold fX7_isBook
  have e1 : iI (n : Int) - (1 : Int32) = iI ((n : Int) - 1) := by rw [iI_lit, iI_sub] <;> rfl
  have e0 : (0 : Int32) = iI 0 := rfl
  rw [e1, e0]
  exact (within_0 (by decide) (by decide) (by decide) (by decide) (by omega) (by omega)).mpr (by omega)
theorem isBook8 {n : Nat} {books : Nat → Int32} (h : books 0 = iI n) (p : Int32) : fX8_isBook books p = fX7_isBook (iI n) p := by
  unfold fX8_isBook fX7_isBook
  rw [t0, h]
  rfl
theorem z1 : ¬ (1 : Int32) = 0 := by decide
theorem one_cases {n : Nat} {S : NS} (hS : wfS n S) : S.2.2.2.1 = -9 ∨ ∃ s : Nat, s < n ∧ S.2.2.2.1 = s := by
  rcases hS.2.2.2.1 with h | ⟨h1, h2⟩
  · exact Or.inl h
  · exact Or.inr ⟨S.2.2.2.1.toNat, by omega, by omega⟩
theorem op_type {N : Nat} (hN : 40000 ≤ N) {a_text_bytes : Nat → Int32} {v_text_length : Int32} {a_told_a : Nat → Int32} {a_told_b : Nat → Int32} {v_told_size : Int32} {v_now_forgotten : Int32} {v_now_touches : Int32} {v_now_trapped : Int32} {v_now_one : Int32} {v_now_date : Int32} {a_history_steps : Nat → Int64} {v_history_known : Int32} {a_firstImage_history_steps : Nat → Int64} {v_firstImage_history_known : Int32} {v_firstImage_packed : Int64} {v_firstImage_kept : Int32} {a_secondImage_history_steps : Nat → Int64} {v_secondImage_history_known : Int32} {v_secondImage_packed : Int64} {v_secondImage_kept : Int32} {a_seen_days : Nat → Int32} {a_seen_books : Nat → Int32} {a_seen_there : Nat → Int32} {v_seen_size : Int32} {v_traced : Int64} {ma_text : Nat → Int32} {mv_typed : Int32} {ma_books : Nat → Int32} {ma_numberA : Nat → Int32} {ma_numberB : Nat → Int32} {ma_now : Nat → Int32} {ma_isKept : Nat → Int32} {ma_seenDays : Nat → Int32} {ma_seenBook : Nat → Int32} {ma_seenIs : Nat → Int32} {mv_seen : Int32} {mv_trace : Int64} (hI : Inv a_text_bytes v_text_length a_told_a a_told_b v_told_size v_now_forgotten v_now_touches v_now_trapped v_now_one v_now_date a_history_steps v_history_known a_firstImage_history_steps v_firstImage_history_known v_firstImage_packed v_firstImage_kept a_secondImage_history_steps v_secondImage_history_known v_secondImage_packed v_secondImage_kept a_seen_days a_seen_books a_seen_there v_seen_size v_traced ma_text mv_typed ma_books ma_numberA ma_numberB ma_now ma_isKept ma_seenDays ma_seenBook ma_seenIs mv_seen mv_trace) (p1 : Int32) : ∃ (q : (Int32 × (Nat → Int32) × Int32)) (r : (Int32 × (Nat → Int32) × Int32)), fX7_type a_text_bytes v_text_length p1 = some q ∧ fX8_type ma_text mv_typed p1 = some r ∧ q.1 = r.1 ∧ Inv q.2.1 q.2.2 a_told_a a_told_b v_told_size v_now_forgotten v_now_touches v_now_trapped v_now_one v_now_date a_history_steps v_history_known a_firstImage_history_steps v_firstImage_history_known v_firstImage_packed v_firstImage_kept a_secondImage_history_steps v_secondImage_history_known v_secondImage_packed v_secondImage_kept a_seen_days a_seen_books a_seen_there v_seen_size v_traced r.2.1 r.2.2 ma_books ma_numberA ma_numberB ma_now ma_isKept ma_seenDays ma_seenBook ma_seenIs mv_seen mv_trace := by
  obtain ⟨n, A, B, S, h, k, ⟨L, c, hL, rfl, rfl, hc⟩, hI⟩ := hI
  unfold fX7_type fX8_type
  rw [in_within]
  rcases win p1 0 255 0 255 rfl rfl (by decide) (by decide) with hz | ⟨k1, -, hk, rfl, hz⟩
  · exact ⟨_, _, if_pos hz, if_pos hz, rfl, n, A, B, S, h, k, ⟨L, c, hL, rfl, rfl, hc⟩, hI⟩
  · rw [if_neg hz, if_neg hz]
    unfold fX5_append
    by_cases hL2 : L = 150
    · subst hL2
      rw [if_neg (by decide), if_pos (by decide)]
      exact ⟨_, _, rfl, rfl, rfl, n, A, B, S, h, k, ⟨150, c, hL, rfl, rfl, hc⟩, hI⟩
    · rw [if_pos (by rw [iI_lit 150, iI_lt (by omega) (by omega) (by decide) (by decide)]; show (L : Int) < 150; omega)]
      rw [if_neg (by rw [iI_lit 150, iI_eq (by omega) (by omega) (by decide) (by decide)]; show ¬ (L : Int) = 150; omega)]
      rw [vg_iI (by omega) (by omega) (by omega), vg_iI (by omega) (by omega) (by omega), iI_clamp (by omega) (by omega), Int.toNat_natCast, Option.bind_some, if_neg z1, pk_vb]
      have e1 : iI (L : Int) + (1 : Int32) = iI ((L + 1 : Nat) : Int) := iI_s L
      rw [e1]
      refine ⟨_, _, rfl, rfl, rfl, n, A, B, S, h, k, ⟨L + 1, fun i => if i = L then k1 else c i, by omega, rfl, rfl, fun i hi => ?_⟩, hI⟩
      by_cases hi2 : i = L
      · subst hi2
        dsimp only
        rw [if_pos rfl, pk_us, pk_us]
        exact ⟨by omega, rfl, rfl⟩
      · dsimp only
        rw [if_neg hi2, pk_un hi2, pk_un hi2]
        exact hc i (by omega)
theorem op_clear {N : Nat} (hN : 40000 ≤ N) {a_text_bytes : Nat → Int32} {v_text_length : Int32} {a_told_a : Nat → Int32} {a_told_b : Nat → Int32} {v_told_size : Int32} {v_now_forgotten : Int32} {v_now_touches : Int32} {v_now_trapped : Int32} {v_now_one : Int32} {v_now_date : Int32} {a_history_steps : Nat → Int64} {v_history_known : Int32} {a_firstImage_history_steps : Nat → Int64} {v_firstImage_history_known : Int32} {v_firstImage_packed : Int64} {v_firstImage_kept : Int32} {a_secondImage_history_steps : Nat → Int64} {v_secondImage_history_known : Int32} {v_secondImage_packed : Int64} {v_secondImage_kept : Int32} {a_seen_days : Nat → Int32} {a_seen_books : Nat → Int32} {a_seen_there : Nat → Int32} {v_seen_size : Int32} {v_traced : Int64} {ma_text : Nat → Int32} {mv_typed : Int32} {ma_books : Nat → Int32} {ma_numberA : Nat → Int32} {ma_numberB : Nat → Int32} {ma_now : Nat → Int32} {ma_isKept : Nat → Int32} {ma_seenDays : Nat → Int32} {ma_seenBook : Nat → Int32} {ma_seenIs : Nat → Int32} {mv_seen : Int32} {mv_trace : Int64} (hI : Inv a_text_bytes v_text_length a_told_a a_told_b v_told_size v_now_forgotten v_now_touches v_now_trapped v_now_one v_now_date a_history_steps v_history_known a_firstImage_history_steps v_firstImage_history_known v_firstImage_packed v_firstImage_kept a_secondImage_history_steps v_secondImage_history_known v_secondImage_packed v_secondImage_kept a_seen_days a_seen_books a_seen_there v_seen_size v_traced ma_text mv_typed ma_books ma_numberA ma_numberB ma_now ma_isKept ma_seenDays ma_seenBook ma_seenIs mv_seen mv_trace) : ∃ (q : (Int32 × Int32)) (r : (Int32 × Int32)), fX7_clear v_text_length = q ∧ fX8_clear mv_typed = r ∧ q.1 = r.1 ∧ Inv a_text_bytes q.2 a_told_a a_told_b v_told_size v_now_forgotten v_now_touches v_now_trapped v_now_one v_now_date a_history_steps v_history_known a_firstImage_history_steps v_firstImage_history_known v_firstImage_packed v_firstImage_kept a_secondImage_history_steps v_secondImage_history_known v_secondImage_packed v_secondImage_kept a_seen_days a_seen_books a_seen_there v_seen_size v_traced ma_text r.2 ma_books ma_numberA ma_numberB ma_now ma_isKept ma_seenDays ma_seenBook ma_seenIs mv_seen mv_trace := by
  obtain ⟨n, A, B, S, h, k, ⟨L, c, hL, rfl, rfl, hc⟩, hI⟩ := hI
  exact ⟨_, _, rfl, rfl, rfl, n, A, B, S, h, k, ⟨0, c, by omega, rfl, rfl, fun i hi => absurd hi (Nat.not_lt_zero _)⟩, hI⟩
theorem op_trace {N : Nat} (hN : 40000 ≤ N) {a_text_bytes : Nat → Int32} {v_text_length : Int32} {a_told_a : Nat → Int32} {a_told_b : Nat → Int32} {v_told_size : Int32} {v_now_forgotten : Int32} {v_now_touches : Int32} {v_now_trapped : Int32} {v_now_one : Int32} {v_now_date : Int32} {a_history_steps : Nat → Int64} {v_history_known : Int32} {a_firstImage_history_steps : Nat → Int64} {v_firstImage_history_known : Int32} {v_firstImage_packed : Int64} {v_firstImage_kept : Int32} {a_secondImage_history_steps : Nat → Int64} {v_secondImage_history_known : Int32} {v_secondImage_packed : Int64} {v_secondImage_kept : Int32} {a_seen_days : Nat → Int32} {a_seen_books : Nat → Int32} {a_seen_there : Nat → Int32} {v_seen_size : Int32} {v_traced : Int64} {ma_text : Nat → Int32} {mv_typed : Int32} {ma_books : Nat → Int32} {ma_numberA : Nat → Int32} {ma_numberB : Nat → Int32} {ma_now : Nat → Int32} {ma_isKept : Nat → Int32} {ma_seenDays : Nat → Int32} {ma_seenBook : Nat → Int32} {ma_seenIs : Nat → Int32} {mv_seen : Int32} {mv_trace : Int64} (hI : Inv a_text_bytes v_text_length a_told_a a_told_b v_told_size v_now_forgotten v_now_touches v_now_trapped v_now_one v_now_date a_history_steps v_history_known a_firstImage_history_steps v_firstImage_history_known v_firstImage_packed v_firstImage_kept a_secondImage_history_steps v_secondImage_history_known v_secondImage_packed v_secondImage_kept a_seen_days a_seen_books a_seen_there v_seen_size v_traced ma_text mv_typed ma_books ma_numberA ma_numberB ma_now ma_isKept ma_seenDays ma_seenBook ma_seenIs mv_seen mv_trace) : ∃ (q : Int64) (r : Int64), fX7_trace v_traced = q ∧ fX8_trace mv_trace = r ∧ q = r ∧ Inv a_text_bytes v_text_length a_told_a a_told_b v_told_size v_now_forgotten v_now_touches v_now_trapped v_now_one v_now_date a_history_steps v_history_known a_firstImage_history_steps v_firstImage_history_known v_firstImage_packed v_firstImage_kept a_secondImage_history_steps v_secondImage_history_known v_secondImage_packed v_secondImage_kept a_seen_days a_seen_books a_seen_there v_seen_size v_traced ma_text mv_typed ma_books ma_numberA ma_numberB ma_now ma_isKept ma_seenDays ma_seenBook ma_seenIs mv_seen mv_trace := by
  obtain ⟨n, A, B, S, h, k, hT, hB, hS, hNw, hH, hI1, hI2, hW, rfl⟩ := hI
  exact ⟨_, _, rfl, rfl, rfl, n, A, B, S, h, k, hT, hB, hS, hNw, hH, hI1, hI2, hW, rfl⟩
theorem op_forget {N : Nat} (hN : 40000 ≤ N) {a_text_bytes : Nat → Int32} {v_text_length : Int32} {a_told_a : Nat → Int32} {a_told_b : Nat → Int32} {v_told_size : Int32} {v_now_forgotten : Int32} {v_now_touches : Int32} {v_now_trapped : Int32} {v_now_one : Int32} {v_now_date : Int32} {a_history_steps : Nat → Int64} {v_history_known : Int32} {a_firstImage_history_steps : Nat → Int64} {v_firstImage_history_known : Int32} {v_firstImage_packed : Int64} {v_firstImage_kept : Int32} {a_secondImage_history_steps : Nat → Int64} {v_secondImage_history_known : Int32} {v_secondImage_packed : Int64} {v_secondImage_kept : Int32} {a_seen_days : Nat → Int32} {a_seen_books : Nat → Int32} {a_seen_there : Nat → Int32} {v_seen_size : Int32} {v_traced : Int64} {ma_text : Nat → Int32} {mv_typed : Int32} {ma_books : Nat → Int32} {ma_numberA : Nat → Int32} {ma_numberB : Nat → Int32} {ma_now : Nat → Int32} {ma_isKept : Nat → Int32} {ma_seenDays : Nat → Int32} {ma_seenBook : Nat → Int32} {ma_seenIs : Nat → Int32} {mv_seen : Int32} {mv_trace : Int64} (hI : Inv a_text_bytes v_text_length a_told_a a_told_b v_told_size v_now_forgotten v_now_touches v_now_trapped v_now_one v_now_date a_history_steps v_history_known a_firstImage_history_steps v_firstImage_history_known v_firstImage_packed v_firstImage_kept a_secondImage_history_steps v_secondImage_history_known v_secondImage_packed v_secondImage_kept a_seen_days a_seen_books a_seen_there v_seen_size v_traced ma_text mv_typed ma_books ma_numberA ma_numberB ma_now ma_isKept ma_seenDays ma_seenBook ma_seenIs mv_seen mv_trace) : ∃ (q : (Int32 × Int32)) (r : (Int32 × Int32)), fX7_forget v_seen_size = q ∧ fX8_forget mv_seen = r ∧ q.1 = r.1 ∧ Inv a_text_bytes v_text_length a_told_a a_told_b v_told_size v_now_forgotten v_now_touches v_now_trapped v_now_one v_now_date a_history_steps v_history_known a_firstImage_history_steps v_firstImage_history_known v_firstImage_packed v_firstImage_kept a_secondImage_history_steps v_secondImage_history_known v_secondImage_packed v_secondImage_kept a_seen_days a_seen_books a_seen_there q.2 v_traced ma_text mv_typed ma_books ma_numberA ma_numberB ma_now ma_isKept ma_seenDays ma_seenBook ma_seenIs r.2 mv_trace := by
  obtain ⟨n, A, B, S, h, k, hT, hB, hS, hNw, hH, hI1, hI2, ⟨w, d, b, z, hw, rfl, rfl, hx⟩, rfl⟩ := hI
  exact ⟨_, _, rfl, rfl, rfl, n, A, B, S, h, k, hT, hB, hS, hNw, hH, hI1, hI2, ⟨0, d, b, z, by omega, rfl, rfl, fun i hi => absurd hi (Nat.not_lt_zero _)⟩, rfl⟩
theorem op_count {N : Nat} (hN : 40000 ≤ N) {a_text_bytes : Nat → Int32} {v_text_length : Int32} {a_told_a : Nat → Int32} {a_told_b : Nat → Int32} {v_told_size : Int32} {v_now_forgotten : Int32} {v_now_touches : Int32} {v_now_trapped : Int32} {v_now_one : Int32} {v_now_date : Int32} {a_history_steps : Nat → Int64} {v_history_known : Int32} {a_firstImage_history_steps : Nat → Int64} {v_firstImage_history_known : Int32} {v_firstImage_packed : Int64} {v_firstImage_kept : Int32} {a_secondImage_history_steps : Nat → Int64} {v_secondImage_history_known : Int32} {v_secondImage_packed : Int64} {v_secondImage_kept : Int32} {a_seen_days : Nat → Int32} {a_seen_books : Nat → Int32} {a_seen_there : Nat → Int32} {v_seen_size : Int32} {v_traced : Int64} {ma_text : Nat → Int32} {mv_typed : Int32} {ma_books : Nat → Int32} {ma_numberA : Nat → Int32} {ma_numberB : Nat → Int32} {ma_now : Nat → Int32} {ma_isKept : Nat → Int32} {ma_seenDays : Nat → Int32} {ma_seenBook : Nat → Int32} {ma_seenIs : Nat → Int32} {mv_seen : Int32} {mv_trace : Int64} (hI : Inv a_text_bytes v_text_length a_told_a a_told_b v_told_size v_now_forgotten v_now_touches v_now_trapped v_now_one v_now_date a_history_steps v_history_known a_firstImage_history_steps v_firstImage_history_known v_firstImage_packed v_firstImage_kept a_secondImage_history_steps v_secondImage_history_known v_secondImage_packed v_secondImage_kept a_seen_days a_seen_books a_seen_there v_seen_size v_traced ma_text mv_typed ma_books ma_numberA ma_numberB ma_now ma_isKept ma_seenDays ma_seenBook ma_seenIs mv_seen mv_trace) (p1 : Int32) : ∃ (q : Int32) (r : Int32), fX7_count v_text_length v_told_size v_now_trapped v_history_known v_seen_size p1 = q ∧ fX8_count N ma_books ma_now mv_typed mv_seen p1 = some r ∧ q = r ∧ Inv a_text_bytes v_text_length a_told_a a_told_b v_told_size v_now_forgotten v_now_touches v_now_trapped v_now_one v_now_date a_history_steps v_history_known a_firstImage_history_steps v_firstImage_history_known v_firstImage_packed v_firstImage_kept a_secondImage_history_steps v_secondImage_history_known v_secondImage_packed v_secondImage_kept a_seen_days a_seen_books a_seen_there v_seen_size v_traced ma_text mv_typed ma_books ma_numberA ma_numberB ma_now ma_isKept ma_seenDays ma_seenBook ma_seenIs mv_seen mv_trace := by
  have hI0 := hI
  obtain ⟨n, A, B, S, h, k, ⟨L, c, hL, rfl, rfl, hc⟩, ⟨hn, rfl, hbk, hab, hab8⟩, hS, ⟨rfl, rfl, rfl, rfl, rfl, hR⟩, ⟨hk, rfl, hk15, hH⟩, hI1, hI2, ⟨w, d, b, z, hw, rfl, rfl, hx⟩, rfl⟩ := hI
  unfold fX7_count fX8_count
  rw [t0, t12, t15, hbk, hR 12 (by decide), rowS_12, manyOf_iI (by omega) (by have := hS.2.2.1; omega), Option.bind_some, bitCount_iI (by have := hS.2.2.1; omega)]
  rw [Nat.zero_add] at hk15
  rw [hk15]
  by_cases h0 : p1 = 0
  · exact ⟨_, _, if_pos h0, if_pos h0, rfl, hI0⟩
  rw [if_neg h0, if_neg h0]
  by_cases h1 : p1 = 1
  · exact ⟨_, _, if_pos h1, if_pos h1, rfl, hI0⟩
  rw [if_neg h1, if_neg h1]
  by_cases h2 : p1 = 2
  · exact ⟨_, _, if_pos h2, if_pos h2, rfl, hI0⟩
  rw [if_neg h2, if_neg h2]
  by_cases h3 : p1 = 3
  · exact ⟨_, _, if_pos h3, if_pos h3, rfl, hI0⟩
  rw [if_neg h3, if_neg h3]
  by_cases h4 : p1 = 4
  · exact ⟨_, _, if_pos h4, if_pos h4, rfl, hI0⟩
  rw [if_neg h4, if_neg h4]
  exact ⟨_, _, rfl, rfl, rfl, hI0⟩
theorem op_saw {N : Nat} (hN : 40000 ≤ N) {a_text_bytes : Nat → Int32} {v_text_length : Int32} {a_told_a : Nat → Int32} {a_told_b : Nat → Int32} {v_told_size : Int32} {v_now_forgotten : Int32} {v_now_touches : Int32} {v_now_trapped : Int32} {v_now_one : Int32} {v_now_date : Int32} {a_history_steps : Nat → Int64} {v_history_known : Int32} {a_firstImage_history_steps : Nat → Int64} {v_firstImage_history_known : Int32} {v_firstImage_packed : Int64} {v_firstImage_kept : Int32} {a_secondImage_history_steps : Nat → Int64} {v_secondImage_history_known : Int32} {v_secondImage_packed : Int64} {v_secondImage_kept : Int32} {a_seen_days : Nat → Int32} {a_seen_books : Nat → Int32} {a_seen_there : Nat → Int32} {v_seen_size : Int32} {v_traced : Int64} {ma_text : Nat → Int32} {mv_typed : Int32} {ma_books : Nat → Int32} {ma_numberA : Nat → Int32} {ma_numberB : Nat → Int32} {ma_now : Nat → Int32} {ma_isKept : Nat → Int32} {ma_seenDays : Nat → Int32} {ma_seenBook : Nat → Int32} {ma_seenIs : Nat → Int32} {mv_seen : Int32} {mv_trace : Int64} (hI : Inv a_text_bytes v_text_length a_told_a a_told_b v_told_size v_now_forgotten v_now_touches v_now_trapped v_now_one v_now_date a_history_steps v_history_known a_firstImage_history_steps v_firstImage_history_known v_firstImage_packed v_firstImage_kept a_secondImage_history_steps v_secondImage_history_known v_secondImage_packed v_secondImage_kept a_seen_days a_seen_books a_seen_there v_seen_size v_traced ma_text mv_typed ma_books ma_numberA ma_numberB ma_now ma_isKept ma_seenDays ma_seenBook ma_seenIs mv_seen mv_trace) (p1 : Int32) (p2 : Int32) (p3 : Int32) : ∃ (q : (Int32 × (Nat → Int32) × (Nat → Int32) × (Nat → Int32) × Int32)) (r : (Int32 × (Nat → Int32) × (Nat → Int32) × (Nat → Int32) × Int32)), fX7_saw v_told_size a_seen_days a_seen_books a_seen_there v_seen_size p1 p2 p3 = some q ∧ fX8_saw ma_books ma_seenDays ma_seenBook ma_seenIs mv_seen p1 p2 p3 = some r ∧ q.1 = r.1 ∧ Inv a_text_bytes v_text_length a_told_a a_told_b v_told_size v_now_forgotten v_now_touches v_now_trapped v_now_one v_now_date a_history_steps v_history_known a_firstImage_history_steps v_firstImage_history_known v_firstImage_packed v_firstImage_kept a_secondImage_history_steps v_secondImage_history_known v_secondImage_packed v_secondImage_kept q.2.1 q.2.2.1 q.2.2.2.1 q.2.2.2.2 v_traced ma_text mv_typed ma_books ma_numberA ma_numberB ma_now ma_isKept r.2.1 r.2.2.1 r.2.2.2.1 r.2.2.2.2 mv_trace := by
  have hI0 := hI
  obtain ⟨n, A, B, S, h, k, hT, ⟨hn, rfl, hbk, hab, hab8⟩, hS, hNw, hH, hI1, hI2, ⟨w, d, b, z, hw, rfl, rfl, hx⟩, rfl⟩ := hI
  unfold fX7_saw fX8_saw
  rw [in_within, isBook8 hbk]
  rcases win p1 0 20 0 20 rfl rfl (by decide) (by decide) with hz | ⟨k1, -, hk1, rfl, hz⟩
  · exact ⟨_, _, if_pos hz, if_pos hz, rfl, hI0⟩
  rw [if_neg hz, if_neg hz]
  rcases bookC hn p2 with hb | ⟨b2, hb2, rfl, hb⟩
  · exact ⟨_, _, if_pos hb, if_pos hb, rfl, hI0⟩
  rw [if_neg hb, if_neg hb]
  rcases win p3 0 1 0 1 rfl rfl (by decide) (by decide) with hz3 | ⟨k3, -, hk3, rfl, hz3⟩
  · exact ⟨_, _, if_pos hz3, if_pos hz3, rfl, hI0⟩
  rw [if_neg hz3, if_neg hz3]
  have e3 : (if iI (k3 : Int) = (1 : Int32) then fX7_saw_J45 a_seen_days a_seen_books a_seen_there (iI w) (iI k1) (iI b2) 1 else fX7_saw_J45 a_seen_days a_seen_books a_seen_there (iI w) (iI k1) (iI b2) 0) = fX7_saw_J45 a_seen_days a_seen_books a_seen_there (iI w) (iI k1) (iI b2) (iI k3) := by
    have : k3 = 0 ∨ k3 = 1 := by omega
    rcases this with rfl | rfl
    · exact if_neg (by decide)
    · exact if_pos (by decide)
  rw [e3]
  unfold fX7_saw_J45 fX4_append
  by_cases h6 : w = 6
  · subst h6
    rw [if_neg (by decide), if_pos (by decide)]
    exact ⟨_, _, rfl, rfl, rfl, hI0⟩
  · rw [if_pos (by rw [iI_lit 6, iI_lt (by omega) (by omega) (by decide) (by decide)]; show (w : Int) < 6; omega)]
    rw [if_neg (by rw [iI_lit 6, iI_eq (by omega) (by omega) (by decide) (by decide)]; show ¬ (w : Int) = 6; omega)]
    simp only [vg_iI (show (0 : Int) ≤ (w : Int) by omega) (show (w : Int) < ((6 : Nat) : Int) by omega) (by omega), iI_clamp (show (0 : Int) ≤ (w : Int) by omega) (by omega), Int.toNat_natCast, Option.bind_some]
    rw [if_neg z1]
    have e1 : iI (w : Int) + (1 : Int32) = iI ((w + 1 : Nat) : Int) := iI_s w
    have e4 : vp_nar .boolean (iI (k3 : Int)) = iI k3 := by
      have : k3 = 0 ∨ k3 = 1 := by omega
      rcases this with rfl | rfl <;> decide
    rw [e1, e4]
    refine ⟨_, _, rfl, rfl, rfl, n, A, B, S, h, k, hT, ⟨hn, rfl, hbk, hab, hab8⟩, hS, hNw, hH, hI1, hI2, ⟨w + 1, fun i => if i = w then k1 else d i, fun i => if i = w then b2 else b i, fun i => if i = w then k3 else z i, by omega, rfl, rfl, fun i hi => ?_⟩, rfl⟩
    dsimp only
    by_cases hi2 : i = w
    · subst hi2
      simp only [eq_self, if_true, pk_us]
      exact ⟨by omega, hb2, by omega, trivial, trivial, trivial, trivial, trivial, trivial⟩
    · simp only [if_neg hi2, pk_un hi2]
      exact hx i (by omega)
theorem proofs_mono (p : Int32) : ∀ (m : Nat) (a b r : Int32), fX8_proofs_L16 p m a b = some r → ∀ e, fX8_proofs_L16 p (m + e) a b = some r
  | 0, a, b, r, h, e => by cases h
  | m + 1, a, b, r, h, e => by
    rw [fX8_proofs_L16] at h
    rw [show m + 1 + e = (m + e) + 1 by omega, fX8_proofs_L16]
    by_cases hc : p ≤ b
    · rw [if_pos hc] at h ⊢
      exact h
    · rw [if_neg hc] at h ⊢
      exact proofs_mono p m _ _ r h e
theorem proofs_dec : ∀ k : Nat, k < 100 → fX8_proofs_L16 (iI (k : Int)) 10 0 1 = some (fX7_proofs (iI (k : Int))) := by decide +kernel
theorem op_proofs {N : Nat} (hN : 40000 ≤ N) {a_text_bytes : Nat → Int32} {v_text_length : Int32} {a_told_a : Nat → Int32} {a_told_b : Nat → Int32} {v_told_size : Int32} {v_now_forgotten : Int32} {v_now_touches : Int32} {v_now_trapped : Int32} {v_now_one : Int32} {v_now_date : Int32} {a_history_steps : Nat → Int64} {v_history_known : Int32} {a_firstImage_history_steps : Nat → Int64} {v_firstImage_history_known : Int32} {v_firstImage_packed : Int64} {v_firstImage_kept : Int32} {a_secondImage_history_steps : Nat → Int64} {v_secondImage_history_known : Int32} {v_secondImage_packed : Int64} {v_secondImage_kept : Int32} {a_seen_days : Nat → Int32} {a_seen_books : Nat → Int32} {a_seen_there : Nat → Int32} {v_seen_size : Int32} {v_traced : Int64} {ma_text : Nat → Int32} {mv_typed : Int32} {ma_books : Nat → Int32} {ma_numberA : Nat → Int32} {ma_numberB : Nat → Int32} {ma_now : Nat → Int32} {ma_isKept : Nat → Int32} {ma_seenDays : Nat → Int32} {ma_seenBook : Nat → Int32} {ma_seenIs : Nat → Int32} {mv_seen : Int32} {mv_trace : Int64} (hI : Inv a_text_bytes v_text_length a_told_a a_told_b v_told_size v_now_forgotten v_now_touches v_now_trapped v_now_one v_now_date a_history_steps v_history_known a_firstImage_history_steps v_firstImage_history_known v_firstImage_packed v_firstImage_kept a_secondImage_history_steps v_secondImage_history_known v_secondImage_packed v_secondImage_kept a_seen_days a_seen_books a_seen_there v_seen_size v_traced ma_text mv_typed ma_books ma_numberA ma_numberB ma_now ma_isKept ma_seenDays ma_seenBook ma_seenIs mv_seen mv_trace) (p1 : Int32) : ∃ (q : Int32) (r : Int32), fX7_proofs p1 = q ∧ fX8_proofs N p1 = some r ∧ q = r ∧ Inv a_text_bytes v_text_length a_told_a a_told_b v_told_size v_now_forgotten v_now_touches v_now_trapped v_now_one v_now_date a_history_steps v_history_known a_firstImage_history_steps v_firstImage_history_known v_firstImage_packed v_firstImage_kept a_secondImage_history_steps v_secondImage_history_known v_secondImage_packed v_secondImage_kept a_seen_days a_seen_books a_seen_there v_seen_size v_traced ma_text mv_typed ma_books ma_numberA ma_numberB ma_now ma_isKept ma_seenDays ma_seenBook ma_seenIs mv_seen mv_trace := by
  unfold fX8_proofs
  rw [in_within]
  rcases win p1 0 99 0 99 rfl rfl (by decide) (by decide) with hz | ⟨k1, -, hk1, rfl, hz⟩
  · refine ⟨_, _, rfl, if_pos hz, ?_, hI⟩
    unfold fX7_proofs
    rw [if_pos hz]
  · have e := proofs_mono _ 10 _ _ _ (proofs_dec k1 (by omega)) (N - 10)
    rw [show 10 + (N - 10) = N by omega] at e
    exact ⟨_, _, rfl, by rw [if_neg hz]; exact e, rfl, hI⟩
theorem op_puts {N : Nat} (hN : 40000 ≤ N) {a_text_bytes : Nat → Int32} {v_text_length : Int32} {a_told_a : Nat → Int32} {a_told_b : Nat → Int32} {v_told_size : Int32} {v_now_forgotten : Int32} {v_now_touches : Int32} {v_now_trapped : Int32} {v_now_one : Int32} {v_now_date : Int32} {a_history_steps : Nat → Int64} {v_history_known : Int32} {a_firstImage_history_steps : Nat → Int64} {v_firstImage_history_known : Int32} {v_firstImage_packed : Int64} {v_firstImage_kept : Int32} {a_secondImage_history_steps : Nat → Int64} {v_secondImage_history_known : Int32} {v_secondImage_packed : Int64} {v_secondImage_kept : Int32} {a_seen_days : Nat → Int32} {a_seen_books : Nat → Int32} {a_seen_there : Nat → Int32} {v_seen_size : Int32} {v_traced : Int64} {ma_text : Nat → Int32} {mv_typed : Int32} {ma_books : Nat → Int32} {ma_numberA : Nat → Int32} {ma_numberB : Nat → Int32} {ma_now : Nat → Int32} {ma_isKept : Nat → Int32} {ma_seenDays : Nat → Int32} {ma_seenBook : Nat → Int32} {ma_seenIs : Nat → Int32} {mv_seen : Int32} {mv_trace : Int64} (hI : Inv a_text_bytes v_text_length a_told_a a_told_b v_told_size v_now_forgotten v_now_touches v_now_trapped v_now_one v_now_date a_history_steps v_history_known a_firstImage_history_steps v_firstImage_history_known v_firstImage_packed v_firstImage_kept a_secondImage_history_steps v_secondImage_history_known v_secondImage_packed v_secondImage_kept a_seen_days a_seen_books a_seen_there v_seen_size v_traced ma_text mv_typed ma_books ma_numberA ma_numberB ma_now ma_isKept ma_seenDays ma_seenBook ma_seenIs mv_seen mv_trace) (p1 : Int32) : ∃ (q : (Int32 × Int32 × (Nat → Int64) × Int32)) (r : (Int32 × (Nat → Int32))), fX7_puts v_told_size v_now_forgotten v_now_touches v_now_trapped v_now_one v_now_date a_history_steps v_history_known p1 = some q ∧ fX8_puts N ma_books ma_now p1 = some r ∧ q.1 = r.1 ∧ Inv a_text_bytes v_text_length a_told_a a_told_b v_told_size v_now_forgotten v_now_touches v_now_trapped q.2.1 v_now_date q.2.2.1 q.2.2.2 a_firstImage_history_steps v_firstImage_history_known v_firstImage_packed v_firstImage_kept a_secondImage_history_steps v_secondImage_history_known v_secondImage_packed v_secondImage_kept a_seen_days a_seen_books a_seen_there v_seen_size v_traced ma_text mv_typed ma_books ma_numberA ma_numberB r.2 ma_isKept ma_seenDays ma_seenBook ma_seenIs mv_seen mv_trace := by
  have hI0 := hI
  obtain ⟨n, A, B, S, h, k, hT, ⟨hn, rfl, hbk, hab, hab8⟩, hS, ⟨rfl, rfl, rfl, rfl, rfl, hR⟩, hH, hI1, hI2, hW, rfl⟩ := hI
  unfold fX7_puts fX8_puts
  rw [isBook8 hbk, t13, hR 13 (by decide), rowS_13]
  rcases bookC hn p1 with hb | ⟨b, hb2, rfl, hb⟩
  · exact ⟨_, _, if_pos hb, if_pos hb, rfl, hI0⟩
  rw [if_neg hb, if_neg hb]
  by_cases ho : iI S.2.2.2.1 = iI (b : Int)
  · exact ⟨_, _, if_pos ho, if_pos ho, rfl, hI0⟩
  rw [if_neg ho, if_neg ho]
  obtain ⟨steps', now', q1, q2, q3, q4, q5⟩ := know_iI (N := N) (by omega) hS hR hH
  rw [q1, q2, Option.bind_some, Option.bind_some, q3 13 (by decide), hR 13 (by decide), rowS_13]
  refine ⟨_, _, rfl, rfl, rfl, n, A, B, (S.1, S.2.1, S.2.2.1, (b : Int), S.2.2.2.2), _, _, hT, ⟨hn, rfl, hbk, hab, hab8⟩, ⟨hS.1, hS.2.1, hS.2.2.1, Or.inr ⟨by show (0 : Int) ≤ b; omega, by show (b : Int) < n; omega⟩, hS.2.2.2.2.1, hS.2.2.2.2.2⟩, ⟨rfl, rfl, rfl, rfl, rfl, fun j hj => ?_⟩, q5.kept (fun j a b => pk_un (by omega)), hI1.kept (fun j a b => (pk_un (by omega)).trans (q4 j (by omega))), hI2.kept (fun j a b => (pk_un (by omega)).trans (q4 j (by omega))), hW, rfl⟩
  dsimp only
  by_cases hj13 : j = 13
  · subst hj13
    rw [pk_us]
    rfl
  · rw [pk_un hj13, q3 j hj, hR j hj]
    unfold rowS
    by_cases h1 : j < 6
    · rw [if_pos h1, if_pos h1]
    rw [if_neg h1, if_neg h1]
    by_cases h2 : j < 12
    · rw [if_pos h2, if_pos h2]
    rw [if_neg h2, if_neg h2]
    by_cases h3 : j = 12
    · rw [if_pos h3, if_pos h3]
    rw [if_neg h3, if_neg h3, if_neg hj13, if_neg hj13]
theorem traps_bit {R b : Nat} (hR : R < 64) (hb : b < 6) : fX3_isTrap (iI (R : Int)) (iI (b : Int)) = iI (((R.testBit b).toNat : Nat) : Int) := by
  unfold fX3_isTrap
  rw [trap_bit (by omega) (by omega)]
  cases R.testBit b <;> decide
theorem shl1 {b : Nat} (hb : b < 31) : (1 : Int32) <<< (iI (b : Int) &&& 31) = iI ((2 ^ b : Nat) : Int) := by
  have e : (1 : Int32) = iI ((1 : Nat) : Int) := rfl
  rw [e, iI_shl 1 (by omega), Nat.one_mul]
theorem xor_lt64 : ∀ R : Nat, R < 64 → ∀ b : Nat, b < 6 → R ^^^ 2 ^ b < 64 := by decide +kernel
theorem p2_cases {p1 : Int32} {k : Nat} (hk : k ≤ 1) {α : Type} (f : Int32 → α) : (if iI (k : Int) = (1 : Int32) then f 1 else f 0) = f (iI (k : Int)) := by
  have : k = 0 ∨ k = 1 := by omega
  rcases this with rfl | rfl
  · exact if_neg (by decide)
  · exact if_pos (by decide)
theorem op_traps {N : Nat} (hN : 40000 ≤ N) {a_text_bytes : Nat → Int32} {v_text_length : Int32} {a_told_a : Nat → Int32} {a_told_b : Nat → Int32} {v_told_size : Int32} {v_now_forgotten : Int32} {v_now_touches : Int32} {v_now_trapped : Int32} {v_now_one : Int32} {v_now_date : Int32} {a_history_steps : Nat → Int64} {v_history_known : Int32} {a_firstImage_history_steps : Nat → Int64} {v_firstImage_history_known : Int32} {v_firstImage_packed : Int64} {v_firstImage_kept : Int32} {a_secondImage_history_steps : Nat → Int64} {v_secondImage_history_known : Int32} {v_secondImage_packed : Int64} {v_secondImage_kept : Int32} {a_seen_days : Nat → Int32} {a_seen_books : Nat → Int32} {a_seen_there : Nat → Int32} {v_seen_size : Int32} {v_traced : Int64} {ma_text : Nat → Int32} {mv_typed : Int32} {ma_books : Nat → Int32} {ma_numberA : Nat → Int32} {ma_numberB : Nat → Int32} {ma_now : Nat → Int32} {ma_isKept : Nat → Int32} {ma_seenDays : Nat → Int32} {ma_seenBook : Nat → Int32} {ma_seenIs : Nat → Int32} {mv_seen : Int32} {mv_trace : Int64} (hI : Inv a_text_bytes v_text_length a_told_a a_told_b v_told_size v_now_forgotten v_now_touches v_now_trapped v_now_one v_now_date a_history_steps v_history_known a_firstImage_history_steps v_firstImage_history_known v_firstImage_packed v_firstImage_kept a_secondImage_history_steps v_secondImage_history_known v_secondImage_packed v_secondImage_kept a_seen_days a_seen_books a_seen_there v_seen_size v_traced ma_text mv_typed ma_books ma_numberA ma_numberB ma_now ma_isKept ma_seenDays ma_seenBook ma_seenIs mv_seen mv_trace) (p1 : Int32) (p2 : Int32) : ∃ (q : (Int32 × Int32 × (Nat → Int64) × Int32)) (r : (Int32 × (Nat → Int32))), fX7_traps v_told_size v_now_forgotten v_now_touches v_now_trapped v_now_one v_now_date a_history_steps v_history_known p1 p2 = some q ∧ fX8_traps N ma_books ma_now p1 p2 = some r ∧ q.1 = r.1 ∧ Inv a_text_bytes v_text_length a_told_a a_told_b v_told_size v_now_forgotten v_now_touches q.2.1 v_now_one v_now_date q.2.2.1 q.2.2.2 a_firstImage_history_steps v_firstImage_history_known v_firstImage_packed v_firstImage_kept a_secondImage_history_steps v_secondImage_history_known v_secondImage_packed v_secondImage_kept a_seen_days a_seen_books a_seen_there v_seen_size v_traced ma_text mv_typed ma_books ma_numberA ma_numberB r.2 ma_isKept ma_seenDays ma_seenBook ma_seenIs mv_seen mv_trace := by
  have hI0 := hI
  obtain ⟨n, A, B, S, h, k, hT, ⟨hn, rfl, hbk, hab, hab8⟩, hS, ⟨rfl, rfl, rfl, rfl, rfl, hR⟩, hH, hI1, hI2, hW, rfl⟩ := hI
  unfold fX7_traps fX8_traps
  rw [isBook8 hbk, t12, hR 12 (by decide), rowS_12, in_within]
  rcases bookC hn p1 with hb | ⟨b, hb2, rfl, hb⟩
  · exact ⟨_, _, if_pos hb, if_pos hb, rfl, hI0⟩
  rw [if_neg hb, if_neg hb]
  rcases win p2 0 1 0 1 rfl rfl (by decide) (by decide) with hz | ⟨k1, -, hk1, rfl, hz⟩
  · exact ⟨_, _, if_pos hz, if_pos hz, rfl, hI0⟩
  rw [if_neg hz, if_neg hz, p2_cases (p1 := 0) hk1 (fun y => fX7_traps_J37 (iI S.1) (iI S.2.1) (iI S.2.2.1) (iI S.2.2.2.1) (iI S.2.2.2.2) a_history_steps v_history_known (iI b) y)]
  unfold fX7_traps_J37
  have hR6 := hS.2.2.1
  rw [traps_bit hR6 (by omega), trap_bit (by omega) (by omega)]
  by_cases ho : iI (((S.2.2.1.testBit b).toNat : Nat) : Int) = iI (k1 : Int)
  · exact ⟨_, _, if_pos ho, if_pos ho, rfl, hI0⟩
  rw [if_neg ho, if_neg ho]
  obtain ⟨steps', now', q1, q2, q3, q4, q5⟩ := know_iI (N := N) (by omega) hS hR hH
  have hx := xor_lt64 _ hR6 b (by omega)
  rw [q1, q2, Option.bind_some, Option.bind_some, pk_us, q3 12 (by decide), hR 12 (by decide), rowS_12, shl1 (by omega), iI_xor, manyOf_iI (by omega) (by omega), bitCount_iI (by omega), Option.bind_some]
  refine ⟨_, _, rfl, rfl, rfl, n, A, B, (S.1, S.2.1, S.2.2.1 ^^^ 2 ^ b, S.2.2.2.1, S.2.2.2.2), _, _, hT, ⟨hn, rfl, hbk, hab, hab8⟩, ⟨hS.1, hS.2.1, hx, hS.2.2.2.1, hS.2.2.2.2.1, hS.2.2.2.2.2⟩, ⟨rfl, rfl, rfl, rfl, rfl, fun j hj => ?_⟩, q5.kept (fun j a b => pk_un (by omega)), hI1.kept (fun j a b => (pk_un (by omega)).trans (q4 j (by omega))), hI2.kept (fun j a b => (pk_un (by omega)).trans (q4 j (by omega))), hW, rfl⟩
  dsimp only
  by_cases hj12 : j = 12
  · subst hj12
    rw [pk_us]
    rfl
  · rw [pk_un hj12, q3 j hj, hR j hj]
    unfold rowS
    by_cases h1 : j < 6
    · rw [if_pos h1, if_pos h1]
    rw [if_neg h1, if_neg h1]
    by_cases h2 : j < 12
    · rw [if_pos h2, if_pos h2]
    rw [if_neg h2, if_neg h2, if_neg hj12, if_neg hj12]
end OPS1
