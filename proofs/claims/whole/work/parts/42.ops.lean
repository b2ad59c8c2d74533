/-! the public calls: taken back, images -/
section OPS2
theorem op_undo {N : Nat} (hN : 40000 ≤ N) {a_text_bytes : Nat → Int32} {v_text_length : Int32} {a_told_a : Nat → Int32} {a_told_b : Nat → Int32} {v_told_size : Int32} {v_now_forgotten : Int32} {v_now_touches : Int32} {v_now_trapped : Int32} {v_now_one : Int32} {v_now_date : Int32} {a_history_steps : Nat → Int64} {v_history_known : Int32} {a_firstImage_history_steps : Nat → Int64} {v_firstImage_history_known : Int32} {v_firstImage_packed : Int64} {v_firstImage_kept : Int32} {a_secondImage_history_steps : Nat → Int64} {v_secondImage_history_known : Int32} {v_secondImage_packed : Int64} {v_secondImage_kept : Int32} {a_seen_days : Nat → Int32} {a_seen_books : Nat → Int32} {a_seen_there : Nat → Int32} {v_seen_size : Int32} {v_traced : Int64} {ma_text : Nat → Int32} {mv_typed : Int32} {ma_books : Nat → Int32} {ma_numberA : Nat → Int32} {ma_numberB : Nat → Int32} {ma_now : Nat → Int32} {ma_isKept : Nat → Int32} {ma_seenDays : Nat → Int32} {ma_seenBook : Nat → Int32} {ma_seenIs : Nat → Int32} {mv_seen : Int32} {mv_trace : Int64} (hI : Inv a_text_bytes v_text_length a_told_a a_told_b v_told_size v_now_forgotten v_now_touches v_now_trapped v_now_one v_now_date a_history_steps v_history_known a_firstImage_history_steps v_firstImage_history_known v_firstImage_packed v_firstImage_kept a_secondImage_history_steps v_secondImage_history_known v_secondImage_packed v_secondImage_kept a_seen_days a_seen_books a_seen_there v_seen_size v_traced ma_text mv_typed ma_books ma_numberA ma_numberB ma_now ma_isKept ma_seenDays ma_seenBook ma_seenIs mv_seen mv_trace) : ∃ (q : (Int32 × Int32 × Int32 × Int32 × Int32 × Int32 × Int32)) (r : (Int32 × (Nat → Int32))), fX7_undo v_now_forgotten v_now_touches v_now_trapped v_now_one v_now_date a_history_steps v_history_known = some q ∧ fX8_undo N ma_now = some r ∧ q.1 = r.1 ∧ Inv a_text_bytes v_text_length a_told_a a_told_b v_told_size q.2.1 q.2.2.1 q.2.2.2.1 q.2.2.2.2.1 q.2.2.2.2.2.1 a_history_steps q.2.2.2.2.2.2 a_firstImage_history_steps v_firstImage_history_known v_firstImage_packed v_firstImage_kept a_secondImage_history_steps v_secondImage_history_known v_secondImage_packed v_secondImage_kept a_seen_days a_seen_books a_seen_there v_seen_size v_traced ma_text mv_typed ma_books ma_numberA ma_numberB r.2 ma_isKept ma_seenDays ma_seenBook ma_seenIs mv_seen mv_trace := by
  have hI0 := hI
  obtain ⟨n, A, B, S, h, k, hT, ⟨hn, rfl, hbk, hab, hab8⟩, hS, ⟨rfl, rfl, rfl, rfl, rfl, hR⟩, ⟨hk, rfl, hk15, hH⟩, hI1, hI2, hW, rfl⟩ := hI
  unfold fX7_undo fX8_undo
  rw [Nat.zero_add] at hk15
  rw [t15, hk15]
  by_cases h0 : iI (k : Int) = 0
  · exact ⟨_, _, if_pos h0, if_pos h0, rfl, hI0⟩
  rw [if_neg h0, if_neg h0]
  have hk1 : 1 ≤ k := by
    rcases Nat.eq_zero_or_pos k with e | e
    · subst e
      exact absurd rfl h0
    · exact e
  unfold fX1_takeLatest fX1_takeLatest_J17
  have e1 : iI (k : Int) - (1 : Int32) = iI ((k - 1 : Nat) : Int) := by
    rw [iI_lit 1, iI_sub]
    congr 1
    show (k : Int) - 1 = _
    omega
  have e0 : (0 : Int32) = iI ((0 : Nat) : Int) := rfl
  rw [if_neg (by rw [e0, iI_le (by omega) (by omega) (by omega) (by omega)]; omega), e1, vg_iI (by omega) (by omega) (by omega), iI_clamp (by omega) (by omega), Int.toNat_natCast, Option.bind_some, e0]
  obtain ⟨q1, q2, q3⟩ := hH (k - 1) (by omega)
  obtain ⟨r, r1, r2⟩ := undo_L26 N 0 (k - 1) (upd ma_now 15 (iI ((k - 1 : Nat) : Int))) (by decide) (by omega) (by omega) pk_us
  rw [r1, q2]
  simp only [unpk hn q1]
  refine ⟨_, _, rfl, rfl, rfl, n, A, B, h (k - 1), h, k - 1, hT, ⟨hn, rfl, hbk, hab, hab8⟩, q1, ⟨rfl, rfl, rfl, rfl, rfl, fun j hj => ?_⟩, ⟨by omega, rfl, ?_, fun i hi => ?_⟩, hI1.kept (fun j a b => ?_), hI2.kept (fun j a b => ?_), hW, rfl⟩
  · show r j = _
    rw [r2 j, if_pos (by omega), pk_un (by omega), ← q3 j hj, Nat.zero_add]
  · show r (0 + 15) = _
    rw [Nat.zero_add, r2 15, if_neg (by omega), pk_us]
  · obtain ⟨a, b, c⟩ := hH i (by omega)
    refine ⟨a, b, fun j hj => ?_⟩
    show r (0 + 16 + 15 * i + j) = _
    rw [r2, if_neg (by omega), pk_un (by omega)]
    exact c j hj
  · show r j = _
    rw [r2, if_neg (by omega), pk_un (by omega)]
  · show r j = _
    rw [r2, if_neg (by omega), pk_un (by omega)]
theorem nar1 : vp_nar .boolean (1 : Int32) = 1 := by decide
theorem cpy10 {f g : Nat → Int64} {i : Nat} (hi : i < 10) : va_cpy f g 0 0 10 i = f i := by
  rw [pk_cpy_in (Nat.zero_le _) (by omega), Nat.sub_zero, Nat.zero_add]
theorem t10 : (10 : Int32).toNatClampNeg = 10 := by decide
/-- an image as it is kept -/
theorem IvI_keep {n k : Nat} {S : NS} {h : Nat → NS} {steps steps0 : Nat → Int64} {now now' : Nat → Int32} {off : Nat} (hS : wfS n S) (hR : ∀ j, j < 15 → now j = rowS S j) (hH : IvH n h k (iI k) steps now 0) (hn : ∀ j, off ≤ j → j < off + 166 → now' j = now (j - off)) : IvI n (va_cpy steps steps0 0 0 10) (iI k) (pk S) 1 now' 1 off := by
  obtain ⟨h1, h2, h3, h4⟩ := hH
  refine ⟨rfl, Or.inr ⟨rfl, S, h, k, hS, rfl, fun j hj => ?_, h1, rfl, ?_, fun i hi => ?_⟩⟩
  · rw [hn _ (by omega) (by omega), Nat.add_sub_cancel_left]
    exact hR j hj
  · rw [hn _ (by omega) (by omega), Nat.add_sub_cancel_left]
    rw [Nat.zero_add] at h3
    exact h3
  · obtain ⟨a, b, c⟩ := h4 i hi
    refine ⟨a, (cpy10 (by omega)).trans b, fun j hj => ?_⟩
    rw [hn _ (by omega) (by omega)]
    have := c j hj
    rw [← this]
    congr 1
    omega
theorem op_keepA {N : Nat} (hN : 40000 ≤ N) {a_text_bytes : Nat → Int32} {v_text_length : Int32} {a_told_a : Nat → Int32} {a_told_b : Nat → Int32} {v_told_size : Int32} {v_now_forgotten : Int32} {v_now_touches : Int32} {v_now_trapped : Int32} {v_now_one : Int32} {v_now_date : Int32} {a_history_steps : Nat → Int64} {v_history_known : Int32} {a_firstImage_history_steps : Nat → Int64} {v_firstImage_history_known : Int32} {v_firstImage_packed : Int64} {v_firstImage_kept : Int32} {a_secondImage_history_steps : Nat → Int64} {v_secondImage_history_known : Int32} {v_secondImage_packed : Int64} {v_secondImage_kept : Int32} {a_seen_days : Nat → Int32} {a_seen_books : Nat → Int32} {a_seen_there : Nat → Int32} {v_seen_size : Int32} {v_traced : Int64} {ma_text : Nat → Int32} {mv_typed : Int32} {ma_books : Nat → Int32} {ma_numberA : Nat → Int32} {ma_numberB : Nat → Int32} {ma_now : Nat → Int32} {ma_isKept : Nat → Int32} {ma_seenDays : Nat → Int32} {ma_seenBook : Nat → Int32} {ma_seenIs : Nat → Int32} {mv_seen : Int32} {mv_trace : Int64} (hI : Inv a_text_bytes v_text_length a_told_a a_told_b v_told_size v_now_forgotten v_now_touches v_now_trapped v_now_one v_now_date a_history_steps v_history_known a_firstImage_history_steps v_firstImage_history_known v_firstImage_packed v_firstImage_kept a_secondImage_history_steps v_secondImage_history_known v_secondImage_packed v_secondImage_kept a_seen_days a_seen_books a_seen_there v_seen_size v_traced ma_text mv_typed ma_books ma_numberA ma_numberB ma_now ma_isKept ma_seenDays ma_seenBook ma_seenIs mv_seen mv_trace) (p1 : Int32) (hv : p1 = 0) : ∃ (q : (Int32 × (Nat → Int64) × Int32 × Int64 × Int32)) (r : (Int32 × (Nat → Int32) × (Nat → Int32))), fX7_keepA v_now_forgotten v_now_touches v_now_trapped v_now_one v_now_date a_history_steps v_history_known a_firstImage_history_steps v_firstImage_history_known v_firstImage_packed v_firstImage_kept p1 = q ∧ fX8_keep N ma_now ma_isKept p1 = some r ∧ q.1 = r.1 ∧ Inv a_text_bytes v_text_length a_told_a a_told_b v_told_size v_now_forgotten v_now_touches v_now_trapped v_now_one v_now_date a_history_steps v_history_known q.2.1 q.2.2.1 q.2.2.2.1 q.2.2.2.2 a_secondImage_history_steps v_secondImage_history_known v_secondImage_packed v_secondImage_kept a_seen_days a_seen_books a_seen_there v_seen_size v_traced ma_text mv_typed ma_books ma_numberA ma_numberB r.2.1 r.2.2 ma_seenDays ma_seenBook ma_seenIs mv_seen mv_trace := by
  have hI0 := hI
  obtain ⟨n, A, B, S, h, k, hT, hB, hS, ⟨rfl, rfl, rfl, rfl, rfl, hR⟩, hH, hI1, hI2, hW, rfl⟩ := hI
  have hk : v_history_known = iI k := hH.2.1
  subst hk
  subst hv
  unfold fX7_keepA fX8_keep fX2_fill fX1_copyFrom
  rw [in_within]
  have hz : ¬ fX7_within 0 0 1 = 0 := by decide
  rw [if_neg hz, if_neg hz, t0, t10]
  have e0 : (0 : Int32) = iI ((0 : Nat) : Int) := rfl
  obtain ⟨r, r1, r2⟩ := keep_L13 (isK := ma_isKept) (p := 0) (by decide) N 0 ma_now (by decide) (by omega)
  have r1' : fX8_keep_L13 ma_isKept 0 N 0 ma_now = some (r 14, r, upd ma_isKept 0 (vp_nar .boolean (1 : Int32))) := r1
  refine ⟨_, _, rfl, r1', ?_, n, A, B, S, h, k, hT, hB, hS, ⟨rfl, rfl, rfl, rfl, rfl, fun j hj => ?_⟩, hH.kept (fun j a b => ?_), ?_, ?_, hW, rfl⟩
  · show iI _ = r 14
    rw [r2 14, if_neg (by omega), hR 14 (by decide)]
    rfl
  · show r j = _
    rw [r2 j, if_neg (by omega)]
    exact hR j hj
  · show r j = _
    rw [r2 j, if_neg (by omega)]
  · show IvI n _ _ _ 1 r (upd ma_isKept 0 (vp_nar .boolean (1 : Int32)) 0) 166
    rw [pk_us, nar1]
    exact IvI_keep hS hR hH (fun j a b => by rw [r2 j, if_pos (by omega)])
  · show IvI n _ _ _ _ r (upd ma_isKept 0 (vp_nar .boolean (1 : Int32)) 1) 332
    rw [pk_un (by decide)]
    exact hI2.kept (fun j a b => by rw [r2 j, if_neg (by omega)])
theorem op_keepB {N : Nat} (hN : 40000 ≤ N) {a_text_bytes : Nat → Int32} {v_text_length : Int32} {a_told_a : Nat → Int32} {a_told_b : Nat → Int32} {v_told_size : Int32} {v_now_forgotten : Int32} {v_now_touches : Int32} {v_now_trapped : Int32} {v_now_one : Int32} {v_now_date : Int32} {a_history_steps : Nat → Int64} {v_history_known : Int32} {a_firstImage_history_steps : Nat → Int64} {v_firstImage_history_known : Int32} {v_firstImage_packed : Int64} {v_firstImage_kept : Int32} {a_secondImage_history_steps : Nat → Int64} {v_secondImage_history_known : Int32} {v_secondImage_packed : Int64} {v_secondImage_kept : Int32} {a_seen_days : Nat → Int32} {a_seen_books : Nat → Int32} {a_seen_there : Nat → Int32} {v_seen_size : Int32} {v_traced : Int64} {ma_text : Nat → Int32} {mv_typed : Int32} {ma_books : Nat → Int32} {ma_numberA : Nat → Int32} {ma_numberB : Nat → Int32} {ma_now : Nat → Int32} {ma_isKept : Nat → Int32} {ma_seenDays : Nat → Int32} {ma_seenBook : Nat → Int32} {ma_seenIs : Nat → Int32} {mv_seen : Int32} {mv_trace : Int64} (hI : Inv a_text_bytes v_text_length a_told_a a_told_b v_told_size v_now_forgotten v_now_touches v_now_trapped v_now_one v_now_date a_history_steps v_history_known a_firstImage_history_steps v_firstImage_history_known v_firstImage_packed v_firstImage_kept a_secondImage_history_steps v_secondImage_history_known v_secondImage_packed v_secondImage_kept a_seen_days a_seen_books a_seen_there v_seen_size v_traced ma_text mv_typed ma_books ma_numberA ma_numberB ma_now ma_isKept ma_seenDays ma_seenBook ma_seenIs mv_seen mv_trace) (p1 : Int32) (hv : ¬ p1 = 0) : ∃ (q : (Int32 × (Nat → Int64) × Int32 × Int64 × Int32)) (r : (Int32 × (Nat → Int32) × (Nat → Int32))), fX7_keepB v_now_forgotten v_now_touches v_now_trapped v_now_one v_now_date a_history_steps v_history_known a_secondImage_history_steps v_secondImage_history_known v_secondImage_packed v_secondImage_kept p1 = q ∧ fX8_keep N ma_now ma_isKept p1 = some r ∧ q.1 = r.1 ∧ Inv a_text_bytes v_text_length a_told_a a_told_b v_told_size v_now_forgotten v_now_touches v_now_trapped v_now_one v_now_date a_history_steps v_history_known a_firstImage_history_steps v_firstImage_history_known v_firstImage_packed v_firstImage_kept q.2.1 q.2.2.1 q.2.2.2.1 q.2.2.2.2 a_seen_days a_seen_books a_seen_there v_seen_size v_traced ma_text mv_typed ma_books ma_numberA ma_numberB r.2.1 r.2.2 ma_seenDays ma_seenBook ma_seenIs mv_seen mv_trace := by
  have hI0 := hI
  obtain ⟨n, A, B, S, h, k, hT, hB, hS, ⟨rfl, rfl, rfl, rfl, rfl, hR⟩, hH, hI1, hI2, hW, rfl⟩ := hI
  have hk : v_history_known = iI k := hH.2.1
  subst hk
  unfold fX7_keepB fX8_keep fX2_fill fX1_copyFrom
  rw [in_within]
  rcases win p1 0 1 0 1 rfl rfl (by decide) (by decide) with hz | ⟨k1, -, hk1, rfl, hz⟩
  · exact ⟨_, _, if_pos hz, if_pos hz, rfl, hI0⟩
  have hk2 : k1 = 1 := by
    have : k1 = 0 ∨ k1 = 1 := by omega
    rcases this with rfl | rfl
    · exact absurd rfl hv
    · rfl
  subst hk2
  rw [if_neg hz, if_neg hz, t0, t10]
  obtain ⟨r, r1, r2⟩ := keep_L13 (isK := ma_isKept) (p := 1) (by decide) N 0 ma_now (by decide) (by omega)
  have r1' : fX8_keep_L13 ma_isKept (iI ((1 : Nat) : Int)) N 0 ma_now = some (r 14, r, upd ma_isKept 1 (vp_nar .boolean (1 : Int32))) := r1
  refine ⟨_, _, rfl, r1', ?_, n, A, B, S, h, k, hT, hB, hS, ⟨rfl, rfl, rfl, rfl, rfl, fun j hj => ?_⟩, hH.kept (fun j a b => ?_), ?_, ?_, hW, rfl⟩
  · show iI _ = r 14
    rw [r2 14, if_neg (by omega), hR 14 (by decide)]
    rfl
  · show r j = _
    rw [r2 j, if_neg (by omega)]
    exact hR j hj
  · show r j = _
    rw [r2 j, if_neg (by omega)]
  · show IvI n _ _ _ _ r (upd ma_isKept 1 (vp_nar .boolean (1 : Int32)) 0) 166
    rw [pk_un (by decide)]
    exact hI1.kept (fun j a b => by rw [r2 j, if_neg (by omega)])
  · show IvI n _ _ _ 1 r (upd ma_isKept 1 (vp_nar .boolean (1 : Int32)) 1) 332
    rw [pk_us, nar1]
    exact IvI_keep hS hR hH (fun j a b => by rw [r2 j, if_pos (by omega)])
theorem op_backA {N : Nat} (hN : 40000 ≤ N) {a_text_bytes : Nat → Int32} {v_text_length : Int32} {a_told_a : Nat → Int32} {a_told_b : Nat → Int32} {v_told_size : Int32} {v_now_forgotten : Int32} {v_now_touches : Int32} {v_now_trapped : Int32} {v_now_one : Int32} {v_now_date : Int32} {a_history_steps : Nat → Int64} {v_history_known : Int32} {a_firstImage_history_steps : Nat → Int64} {v_firstImage_history_known : Int32} {v_firstImage_packed : Int64} {v_firstImage_kept : Int32} {a_secondImage_history_steps : Nat → Int64} {v_secondImage_history_known : Int32} {v_secondImage_packed : Int64} {v_secondImage_kept : Int32} {a_seen_days : Nat → Int32} {a_seen_books : Nat → Int32} {a_seen_there : Nat → Int32} {v_seen_size : Int32} {v_traced : Int64} {ma_text : Nat → Int32} {mv_typed : Int32} {ma_books : Nat → Int32} {ma_numberA : Nat → Int32} {ma_numberB : Nat → Int32} {ma_now : Nat → Int32} {ma_isKept : Nat → Int32} {ma_seenDays : Nat → Int32} {ma_seenBook : Nat → Int32} {ma_seenIs : Nat → Int32} {mv_seen : Int32} {mv_trace : Int64} (hI : Inv a_text_bytes v_text_length a_told_a a_told_b v_told_size v_now_forgotten v_now_touches v_now_trapped v_now_one v_now_date a_history_steps v_history_known a_firstImage_history_steps v_firstImage_history_known v_firstImage_packed v_firstImage_kept a_secondImage_history_steps v_secondImage_history_known v_secondImage_packed v_secondImage_kept a_seen_days a_seen_books a_seen_there v_seen_size v_traced ma_text mv_typed ma_books ma_numberA ma_numberB ma_now ma_isKept ma_seenDays ma_seenBook ma_seenIs mv_seen mv_trace) (p1 : Int32) (hv : p1 = 0) : ∃ (q : (Int32 × Int32 × Int32 × Int32 × Int32 × Int32 × (Nat → Int64) × Int32)) (r : (Int32 × (Nat → Int32))), fX7_backA v_now_forgotten v_now_touches v_now_trapped v_now_one v_now_date a_history_steps v_history_known a_firstImage_history_steps v_firstImage_history_known v_firstImage_packed v_firstImage_kept p1 = q ∧ fX8_back N ma_now ma_isKept p1 = some r ∧ q.1 = r.1 ∧ Inv a_text_bytes v_text_length a_told_a a_told_b v_told_size q.2.1 q.2.2.1 q.2.2.2.1 q.2.2.2.2.1 q.2.2.2.2.2.1 q.2.2.2.2.2.2.1 q.2.2.2.2.2.2.2 a_firstImage_history_steps v_firstImage_history_known v_firstImage_packed v_firstImage_kept a_secondImage_history_steps v_secondImage_history_known v_secondImage_packed v_secondImage_kept a_seen_days a_seen_books a_seen_there v_seen_size v_traced ma_text mv_typed ma_books ma_numberA ma_numberB r.2 ma_isKept ma_seenDays ma_seenBook ma_seenIs mv_seen mv_trace := by
  have hI0 := hI
  obtain ⟨n, A, B, S, h, k, hT, ⟨hn, rfl, hbk, hab, hab8⟩, hS, ⟨rfl, rfl, rfl, rfl, rfl, hR⟩, hH, hI1, hI2, hW, rfl⟩ := hI
  subst hv
  unfold fX7_backA fX8_back
  rw [in_within]
  have hz : ¬ fX7_within 0 0 1 = 0 := by decide
  have eg : ∀ {α : Type} (x : Option α), vg (0 : Int32) 2 x = x := fun x => vg_iI (k := 0) (by decide) (by decide) (by decide)
  rw [if_neg hz, if_neg hz, t0, eg]
  obtain ⟨hk8, hk | ⟨hk, S', h', k', s1, s2, s3, s4⟩⟩ := id hI1
  · rw [hk] at hk8
    exact ⟨_, _, if_pos hk, if_pos hk8.symm, rfl, hI0⟩
  rw [hk] at hk8
  rw [if_neg (by rw [hk]; decide), if_neg (by rw [← hk8]; decide)]
  subst s2
  unfold fX2_restore fX1_copyFrom
  rw [t0, t10]
  simp only [unpk hn s1]
  obtain ⟨r, r1, r2⟩ := back_L25 (p := 0) (by decide) N 0 ma_now (by decide) (by omega)
  have r1' : fX8_back_L25 0 N 0 ma_now = some (r 14, r) := r1
  obtain ⟨z1, z2, z3, z4⟩ := id s4
  refine ⟨_, _, rfl, r1', ?_, n, A, B, S', h', k', hT, ⟨hn, rfl, hbk, hab, hab8⟩, s1, ⟨rfl, rfl, rfl, rfl, rfl, fun j hj => ?_⟩, ⟨z1, z2, ?_, fun i hi => ?_⟩, hI1.kept (fun j a b => ?_), hI2.kept (fun j a b => ?_), hW, rfl⟩
  · show iI _ = r 14
    rw [r2 14, if_pos (by omega), s3 14 (by decide)]
    rfl
  · show r j = _
    rw [r2 j, if_pos (by omega)]
    exact s3 j hj
  · show r (0 + 15) = _
    rw [r2, if_pos (by omega)]
    exact z3
  · obtain ⟨a, b, c⟩ := z4 i hi
    refine ⟨a, (cpy10 (by omega)).trans b, fun j hj => ?_⟩
    show r (0 + 16 + 15 * i + j) = _
    rw [r2, if_pos (by omega), ← c j hj]
    congr 1
    omega
  · show r j = _
    rw [r2, if_neg (by omega)]
  · show r j = _
    rw [r2, if_neg (by omega)]
theorem op_backB {N : Nat} (hN : 40000 ≤ N) {a_text_bytes : Nat → Int32} {v_text_length : Int32} {a_told_a : Nat → Int32} {a_told_b : Nat → Int32} {v_told_size : Int32} {v_now_forgotten : Int32} {v_now_touches : Int32} {v_now_trapped : Int32} {v_now_one : Int32} {v_now_date : Int32} {a_history_steps : Nat → Int64} {v_history_known : Int32} {a_firstImage_history_steps : Nat → Int64} {v_firstImage_history_known : Int32} {v_firstImage_packed : Int64} {v_firstImage_kept : Int32} {a_secondImage_history_steps : Nat → Int64} {v_secondImage_history_known : Int32} {v_secondImage_packed : Int64} {v_secondImage_kept : Int32} {a_seen_days : Nat → Int32} {a_seen_books : Nat → Int32} {a_seen_there : Nat → Int32} {v_seen_size : Int32} {v_traced : Int64} {ma_text : Nat → Int32} {mv_typed : Int32} {ma_books : Nat → Int32} {ma_numberA : Nat → Int32} {ma_numberB : Nat → Int32} {ma_now : Nat → Int32} {ma_isKept : Nat → Int32} {ma_seenDays : Nat → Int32} {ma_seenBook : Nat → Int32} {ma_seenIs : Nat → Int32} {mv_seen : Int32} {mv_trace : Int64} (hI : Inv a_text_bytes v_text_length a_told_a a_told_b v_told_size v_now_forgotten v_now_touches v_now_trapped v_now_one v_now_date a_history_steps v_history_known a_firstImage_history_steps v_firstImage_history_known v_firstImage_packed v_firstImage_kept a_secondImage_history_steps v_secondImage_history_known v_secondImage_packed v_secondImage_kept a_seen_days a_seen_books a_seen_there v_seen_size v_traced ma_text mv_typed ma_books ma_numberA ma_numberB ma_now ma_isKept ma_seenDays ma_seenBook ma_seenIs mv_seen mv_trace) (p1 : Int32) (hv : ¬ p1 = 0) : ∃ (q : (Int32 × Int32 × Int32 × Int32 × Int32 × Int32 × (Nat → Int64) × Int32)) (r : (Int32 × (Nat → Int32))), fX7_backB v_now_forgotten v_now_touches v_now_trapped v_now_one v_now_date a_history_steps v_history_known a_secondImage_history_steps v_secondImage_history_known v_secondImage_packed v_secondImage_kept p1 = q ∧ fX8_back N ma_now ma_isKept p1 = some r ∧ q.1 = r.1 ∧ Inv a_text_bytes v_text_length a_told_a a_told_b v_told_size q.2.1 q.2.2.1 q.2.2.2.1 q.2.2.2.2.1 q.2.2.2.2.2.1 q.2.2.2.2.2.2.1 q.2.2.2.2.2.2.2 a_firstImage_history_steps v_firstImage_history_known v_firstImage_packed v_firstImage_kept a_secondImage_history_steps v_secondImage_history_known v_secondImage_packed v_secondImage_kept a_seen_days a_seen_books a_seen_there v_seen_size v_traced ma_text mv_typed ma_books ma_numberA ma_numberB r.2 ma_isKept ma_seenDays ma_seenBook ma_seenIs mv_seen mv_trace := by
  have hI0 := hI
  obtain ⟨n, A, B, S, h, k, hT, ⟨hn, rfl, hbk, hab, hab8⟩, hS, ⟨rfl, rfl, rfl, rfl, rfl, hR⟩, hH, hI1, hI2, hW, rfl⟩ := hI
  unfold fX7_backB fX8_back
  rw [in_within]
  rcases win p1 0 1 0 1 rfl rfl (by decide) (by decide) with hz | ⟨k1, -, hk1, rfl, hz⟩
  · exact ⟨_, _, if_pos hz, if_pos hz, rfl, hI0⟩
  have hk2 : k1 = 1 := by
    have : k1 = 0 ∨ k1 = 1 := by omega
    rcases this with rfl | rfl
    · exact absurd rfl hv
    · rfl
  subst hk2
  have eg : ∀ {α : Type} (x : Option α), vg (iI ((1 : Nat) : Int)) 2 x = x := fun x => vg_iI (k := 1) (by decide) (by decide) (by decide)
  have e1 : (iI ((1 : Nat) : Int)).toNatClampNeg = 1 := by decide
  rw [if_neg hz, if_neg hz, eg, e1]
  obtain ⟨hk8, hk | ⟨hk, S', h', k', s1, s2, s3, s4⟩⟩ := id hI2
  · rw [hk] at hk8
    exact ⟨_, _, if_pos hk, if_pos hk8.symm, rfl, hI0⟩
  rw [hk] at hk8
  rw [if_neg (by rw [hk]; decide), if_neg (by rw [← hk8]; decide)]
  subst s2
  unfold fX2_restore fX1_copyFrom
  rw [t0, t10]
  simp only [unpk hn s1]
  obtain ⟨r, r1, r2⟩ := back_L25 (p := 1) (by decide) N 0 ma_now (by decide) (by omega)
  have r1' : fX8_back_L25 (iI ((1 : Nat) : Int)) N 0 ma_now = some (r 14, r) := r1
  obtain ⟨z1, z2, z3, z4⟩ := id s4
  refine ⟨_, _, rfl, r1', ?_, n, A, B, S', h', k', hT, ⟨hn, rfl, hbk, hab, hab8⟩, s1, ⟨rfl, rfl, rfl, rfl, rfl, fun j hj => ?_⟩, ⟨z1, z2, ?_, fun i hi => ?_⟩, hI1.kept (fun j a b => ?_), hI2.kept (fun j a b => ?_), hW, rfl⟩
  · show iI _ = r 14
    rw [r2 14, if_pos (by omega), s3 14 (by decide)]
    rfl
  · show r j = _
    rw [r2 j, if_pos (by omega)]
    exact s3 j hj
  · show r (0 + 15) = _
    rw [r2, if_pos (by omega)]
    exact z3
  · obtain ⟨a, b, c⟩ := z4 i hi
    refine ⟨a, (cpy10 (by omega)).trans b, fun j hj => ?_⟩
    show r (0 + 16 + 15 * i + j) = _
    rw [r2, if_pos (by omega), ← c j hj]
    congr 1
    omega
  · show r j = _
    rw [r2, if_neg (by omega)]
  · show r j = _
    rw [r2, if_neg (by omega)]
end OPS2
