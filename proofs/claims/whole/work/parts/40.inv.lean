/-! NOW as numbers; what both hold of it -/
section INV
abbrev NS : Type := Nat × Nat × Nat × Int × Nat
def pk (S : NS) : Int64 := fX3_packed (iI S.1) (iI S.2.1) (iI S.2.2.1) (iI S.2.2.2.1) (iI S.2.2.2.2)
def rowS (S : NS) (j : Nat) : Int32 := if j < 6 then iI ((fg S.1 j : Nat) : Int) else if j < 12 then iI ((mk6 (nbr S.2.1 (j - 6)) : Nat) : Int) else if j = 12 then iI S.2.2.1 else if j = 13 then iI S.2.2.2.1 else iI S.2.2.2.2
def wfS (n : Nat) (S : NS) : Prop := S.1 < 4096 ∧ S.2.1 < 32768 ∧ S.2.2.1 < 64 ∧ (S.2.2.2.1 = -9 ∨ (0 ≤ S.2.2.2.1 ∧ S.2.2.2.1 < n)) ∧ S.2.2.2.2 ≤ 999 ∧ ∀ x y, x < 6 → y < 6 → nbr S.2.1 x y = true → x < n ∧ y < n
def IvT (bytes : Nat → Int32) (len : Int32) (text : Nat → Int32) (typed : Int32) : Prop := ∃ (L : Nat) (c : Nat → Nat), L ≤ 150 ∧ len = iI L ∧ typed = iI L ∧ ∀ i, i < L → c i < 256 ∧ bytes i = iI (c i) ∧ text i = (iI (c i)).toInt8.toInt32
def IvB (n : Nat) (A B : Nat → Nat) (size : Int32) (a b books nA nB : Nat → Int32) : Prop := n ≤ 6 ∧ size = iI n ∧ books 0 = iI n ∧ rowsAt n A B a b ∧ rowsAt n A B nA nB
def IvN (S : NS) (fo tc tr on da : Int32) (now : Nat → Int32) : Prop := fo = iI S.1 ∧ tc = iI S.2.1 ∧ tr = iI S.2.2.1 ∧ on = iI S.2.2.2.1 ∧ da = iI S.2.2.2.2 ∧ ∀ j, j < 15 → now j = rowS S j
def IvH (n : Nat) (h : Nat → NS) (k : Nat) (known : Int32) (steps : Nat → Int64) (now : Nat → Int32) (off : Nat) : Prop := k ≤ 10 ∧ known = iI k ∧ now (off + 15) = iI k ∧ ∀ i, i < k → wfS n (h i) ∧ steps i = pk (h i) ∧ ∀ j, j < 15 → now (off + 16 + 15 * i + j) = rowS (h i) j
def IvI (n : Nat) (steps : Nat → Int64) (known : Int32) (packed : Int64) (kept : Int32) (now : Nat → Int32) (kept8 : Int32) (off : Nat) : Prop := kept = kept8 ∧ (kept = 0 ∨ (kept = 1 ∧ ∃ (S : NS) (h : Nat → NS) (k : Nat), wfS n S ∧ packed = pk S ∧ (∀ j, j < 15 → now (off + j) = rowS S j) ∧ IvH n h k known steps now off))
def IvW (n : Nat) (days books there : Nat → Int32) (size : Int32) (days8 book8 is8 : Nat → Int32) (seen : Int32) : Prop := ∃ (w : Nat) (d b z : Nat → Nat), w ≤ 6 ∧ size = iI w ∧ seen = iI w ∧ ∀ i, i < w → d i ≤ 20 ∧ b i < n ∧ z i < 2 ∧ days i = iI (d i) ∧ days8 i = iI (d i) ∧ books i = iI (b i) ∧ book8 i = iI (b i) ∧ there i = iI (z i) ∧ is8 i = iI (z i)
def Inv (a_text_bytes : Nat → Int32) (v_text_length : Int32) (a_told_a : Nat → Int32) (a_told_b : Nat → Int32) (v_told_size : Int32) (v_now_forgotten : Int32) (v_now_touches : Int32) (v_now_trapped : Int32) (v_now_one : Int32) (v_now_date : Int32) (a_history_steps : Nat → Int64) (v_history_known : Int32) (a_firstImage_history_steps : Nat → Int64) (v_firstImage_history_known : Int32) (v_firstImage_packed : Int64) (v_firstImage_kept : Int32) (a_secondImage_history_steps : Nat → Int64) (v_secondImage_history_known : Int32) (v_secondImage_packed : Int64) (v_secondImage_kept : Int32) (a_seen_days : Nat → Int32) (a_seen_books : Nat → Int32) (a_seen_there : Nat → Int32) (v_seen_size : Int32) (v_traced : Int64) (ma_text : Nat → Int32) (mv_typed : Int32) (ma_books : Nat → Int32) (ma_numberA : Nat → Int32) (ma_numberB : Nat → Int32) (ma_now : Nat → Int32) (ma_isKept : Nat → Int32) (ma_seenDays : Nat → Int32) (ma_seenBook : Nat → Int32) (ma_seenIs : Nat → Int32) (mv_seen : Int32) (mv_trace : Int64) : Prop :=
  ∃ (n : Nat) (A B : Nat → Nat) (S : NS) (h : Nat → NS) (k : Nat), IvT a_text_bytes v_text_length ma_text mv_typed ∧ IvB n A B v_told_size a_told_a a_told_b ma_books ma_numberA ma_numberB ∧ wfS n S ∧ IvN S v_now_forgotten v_now_touches v_now_trapped v_now_one v_now_date ma_now ∧ IvH n h k v_history_known a_history_steps ma_now 0 ∧
    IvI n a_firstImage_history_steps v_firstImage_history_known v_firstImage_packed v_firstImage_kept ma_now (ma_isKept 0) 166 ∧ IvI n a_secondImage_history_steps v_secondImage_history_known v_secondImage_packed v_secondImage_kept ma_now (ma_isKept 1) 332 ∧
    IvW n a_seen_days a_seen_books a_seen_there v_seen_size ma_seenDays ma_seenBook ma_seenIs mv_seen ∧ v_traced = mv_trace
theorem rowS_lo {S : NS} {j : Nat} (h : j < 6) : rowS S j = iI ((fg S.1 j : Nat) : Int) := if_pos h
theorem rowS_mi {S : NS} {j : Nat} (h : j < 6) : rowS S (6 + j) = iI ((mk6 (nbr S.2.1 j) : Nat) : Int) := by
  unfold rowS
  rw [if_neg (by omega), if_pos (by omega), Nat.add_sub_cancel_left]
theorem rowS_12 {S : NS} : rowS S 12 = iI S.2.2.1 := rfl
theorem rowS_13 {S : NS} : rowS S 13 = iI S.2.2.2.1 := rfl
theorem rowS_14 {S : NS} : rowS S 14 = iI S.2.2.2.2 := rfl
/-- the row of now depends on its fifteen places alone -/
theorem IvH.kept {n : Nat} {h : Nat → NS} {k : Nat} {known : Int32} {steps : Nat → Int64} {now now' : Nat → Int32} {off : Nat} (hH : IvH n h k known steps now off) (e : ∀ j, off + 15 ≤ j → j < off + 166 → now' j = now j) : IvH n h k known steps now' off := by
  obtain ⟨h1, h2, h3, h4⟩ := hH
  refine ⟨h1, h2, by rw [e _ (by omega) (by omega)]; exact h3, fun i hi => ?_⟩
  obtain ⟨q1, q2, q3⟩ := h4 i hi
  exact ⟨q1, q2, fun j hj => by rw [e _ (by omega) (by omega)]; exact q3 j hj⟩
theorem IvI.kept {n : Nat} {steps : Nat → Int64} {known : Int32} {packed : Int64} {kept kept8 : Int32} {now now' : Nat → Int32} {off : Nat} (hI : IvI n steps known packed kept now kept8 off) (e : ∀ j, off ≤ j → j < off + 166 → now' j = now j) : IvI n steps known packed kept now' kept8 off := by
  obtain ⟨h1, h2⟩ := hI
  refine ⟨h1, ?_⟩
  rcases h2 with h2 | ⟨h2, S, h, k, q1, q2, q3, q4⟩
  · exact Or.inl h2
  · exact Or.inr ⟨h2, S, h, k, q1, q2, fun j hj => by rw [e _ (by omega) (by omega)]; exact q3 j hj, q4.kept fun j a b => e j (by omega) b⟩
/-! the copies of rows -/
theorem know_L58 : ∀ (m i k : Nat) (w : Nat → Int32), i ≤ 15 → 15 - i < m → k ≤ 9 → w 15 = iI k → ∃ r, fX8_know_L58 m (iI i) w = some r ∧ ∀ j, r j = if j = 15 then iI ((k + 1 : Nat) : Int) else if 16 + 15 * k + i ≤ j ∧ j < 16 + 15 * k + 15 then w (j - (16 + 15 * k)) else w j
  | 0, i, k, w, _, h, _, _ => absurd h (Nat.not_lt_zero _)
  | m + 1, i, k, w, hi, hm, hk, hw => by
    rw [fX8_know_L58]
    by_cases h : i = 15
    · subst h
      rw [if_pos (by decide), t15, hw, iI_s]
      refine ⟨_, rfl, fun j => ?_⟩
      by_cases hj : j = 15
      · subst hj
        rw [pk_us, if_pos rfl]
      · rw [pk_un hj, if_neg hj, if_neg (by omega)]
    · rw [if_neg (by rw [iI_lit 15, iI_le (by decide) (by decide) (by omega) (by omega)]; show ¬ (15 : Int) ≤ i; omega), t15, hw]
      have e : ((16 : Int32) + ((15 : Int32) * iI (k : Int))) + iI (i : Int) = iI ((16 + 15 * k + i : Nat) : Int) := by
        rw [iI_lit 16, iI_lit 15, iI_mul, iI_add, iI_add]
        congr 1 <;> (show (16 : Int) + 15 * k + i = _; omega)
      rw [e, vg_iI (by omega) (by omega) (by omega), vg_iI (by omega) (by omega) (by omega), iI_clamp (by omega) (by omega), iI_clamp (by omega) (by omega), Int.toNat_natCast, Int.toNat_natCast, iI_s]
      obtain ⟨r, q1, q2⟩ := know_L58 m (i + 1) k (upd w (16 + 15 * k + i) (w i)) (by omega) (by omega) hk (by rw [pk_un (by omega)]; exact hw)
      refine ⟨r, q1, fun j => ?_⟩
      rw [q2 j]
      by_cases hj : j = 15
      · rw [if_pos hj, if_pos hj]
      · rw [if_neg hj, if_neg hj]
        by_cases hj2 : 16 + 15 * k + (i + 1) ≤ j ∧ j < 16 + 15 * k + 15
        · rw [if_pos hj2, if_pos (by omega), pk_un (by omega)]
        · rw [if_neg hj2]
          by_cases hj3 : j = 16 + 15 * k + i
          · subst hj3
            rw [pk_us, if_pos (by omega), Nat.add_sub_cancel_left]
          · rw [pk_un hj3, if_neg (by omega)]
theorem know_L14 {N : Nat} : ∀ (m i : Nat) (w : Nat → Int32), i ≤ 135 → 135 - i < m → ∃ w', fX8_know_L14 N m (iI i) w = fX8_know_J56 N (upd w' 15 ((w' 15) - 1)) ∧ ∀ j, w' j = if 16 + i ≤ j ∧ j < 151 then w (j + 15) else w j
  | 0, i, w, _, h => absurd h (Nat.not_lt_zero _)
  | m + 1, i, w, hi, hm => by
    rw [fX8_know_L14]
    by_cases h : i = 135
    · subst h
      rw [if_pos (by decide), t15]
      exact ⟨w, rfl, fun j => by rw [if_neg (by omega)]⟩
    · rw [if_neg (by rw [iI_lit 135, iI_le (by decide) (by decide) (by omega) (by omega)]; show ¬ (135 : Int) ≤ i; omega)]
      have e : (31 : Int32) + iI (i : Int) = iI ((31 + i : Nat) : Int) := by rw [iI_lit 31, iI_add] <;> congr 1
      have e2 : (16 : Int32) + iI (i : Int) = iI ((16 + i : Nat) : Int) := by rw [iI_lit 16, iI_add] <;> congr 1
      rw [e, e2, vg_iI (by omega) (by omega) (by omega), vg_iI (by omega) (by omega) (by omega), iI_clamp (by omega) (by omega), iI_clamp (by omega) (by omega), Int.toNat_natCast, Int.toNat_natCast, iI_s]
      obtain ⟨w', q1, q2⟩ := know_L14 m (i + 1) (upd w (16 + i) (w (31 + i))) (by omega) (by omega)
      refine ⟨w', q1, fun j => ?_⟩
      rw [q2 j]
      by_cases hj2 : 16 + (i + 1) ≤ j ∧ j < 151
      · rw [if_pos hj2, if_pos (by omega), pk_un (by omega)]
      · rw [if_neg hj2]
        by_cases hj3 : j = 16 + i
        · subst hj3
          rw [pk_us, if_pos (by omega)]
          congr 1
          omega
        · rw [pk_un hj3, if_neg (by omega)]
theorem undo_L26 : ∀ (m i k : Nat) (w : Nat → Int32), i ≤ 15 → 15 - i < m → k ≤ 9 → w 15 = iI k → ∃ r, fX8_undo_L26 m (iI i) w = some (iI k, r) ∧ ∀ j, r j = if i ≤ j ∧ j < 15 then w (16 + 15 * k + j) else w j
  | 0, i, k, w, _, h, _, _ => absurd h (Nat.not_lt_zero _)
  | m + 1, i, k, w, hi, hm, hk, hw => by
    rw [fX8_undo_L26]
    by_cases h : i = 15
    · subst h
      rw [if_pos (by decide), t15, hw]
      exact ⟨w, rfl, fun j => by rw [if_neg (by omega)]⟩
    · rw [if_neg (by rw [iI_lit 15, iI_le (by decide) (by decide) (by omega) (by omega)]; show ¬ (15 : Int) ≤ i; omega), t15, hw]
      have e : ((16 : Int32) + ((15 : Int32) * iI (k : Int))) + iI (i : Int) = iI ((16 + 15 * k + i : Nat) : Int) := by
        rw [iI_lit 16, iI_lit 15, iI_mul, iI_add, iI_add]
        congr 1 <;> (show (16 : Int) + 15 * k + i = _; omega)
      rw [e, vg_iI (by omega) (by omega) (by omega), vg_iI (by omega) (by omega) (by omega), iI_clamp (by omega) (by omega), iI_clamp (by omega) (by omega), Int.toNat_natCast, Int.toNat_natCast, iI_s]
      obtain ⟨r, q1, q2⟩ := undo_L26 m (i + 1) k (upd w i (w (16 + 15 * k + i))) (by omega) (by omega) hk (by rw [pk_un (by omega)]; exact hw)
      refine ⟨r, q1, fun j => ?_⟩
      rw [q2 j]
      by_cases hj2 : i + 1 ≤ j ∧ j < 15
      · rw [if_pos hj2, if_pos (by omega), pk_un (by omega)]
      · rw [if_neg hj2]
        by_cases hj3 : j = i
        · subst hj3
          rw [pk_us, if_pos (by omega)]
        · rw [pk_un hj3, if_neg (by omega)]
theorem e166 (p i : Nat) : ((166 : Int32) * ((1 : Int32) + iI (p : Int))) + iI (i : Int) = iI ((166 * (1 + p) + i : Nat) : Int) := by
  rw [iI_lit 166, iI_lit 1, iI_add, iI_mul, iI_add]
  congr 1 <;> (show (166 : Int) * (1 + p) + i = _; omega)
theorem keep_L13 {isK : Nat → Int32} {p : Nat} (hp : p < 2) : ∀ (m i : Nat) (w : Nat → Int32), i ≤ 166 → 166 - i < m → ∃ r, fX8_keep_L13 isK (iI p) m (iI i) w = some (r 14, r, upd isK p (vp_nar .boolean (1 : Int32))) ∧ ∀ j, r j = if 166 * (1 + p) + i ≤ j ∧ j < 166 * (1 + p) + 166 then w (j - 166 * (1 + p)) else w j
  | 0, i, w, _, h => absurd h (Nat.not_lt_zero _)
  | m + 1, i, w, hi, hm => by
    rw [fX8_keep_L13]
    by_cases h : i = 166
    · subst h
      rw [if_pos (by decide), t14, vg_iI (by omega) (by omega) (by omega), iI_clamp (by omega) (by omega), Int.toNat_natCast]
      exact ⟨w, rfl, fun j => by rw [if_neg (by omega)]⟩
    · rw [if_neg (by rw [iI_lit 166, iI_le (by decide) (by decide) (by omega) (by omega)]; show ¬ (166 : Int) ≤ i; omega)]
      rw [e166, vg_iI (by omega) (by omega) (by omega), vg_iI (by omega) (by omega) (by omega), iI_clamp (by omega) (by omega), iI_clamp (by omega) (by omega), Int.toNat_natCast, Int.toNat_natCast, iI_s]
      obtain ⟨r, q1, q2⟩ := keep_L13 hp m (i + 1) (upd w (166 * (1 + p) + i) (w i)) (by omega) (by omega)
      refine ⟨r, q1, fun j => ?_⟩
      rw [q2 j]
      by_cases hj2 : 166 * (1 + p) + (i + 1) ≤ j ∧ j < 166 * (1 + p) + 166
      · rw [if_pos hj2, if_pos (by omega), pk_un (by omega)]
      · rw [if_neg hj2]
        by_cases hj3 : j = 166 * (1 + p) + i
        · subst hj3
          rw [pk_us, if_pos (by omega), Nat.add_sub_cancel_left]
        · rw [pk_un hj3, if_neg (by omega)]
theorem back_L25 {p : Nat} (hp : p < 2) : ∀ (m i : Nat) (w : Nat → Int32), i ≤ 166 → 166 - i < m → ∃ r, fX8_back_L25 (iI p) m (iI i) w = some (r 14, r) ∧ ∀ j, r j = if i ≤ j ∧ j < 166 then w (166 * (1 + p) + j) else w j
  | 0, i, w, _, h => absurd h (Nat.not_lt_zero _)
  | m + 1, i, w, hi, hm => by
    rw [fX8_back_L25]
    by_cases h : i = 166
    · subst h
      rw [if_pos (by decide), t14]
      exact ⟨w, rfl, fun j => by rw [if_neg (by omega)]⟩
    · rw [if_neg (by rw [iI_lit 166, iI_le (by decide) (by decide) (by omega) (by omega)]; show ¬ (166 : Int) ≤ i; omega)]
      rw [e166, vg_iI (by omega) (by omega) (by omega), vg_iI (by omega) (by omega) (by omega), iI_clamp (by omega) (by omega), iI_clamp (by omega) (by omega), Int.toNat_natCast, Int.toNat_natCast, iI_s]
      obtain ⟨r, q1, q2⟩ := back_L25 hp m (i + 1) (upd w i (w (166 * (1 + p) + i))) (by omega) (by omega)
      refine ⟨r, q1, fun j => ?_⟩
      rw [q2 j]
      by_cases hj2 : i + 1 ≤ j ∧ j < 166
      · rw [if_pos hj2, if_pos (by omega), pk_un (by omega)]
      · rw [if_neg hj2]
        by_cases hj3 : j = i
        · subst hj3
          rw [pk_us, if_pos (by omega)]
        · rw [pk_un hj3, if_neg (by omega)]
/-! what may be undone grows -/
def push (h : Nat → NS) (k : Nat) (S : NS) : Nat → NS := fun i => if k < 10 then (if i = k then S else h i) else (if i = 9 then S else h (i + 1))
def pushk (k : Nat) : Nat := if k < 10 then k + 1 else 10
theorem know_iI {N n k : Nat} {S : NS} {h : Nat → NS} {known : Int32} {steps : Nat → Int64} {now : Nat → Int32} (hN : 300 ≤ N) (hS : wfS n S) (hR : ∀ j, j < 15 → now j = rowS S j) (hH : IvH n h k known steps now 0) :
    ∃ (steps' : Nat → Int64) (now' : Nat → Int32), fX7_remember (iI S.1) (iI S.2.1) (iI S.2.2.1) (iI S.2.2.2.1) (iI S.2.2.2.2) steps known = some (steps', iI (pushk k)) ∧ fX8_know N now = some now' ∧ (∀ j, j < 15 → now' j = now j) ∧ (∀ j, 166 ≤ j → now' j = now j) ∧ IvH n (push h k S) (pushk k) (iI (pushk k)) steps' now' 0 := by
  obtain ⟨h1, rfl, h3, h4⟩ := hH
  rw [Nat.zero_add] at h3
  unfold fX7_remember fX1_append fX8_know
  rw [t15, h3]
  by_cases hk : k < 10
  · have ek : pushk k = k + 1 := if_pos hk
    rw [if_pos (by rw [iI_lit 10, iI_lt (by omega) (by omega) (by decide) (by decide)]; show (k : Int) < 10; omega)]
    rw [if_neg (by rw [iI_lit 10, iI_eq (by omega) (by omega) (by decide) (by decide)]; show ¬ (k : Int) = 10; omega)]
    unfold fX1_append_J30 fX8_know_J56
    rw [vg_iI (by omega) (by omega) (by omega), iI_clamp (by omega) (by omega), Int.toNat_natCast, Option.bind_some, ek]
    have e1 : iI (k : Int) + (1 : Int32) = iI ((k + 1 : Nat) : Int) := iI_s k
    rw [e1]
    have e0 : (0 : Int32) = iI ((0 : Nat) : Int) := rfl
    rw [e0]
    obtain ⟨r, q1, q2⟩ := know_L58 N 0 k now (by decide) (by omega) (by omega) h3
    refine ⟨_, r, rfl, q1, fun j hj => ?_, fun j hj => ?_, by omega, rfl, ?_, fun i hi => ?_⟩
    · rw [q2 j, if_neg (by omega), if_neg (by omega)]
    · rw [q2 j, if_neg (by omega), if_neg (by omega)]
    · rw [Nat.zero_add, q2 15, if_pos rfl]
    · unfold push
      rw [if_pos hk]
      by_cases hik : i = k
      · subst hik
        rw [if_pos rfl]
        dsimp only
        rw [pk_uLs]
        refine ⟨hS, rfl, fun j hj => ?_⟩
        rw [q2, if_neg (by omega), if_pos (by omega)]
        rw [show 0 + 16 + 15 * i + j - (16 + 15 * i) = j by omega]
        exact hR j hj
      · rw [if_neg hik]
        dsimp only
        rw [pk_uLn hik]
        obtain ⟨a, b, c⟩ := h4 i (by omega)
        refine ⟨a, b, fun j hj => ?_⟩
        rw [q2, if_neg (by omega), if_neg (by omega)]
        exact c j hj
  · have hk10 : k = 10 := by omega
    subst hk10
    have ek : pushk 10 = 10 := rfl
    rw [if_neg (by decide), if_pos (by decide)]
    unfold fX1_append_J30
    have e0 : (0 : Int32) = iI ((0 : Nat) : Int) := rfl
    have e9 : (9 : Int32) = iI ((9 : Nat) : Int) := rfl
    rw [e9, vg_iI (by omega) (by omega) (by omega), iI_clamp (by omega) (by omega), Int.toNat_natCast, Option.bind_some, ek]
    have e1 : iI ((9 : Nat) : Int) + (1 : Int32) = iI ((10 : Nat) : Int) := rfl
    rw [e1, t1, t0]
    obtain ⟨w', q1, q2⟩ := know_L14 (N := N) N 0 now (by decide) (by omega)
    have hw15 : w' 15 = iI ((10 : Nat) : Int) := by
      rw [q2 15, if_neg (by omega)]
      exact h3
    obtain ⟨r, q3, q4⟩ := know_L58 N 0 9 (upd w' 15 (w' 15 - 1)) (by decide) (by omega) (by omega) (by rw [pk_us, hw15]; rfl)
    rw [e0, q1]
    unfold fX8_know_J56
    rw [e0]
    refine ⟨_, r, rfl, q3, fun j hj => ?_, fun j hj => ?_, by decide, rfl, ?_, fun i hi => ?_⟩
    · rw [q4 j, if_neg (by omega), if_neg (by omega), pk_un (by omega), q2 j, if_neg (by omega)]
    · rw [q4 j, if_neg (by omega), if_neg (by omega), pk_un (by omega), q2 j, if_neg (by omega)]
    · rw [Nat.zero_add, q4 15, if_pos rfl]
    · unfold push
      rw [if_neg (by decide)]
      by_cases hik : i = 9
      · subst hik
        rw [if_pos rfl]
        dsimp only
        rw [pk_uLs]
        refine ⟨hS, rfl, fun j hj => ?_⟩
        rw [q4, if_neg (by omega), if_pos (by omega)]
        rw [show 0 + 16 + 15 * 9 + j - (16 + 15 * 9) = j by omega, pk_un (by omega), q2 j, if_neg (by omega)]
        exact hR j hj
      · rw [if_neg hik]
        dsimp only
        rw [pk_uLn hik]
        obtain ⟨a, b, c⟩ := h4 (i + 1) (by omega)
        refine ⟨a, ?_, fun j hj => ?_⟩
        · rw [pk_cpy_in (Nat.zero_le _) (by omega)]
          rw [Nat.sub_zero, Nat.add_comm]
          exact b
        · rw [q4, if_neg (by omega), if_neg (by omega), pk_un (by omega), q2, if_pos (by omega)]
          have := c j hj
          rw [← this]
          congr 1
          omega
theorem pk_lN {n : Nat} {S : NS} (hn : n ≤ 6) (hS : wfS n S) : pk S = lN (pkN S.1 S.2.1 S.2.2.1 (oq S.2.2.2.1) S.2.2.2.2) := by
  obtain ⟨h1, h2, h3, h4, h5, -⟩ := hS
  exact packed_iI h1 h2 h3 (by omega) (by omega) h5
theorem unpk {n : Nat} {S : NS} (hn : n ≤ 6) (hS : wfS n S) (a b c d e : Int32) : fX3_unpack a b c d e (pk S) = (iI S.1, iI S.2.1, iI S.2.2.1, iI S.2.2.2.1, iI S.2.2.2.2) := by
  rw [pk_lN hn hS]
  obtain ⟨h1, h2, h3, h4, h5, -⟩ := hS
  exact unpack_iI h1 h2 h3 (by omega) h5 a b c d e
end INV
