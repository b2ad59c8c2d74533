/-! the public call why -/
section WHY3
def oo (o : Int) (k : Nat) : Int := if 0 ≤ o ∧ o < k then 10 else 0
theorem shownT_L {n F : Nat} {A B : Nat → Nat} {o : Int} {a b : Nat → Int32} (hn : n ≤ 6) (hF : F < 4096) (ho : -10 < o) (ho2 : o < 10) (hab : rowsAt n A B a b) : ∀ (m i : Nat), i ≤ n → n - i < m → fX7_shownTogether_L4 a b (iI (n : Int)) (iI (F : Int)) (iI o) m (iI (sg A B F i + oo o i)) (iI (i : Int)) = some (iI (sg A B F n + oo o n))
  | 0, _, _, h => absurd h (Nat.not_lt_zero _)
  | m + 1, i, hi, hm => by
    rw [fX7_shownTogether_L4]
    by_cases h : n ≤ i
    · have hin : i = n := by omega
      subst hin
      rw [if_pos (by rw [iI_le (by omega) (by omega) (by omega) (by omega)]; omega)]
    · obtain ⟨hA, hB, hA1, hB1⟩ := hab i (by omega)
      rw [if_neg (by rw [iI_le (by omega) (by omega) (by omega) (by omega)]; omega), shown_iI hF (by omega) hA1 hB1 ho ho2, Option.bind_some, iI_add, iI_s, ← shownT_L hn hF ho ho2 hab m (i + 1) (by omega) (by omega)]
      congr 2
      unfold sg wri oo
      rw [sA, fP, fQ]
      split <;> split <;> split <;> omega
theorem summedT_L {n : Nat} {A B : Nat → Nat} {a b : Nat → Int32} (hn : n ≤ 6) (hab : rowsAt n A B a b) : ∀ (m i : Nat), i ≤ n → n - i < m → fX7_summedTogether_L4 a b (iI (n : Int)) m (iI ((sA A B i : Nat) : Int)) (iI (i : Int)) = some (iI ((sA A B n : Nat) : Int))
  | 0, _, _, h => absurd h (Nat.not_lt_zero _)
  | m + 1, i, hi, hm => by
    rw [fX7_summedTogether_L4]
    by_cases h : n ≤ i
    · have hin : i = n := by omega
      subst hin
      rw [if_pos (by rw [iI_le (by omega) (by omega) (by omega) (by omega)]; omega)]
    · obtain ⟨hA, hB, hA1, hB1⟩ := hab i (by omega)
      rw [if_neg (by rw [iI_le (by omega) (by omega) (by omega) (by omega)]; omega), sum_iI (by omega) hA1 hB1, Option.bind_some, iI_add, iI_s, ← summedT_L hn hab m (i + 1) (by omega) (by omega)]
      congr 2
theorem lack_iI {N a b : Nat} {L : Int} (hN : 300 ≤ N) (ha : a ≤ 6) (hb : b ≤ 6) (h1 : -1000 ≤ L) (h2 : L ≤ 100000) : fX7_waysToLack N (iI L) (iI (a : Int)) (iI (b : Int)) = some (iI (((if L < 0 then 0 else chN a (L / 10 % 10).toNat * chN b (L / 100).toNat) : Nat) : Int)) := by
  unfold fX7_waysToLack
  have e : (0 : Int32) ≤ iI L ↔ (0 : Int) ≤ L := by
    rw [iI_lit 0]
    exact iI_le (by decide) (by decide) (by omega) (by omega)
  by_cases h : (0 : Int) ≤ L
  · rw [if_pos (e.mpr h), if_neg (by omega)]
    have ea : (iI L / (10 : Int32)) - (iI L / (10 : Int32)) / (10 : Int32) * (10 : Int32) = iI (((L / 10 % 10).toNat : Nat) : Int) := by
      simp (disch := omega) only [iI_lit, iI_div, iI_mul, iI_sub]
      congr 1
      omega
    have eb : iI L / (100 : Int32) = iI (((L / 100).toNat : Nat) : Int) := by
      rw [iI_lit 100, iI_div (by omega) (by omega) (by decide) (by decide)]
      congr 1
      show L / 100 = _
      omega
    rw [ea, eb, choose_iI hN ha (by omega), Option.bind_some, choose_iI hN hb (by omega), Option.bind_some, mulN]
  · rw [if_neg (fun q => h (e.mp q)), if_pos (by omega)]
    rfl
theorem c1_le (cc : Nat → Nat) : ∀ k, c1 cc k ≤ k
  | 0 => Nat.le_refl _
  | k + 1 => by
    have := c1_le cc k
    rw [c1]
    omega
theorem c2_le {cc : Nat → Nat} (h : ∀ i, cc i < 4) : ∀ k, c2 cc k ≤ k
  | 0 => Nat.le_refl _
  | k + 1 => by
    have := c2_le h k
    have := h k
    rw [c2]
    omega
theorem cce_lt {A B : Nat → Nat} (cl i : Nat) : cce (cr A B) cl i < 4 := by
  unfold cce
  split
  · decide
  · exact car_lt _ _
def kf (A B : Nat → Nat) (n : Nat) (L : Int) (cl : Nat) : Nat := wl (cr A B) n cl L + pf cl n * wl (cr A B) n cl (L + 10)
theorem sets_L {N n F cl : Nat} {A B : Nat → Nat} {o : Int} {a b : Nat → Int32} {p1 : Int32} (hN : 300 ≤ N) (hn : n ≤ 6) (hF : F < 4096) (ho : -10 < o) (ho2 : o < 10) (hab : rowsAt n A B a b) (hp : ∀ i : Nat, i < n → (iI (i : Int) = p1 ↔ i = cl)) : ∀ (m i : Nat), i ≤ n → n - i < m →
    fX7_setsWithout_L10 N a b (iI (n : Int)) (iI (F : Int)) (iI o) p1 m (iI ((c1 (cce (cr A B) cl) i : Nat) : Int)) (iI ((c2 (cce (cr A B) cl) i : Nat) : Int)) (iI ((pf cl i : Nat) : Int)) (iI (i : Int)) = some (iI ((kf A B n ((sA A B n : Int) - (sg A B F n + oo o n)) cl : Nat) : Int))
  | 0, _, _, h => absurd h (Nat.not_lt_zero _)
  | m + 1, i, hi, hm => by
    rw [fX7_setsWithout_L10]
    by_cases h : n ≤ i
    · have hin : i = n := by omega
      subst hin
      have hs := summedT_L hn hab N 0 (Nat.zero_le _) (by omega)
      have ht := shownT_L hn hF ho ho2 hab N 0 (Nat.zero_le _) (by omega)
      have ez : sg A B F 0 + oo o 0 = 0 := by
        unfold oo
        rw [if_neg (by omega)]
        rfl
      rw [ez] at ht
      have hs' : fX7_summedTogether N a b (iI (i : Int)) = _ := hs
      have ht' : fX7_shownTogether N a b (iI (i : Int)) (iI (F : Int)) (iI o) = _ := ht
      have h1 := fP_le F i
      have h2 := fQ_le F i
      have h3 := c1_le (cce (cr A B) cl) i
      have h4 := c2_le (cce_lt (A := A) (B := B) cl) i
      have hL1 : -1000 ≤ (sA A B i : Int) - (sg A B F i + oo o i) := by
        unfold sg oo
        split <;> omega
      have hL2 : (sA A B i : Int) - (sg A B F i + oo o i) ≤ 10000 := by
        unfold sg oo
        split <;> omega
      have e10 : iI ((sA A B i : Int) - (sg A B F i + oo o i)) + (10 : Int32) = iI ((sA A B i : Int) - (sg A B F i + oo o i) + 10) := by rw [iI_lit 10, iI_add]
      rw [if_pos (by rw [iI_le (by omega) (by omega) (by omega) (by omega)]; omega), hs', Option.bind_some, ht', Option.bind_some, iI_sub, e10, lack_iI hN (by omega) (by omega) hL1 (by omega), Option.bind_some, lack_iI hN (by omega) (by omega) (by omega) (by omega), Option.bind_some, mulN, iI_addN]
      rfl
    · obtain ⟨hA, hB, hA1, hB1⟩ := hab i (by omega)
      rw [if_neg (by rw [iI_le (by omega) (by omega) (by omega) (by omega)]; omega), carries_iI (by omega) hA1 hB1 hA hB, Option.bind_some, Option.bind_some, f_and1 _ (car_lt _ _), f_shr1 _ (car_lt _ _), iI_addN, iI_addN, iI_s, iI_s]
      have ih := sets_L hN hn hF ho ho2 hab hp m (i + 1) (by omega) (by omega)
      rw [c1, c2, pf] at ih
      by_cases hic : i = cl
      · rw [if_pos ((hp i (by omega)).mpr hic)]
        unfold cce at ih ⊢
        rw [if_pos hic, if_pos hic] at ih
        exact ih
      · rw [if_neg (fun q => hic ((hp i (by omega)).mp q))]
        rw [if_neg hic] at ih
        have e : cce (cr A B) cl i = car (A i) (B i) := if_neg hic
        rw [e] at ih
        exact ih
theorem sets_iI {N n F cl : Nat} {A B : Nat → Nat} {o : Int} {a b : Nat → Int32} {p1 : Int32} (hN : 300 ≤ N) (hn : n ≤ 6) (hF : F < 4096) (ho : -10 < o) (ho2 : o < 10) (hab : rowsAt n A B a b) (hp : ∀ i : Nat, i < n → (iI (i : Int) = p1 ↔ i = cl)) : fX7_setsWithout N a b (iI (n : Int)) (iI (F : Int)) (iI o) p1 = some (iI ((kf A B n ((sA A B n : Int) - (sg A B F n + oo o n)) cl : Nat) : Int)) :=
  sets_L hN hn hF ho ho2 hab hp N 0 (Nat.zero_le _) (by omega)
theorem chN_dec : ∀ a : Nat, a < 7 → ∀ k : Nat, k < 7 → chN a k ≤ 20 := by decide +kernel
theorem chN_le (a k : Nat) (ha : a ≤ 6) : chN a k ≤ 20 := by
  by_cases h : k < 7
  · exact chN_dec a (by omega) k h
  · rw [chN_big a k (by omega)]
    omega
theorem kf_le {A B : Nat → Nat} {n cl : Nat} {L : Int} (hn : n ≤ 6) : kf A B n L cl ≤ 2800 := by
  have hw : ∀ L, wl (cr A B) n cl L ≤ 400 := by
    intro L
    unfold wl
    split
    · omega
    · have h3 := c1_le (cce (cr A B) cl) n
      have h4 := c2_le (cce_lt (A := A) (B := B) cl) n
      exact Nat.mul_le_mul (chN_le _ (L / 10 % 10).toNat (by omega)) (chN_le _ (L / 100).toNat (by omega))
  have h1 := hw L
  have h2 := hw (L + 10)
  have h3 := pf_le cl n
  have h4 : pf cl n * wl (cr A B) n cl (L + 10) ≤ 6 * 400 := Nat.mul_le_mul (by omega) h2
  unfold kf
  omega
theorem kk_kf {A B : Nat → Nat} {n cl F : Nat} {o : Int} (hn : n ≤ 6) : kk A B (cr A B) n (sg A B F n + oo o n) (4 ^ n) cl = kf A B n ((sA A B n : Int) - (sg A B F n + oo o n)) cl := by
  have hm : ((sA A B n : Int) - (sg A B F n + oo o n)) % 10 = 0 := by
    unfold sg oo
    split <;> omega
  have hcr : ∀ i, cr A B i < 4 := fun i => car_lt _ _
  unfold kk kf
  rw [cb_q1 hn hcr hm, cb_q1 hn hcr (by omega)]
  have e : (sA A B n : Int) - (sg A B F n + oo o n - 10) = (sA A B n : Int) - (sg A B F n + oo o n) + 10 := by omega
  rw [e]
theorem hp_b {n b : Nat} (hn : n ≤ 6) (hb : b < 6) : ∀ i : Nat, i < n → (iI (i : Int) = iI (b : Int) ↔ i = b) := by
  intro i hi
  rw [iI_eq (by omega) (by omega) (by omega) (by omega)]
  omega
theorem hp_6 {n : Nat} (hn : n ≤ 6) : ∀ i : Nat, i < n → (iI (i : Int) = (-9 : Int32) ↔ i = 6) := by
  intro i hi
  rw [e_m9, iI_eq (by omega) (by omega) (by decide) (by decide)]
  omega
theorem each_L {N n F : Nat} {A B : Nat → Nat} {o : Int} {a b : Nat → Int32} (hN : 300 ≤ N) (hn : n ≤ 6) (hF : F < 4096) (ho : -10 < o) (ho2 : o < 10) (hab : rowsAt n A B a b) : ∀ (m i s : Nat), i ≤ n → n - i < m →
    fX7_booksInEachSet_L4 N a b (iI (n : Int)) (iI (F : Int)) (iI o) m (iI (s : Int)) (iI (i : Int)) = some (iI ((msk (fun c => decide (kf A B n ((sA A B n : Int) - (sg A B F n + oo o n)) c = 0)) s (n - i) i : Nat) : Int))
  | 0, _, _, _, h => absurd h (Nat.not_lt_zero _)
  | m + 1, i, s, hi, hm => by
    rw [fX7_booksInEachSet_L4]
    by_cases h : n ≤ i
    · have e0 : n - i = 0 := by omega
      rw [if_pos (by rw [iI_le (by omega) (by omega) (by omega) (by omega)]; omega), e0]
      rfl
    · have e : n - i = (n - (i + 1)) + 1 := by omega
      have hk := kf_le (A := A) (B := B) (n := n) (cl := i) (L := (sA A B n : Int) - (sg A B F n + oo o n)) hn
      rw [if_neg (by rw [iI_le (by omega) (by omega) (by omega) (by omega)]; omega), sets_iI hN hn hF ho ho2 hab (hp_b hn (show i < 6 by omega)), Option.bind_some, e, msk, iI_s, bitor (by omega)]
      by_cases h2 : kf A B n ((sA A B n : Int) - (sg A B F n + oo o n)) i = 0
      · rw [if_pos ((eq0 (by omega)).mpr h2), each_L hN hn hF ho ho2 hab m (i + 1) _ (by omega) (by omega), if_pos (decide_eq_true h2)]
      · rw [if_neg (fun q => h2 ((eq0 (by omega)).mp q)), each_L hN hn hF ho ho2 hab m (i + 1) _ (by omega) (by omega), if_neg (by simp [h2])]
theorem some_L {N n F : Nat} {A B : Nat → Nat} {o : Int} {a b : Nat → Int32} (hN : 300 ≤ N) (hn : n ≤ 6) (hF : F < 4096) (ho : -10 < o) (ho2 : o < 10) (hab : rowsAt n A B a b) : ∀ (m i s : Nat), i ≤ n → n - i < m →
    fX7_booksInSomeSet_L11 N a b (iI (n : Int)) (iI (F : Int)) (iI o) (iI ((kf A B n ((sA A B n : Int) - (sg A B F n + oo o n)) 6 : Nat) : Int)) m (iI (s : Int)) (iI (i : Int)) = some (iI ((msk (fun c => decide (kf A B n ((sA A B n : Int) - (sg A B F n + oo o n)) c < kf A B n ((sA A B n : Int) - (sg A B F n + oo o n)) 6)) s (n - i) i : Nat) : Int))
  | 0, _, _, _, h => absurd h (Nat.not_lt_zero _)
  | m + 1, i, s, hi, hm => by
    rw [fX7_booksInSomeSet_L11]
    by_cases h : n ≤ i
    · have e0 : n - i = 0 := by omega
      rw [if_pos (by rw [iI_le (by omega) (by omega) (by omega) (by omega)]; omega), e0]
      rfl
    · have e : n - i = (n - (i + 1)) + 1 := by omega
      have hk := kf_le (A := A) (B := B) (n := n) (cl := i) (L := (sA A B n : Int) - (sg A B F n + oo o n)) hn
      have hk6 := kf_le (A := A) (B := B) (n := n) (cl := 6) (L := (sA A B n : Int) - (sg A B F n + oo o n)) hn
      rw [if_neg (by rw [iI_le (by omega) (by omega) (by omega) (by omega)]; omega), sets_iI hN hn hF ho ho2 hab (hp_b hn (show i < 6 by omega)), Option.bind_some, e, msk, iI_s, bitor (by omega)]
      by_cases h2 : kf A B n ((sA A B n : Int) - (sg A B F n + oo o n)) i < kf A B n ((sA A B n : Int) - (sg A B F n + oo o n)) 6
      · rw [if_neg (by rw [iI_le (by omega) (by omega) (by omega) (by omega)]; omega), some_L hN hn hF ho ho2 hab m (i + 1) _ (by omega) (by omega), if_pos (decide_eq_true h2)]
      · rw [if_pos (by rw [iI_le (by omega) (by omega) (by omega) (by omega)]; omega), some_L hN hn hF ho ho2 hab m (i + 1) _ (by omega) (by omega), if_neg (by simp [h2])]
theorem msk_eq {q : Nat → Bool} {e n : Nat} (hn : n ≤ 6) (he : e < 64) (h : ∀ b, b < 32 → e.testBit b = (decide (b < n) && q b)) : msk q 0 n 0 = e := by
  apply Nat.eq_of_testBit_eq
  intro j
  rw [msk_bit]
  by_cases hj : j < 32
  · rw [h j hj]
    have : decide (0 ≤ j ∧ j < 0 + n) = decide (j < n) := decide_eq_decide.mpr (by omega)
    rw [this]
    simp
  · have e1 : decide (0 ≤ j ∧ j < 0 + n) = false := decide_eq_false (by omega)
    have e2 : e.testBit j = false := Nat.testBit_lt_two_pow (by have : 2 ^ 6 ≤ 2 ^ j := Nat.pow_le_pow_right (by decide) (by omega); omega)
    rw [e1, e2]
    simp
theorem p2n1 : ∀ n : Nat, n ≤ 6 → ((1 : Int32) <<< (iI (n : Int) &&& 31)) - (1 : Int32) = iI ((2 ^ n - 1 : Nat) : Int) ∧ 2 ^ n - 1 < 64 := by decide +kernel
theorem op_why {N : Nat} (hN : 40000 ≤ N) {a_text_bytes : Nat → Int32} {v_text_length : Int32} {a_told_a : Nat → Int32} {a_told_b : Nat → Int32} {v_told_size : Int32} {v_now_forgotten : Int32} {v_now_touches : Int32} {v_now_trapped : Int32} {v_now_one : Int32} {v_now_date : Int32} {a_history_steps : Nat → Int64} {v_history_known : Int32} {a_firstImage_history_steps : Nat → Int64} {v_firstImage_history_known : Int32} {v_firstImage_packed : Int64} {v_firstImage_kept : Int32} {a_secondImage_history_steps : Nat → Int64} {v_secondImage_history_known : Int32} {v_secondImage_packed : Int64} {v_secondImage_kept : Int32} {a_seen_days : Nat → Int32} {a_seen_books : Nat → Int32} {a_seen_there : Nat → Int32} {v_seen_size : Int32} {v_traced : Int64} {ma_text : Nat → Int32} {mv_typed : Int32} {ma_books : Nat → Int32} {ma_numberA : Nat → Int32} {ma_numberB : Nat → Int32} {ma_now : Nat → Int32} {ma_isKept : Nat → Int32} {ma_seenDays : Nat → Int32} {ma_seenBook : Nat → Int32} {ma_seenIs : Nat → Int32} {mv_seen : Int32} {mv_trace : Int64} (hI : Inv a_text_bytes v_text_length a_told_a a_told_b v_told_size v_now_forgotten v_now_touches v_now_trapped v_now_one v_now_date a_history_steps v_history_known a_firstImage_history_steps v_firstImage_history_known v_firstImage_packed v_firstImage_kept a_secondImage_history_steps v_secondImage_history_known v_secondImage_packed v_secondImage_kept a_seen_days a_seen_books a_seen_there v_seen_size v_traced ma_text mv_typed ma_books ma_numberA ma_numberB ma_now ma_isKept ma_seenDays ma_seenBook ma_seenIs mv_seen mv_trace) (mv_sets : Int32) (mv_inEach : Int32) (mv_inSome : Int32) (p1 : Int32) : ∃ (q : Int32) (r : (Int32 × Int32 × Int32 × Int32)), fX7_why N a_told_a a_told_b v_told_size v_now_forgotten v_now_one p1 = some q ∧ fX8_why N ma_books ma_numberA ma_numberB ma_now mv_sets mv_inEach mv_inSome p1 = some r ∧ q = r.1 ∧ Inv a_text_bytes v_text_length a_told_a a_told_b v_told_size v_now_forgotten v_now_touches v_now_trapped v_now_one v_now_date a_history_steps v_history_known a_firstImage_history_steps v_firstImage_history_known v_firstImage_packed v_firstImage_kept a_secondImage_history_steps v_secondImage_history_known v_secondImage_packed v_secondImage_kept a_seen_days a_seen_books a_seen_there v_seen_size v_traced ma_text mv_typed ma_books ma_numberA ma_numberB ma_now ma_isKept ma_seenDays ma_seenBook ma_seenIs mv_seen mv_trace := by
  have hI0 := hI
  obtain ⟨n, A, B, S, h, k, hT, ⟨hn, rfl, hbk, hab, hab8⟩, hS, ⟨rfl, rfl, rfl, rfl, rfl, hR⟩, hH, hI1, hI2, hW, rfl⟩ := hI
  have ho := one_lo hS hn
  have hF := hS.1
  have hf : ∀ k, k < n → ma_now k = iI ((fg S.1 k : Nat) : Int) := fun k hk => by rw [hR k (by omega), rowS_lo (by omega)]
  have h13 : ma_now 13 = iI S.2.2.2.1 := by rw [hR 13 (by decide), rowS_13]
  obtain ⟨x2, x3, x4, x5, w1, w2, -, -, -⟩ := now_L (N := N) 2 hn hF ho.1 ho.2 hab hab8 hbk hf h13 N 0 0 0 0 0 (Nat.zero_le _) (by omega)
  have hsh := shownT_L hn hF ho.1 ho.2 hab N 0 (Nat.zero_le _) (by omega)
  have ez : sg A B S.1 0 + oo S.2.2.2.1 0 = 0 := by
    unfold oo
    rw [if_neg (by omega)]
    rfl
  rw [ez] at hsh
  have hx2 : x2 = iI (sg A B S.1 n + oo S.2.2.2.1 n) := by
    have := w2.symm.trans hsh
    exact Option.some.inj this
  subst hx2
  have hnow2 : fX8_now N ma_books ma_numberA ma_numberB ma_now 2 = some (iI (sg A B S.1 n + oo S.2.2.2.1 n)) := by
    unfold fX8_now
    refine w1.trans ?_
    rw [fX8_now_L13, t0, hbk, if_pos (show iI (n : Int) ≤ iI (n : Int) by rw [iI_le (by omega) (by omega) (by omega) (by omega)]; omega), if_neg (by decide), if_neg (by decide), if_pos rfl]
  have hb := sg_lo (c := S.1) hn (fun i hi => ⟨(hab i hi).1, (hab i hi).2.1⟩)
  have h1 := fP_le S.1 n
  have h2 := fQ_le S.1 n
  have h3 := sA_le (fun i hi => ⟨(hab i hi).1, (hab i hi).2.1⟩) n (Nat.le_refl _)
  have hoo : 0 ≤ oo S.2.2.2.1 n ∧ oo S.2.2.2.1 n ≤ 10 := by
    unfold oo
    split <;> omega
  have ht1 : -100000 ≤ sg A B S.1 n + oo S.2.2.2.1 n := by omega
  have ht2 : sg A B S.1 n + oo S.2.2.2.1 n ≤ 100000 := by
    have : sg A B S.1 n ≤ 99000 := by unfold sg; omega
    omega
  have hz0 : Zs n (kk A B (cr A B) n (sg A B S.1 n + oo S.2.2.2.1 n) 0) 0 (2 ^ n - 1) 0 := by
    have hk0 : ∀ cl, kk A B (cr A B) n (sg A B S.1 n + oo S.2.2.2.1 n) 0 cl = 0 := fun cl => by
      show 0 + pf cl n * 0 = 0
      omega
    refine ⟨(hk0 6).symm, fun b _ => ?_⟩
    rw [Nat.testBit_two_pow_sub_one, hk0, hk0, Nat.zero_testBit]
    exact ⟨by simp, by simp, fun _ => Nat.le_refl _, (p2n1 n hn).2, by decide⟩
  have h4n : 4 ^ n ≤ 4096 := by
    have : 4 ^ n ≤ 4 ^ 6 := Nat.pow_le_pow_right (by decide) hn
    exact this
  obtain ⟨s', e', o', g1, g2⟩ := why8_L43 (N := N) (p1 := p1) hN hn hbk hab8 ht1 ht2 N 0 0 (2 ^ n - 1) 0 (Nat.zero_le _) (by omega) hz0
  have g2' := Zs_congr (fun cl => kk_kf (A := A) (B := B) (cl := cl) (F := S.1) (o := S.2.2.2.1) hn) g2
  obtain ⟨z1', z2⟩ := g2'
  have e0 : (0 : Int32) = iI ((0 : Nat) : Int) := rfl
  have ee := each_L (N := N) (by omega) hn hF ho.1 ho.2 hab N 0 0 (Nat.zero_le _) (by omega)
  have es := some_L (N := N) (by omega) hn hF ho.1 ho.2 hab N 0 0 (Nat.zero_le _) (by omega)
  have hce := msk_eq hn (z2 0 (by decide)).2.2.2.1 (fun b hb => (z2 b hb).1)
  have hcs := msk_eq hn (z2 0 (by decide)).2.2.2.2 (fun b hb => (z2 b hb).2.1)
  rw [Nat.sub_zero, hce] at ee
  rw [Nat.sub_zero] at es
  rw [hcs] at es
  dsimp only at z1'
  rw [← z1'] at es
  have hset := sets_iI (N := N) (cl := 6) (p1 := (-9 : Int32)) (by omega) hn hF ho.1 ho.2 hab (hp_6 hn)
  rw [← z1'] at hset
  unfold fX7_why fX8_why fX7_booksInEachSet fX7_booksInSomeSet
  rw [in_within, hnow2, Option.bind_some, t0, hbk, (p2n1 n hn).1, hset, Option.bind_some, Option.bind_some]
  rw [← e0] at ee es g1
  rw [ee, es, g1, Option.bind_some, Option.bind_some]
  rcases win p1 0 2 0 2 rfl rfl (by decide) (by decide) with hz | ⟨w, -, hw, rfl, hz⟩
  · have hne : ∀ q : Nat, q ≤ 2 → ¬ p1 = iI (q : Int) := by
      intro q hq hp
      subst hp
      have e0 : (0 : Int32) = iI 0 := rfl
      have e5 : (2 : Int32) = iI 2 := rfl
      rw [e0, e5] at hz
      have := (within_0 (by omega) (by omega) (by decide) (by decide) (by decide) (by decide)).mp hz
      omega
    rw [if_pos hz, if_neg (show ¬ p1 = 0 from hne 0 (by decide)), if_neg (show ¬ p1 = 1 from hne 1 (by decide)), if_neg (show ¬ p1 = 2 from hne 2 (by decide))]
    exact ⟨_, _, rfl, rfl, rfl, hI0⟩
  rw [if_neg hz]
  have hc : w = 0 ∨ w = 1 ∨ w = 2 := by omega
  rcases hc with rfl | rfl | rfl
  · refine ⟨_, _, if_pos (show iI ((0 : Nat) : Int) = 0 from rfl), rfl, ?_, hI0⟩
    dsimp only
    rw [if_pos (show iI ((0 : Nat) : Int) = 0 from rfl)]
  · refine ⟨_, _, (if_neg (show ¬ iI ((1 : Nat) : Int) = 0 by decide)).trans (if_pos (show iI ((1 : Nat) : Int) = 1 from rfl)), rfl, ?_, hI0⟩
    dsimp only
    rw [if_neg (show ¬ iI ((1 : Nat) : Int) = 0 by decide), if_pos (show iI ((1 : Nat) : Int) = 1 from rfl)]
  · refine ⟨_, _, (if_neg (show ¬ iI ((2 : Nat) : Int) = 0 by decide)).trans ((if_neg (show ¬ iI ((2 : Nat) : Int) = 1 by decide)).trans (if_pos (show iI ((2 : Nat) : Int) = 2 from rfl))), rfl, ?_, hI0⟩
    dsimp only
    rw [if_neg (show ¬ iI ((2 : Nat) : Int) = 0 by decide), if_neg (show ¬ iI ((2 : Nat) : Int) = 1 by decide)]
end WHY3
