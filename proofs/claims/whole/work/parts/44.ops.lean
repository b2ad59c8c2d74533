/-! the public calls: by what was seen; what is done to a book -/
section OPS4
def fok (g : Nat → Nat) (d b z : Nat → Nat) (x : Nat) : Nat → Nat → Bool
  | 0, _ => true
  | k + 1, i => ((gon g (d i) x == b i).toNat == z i) && fok g d b z x k (i + 1)
def seenAt (n w : Nat) (d b z : Nat → Nat) (days books there : Nat → Int32) : Prop := ∀ i, i < w → d i ≤ 20 ∧ b i < n ∧ z i < 2 ∧ days i = iI (d i) ∧ books i = iI (b i) ∧ there i = iI (z i)
theorem fitsFrom_L {N n T R w x : Nat} {rk : Nat → Int32} {r t d b z : Nat → Nat} {days books there : Nat → Int32} (hN : 300 ≤ N) (hn : n ≤ 6) (hT : T < 32768) (hR : R < 64) (hr : ∀ i, i < n → rk i = iI (r i)) (hk : RK r t n) (hw : w ≤ 6) (hx : seenAt n w d b z days books there) (hxn : x < n) : ∀ (m i : Nat), i ≤ w → w - i < m → fX7_fitsFrom_L2 N (iI T) days books there (iI w) rk (iI n) (iI R) (iI x) m (iI i) = some (iI (((fok (go t T R n) d b z x (w - i) i).toNat : Nat) : Int))
  | 0, i, _, h => absurd h (Nat.not_lt_zero _)
  | m + 1, i, hi, hm => by
    rw [fX7_fitsFrom_L2]
    by_cases h : w ≤ i
    · rw [if_pos (by rw [iI_le (by omega) (by omega) (by omega) (by omega)]; omega)]
      have e : w - i = 0 := by omega
      rw [e]
      rfl
    · rw [if_neg (by rw [iI_le (by omega) (by omega) (by omega) (by omega)]; omega)]
      have e : w - i = (w - (i + 1)) + 1 := by omega
      obtain ⟨h1, h2, h3, h4, h5, h6⟩ := hx i (by omega)
      have hlt : gon (go t T R n) (d i) x < n := gon_lt (fun b hb => go_lt hb) (d i) x hxn
      unfold fX7_fitsFrom_J56
      simp only [vg_iI (show (0 : Int) ≤ (i : Int) by omega) (show (i : Int) < ((6 : Nat) : Int) by omega) (by omega), iI_clamp (show (0 : Int) ≤ (i : Int) by omega) (by omega), Int.toNat_natCast, h4, h5, h6, iI_s]
      rw [walk_iI hN hn hT hR hr hk (by omega) hxn, Option.bind_some, e, fok]
      have e1 : (1 : Int32) = iI ((1 : Nat) : Int) := rfl
      have e0 : (0 : Int32) = iI ((0 : Nat) : Int) := rfl
      have fin : ∀ c : Bool, (if iI ((c.toNat : Nat) : Int) = iI (z i : Int) then fX7_fitsFrom_L2 N (iI T) days books there (iI w) rk (iI n) (iI R) (iI x) m (iI ((i + 1 : Nat) : Int)) else some (0 : Int32)) = some (iI ((((c.toNat == z i) && fok (go t T R n) d b z x (w - (i + 1)) (i + 1)).toNat : Nat) : Int)) := by
        intro c
        have hc : c.toNat ≤ 1 := by cases c <;> decide
        by_cases hz : c.toNat = z i
        · rw [if_pos (by rw [hz]), fitsFrom_L hN hn hT hR hr hk hw hx hxn m (i + 1) (by omega) (by omega), show (c.toNat == z i) = true by simp [hz]]
          rfl
        · rw [if_neg (by rw [iI_eq (by omega) (by omega) (by omega) (by omega)]; omega), show (c.toNat == z i) = false by simp [hz]]
          rfl
      by_cases h7 : gon (go t T R n) (d i) x = b i
      · rw [if_pos (by rw [h7]), show (gon (go t T R n) (d i) x == b i) = true by simp [h7]]
        exact fin true
      · rw [if_neg (by rw [iI_eq (by omega) (by omega) (by omega) (by omega)]; omega), show (gon (go t T R n) (d i) x == b i) = false by simp [h7]]
        exact fin false
theorem fits_L {N n T R w : Nat} {rk tn : Nat → Int32} {r t d b z : Nat → Nat} {days books there : Nat → Int32} (hN : 300 ≤ N) (hn : n ≤ 6) (hT : T < 32768) (hR : R < 64) (hr : ∀ i, i < n → rk i = iI (r i)) (hk : RK r t n) (hw : w ≤ 6) (hx : seenAt n w d b z days books there) : ∀ (m i s : Nat), i ≤ n → n - i < m → fX7_fits_L9 N (iI n) (iI T) days books there (iI w) (rk, tn, iI n, iI R) m (iI s) (iI i) = some (iI ((msk (fun x => fok (go t T R n) d b z x w 0) s (n - i) i : Nat) : Int), rk, tn, iI n, iI R)
  | 0, i, s, _, h => absurd h (Nat.not_lt_zero _)
  | m + 1, i, s, hi, hm => by
    rw [fX7_fits_L9]
    by_cases h : n ≤ i
    · rw [if_pos (by rw [iI_le (by omega) (by omega) (by omega) (by omega)]; omega)]
      have e : n - i = 0 := by omega
      rw [e]
      rfl
    · rw [if_neg (by rw [iI_le (by omega) (by omega) (by omega) (by omega)]; omega)]
      have e : n - i = (n - (i + 1)) + 1 := by omega
      unfold fX7_fitsFrom
      have e0 : (0 : Int32) = iI ((0 : Nat) : Int) := rfl
      have ef := fitsFrom_L (N := N) hN hn hT hR hr hk hw hx (show i < n by omega) N 0 (Nat.zero_le _) (by omega)
      dsimp only
      have ef' : fX7_fitsFrom_L2 N (iI T) days books there (iI w) rk (iI n) (iI R) (iI i) N 0 = some (iI (((fok (go t T R n) d b z i w 0).toNat : Nat) : Int)) := ef
      rw [ef', Option.bind_some, e, msk, iI_s]
      by_cases h2 : fok (go t T R n) d b z i w 0 = true
      · rw [h2, if_neg (by decide), bitor (by omega), fits_L hN hn hT hR hr hk hw hx m (i + 1) _ (by omega) (by omega)]
        simp only [if_true]
      · have h2' : fok (go t T R n) d b z i w 0 = false := by simpa using h2
        rw [h2', if_pos (by decide), fits_L hN hn hT hR hr hk hw hx m (i + 1) _ (by omega) (by omega)]
        rfl
theorem fits8_L23 {N n F R w x s : Nat} {A B d b z : Nat → Nat} {books nA nB now near days book8 is8 : Nat → Int32} {p : Nat → Nat → Bool} {k : Int32 → Int32 → Option (Int32 × (Nat → Int32))} (hN : 300 ≤ N) (hM : M8 n A B F R books nA nB now) (hp : nearIs p near) (hw : w ≤ 6) (hx : seenAt n w d b z days book8 is8) (hxn : x < n) : ∀ (m i : Nat) (c : Bool), i ≤ w → w - i < m → fX8_fits_L23 N books nA nB now days book8 is8 (iI w) near (iI s) (iI x) k m (iI ((c.toNat : Nat) : Int)) (iI i) = k (iI ((if (c && fok (goP (tt A B F) p R n) d b z x (w - i) i) then s ||| 2 ^ x else s : Nat) : Int)) (iI ((x + 1 : Nat) : Int))
  | 0, i, c, _, h => absurd h (Nat.not_lt_zero _)
  | m + 1, i, c, hi, hm => by
    have hn := hM.1
    rw [fX8_fits_L23]
    by_cases h : w ≤ i
    · rw [if_pos (by rw [iI_le (by omega) (by omega) (by omega) (by omega)]; omega)]
      have e : w - i = 0 := by omega
      rw [e, fok, Bool.and_true, iI_s]
      cases c
      · rw [if_pos (by decide), bitor0]
        rfl
      · rw [if_neg (by decide), bitor (by omega)]
        rfl
    · rw [if_neg (by rw [iI_le (by omega) (by omega) (by omega) (by omega)]; omega)]
      have e0 : (0 : Int32) = iI ((false.toNat : Nat) : Int) := rfl
      cases c
      · rw [if_pos (by decide), iI_s, e0, fits8_L23 hN hM hp hw hx hxn m (i + 1) false (by omega) (by omega)]
        rfl
      · rw [if_neg (by decide)]
        have e : w - i = (w - (i + 1)) + 1 := by omega
        obtain ⟨h1, h2, h3, h4, h5, h6⟩ := hx i (by omega)
        have hlt : gon (goP (tt A B F) p R n) (d i) x < n := gon_lt (fun b hb => goP_lt hb) (d i) x hxn
        unfold fX8_fits_J63
        simp only [vg_iI (show (0 : Int) ≤ (i : Int) by omega) (show (i : Int) < ((6 : Nat) : Int) by omega) (by omega), iI_clamp (show (0 : Int) ≤ (i : Int) by omega) (by omega), Int.toNat_natCast, h4, h5, h6, iI_s]
        rw [goesIn8_iI hN hM hp (by omega) hxn, Option.bind_some, e, fok]
        have fin : ∀ c : Bool, (if iI ((c.toNat : Nat) : Int) = iI (z i : Int) then fX8_fits_L23 N books nA nB now days book8 is8 (iI w) near (iI s) (iI x) k m 1 (iI ((i + 1 : Nat) : Int)) else fX8_fits_L23 N books nA nB now days book8 is8 (iI w) near (iI s) (iI x) k m 0 (iI ((i + 1 : Nat) : Int))) = k (iI ((if (true && ((c.toNat == z i) && fok (goP (tt A B F) p R n) d b z x (w - (i + 1)) (i + 1))) then s ||| 2 ^ x else s : Nat) : Int)) (iI ((x + 1 : Nat) : Int)) := by
          intro c
          have hc : c.toNat ≤ 1 := by cases c <;> decide
          by_cases hz : c.toNat = z i
          · rw [if_pos (by rw [hz]), show (c.toNat == z i) = true by simp [hz]]
            exact fits8_L23 hN hM hp hw hx hxn m (i + 1) true (by omega) (by omega)
          · rw [if_neg (by rw [iI_eq (by omega) (by omega) (by omega) (by omega)]; omega), show (c.toNat == z i) = false by simp [hz]]
            exact fits8_L23 hN hM hp hw hx hxn m (i + 1) false (by omega) (by omega)
        by_cases h7 : gon (goP (tt A B F) p R n) (d i) x = b i
        · rw [if_pos (by rw [h7]), show (gon (goP (tt A B F) p R n) (d i) x == b i) = true by simp [h7]]
          exact fin true
        · rw [if_neg (by rw [iI_eq (by omega) (by omega) (by omega) (by omega)]; omega), show (gon (goP (tt A B F) p R n) (d i) x == b i) = false by simp [h7]]
          exact fin false
theorem fits8_L {N n F R w : Nat} {A B d b z : Nat → Nat} {books nA nB now near days book8 is8 : Nat → Int32} {p : Nat → Nat → Bool} (hN : 300 ≤ N) (hM : M8 n A B F R books nA nB now) (hp : nearIs p near) (hw : w ≤ 6) (hx : seenAt n w d b z days book8 is8) : ∀ (m i s : Nat), i ≤ n → n - i < m → fX8_fits_L8 N books nA nB now days book8 is8 (iI w) near m (iI s) (iI i) = some (iI ((msk (fun x => fok (goP (tt A B F) p R n) d b z x w 0) s (n - i) i : Nat) : Int), near)
  | 0, i, s, _, h => absurd h (Nat.not_lt_zero _)
  | m + 1, i, s, hi, hm => by
    have hn := hM.1
    rw [fX8_fits_L8, t0, hM.2.2.2.1]
    by_cases h : n ≤ i
    · rw [if_pos (by rw [iI_le (by omega) (by omega) (by omega) (by omega)]; omega)]
      have e : n - i = 0 := by omega
      rw [e]
      rfl
    · rw [if_neg (by rw [iI_le (by omega) (by omega) (by omega) (by omega)]; omega)]
      have e : n - i = (n - (i + 1)) + 1 := by omega
      have e8 := fits8_L23 (k := fun z0 z1 => fX8_fits_L8 N books nA nB now days book8 is8 (iI w) near m z0 z1) (s := s) hN hM hp hw hx (show i < n by omega) N 0 true (Nat.zero_le _) (by omega)
      have e8' : fX8_fits_L23 N books nA nB now days book8 is8 (iI w) near (iI s) (iI i) (fun z0 z1 => fX8_fits_L8 N books nA nB now days book8 is8 (iI w) near m z0 z1) N 1 0 = _ := e8
      rw [e8', e, msk]
      exact fits8_L hN hM hp hw hx m (i + 1) _ (by omega) (by omega)
theorem op_fits {N : Nat} (hN : 40000 ≤ N) {a_text_bytes : Nat → Int32} {v_text_length : Int32} {a_told_a : Nat → Int32} {a_told_b : Nat → Int32} {v_told_size : Int32} {v_now_forgotten : Int32} {v_now_touches : Int32} {v_now_trapped : Int32} {v_now_one : Int32} {v_now_date : Int32} {a_history_steps : Nat → Int64} {v_history_known : Int32} {a_firstImage_history_steps : Nat → Int64} {v_firstImage_history_known : Int32} {v_firstImage_packed : Int64} {v_firstImage_kept : Int32} {a_secondImage_history_steps : Nat → Int64} {v_secondImage_history_known : Int32} {v_secondImage_packed : Int64} {v_secondImage_kept : Int32} {a_seen_days : Nat → Int32} {a_seen_books : Nat → Int32} {a_seen_there : Nat → Int32} {v_seen_size : Int32} {v_traced : Int64} {ma_text : Nat → Int32} {mv_typed : Int32} {ma_books : Nat → Int32} {ma_numberA : Nat → Int32} {ma_numberB : Nat → Int32} {ma_now : Nat → Int32} {ma_isKept : Nat → Int32} {ma_seenDays : Nat → Int32} {ma_seenBook : Nat → Int32} {ma_seenIs : Nat → Int32} {mv_seen : Int32} {mv_trace : Int64} (hI : Inv a_text_bytes v_text_length a_told_a a_told_b v_told_size v_now_forgotten v_now_touches v_now_trapped v_now_one v_now_date a_history_steps v_history_known a_firstImage_history_steps v_firstImage_history_known v_firstImage_packed v_firstImage_kept a_secondImage_history_steps v_secondImage_history_known v_secondImage_packed v_secondImage_kept a_seen_days a_seen_books a_seen_there v_seen_size v_traced ma_text mv_typed ma_books ma_numberA ma_numberB ma_now ma_isKept ma_seenDays ma_seenBook ma_seenIs mv_seen mv_trace) (a_ways_ranked : Nat → Int32) (a_ways_tens : Nat → Int32) (v_ways_size : Int32) (v_ways_trapped : Int32) (ma_near : Nat → Int32) : ∃ (q : (Int32 × (Nat → Int32) × (Nat → Int32) × Int32 × Int32)) (r : (Int32 × (Nat → Int32))), fX7_fits N a_told_a a_told_b v_told_size v_now_forgotten v_now_touches v_now_trapped a_seen_days a_seen_books a_seen_there v_seen_size a_ways_ranked a_ways_tens v_ways_size v_ways_trapped = some q ∧ fX8_fits N ma_books ma_numberA ma_numberB ma_now ma_near ma_seenDays ma_seenBook ma_seenIs mv_seen = some r ∧ q.1 = r.1 ∧ Inv a_text_bytes v_text_length a_told_a a_told_b v_told_size v_now_forgotten v_now_touches v_now_trapped v_now_one v_now_date a_history_steps v_history_known a_firstImage_history_steps v_firstImage_history_known v_firstImage_packed v_firstImage_kept a_secondImage_history_steps v_secondImage_history_known v_secondImage_packed v_secondImage_kept a_seen_days a_seen_books a_seen_there v_seen_size v_traced ma_text mv_typed ma_books ma_numberA ma_numberB ma_now ma_isKept ma_seenDays ma_seenBook ma_seenIs mv_seen mv_trace := by
  have hI0 := hI
  obtain ⟨n, A, B, S, h, k, hT, ⟨hn, rfl, hbk, hab, hab8⟩, hS, ⟨rfl, rfl, rfl, rfl, rfl, hR⟩, hH, hI1, hI2, ⟨w, d, b, z, hw, rfl, rfl, hx⟩, rfl⟩ := hI
  have hM : M8 n A B S.1 S.2.2.1 ma_books ma_numberA ma_numberB ma_now := M8_of (fo := 0) (tc := 0) (tr := 0) (on := 0) (da := 0) ⟨hn, rfl, hbk, hab, hab8⟩ hS hR
  obtain ⟨nr, nr1, nr2⟩ := takeNear_iI (N := N) (by omega) ma_now ma_near
  have hx7 : seenAt n w d b z a_seen_days a_seen_books a_seen_there := fun i hi => by
    obtain ⟨a1, a2, a3, a4, a5, a6, a7, a8, a9⟩ := hx i hi
    exact ⟨a1, a2, a3, a4, a6, a8⟩
  have hx8 : seenAt n w d b z ma_seenDays ma_seenBook ma_seenIs := fun i hi => by
    obtain ⟨a1, a2, a3, a4, a5, a6, a7, a8, a9⟩ := hx i hi
    exact ⟨a1, a2, a3, a5, a7, a9⟩
  unfold fX7_fits fX8_fits
  obtain ⟨rk', tn', r', w1, w2, w3⟩ := waysNow_iI (N := N) (R := S.2.2.1) (by omega) hn hS.1 hab a_ways_ranked a_ways_tens v_ways_size v_ways_trapped
  have e0 : (0 : Int32) = iI ((0 : Nat) : Int) := rfl
  rw [nr1, Option.bind_some, w1, Option.bind_some, e0, fits_L (by omega) hn hS.2.1 hS.2.2.1 w3 w2 hw hx7 N 0 0 (Nat.zero_le _) (by omega), fits8_L (by omega) hM (near_of hR nr2) hw hx8 N 0 0 (Nat.zero_le _) (by omega)]
  exact ⟨_, _, rfl, rfl, rfl, hI0⟩
end OPS4
