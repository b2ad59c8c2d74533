/-! the public call lure -/
section LURE2
theorem lures_iI {N : Nat} {rk : Nat → Int32} {r t : Nat → Nat} {n T R d b s m : Nat} (hN : 300 ≤ N) (hn : n ≤ 6) (hT : T < 32768) (hm : m < 32768) (hR : R < 64) (hr : ∀ i, i < n → rk i = iI (r i)) (hk : RK r t n) (hd : d ≤ 200) (hb : b < n) (hs : s < n) : fX7_lures N (iI (T : Int)) (iI (s : Int)) rk (iI (n : Int)) (iI (R : Int)) (iI (m : Int)) (iI (b : Int)) (iI (d : Int)) = some (iI (((des t R n d s (T ||| m) == b).toNat : Nat) : Int)) := by
  have hlt : des t R n d s (T ||| m) < n := gon_lt (fun b hb => go_lt hb) d s hs
  unfold fX7_lures
  rw [iI_or, walk_iI hN hn (Nat.or_lt_two_pow (n := 15) hT hm) hR hr hk hd hs, Option.bind_some]
  show (if iI ((des t R n d s (T ||| m) : Nat) : Int) = iI (b : Int) then some (1 : Int32) else some 0) = _
  by_cases h : des t R n d s (T ||| m) = b
  · rw [if_pos (by rw [h]), h]
    simp
    rfl
  · rw [if_neg (by rw [iI_eq (by omega) (by omega) (by omega) (by omega)]; omega), show (des t R n d s (T ||| m) == b) = false by simp [h]]
    rfl
theorem p2_lt15 : ∀ i : Nat, i < 15 → 2 ^ i < 32768 := by decide +kernel
theorem single_L {N : Nat} {rk : Nat → Int32} {r t : Nat → Nat} {n T R d b s : Nat} (hN : 300 ≤ N) (hn : n ≤ 6) (hT : T < 32768) (hR : R < 64) (hr : ∀ i, i < n → rk i = iI (r i)) (hk : RK r t n) (hd : d ≤ 200) (hb : b < n) (hs : s < n) : ∀ (m i : Nat), i ≤ 15 → 15 - i < m → fX7_firstSingleLure_L2 N (iI (T : Int)) (iI (s : Int)) rk (iI (n : Int)) (iI (R : Int)) (iI (b : Int)) (iI (d : Int)) m (iI (i : Int)) = some (match fstN (fun i => des t R n d s (T ||| 2 ^ i) == b) (15 - i) i with | some j => iI ((2 ^ j : Nat) : Int) | none => iI (-9))
  | 0, _, _, h => absurd h (Nat.not_lt_zero _)
  | m + 1, i, hi, hm => by
    rw [fX7_firstSingleLure_L2]
    by_cases h : i = 15
    · subst h
      rw [if_pos (by decide)]
      rfl
    · rw [if_neg (by rw [iI_lit 15, iI_le (by decide) (by decide) (by omega) (by omega)]; show ¬ (15 : Int) ≤ i; omega)]
      have e : 15 - i = (15 - (i + 1)) + 1 := by omega
      rw [shl1 (by omega), lures_iI hN hn hT (p2_lt15 i (by omega)) hR hr hk hd hb hs, Option.bind_some, e, fstN, iI_s, single_L hN hn hT hR hr hk hd hb hs m (i + 1) (by omega) (by omega)]
      cases hc : (des t R n d s (T ||| 2 ^ i) == b)
      · rfl
      · rfl
theorem double_L13 {N : Nat} {rk : Nat → Int32} {r t : Nat → Nat} {n T R d b s i : Nat} {k : Int32 → Option Int32} (hN : 300 ≤ N) (hn : n ≤ 6) (hT : T < 32768) (hR : R < 64) (hr : ∀ i, i < n → rk i = iI (r i)) (hk : RK r t n) (hd : d ≤ 200) (hb : b < n) (hs : s < n) (hi : i < 15) : ∀ (m j : Nat), j ≤ 15 → 15 - j < m → fX7_firstDoubleLure_L13 N (iI (T : Int)) (iI (s : Int)) rk (iI (n : Int)) (iI (R : Int)) (iI (b : Int)) (iI (d : Int)) (iI (i : Int)) k m (iI (j : Int)) = (match fstN (fun j => des t R n d s (T ||| (2 ^ i ||| 2 ^ j)) == b) (15 - j) j with | some j => some (iI ((2 ^ i ||| 2 ^ j : Nat) : Int)) | none => k (iI ((i + 1 : Nat) : Int)))
  | 0, _, _, h => absurd h (Nat.not_lt_zero _)
  | m + 1, j, hj, hm => by
    rw [fX7_firstDoubleLure_L13]
    by_cases h : j = 15
    · subst h
      rw [if_pos (by decide), iI_s]
      rfl
    · rw [if_neg (by rw [iI_lit 15, iI_le (by decide) (by decide) (by omega) (by omega)]; show ¬ (15 : Int) ≤ j; omega)]
      have e : 15 - j = (15 - (j + 1)) + 1 := by omega
      rw [shl1 (by omega), shl1 (by omega), iI_or, lures_iI hN hn hT (Nat.or_lt_two_pow (n := 15) (p2_lt15 i (by omega)) (p2_lt15 j (by omega))) hR hr hk hd hb hs, Option.bind_some, e, fstN, iI_s, double_L13 hN hn hT hR hr hk hd hb hs hi m (j + 1) (by omega) (by omega)]
      cases hc : (des t R n d s (T ||| (2 ^ i ||| 2 ^ j)) == b)
      · rfl
      · rfl
theorem double_L2 {N : Nat} {rk : Nat → Int32} {r t : Nat → Nat} {n T R d b s : Nat} (hN : 300 ≤ N) (hn : n ≤ 6) (hT : T < 32768) (hR : R < 64) (hr : ∀ i, i < n → rk i = iI (r i)) (hk : RK r t n) (hd : d ≤ 200) (hb : b < n) (hs : s < n) : ∀ (m i : Nat), i ≤ 15 → 15 - i < m → fX7_firstDoubleLure_L2 N (iI (T : Int)) (iI (s : Int)) rk (iI (n : Int)) (iI (R : Int)) (iI (b : Int)) (iI (d : Int)) m (iI (i : Int)) = some (match fst2 (fun i j => des t R n d s (T ||| (2 ^ i ||| 2 ^ j)) == b) (15 - i) i with | some x => iI ((2 ^ x.1 ||| 2 ^ x.2 : Nat) : Int) | none => iI (-9))
  | 0, _, _, h => absurd h (Nat.not_lt_zero _)
  | m + 1, i, hi, hm => by
    rw [fX7_firstDoubleLure_L2]
    by_cases h : i = 15
    · subst h
      rw [if_pos (by decide)]
      rfl
    · rw [if_neg (by rw [iI_lit 15, iI_le (by decide) (by decide) (by omega) (by omega)]; show ¬ (15 : Int) ≤ i; omega)]
      have e : 15 - i = (15 - (i + 1)) + 1 := by omega
      have e2 : 15 - (i + 1) = 14 - i := by omega
      have e1 : iI (i : Int) + (1 : Int32) = iI ((i + 1 : Nat) : Int) := iI_s i
      rw [e1, double_L13 hN hn hT hR hr hk hd hb hs (by omega) N (i + 1) (by omega) (by omega), e2, e, fst2]
      cases fstN (fun j => des t R n d s (T ||| (2 ^ i ||| 2 ^ j)) == b) (14 - i) (i + 1) with
      | some j => rfl
      | none => exact double_L2 hN hn hT hR hr hk hd hb hs m (i + 1) (by omega) (by omega)
/-! two books of a touch -/
def twoR (p : Int32) : Nat → Nat → Int32
  | 0, _ => -9
  | k + 1, x => match fstN (fun y => fX7_touchBit (iI (x : Int)) (iI (y : Int)) == p) (5 - x) (x + 1) with
    | some y => iI ((10 * x + y : Nat) : Int)
    | none => twoR p k (x + 1)
theorem two_L12 {p : Int32} {x : Nat} {k : Int32 → Option Int32} : ∀ (m y : Nat), y ≤ 6 → 6 - y < m → fX7_twoOf_L12 p (iI (x : Int)) k m (iI (y : Int)) = (match fstN (fun y => fX7_touchBit (iI (x : Int)) (iI (y : Int)) == p) (6 - y) y with | some y => some (iI ((10 * x + y : Nat) : Int)) | none => k (iI ((x + 1 : Nat) : Int)))
  | 0, _, _, h => absurd h (Nat.not_lt_zero _)
  | m + 1, y, hy, hm => by
    rw [fX7_twoOf_L12]
    by_cases h : y = 6
    · subst h
      rw [if_pos (by decide), iI_s]
      rfl
    · rw [if_neg (by rw [iI_lit 6, iI_le (by decide) (by decide) (by omega) (by omega)]; show ¬ (6 : Int) ≤ y; omega)]
      have e : 6 - y = (6 - (y + 1)) + 1 := by omega
      rw [e, fstN, iI_s, two_L12 m (y + 1) (by omega) (by omega)]
      by_cases hc : fX7_touchBit (iI (x : Int)) (iI (y : Int)) = p
      · rw [if_pos hc, if_pos (by simpa using hc)]
        have e3 : (10 : Int32) * iI (x : Int) + iI (y : Int) = iI ((10 * x + y : Nat) : Int) := by
          rw [iI_lit 10, iI_mul, iI_add]
          congr 1
        rw [e3]
      · rw [if_neg hc, if_neg (by simpa using hc)]
theorem two_L2 {N : Nat} {p : Int32} (hN : 10 ≤ N) : ∀ (m x : Nat), x ≤ 6 → 6 - x < m → fX7_twoOf_L2 N p m (iI (x : Int)) = some (twoR p (6 - x) x)
  | 0, _, _, h => absurd h (Nat.not_lt_zero _)
  | m + 1, x, hx, hm => by
    rw [fX7_twoOf_L2]
    by_cases h : x = 6
    · subst h
      rw [if_pos (by decide)]
      rfl
    · rw [if_neg (by rw [iI_lit 6, iI_le (by decide) (by decide) (by omega) (by omega)]; show ¬ (6 : Int) ≤ x; omega)]
      have e : 6 - x = (6 - (x + 1)) + 1 := by omega
      have e2 : 6 - (x + 1) = 5 - x := by omega
      have e1 : iI (x : Int) + (1 : Int32) = iI ((x + 1 : Nat) : Int) := iI_s x
      rw [e1, two_L12 N (x + 1) (by omega) (by omega), e2, e, twoR]
      cases fstN (fun y => fX7_touchBit (iI (x : Int)) (iI (y : Int)) == p) (5 - x) (x + 1) with
      | some y => rfl
      | none =>
        rw [e2, ← e2]
        exact two_L2 hN m (x + 1) (by omega) (by omega)
theorem two_iI {N : Nat} (hN : 10 ≤ N) (p : Int32) : fX7_twoOf N p = some (twoR p 6 0) := two_L2 hN N 0 (Nat.zero_le _) (by omega)
theorem two_0 : twoR (fJ6_lowestOneBit_0f7a4 0) 6 0 = -9 ∧ twoR (0 &&& ((fJ6_lowestOneBit_0f7a4 0) ^^^ (-1 : Int32))) 6 0 = -9 := by decide +kernel
theorem two_1 : ∀ i : Nat, i < 15 → twoR (fJ6_lowestOneBit_0f7a4 (iI ((2 ^ i : Nat) : Int))) 6 0 = fX8_told (iI ((eOf i : Nat) : Int)) ∧ twoR (iI ((2 ^ i : Nat) : Int) &&& ((fJ6_lowestOneBit_0f7a4 (iI ((2 ^ i : Nat) : Int))) ^^^ (-1 : Int32))) 6 0 = -9 ∧ pops 15 (2 ^ i) = 1 ∧ ¬ iI ((2 ^ i : Nat) : Int) = -9 := by decide +kernel
theorem two_2 : ∀ j : Nat, j < 15 → ∀ i : Nat, i < j → twoR (fJ6_lowestOneBit_0f7a4 (iI ((2 ^ i ||| 2 ^ j : Nat) : Int))) 6 0 = fX8_told (iI ((eOf i : Nat) : Int)) ∧ twoR (iI ((2 ^ i ||| 2 ^ j : Nat) : Int) &&& ((fJ6_lowestOneBit_0f7a4 (iI ((2 ^ i ||| 2 ^ j : Nat) : Int))) ^^^ (-1 : Int32))) 6 0 = fX8_told (iI ((eOf j : Nat) : Int)) ∧ pops 15 (2 ^ i ||| 2 ^ j) = 2 ∧ ¬ iI ((2 ^ i ||| 2 ^ j : Nat) : Int) = -9 ∧ 2 ^ i ||| 2 ^ j < 32768 := by decide +kernel
/-! the reference -/
theorem e6_dec : ∀ e : Nat, e < 36 → (iI (e : Int) / (6 : Int32) = iI ((e / 6 : Nat) : Int)) ∧ (iI (e : Int) - iI (e : Int) / (6 : Int32) * (6 : Int32) = iI ((e % 6 : Nat) : Int)) ∧ ¬ iI (e : Int) < 0 := by decide +kernel
theorem isLess_iI {n T e : Nat} {books now : Nat → Int32} (hn : n ≤ 6) (hbk : books 0 = iI n) (hnow : ∀ b, b < 6 → now (6 + b) = iI ((mk6 (nbr T b) : Nat) : Int)) (he : e < 36) : fX8_isLess books now (iI (e : Int)) = some (iI (((vd e && frI n T (ix e)).toNat : Nat) : Int)) := by
  obtain ⟨h1, h2, -⟩ := e6_dec e he
  obtain ⟨h4, h5, h6⟩ := ix_dec e he
  unfold fX8_isLess
  rw [h2, h1, t0, hbk, v6]
  by_cases hv : vd e = true
  · obtain ⟨h7, h8, h9⟩ := h6 hv
    have hlt : e / 6 < e % 6 := by simpa [vd] using hv
    rw [if_neg (by rw [iI_le (by omega) (by omega) (by omega) (by omega)]; omega), hv]
    unfold frI hiI
    rw [h8]
    by_cases hh : n ≤ e % 6
    · rw [if_pos (by rw [iI_le (by omega) (by omega) (by omega) (by omega)]; omega), show decide (e % 6 < n) = false by simp; omega]
      rfl
    · rw [if_neg (by rw [iI_le (by omega) (by omega) (by omega) (by omega)]; omega), vg_iI (by omega) (by omega) (by omega), iI_clamp (by omega) (by omega), Int.toNat_natCast, hnow (e / 6) (by omega), trap_bit (by have := mk6_lt (nbr T (e / 6)); omega) (by omega), mk6_bit _ _ (by omega), show decide (e % 6 < n) = true by simp; omega]
      have hnb : nbr T (e / 6) (e % 6) = T.testBit (ix e) := by
        unfold nbr
        rw [h9]
        have : (e / 6 != e % 6) = true := by simp; omega
        rw [this]
        rfl
      rw [hnb]
      cases T.testBit (ix e) <;> rfl
  · have hv' : vd e = false := by simpa using hv
    have hlt : ¬ e / 6 < e % 6 := by simpa [vd] using hv'
    rw [if_pos (by rw [iI_le (by omega) (by omega) (by omega) (by omega)]; omega), hv']
    rfl
theorem turn_iI {T e : Nat} {near : Nat → Int32} (hp : nearIs (nbr T) near) (he : e < 36) (hv : vd e = true) : ∃ near', fX8_turn near (iI (e : Int) / (6 : Int32)) (iI (e : Int) - iI (e : Int) / (6 : Int32) * (6 : Int32)) = some near' ∧ nearIs (nbr (T ^^^ 2 ^ ix e)) near' := by
  obtain ⟨h1, h2, -⟩ := e6_dec e he
  obtain ⟨h4, h5, h6⟩ := ix_dec e he
  obtain ⟨h7, h8, h9⟩ := h6 hv
  have hlt : e / 6 < e % 6 := by simpa [vd] using hv
  have hne : e / 6 ≠ e % 6 := by omega
  rw [h2, h1]
  unfold fX8_turn
  simp only [vg_iI (show (0 : Int) ≤ ((e / 6 : Nat) : Int) by omega) (show ((e / 6 : Nat) : Int) < ((6 : Nat) : Int) by omega) (by omega), vg_iI (show (0 : Int) ≤ ((e % 6 : Nat) : Int) by omega) (show ((e % 6 : Nat) : Int) < ((6 : Nat) : Int) by omega) (by omega), iI_clamp (show (0 : Int) ≤ ((e / 6 : Nat) : Int) by omega) (by omega), iI_clamp (show (0 : Int) ≤ ((e % 6 : Nat) : Int) by omega) (by omega), Int.toNat_natCast]
  refine ⟨_, rfl, fun c hc => ?_⟩
  have ea := mk6_xor (T := T) (a := e / 6) (b := e % 6) (by omega) (by omega) hne
  have eb := mk6_xor (T := T) (a := e % 6) (b := e / 6) (by omega) (by omega) (Ne.symm hne)
  rw [ti_comm (e % 6) (e / 6)] at eb
  rw [h9] at ea eb
  by_cases hcb : c = e % 6
  · subst hcb
    rw [pk_us, pk_un (Ne.symm hne), hp _ (by omega), shl1 (by omega), iI_xor, eb]
  · rw [pk_un hcb]
    by_cases hca : c = e / 6
    · subst hca
      rw [pk_us, hp _ (by omega), shl1 (by omega), iI_xor, ea]
    · have eo := mk6_other (T := T) (a := e / 6) (b := e % 6) (x := c) (by omega) (by omega) hne hc hca hcb
      rw [h9] at eo
      rw [pk_un hca, hp c hc, eo]
theorem isLured_J39_iI {N n F R s d b T : Nat} {A B : Nat → Nat} {books nA nB now near : Nat → Int32} (hN : 300 ≤ N) (hM : M8 n A B F R books nA nB now) (hp : nearIs (nbr T) near) (h13 : now 13 = iI s) (hs : s < n) (hb : b < n) (hd : d ≤ 200) : fX8_isLured_J39 N books nA nB now (iI (b : Int)) (iI (d : Int)) near = some (iI (((des (tt A B F) R n d s T == b).toNat : Nat) : Int), near) := by
  have hn := hM.1
  have hlt : des (tt A B F) R n d s T < n := gon_lt (fun b hb => go_lt hb) d s hs
  unfold fX8_isLured_J39
  rw [t13, h13, goesIn8_iI hN hM hp hd hs, Option.bind_some]
  show (if iI ((des (tt A B F) R n d s T : Nat) : Int) = iI (b : Int) then some ((1 : Int32), near) else some (0, near)) = _
  by_cases h : des (tt A B F) R n d s T = b
  · rw [if_pos (by rw [h]), h]
    simp
    rfl
  · rw [if_neg (by rw [iI_eq (by omega) (by omega) (by omega) (by omega)]; omega), show (des (tt A B F) R n d s T == b) = false by simp [h]]
    rfl
theorem isLured_0 {N n F R s d b T : Nat} {A B : Nat → Nat} {books nA nB now : Nat → Int32} (hN : 300 ≤ N) (hM : M8 n A B F R books nA nB now) (hnow : ∀ b, b < 6 → now (6 + b) = iI ((mk6 (nbr T b) : Nat) : Int)) (h13 : now 13 = iI s) (hs : s < n) (hb : b < n) (hd : d ≤ 200) (near : Nat → Int32) : ∃ w', fX8_isLured N books nA nB now near (iI (b : Int)) (iI (d : Int)) (-9) (-9) = some (iI (((des (tt A B F) R n d s T == b).toNat : Nat) : Int), w') := by
  obtain ⟨nr, nr1, nr2⟩ := takeNear_iI (N := N) (by omega) now near
  unfold fX8_isLured fX8_isLured_J20
  rw [nr1, Option.bind_some, if_pos (by decide), if_pos (by decide), isLured_J39_iI hN hM (fun c hc => by rw [nr2 c hc, hnow c hc]) h13 hs hb hd]
  exact ⟨_, rfl⟩
theorem isLured_1 {N n F R s d b T e : Nat} {A B : Nat → Nat} {books nA nB now : Nat → Int32} (hN : 300 ≤ N) (hM : M8 n A B F R books nA nB now) (hnow : ∀ b, b < 6 → now (6 + b) = iI ((mk6 (nbr T b) : Nat) : Int)) (h13 : now 13 = iI s) (hs : s < n) (hb : b < n) (hd : d ≤ 200) (he : e < 36) (hv : vd e = true) (near : Nat → Int32) : ∃ w', fX8_isLured N books nA nB now near (iI (b : Int)) (iI (d : Int)) (iI (e : Int)) (-9) = some (iI (((des (tt A B F) R n d s (T ^^^ 2 ^ ix e) == b).toNat : Nat) : Int), w') := by
  obtain ⟨nr, nr1, nr2⟩ := takeNear_iI (N := N) (by omega) now near
  obtain ⟨nt, nt1, nt2⟩ := turn_iI (T := T) (near := nr) (fun c hc => by rw [nr2 c hc, hnow c hc]) he hv
  unfold fX8_isLured fX8_isLured_J20
  rw [nr1, Option.bind_some, if_neg (e6_dec e he).2.2, nt1, Option.bind_some, if_pos (by decide), isLured_J39_iI hN hM nt2 h13 hs hb hd]
  exact ⟨_, rfl⟩
theorem isLured_2 {N n F R s d b T e f : Nat} {A B : Nat → Nat} {books nA nB now : Nat → Int32} (hN : 300 ≤ N) (hM : M8 n A B F R books nA nB now) (hnow : ∀ b, b < 6 → now (6 + b) = iI ((mk6 (nbr T b) : Nat) : Int)) (h13 : now 13 = iI s) (hs : s < n) (hb : b < n) (hd : d ≤ 200) (he : e < 36) (hv : vd e = true) (hf : f < 36) (hvf : vd f = true) (near : Nat → Int32) : ∃ w', fX8_isLured N books nA nB now near (iI (b : Int)) (iI (d : Int)) (iI (e : Int)) (iI (f : Int)) = some (iI (((des (tt A B F) R n d s (T ^^^ 2 ^ ix e ^^^ 2 ^ ix f) == b).toNat : Nat) : Int), w') := by
  obtain ⟨nr, nr1, nr2⟩ := takeNear_iI (N := N) (by omega) now near
  obtain ⟨nt, nt1, nt2⟩ := turn_iI (T := T) (near := nr) (fun c hc => by rw [nr2 c hc, hnow c hc]) he hv
  obtain ⟨nu, nu1, nu2⟩ := turn_iI (T := T ^^^ 2 ^ ix e) (near := nt) nt2 hf hvf
  unfold fX8_isLured fX8_isLured_J20
  rw [nr1, Option.bind_some, if_neg (e6_dec e he).2.2, nt1, Option.bind_some, if_neg (e6_dec f hf).2.2, nu1, Option.bind_some, isLured_J39_iI hN hM nu2 h13 hs hb hd]
  exact ⟨_, rfl⟩
def ansL (p3 c e f : Int32) : Int32 := if p3 = 0 then c else if p3 = 1 then e else f
theorem lure8_L146 {N n F R s d b T e : Nat} {A B : Nat → Nat} {books nA nB now : Nat → Int32} {p3 : Int32} {k : Int32 → (Nat → Int32) → Option (Int32 × (Nat → Int32))} {Q : Nat → Bool} (hQ : ∀ y, Q y = (vd e && (vd y && ((frI n T (ix e) && frI n T (ix y)) && (des (tt A B F) R n d s (T ||| (2 ^ ix e ||| 2 ^ ix y)) == b))))) (hN : 300 ≤ N) (hM : M8 n A B F R books nA nB now) (hnow : ∀ b, b < 6 → now (6 + b) = iI ((mk6 (nbr T b) : Nat) : Int)) (h13 : now 13 = iI s) (hs : s < n) (hb : b < n) (hd : d ≤ 200) (he : e < 36) : ∀ (m f : Nat) (w : Nat → Int32), e < f → f ≤ 36 → 36 - f < m →
    ∃ w', fX8_lure_L146 N books nA nB now (iI (b : Int)) (iI (d : Int)) p3 (iI (e : Int)) k m (iI (f : Int)) w = (match fstN Q (36 - f) f with
    | some y => some (ansL p3 2 (fX8_told (iI (e : Int))) (fX8_told (iI (y : Int))), w')
    | none => k (iI ((e + 1 : Nat) : Int)) w')
  | 0, _, _, _, _, h => absurd h (Nat.not_lt_zero _)
  | m + 1, f, w, hef, hf, hm => by
    by_cases h : f = 36
    · subst h
      rw [Nat.sub_self, fstN]
      rw [fX8_lure_L146, if_pos (by decide), iI_s]
      exact ⟨w, rfl⟩
    · have e1 : 36 - f = (36 - (f + 1)) + 1 := by omega
      have hQf := hQ f
      have hle : ¬ (36 : Int32) ≤ iI (f : Int) := by
        rw [iI_lit 36, iI_le (by decide) (by decide) (by omega) (by omega)]
        show ¬ (36 : Int) ≤ f
        omega
      rw [e1, fstN, fX8_lure_L146, if_neg hle, isLess_iI hM.1 hM.2.2.2.1 hnow he, isLess_iI hM.1 hM.2.2.2.1 hnow (show f < 36 by omega), Option.bind_some, iI_s]
      have ih := fun w => lure8_L146 (k := k) (p3 := p3) hQ hN hM hnow h13 hs hb hd he m (f + 1) w (by omega) (by omega) (by omega)
      cases hc : (vd e && frI n T (ix e))
      · have hQ0 : Q f = false := by
          rw [hQf]
          cases hve : vd e
          · rfl
          · rw [hve, Bool.true_and] at hc
            simp [hc]
        rw [hQ0, if_pos (show iI ((false.toNat : Nat) : Int) = 0 from rfl), if_neg (by decide)]
        exact ih w
      rw [if_neg (show ¬ iI ((true.toNat : Nat) : Int) = 0 by decide), Option.bind_some]
      cases hc2 : (vd f && frI n T (ix f))
      · have hQ0 : Q f = false := by
          rw [hQf]
          cases hvf : vd f
          · simp
          · rw [hvf, Bool.true_and] at hc2
            simp [hc2]
        rw [hQ0, if_pos (show iI ((false.toNat : Nat) : Int) = 0 from rfl), if_neg (by decide)]
        exact ih w
      rw [if_neg (show ¬ iI ((true.toNat : Nat) : Int) = 0 by decide)]
      rw [Bool.and_eq_true] at hc hc2
      obtain ⟨w1, hw1⟩ := isLured_2 (T := T) hN hM hnow h13 hs hb hd he hc.1 (show f < 36 by omega) hc2.1 w
      rw [hw1, Option.bind_some]
      rw [hc.1, hc.2, hc2.1, hc2.2, Bool.true_and, Bool.true_and, Bool.true_and, Bool.true_and] at hQf
      have hte : T.testBit (ix e) = false := by
        have := hc.2
        unfold frI at this
        simp at this
        exact this.2
      have htf : T.testBit (ix f) = false := by
        have := hc2.2
        unfold frI at this
        simp at this
        exact this.2
      have hix : ix e ≠ ix f := by
        intro q
        have a1 := ((ix_dec e he).2.2 hc.1).2.1
        have a2 := ((ix_dec f (by omega)).2.2 hc2.1).2.1
        rw [q, a2] at a1
        omega
      have htf2 : (T ||| 2 ^ ix e).testBit (ix f) = false := by
        rw [Nat.testBit_or, htf, Nat.testBit_two_pow]
        simp [hix]
      rw [xor_bit hte, xor_bit htf2, Nat.or_assoc, ← hQf]
      cases hq : Q f
      · rw [if_pos (show iI ((false.toNat : Nat) : Int) = 0 from rfl), if_neg (by decide)]
        exact ih w1
      · rw [if_neg (show ¬ iI ((true.toNat : Nat) : Int) = 0 by decide), if_pos rfl]
        refine ⟨w1, ?_⟩
        unfold ansL
        dsimp only
        by_cases c0 : p3 = 0
        · rw [if_pos c0, if_pos c0]
        rw [if_neg c0, if_neg c0]
        by_cases c1 : p3 = 1
        · rw [if_pos c1, if_pos c1]
        rw [if_neg c1, if_neg c1]
theorem lure8_L133 {N n F R s d b T : Nat} {A B : Nat → Nat} {books nA nB now : Nat → Int32} {p3 : Int32} {Q : Nat → Nat → Bool} (hQ : ∀ e y, Q e y = (vd e && (vd y && ((frI n T (ix e) && frI n T (ix y)) && (des (tt A B F) R n d s (T ||| (2 ^ ix e ||| 2 ^ ix y)) == b))))) (hN : 300 ≤ N) (hM : M8 n A B F R books nA nB now) (hnow : ∀ b, b < 6 → now (6 + b) = iI ((mk6 (nbr T b) : Nat) : Int)) (h13 : now 13 = iI s) (hs : s < n) (hb : b < n) (hd : d ≤ 200) : ∀ (m e : Nat) (w : Nat → Int32), e ≤ 36 → 36 - e < m →
    ∃ w', fX8_lure_L133 N books nA nB now (iI (b : Int)) (iI (d : Int)) p3 m (iI (e : Int)) w = some ((match fst3 Q (36 - e) e with
    | some y => ansL p3 2 (fX8_told (iI (y.1 : Int))) (fX8_told (iI (y.2 : Int)))
    | none => -9), w')
  | 0, _, _, _, h => absurd h (Nat.not_lt_zero _)
  | m + 1, e, w, he, hm => by
    by_cases h : e = 36
    · subst h
      rw [Nat.sub_self, fst3]
      rw [fX8_lure_L133, if_pos (by decide)]
      exact ⟨w, rfl⟩
    · have e1 : 36 - e = (36 - (e + 1)) + 1 := by omega
      have hle : ¬ (36 : Int32) ≤ iI (e : Int) := by
        rw [iI_lit 36, iI_le (by decide) (by decide) (by omega) (by omega)]
        show ¬ (36 : Int) ≤ e
        omega
      have e0 : iI (e : Int) + (1 : Int32) = iI ((e + 1 : Nat) : Int) := iI_s e
      rw [e1, fst3, fX8_lure_L133, if_neg hle, e0]
      obtain ⟨w1, q1⟩ := lure8_L146 (p3 := p3) (k := fun z133_0 z133_1 => fX8_lure_L133 N books nA nB now (iI (b : Int)) (iI (d : Int)) p3 m z133_0 z133_1) (hQ e) hN hM hnow h13 hs hb hd (by omega) N (e + 1) w (by omega) (by omega) (by omega)
      rw [q1]
      have e2 : 36 - (e + 1) = 35 - e := by omega
      rw [e2]
      cases fstN (Q e) (35 - e) (e + 1) with
      | some y => exact ⟨w1, rfl⟩
      | none =>
        rw [← e2]
        exact lure8_L133 hQ hN hM hnow h13 hs hb hd m (e + 1) w1 (by omega) (by omega)
theorem lure8_L71 {N n F R s d b T : Nat} {A B : Nat → Nat} {books nA nB now : Nat → Int32} {p3 : Int32} {Q : Nat → Bool} {Q2 : Nat → Nat → Bool} (hQ : ∀ y, Q y = (vd y && (frI n T (ix y) && (des (tt A B F) R n d s (T ||| 2 ^ ix y) == b)))) (hQ2 : ∀ e y, Q2 e y = (vd e && (vd y && ((frI n T (ix e) && frI n T (ix y)) && (des (tt A B F) R n d s (T ||| (2 ^ ix e ||| 2 ^ ix y)) == b))))) (hN : 300 ≤ N) (hM : M8 n A B F R books nA nB now) (hnow : ∀ b, b < 6 → now (6 + b) = iI ((mk6 (nbr T b) : Nat) : Int)) (h13 : now 13 = iI s) (hs : s < n) (hb : b < n) (hd : d ≤ 200) : ∀ (m f : Nat) (w : Nat → Int32), f ≤ 36 → 36 - f < m →
    ∃ w', fX8_lure_L71 N books nA nB now (iI (b : Int)) (iI (d : Int)) p3 m (iI (f : Int)) w = some ((match fstN Q (36 - f) f with
    | some y => ansL p3 1 (fX8_told (iI (y : Int))) (-9)
    | none => (match fst3 Q2 36 0 with
      | some y => ansL p3 2 (fX8_told (iI (y.1 : Int))) (fX8_told (iI (y.2 : Int)))
      | none => -9)), w')
  | 0, _, _, _, h => absurd h (Nat.not_lt_zero _)
  | m + 1, f, w, hf, hm => by
    by_cases h : f = 36
    · subst h
      rw [Nat.sub_self, fstN]
      rw [fX8_lure_L71, if_pos (by decide)]
      exact lure8_L133 hQ2 hN hM hnow h13 hs hb hd N 0 w (Nat.zero_le _) (by omega)
    · have e1 : 36 - f = (36 - (f + 1)) + 1 := by omega
      have hQf := hQ f
      have hle : ¬ (36 : Int32) ≤ iI (f : Int) := by
        rw [iI_lit 36, iI_le (by decide) (by decide) (by omega) (by omega)]
        show ¬ (36 : Int) ≤ f
        omega
      rw [e1, fstN, fX8_lure_L71, if_neg hle, isLess_iI hM.1 hM.2.2.2.1 hnow (show f < 36 by omega), Option.bind_some, iI_s]
      have ih := fun w => lure8_L71 (p3 := p3) hQ hQ2 hN hM hnow h13 hs hb hd m (f + 1) w (by omega) (by omega)
      cases hc2 : (vd f && frI n T (ix f))
      · have hQ0 : Q f = false := by
          rw [hQf]
          cases hvf : vd f
          · simp
          · rw [hvf, Bool.true_and] at hc2
            simp [hc2]
        rw [hQ0, if_pos (show iI ((false.toNat : Nat) : Int) = 0 from rfl), if_neg (by decide)]
        exact ih w
      rw [if_neg (show ¬ iI ((true.toNat : Nat) : Int) = 0 by decide)]
      rw [Bool.and_eq_true] at hc2
      obtain ⟨w1, hw1⟩ := isLured_1 (T := T) hN hM hnow h13 hs hb hd (show f < 36 by omega) hc2.1 w
      rw [hw1, Option.bind_some]
      rw [hc2.1, hc2.2, Bool.true_and, Bool.true_and] at hQf
      have htf : T.testBit (ix f) = false := by
        have := hc2.2
        unfold frI at this
        simp at this
        exact this.2
      rw [xor_bit htf, ← hQf]
      cases hq : Q f
      · rw [if_pos (show iI ((false.toNat : Nat) : Int) = 0 from rfl), if_neg (by decide)]
        exact ih w1
      · rw [if_neg (show ¬ iI ((true.toNat : Nat) : Int) = 0 by decide), if_pos rfl]
        refine ⟨w1, ?_⟩
        unfold ansL
        dsimp only
        by_cases c0 : p3 = 0
        · rw [if_pos c0, if_pos c0]
        rw [if_neg c0, if_neg c0]
        by_cases c1 : p3 = 1
        · rw [if_pos c1, if_pos c1]
        rw [if_neg c1, if_neg c1]
end LURE2
