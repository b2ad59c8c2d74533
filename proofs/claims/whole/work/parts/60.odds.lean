/-! chances -/
section ODDS
def zc (q : Nat) : Nat → Nat → Nat
  | 0, _ => 0
  | k + 1, i => zc q k (i + 1) + (if q.testBit i then 0 else 1)
theorem zc_le (q : Nat) : ∀ k i, zc q k i ≤ k
  | 0, _ => Nat.le_refl _
  | k + 1, i => by
    have := zc_le q k (i + 1)
    rw [zc]
    split <;> omega
def wP (x q : Nat) : Nat → Nat → Nat → Nat
  | 0, _, P => P
  | k + 1, i, P => wP x q k (i + 1) (P * (if q.testBit i then x else 10 - x))
def wB (g : Nat → Nat) (q : Nat) : Nat → Nat → Nat → Nat
  | 0, _, c => c
  | k + 1, i, c => wB g q k (i + 1) (if q.testBit i then c else g c)
theorem wP_eq (x q : Nat) : ∀ k i P, wP x q k i P = P * (x ^ (k - zc q k i) * (10 - x) ^ zc q k i)
  | 0, i, P => by simp [wP, zc]
  | k + 1, i, P => by
    have hz := zc_le q k (i + 1)
    rw [wP, wP_eq x q k (i + 1), zc]
    cases q.testBit i
    · rw [if_neg (by decide), if_neg (by decide)]
      have e : k + 1 - (zc q k (i + 1) + 1) = k - zc q k (i + 1) := by omega
      rw [e, Nat.pow_succ, Nat.mul_assoc]
      congr 1
      rw [Nat.mul_left_comm]
      congr 1
      exact Nat.mul_comm _ _
    · rw [if_pos rfl, if_pos rfl]
      have e : k + 1 - (zc q k (i + 1) + 0) = (k - zc q k (i + 1)) + 1 := by omega
      rw [e, Nat.add_zero, Nat.pow_succ, Nat.mul_assoc P x]
      congr 1
      rw [← Nat.mul_assoc]
      congr 1
      exact Nat.mul_comm _ _
theorem wB_eq (g : Nat → Nat) (q : Nat) : ∀ k i c, wB g q k i c = gon g (zc q k i) c
  | 0, i, c => rfl
  | k + 1, i, c => by
    rw [wB, wB_eq g q k (i + 1), zc]
    cases q.testBit i
    · rw [if_neg (by decide), if_neg (by decide), gon]
    · rw [if_pos rfl, if_pos rfl]
      rfl
def sT (F : Nat → Nat) : Nat → Nat → Nat → Nat
  | 0, _, a => a
  | k + 1, i, a => sT F k (i + 1) (a + F i)
def smL (f : Nat → Nat) : List Nat → Nat
  | [] => 0
  | x :: l => f x + smL f l
theorem sT_smL (f z : Nat → Nat) : ∀ k i a, sT (fun q => f (z q)) k i a = a + smL f ((List.range' i k).map z)
  | 0, i, a => rfl
  | k + 1, i, a => by
    rw [sT, sT_smL f z k (i + 1), List.range'_succ, List.map_cons, smL, Nat.add_assoc]
theorem smL_count (f : Nat → Nat) : ∀ l : List Nat, (∀ x ∈ l, x ≤ 6) → smL f l = l.count 0 * f 0 + l.count 1 * f 1 + l.count 2 * f 2 + l.count 3 * f 3 + l.count 4 * f 4 + l.count 5 * f 5 + l.count 6 * f 6
  | [], _ => by simp [smL]
  | x :: l, h => by
    have ih := smL_count f l (fun y hy => h y (List.mem_cons_of_mem _ hy))
    have hx := h x List.mem_cons_self
    rw [smL, ih]
    have hc : x = 0 ∨ x = 1 ∨ x = 2 ∨ x = 3 ∨ x = 4 ∨ x = 5 ∨ x = 6 := by omega
    rcases hc with rfl | rfl | rfl | rfl | rfl | rfl | rfl <;> simp [List.count_cons, Nat.add_mul] <;> omega
/-! choose, power -/
def chN : Nat → Nat → Nat
  | _, 0 => 1
  | 0, _ + 1 => 0
  | n + 1, k + 1 => chN n k + chN n (k + 1)
theorem chN_big : ∀ a k, a < k → chN a k = 0
  | _, 0, h => absurd h (Nat.not_lt_zero _)
  | 0, _ + 1, _ => by rw [chN]
  | n + 1, k + 1, h => by rw [chN, chN_big n k (by omega), chN_big n (k + 1) (by omega)]
def chI (p1 : Int32) : Nat → Int32 → Int32 → Int32
  | 0, s, _ => s
  | k + 1, s, i => chI p1 k ((s * ((p1 - i) + (1 : Int32))) / i) (i + 1)
theorem choose_L {d k : Nat} (hk : k ≤ 6) : ∀ (m i : Nat) (s : Int32), 1 ≤ i → i ≤ k + 1 → k + 1 - i < m → fX7_choose_L11 (iI (d : Int)) (iI (k : Int)) m s (iI (i : Int)) = some (chI (iI (d : Int)) (k + 1 - i) s (iI (i : Int)))
  | 0, _, _, _, _, h => absurd h (Nat.not_lt_zero _)
  | m + 1, i, s, hi, hi2, hm => by
    rw [fX7_choose_L11]
    by_cases h : k < i
    · have e : k + 1 - i = 0 := by omega
      rw [if_pos (by rw [iI_lt (by omega) (by omega) (by omega) (by omega)]; omega), e]
      rfl
    · have e : k + 1 - i = (k + 1 - (i + 1)) + 1 := by omega
      rw [if_neg (by rw [iI_lt (by omega) (by omega) (by omega) (by omega)]; omega), vz_iI (by omega) (by omega) (by omega), e, chI, iI_s]
      exact choose_L hk m (i + 1) _ (by omega) (by omega) (by omega)
theorem chI_dec : ∀ d : Nat, d < 7 → ∀ k : Nat, k < 7 → k ≤ d → chI (iI (d : Int)) k 1 1 = iI ((chN d k : Nat) : Int) := by decide +kernel
theorem choose_iI {N d k : Nat} (hN : 300 ≤ N) (hd : d ≤ 6) (hk : k ≤ 100000) : fX7_choose N (iI (d : Int)) (iI (k : Int)) = some (iI ((chN d k : Nat) : Int)) := by
  unfold fX7_choose
  by_cases h : k ≤ d
  · rw [if_pos (by rw [iI_le (by omega) (by omega) (by omega) (by omega)]; omega)]
    have e1 : (1 : Int32) = iI ((1 : Nat) : Int) := rfl
    rw [e1, choose_L (d := d) (by omega) N 1 (iI ((1 : Nat) : Int)) (by decide) (by omega) (by omega), Nat.add_sub_cancel]
    congr 1
    exact chI_dec d (by omega) k (by omega) h
  · rw [if_neg (by rw [iI_le (by omega) (by omega) (by omega) (by omega)]; omega), chN_big d k (by omega)]
    rfl
theorem power_L {x e : Nat} (he : e ≤ 200) : ∀ (m i P : Nat), i ≤ e → e - i < m → fX7_power_L4 (iI (x : Int)) (iI (e : Int)) m (iI (P : Int)) (iI (i : Int)) = some (iI ((P * x ^ (e - i) : Nat) : Int))
  | 0, _, _, _, h => absurd h (Nat.not_lt_zero _)
  | m + 1, i, P, hi, hm => by
    rw [fX7_power_L4]
    by_cases h : e ≤ i
    · have e0 : e - i = 0 := by omega
      rw [if_pos (by rw [iI_le (by omega) (by omega) (by omega) (by omega)]; omega), e0, Nat.pow_zero, Nat.mul_one]
    · have e0 : e - i = (e - (i + 1)) + 1 := by omega
      have em : iI (P : Int) * iI (x : Int) = iI ((P * x : Nat) : Int) := by
        rw [iI_mul]
        congr 1
      rw [if_neg (by rw [iI_le (by omega) (by omega) (by omega) (by omega)]; omega), em, iI_s, power_L he m (i + 1) (P * x) (by omega) (by omega), e0, Nat.pow_succ]
      congr 3
      rw [Nat.mul_assoc]
      congr 1
      exact Nat.mul_comm _ _
theorem power_iI {N x e : Nat} (hN : 300 ≤ N) (he : e ≤ 200) : fX7_power N (iI (x : Int)) (iI (e : Int)) = some (iI ((x ^ e : Nat) : Int)) := by
  have := power_L (x := x) he N 0 1 (Nat.zero_le _) (by omega)
  rw [Nat.one_mul, Nat.sub_zero] at this
  exact this
/-! the class's sum -/
def fOdd (g : Nat → Nat) (b s x d k : Nat) : Nat := if gon g k s == b then x ^ (d - k) * (10 - x) ^ k else 0
theorem mulN (a b : Nat) : iI (a : Int) * iI (b : Int) = iI ((a * b : Nat) : Int) := by
  rw [iI_mul]
  congr 1
theorem chances_L {N : Nat} {rk tn : Nat → Int32} {r t : Nat → Nat} {n T R b s x d : Nat} (hN : 300 ≤ N) (hn : n ≤ 6) (hT : T < 32768) (hR : R < 64) (hr : ∀ i, i < n → rk i = iI (r i)) (hk : RK r t n) (hb : b < n) (hs : s < n) (hx : x ≤ 10) (hd : d ≤ 6) : ∀ (m i a : Nat), i ≤ d + 1 → d + 1 - i < m →
    fX7_chancesOf_L11 N (iI (T : Int)) (iI (s : Int)) (iI (x : Int)) (iI (d : Int)) (iI (b : Int)) (rk, tn, iI (n : Int), iI (R : Int)) m (iI (a : Int)) (iI (i : Int)) = some (iI ((sT (fun k => chN d k * fOdd (go t T R n) b s x d k) (d + 1 - i) i a : Nat) : Int), rk, tn, iI (n : Int), iI (R : Int))
  | 0, _, _, _, h => absurd h (Nat.not_lt_zero _)
  | m + 1, i, a, hi, hm => by
    rw [fX7_chancesOf_L11]
    by_cases h : d < i
    · have e0 : d + 1 - i = 0 := by omega
      rw [if_pos (by rw [iI_lt (by omega) (by omega) (by omega) (by omega)]; omega), e0]
      rfl
    · have e0 : d + 1 - i = (d + 1 - (i + 1)) + 1 := by omega
      have hlt : gon (go t T R n) i s < n := gon_lt (fun b hb => go_lt hb) i s hs
      have e10 : (10 : Int32) - iI (x : Int) = iI ((10 - x : Nat) : Int) := iI_subN (a := 10) hx
      have ed : iI (d : Int) - iI (i : Int) = iI ((d - i : Nat) : Int) := iI_subN (by omega)
      rw [if_neg (by rw [iI_lt (by omega) (by omega) (by omega) (by omega)]; omega)]
      dsimp only
      rw [walk_iI hN hn hT hR hr hk (by omega) hs, Option.bind_some, choose_iI hN hd (by omega), Option.bind_some, e10, power_iI hN (by omega), Option.bind_some, ed, power_iI hN (by omega), Option.bind_some, mulN, mulN, iI_addN, iI_s, e0, sT]
      by_cases h2 : gon (go t T R n) i s = b
      · rw [if_pos (by rw [h2]), chances_L hN hn hT hR hr hk hb hs hx hd m (i + 1) _ (by omega) (by omega)]
        have ef : chN d i * fOdd (go t T R n) b s x d i = chN d i * (10 - x) ^ i * x ^ (d - i) := by
          unfold fOdd
          rw [if_pos (by simp [h2]), Nat.mul_assoc]
          congr 1
          exact Nat.mul_comm _ _
        rw [ef]
      · rw [if_neg (by rw [iI_eq (by omega) (by omega) (by omega) (by omega)]; omega), chances_L hN hn hT hR hr hk hb hs hx hd m (i + 1) _ (by omega) (by omega)]
        have ef : chN d i * fOdd (go t T R n) b s x d i = 0 := by
          unfold fOdd
          rw [if_neg (by simp [h2]), Nat.mul_zero]
        rw [ef, Nat.add_zero a]
/-! the reference's sum -/
theorem odds8_L113 {N n F R b x d q a T : Nat} {A B : Nat → Nat} {books nA nB now near : Nat → Int32} {k : Int32 → Int32 → Option (Int32 × (Nat → Int32))} (hN : 300 ≤ N) (hM : M8 n A B F R books nA nB now) (hp : nearIs (nbr T) near) (hb : b < n) (hx : x ≤ 10) (hd : d ≤ 6) (hq : q < 64) : ∀ (m i P c : Nat), i ≤ d → d - i < m → c < n →
    fX8_odds_L113 N books nA nB now (iI (x : Int)) (iI (d : Int)) (iI (b : Int)) near (iI (a : Int)) (iI (q : Int)) k m (iI (P : Int)) (iI (c : Int)) (iI (i : Int)) = k (iI ((a + (if wB (go (tt A B F) T R n) q (d - i) i c == b then wP x q (d - i) i P else 0) : Nat) : Int)) (iI ((q + 1 : Nat) : Int))
  | 0, _, _, _, _, h, _ => absurd h (Nat.not_lt_zero _)
  | m + 1, i, P, c, hi, hm, hc => by
    have hn := hM.1
    rw [fX8_odds_L113]
    by_cases h : d ≤ i
    · have e0 : d - i = 0 := by omega
      rw [if_pos (by rw [iI_le (by omega) (by omega) (by omega) (by omega)]; omega), e0, wB, wP, iI_s, iI_addN]
      by_cases h2 : c = b
      · rw [if_pos (by rw [h2]), if_pos (by simp [h2])]
      · have ez : iI (a : Int) + (0 : Int32) = iI ((a + 0 : Nat) : Int) := iI_addN a 0
        rw [if_neg (by rw [iI_eq (by omega) (by omega) (by omega) (by omega)]; omega), if_neg (by simp [h2]), ez]
    · have e0 : d - i = (d - (i + 1)) + 1 := by omega
      have e10 : (10 : Int32) - iI (x : Int) = iI ((10 - x : Nat) : Int) := iI_subN (a := 10) hx
      have hlt : go (tt A B F) T R n c < n := go_lt hc
      rw [if_neg (by rw [iI_le (by omega) (by omega) (by omega) (by omega)]; omega), trap_bit (by omega) (by omega)]
      unfold fX8_odds_J135 fX8_odds_J152
      rw [if_pos rfl, if_neg z1, if_pos rfl, if_neg z1, goesTo8_iI (by omega) hM hp hc, Option.bind_some, e10, mulN, mulN, iI_s, e0, wB, wP, ← go_goP]
      cases hbit : q.testBit i
      · rw [if_neg (show ¬ iI ((false.toNat : Nat) : Int) = 1 by decide), if_neg (show ¬ (false = true) by decide), if_neg (show ¬ (false = true) by decide)]
        exact odds8_L113 hN hM hp hb hx hd hq m (i + 1) _ _ (by omega) (by omega) hlt
      · rw [if_pos (show iI ((true.toNat : Nat) : Int) = 1 by decide), if_pos (show true = true from rfl), if_pos (show true = true from rfl)]
        exact odds8_L113 hN hM hp hb hx hd hq m (i + 1) _ _ (by omega) (by omega) hc
theorem p2d : ∀ d : Nat, d ≤ 6 → (1 : Int32) <<< (iI (d : Int) &&& 31) = iI ((2 ^ d : Nat) : Int) ∧ 2 ^ d ≤ 64 := by decide +kernel
theorem odds8_L90 {N n F R s b x d T U : Nat} {A B : Nat → Nat} {books nA nB now near : Nat → Int32} {p4 : Int32} (hN : 300 ≤ N) (hM : M8 n A B F R books nA nB now) (hp : nearIs (nbr T) near) (h13 : now 13 = iI s) (hb : b < n) (hs : s < n) (hx : x ≤ 10) (hd : d ≤ 6) : ∀ (m q a : Nat), q ≤ 2 ^ d → 2 ^ d - q < m →
    fX8_odds_L90 N books nA nB now (iI (x : Int)) (iI (d : Int)) (iI (b : Int)) p4 near (iI (U : Int)) m (iI (a : Int)) (iI (q : Int)) = (fX8_part N (iI ((sT (fun q => fOdd (go (tt A B F) T R n) b s x d (zc q d 0)) (2 ^ d - q) q a : Nat) : Int)) (iI (U : Int)) p4).bind fun q_18 => some (q_18, near)
  | 0, _, _, _, h => absurd h (Nat.not_lt_zero _)
  | m + 1, q, a, hq, hm => by
    obtain ⟨h1, h2⟩ := p2d d hd
    rw [fX8_odds_L90, h1]
    by_cases h : 2 ^ d ≤ q
    · have e0 : 2 ^ d - q = 0 := by omega
      rw [if_pos (by rw [iI_le (by omega) (by omega) (by omega) (by omega)]; omega), e0]
      rfl
    · have e0 : 2 ^ d - q = (2 ^ d - (q + 1)) + 1 := by omega
      rw [if_neg (by rw [iI_le (by omega) (by omega) (by omega) (by omega)]; omega), t13, h13]
      have e1 : (1 : Int32) = iI ((1 : Nat) : Int) := rfl
      have ez : (0 : Int32) = iI ((0 : Nat) : Int) := rfl
      rw [e1, ez, odds8_L113 (x := x) (q := q) (a := a) hN hM hp hb hx hd (by omega) N 0 1 s (Nat.zero_le _) (by omega) hs, e0, sT]
      rw [odds8_L90 hN hM hp h13 hb hs hx hd m (q + 1) _ (by omega) (by omega), Nat.sub_zero, wB_eq, wP_eq, Nat.one_mul]
      rfl
theorem odds8_L68 {N d : Nat} {books nA nB now near : Nat → Int32} {p1 p3 p4 : Int32} (hd : d ≤ 6) : ∀ (m i P : Nat), i ≤ d → d - i < m →
    fX8_odds_L68 N books nA nB now p1 (iI (d : Int)) p3 p4 near m (iI (P : Int)) (iI (i : Int)) = fX8_odds_L90 N books nA nB now p1 (iI (d : Int)) p3 p4 near (iI ((P * 10 ^ (d - i) : Nat) : Int)) N 0 0
  | 0, _, _, _, h => absurd h (Nat.not_lt_zero _)
  | m + 1, i, P, hi, hm => by
    rw [fX8_odds_L68]
    by_cases h : d ≤ i
    · have e0 : d - i = 0 := by omega
      rw [if_pos (by rw [iI_le (by omega) (by omega) (by omega) (by omega)]; omega), e0, Nat.pow_zero, Nat.mul_one]
    · have e0 : d - i = (d - (i + 1)) + 1 := by omega
      have em : iI (P : Int) * (10 : Int32) = iI ((P * 10 : Nat) : Int) := mulN P 10
      rw [if_neg (by rw [iI_le (by omega) (by omega) (by omega) (by omega)]; omega), em, iI_s, odds8_L68 hd m (i + 1) (P * 10) (by omega) (by omega), e0, Nat.pow_succ]
      congr 3
      rw [Nat.mul_assoc]
      congr 1
      exact Nat.mul_comm _ _
/-! both sums are one -/
theorem sum_dec : ∀ d : Nat, d < 7 → (∀ x ∈ (List.range' 0 (2 ^ d)).map (fun q => zc q d 0), x ≤ 6) ∧ (∀ x ∈ (List.range' 0 (d + 1)), x ≤ 6) ∧ ∀ k : Nat, k < 7 → ((List.range' 0 (2 ^ d)).map (fun q => zc q d 0)).count k = (if k ≤ d then chN d k else 0) ∧ (List.range' 0 (d + 1)).count k = (if k ≤ d then 1 else 0) := by decide +kernel
theorem sum_eq (f : Nat → Nat) (d : Nat) (hd : d ≤ 6) : sT (fun q => f (zc q d 0)) (2 ^ d) 0 0 = sT (fun k => chN d k * f k) (d + 1) 0 0 := by
  obtain ⟨h1, h2, h3⟩ := sum_dec d (by omega)
  have e2 := sT_smL (fun k => chN d k * f k) (fun k => k) (d + 1) 0 0
  rw [sT_smL f (fun q => zc q d 0), e2, List.map_id', smL_count f _ h1, smL_count _ _ h2]
  rw [(h3 0 (by decide)).1, (h3 1 (by decide)).1, (h3 2 (by decide)).1, (h3 3 (by decide)).1, (h3 4 (by decide)).1, (h3 5 (by decide)).1, (h3 6 (by decide)).1, (h3 0 (by decide)).2, (h3 1 (by decide)).2, (h3 2 (by decide)).2, (h3 3 (by decide)).2, (h3 4 (by decide)).2, (h3 5 (by decide)).2, (h3 6 (by decide)).2]
  have hk : ∀ k : Nat, (if k ≤ d then chN d k else 0) * f k = (if k ≤ d then 1 else 0) * (chN d k * f k) := by
    intro k
    by_cases h : k ≤ d
    · rw [if_pos h, if_pos h, Nat.one_mul]
    · rw [if_neg h, if_neg h, Nat.zero_mul, Nat.zero_mul]
  rw [hk, hk, hk, hk, hk, hk, hk]
theorem sT_mono {F G : Nat → Nat} (h : ∀ i, F i ≤ G i) : ∀ k i a b, a ≤ b → sT F k i a ≤ sT G k i b
  | 0, _, _, _, hab => hab
  | k + 1, i, a, b, hab => sT_mono h k (i + 1) _ _ (Nat.add_le_add hab (h i))
theorem tot_dec : ∀ d : Nat, d < 7 → ∀ x : Nat, x < 11 → sT (fun k => chN d k * (x ^ (d - k) * (10 - x) ^ k)) (d + 1) 0 0 ≤ 1000000 := by decide +kernel
theorem tot_le (g : Nat → Nat) (b s x d : Nat) (hx : x ≤ 10) (hd : d ≤ 6) : sT (fun k => chN d k * fOdd g b s x d k) (d + 1) 0 0 ≤ 1000000 := by
  refine Nat.le_trans (sT_mono (fun k => ?_) _ _ _ _ (Nat.le_refl _)) (tot_dec d (by omega) x (by omega))
  apply Nat.mul_le_mul_left
  unfold fOdd
  split
  · exact Nat.le_refl _
  · exact Nat.zero_le _
/-! the greatest divisor -/
theorem rem_iI {x y : Nat} (hx : x < 2147483648) (hy : 0 < y) (hy2 : y < 2147483648) : iI (x : Int) - iI (x : Int) / iI (y : Int) * iI (y : Int) = iI ((x % y : Nat) : Int) := by
  rw [iI_div (by omega) (by omega) (by omega) (by omega), iI_mul, iI_sub]
  congr 1
  have h1 : x / y * y + x % y = x := by rw [Nat.mul_comm]; exact Nat.div_add_mod x y
  have h2 : ((x / y : Nat) : Int) * (y : Int) + ((x % y : Nat) : Int) = (x : Int) := by exact_mod_cast h1
  have h3 : (x : Int) / (y : Int) = ((x / y : Nat) : Int) := rfl
  rw [h3]
  omega
theorem mod_half {y r : Nat} (hr : 0 < r) (hry : r < y) : 2 * (y % r) < y := by
  have h1 : y % r < r := Nat.mod_lt _ hr
  have h2 : r ≤ y := by omega
  have h3 : y % r = (y - r) % r := by
    rw [Nat.mod_eq_sub_mod h2]
  have h4 : (y - r) % r ≤ y - r := Nat.mod_le _ _
  omega
theorem gcd_s (x y : Nat) : Nat.gcd x y = Nat.gcd y (x % y) := by
  rw [Nat.gcd_comm x y, Nat.gcd_rec y x, Nat.gcd_comm]
theorem eq0 {y : Nat} (hy : y < 2147483648) : iI (y : Int) = 0 ↔ y = 0 := by
  have e0 : (0 : Int32) = iI ((0 : Nat) : Int) := rfl
  rw [e0, iI_eq (by omega) (by omega) (by omega) (by omega)]
  omega
theorem gcd7_L : ∀ (j m i x y : Nat), y < 2 ^ j → j ≤ 30 → x < 2147483648 → i + 2 * j ≤ 63 → 2 * j < m → fX7_greatestDivisor_L7 m (iI (x : Int)) (iI (y : Int)) (iI (i : Int)) = some (iI ((Nat.gcd x y : Nat) : Int))
  | j, 0, _, _, _, _, _, _, _, h => absurd h (Nat.not_lt_zero _)
  | 0, m + 1, i, x, y, hy, hj, hx, hi, hm => by
    have : y = 0 := by
      have : (2 : Nat) ^ 0 = 1 := rfl
      omega
    subst this
    rw [fX7_greatestDivisor_L7, if_neg (by rw [iI_lit 64, iI_le (by decide) (by decide) (by omega) (by omega)]; show ¬ (64 : Int) ≤ i; omega), if_pos (show iI ((0 : Nat) : Int) = (0 : Int32) from rfl), Nat.gcd_zero_right]
  | j + 1, 1, i, x, y, hy, hj, hx, hi, hm => by omega
  | j + 1, m + 2, i, x, y, hy, hj, hx, hi, hm => by
    have hp : 2 ^ (j + 1) ≤ 2 ^ 30 := Nat.pow_le_pow_right (by decide) hj
    have hp2 : (2 : Nat) ^ 30 = 1073741824 := by decide
    have hy2 : y < 2147483648 := by omega
    rw [fX7_greatestDivisor_L7, if_neg (by rw [iI_lit 64, iI_le (by decide) (by decide) (by omega) (by omega)]; show ¬ (64 : Int) ≤ i; omega)]
    by_cases h0 : y = 0
    · subst h0
      rw [if_pos (show iI ((0 : Nat) : Int) = (0 : Int32) from rfl), Nat.gcd_zero_right]
    · rw [if_neg (fun q => h0 ((eq0 hy2).mp q)), vz_iI (by omega) (by omega) (by omega), rem_iI hx (by omega) hy2, iI_s, fX7_greatestDivisor_L7, if_neg (by rw [iI_lit 64, iI_le (by decide) (by decide) (by omega) (by omega)]; show ¬ (64 : Int) ≤ ((i + 1 : Nat) : Int); omega)]
      have hr : x % y < y := Nat.mod_lt _ (by omega)
      by_cases h1 : x % y = 0
      · rw [if_pos ((eq0 (by omega)).mpr h1), gcd_s x y, h1, Nat.gcd_zero_right]
      · have hmh := mod_half (y := y) (r := x % y) (by omega) hr
        have hpow : 2 ^ (j + 1) = 2 * 2 ^ j := by rw [Nat.pow_succ, Nat.mul_comm]
        rw [if_neg (fun q => h1 ((eq0 (by omega)).mp q)), vz_iI (by omega) (by omega) (by omega), rem_iI hy2 (by omega) (by omega), iI_s, gcd_s x y, gcd_s y (x % y)]
        exact gcd7_L j m (i + 1 + 1) (x % y) (y % (x % y)) (by omega) (by omega) (by omega) (by omega) (by omega)
theorem part_L {u l : Nat} {p4 : Int32} : ∀ (j m x y : Nat), y < 2 ^ j → j ≤ 30 → x < 2147483648 → 2 * j < m → 0 < Nat.gcd x y → fX8_part_L5 (iI (u : Int)) (iI (l : Int)) p4 m (iI (x : Int)) (iI (y : Int)) = some (if p4 = 0 then iI (u : Int) / iI ((Nat.gcd x y : Nat) : Int) else iI (l : Int) / iI ((Nat.gcd x y : Nat) : Int))
  | j, 0, _, _, _, _, _, h, _ => absurd h (Nat.not_lt_zero _)
  | 0, m + 1, x, y, hy, hj, hx, hm, hg => by
    have : y = 0 := by
      have : (2 : Nat) ^ 0 = 1 := rfl
      omega
    subst this
    rw [Nat.gcd_zero_right] at hg ⊢
    rw [fX8_part_L5, if_pos (show iI ((0 : Nat) : Int) = (0 : Int32) from rfl), vz_iI (by omega) (by omega) (by omega), vz_iI (by omega) (by omega) (by omega)]
    split <;> rfl
  | j + 1, 1, x, y, hy, hj, hx, hm, hg => by omega
  | j + 1, m + 2, x, y, hy, hj, hx, hm, hg => by
    have hp : 2 ^ (j + 1) ≤ 2 ^ 30 := Nat.pow_le_pow_right (by decide) hj
    have hp2 : (2 : Nat) ^ 30 = 1073741824 := by decide
    have hy2 : y < 2147483648 := by omega
    rw [fX8_part_L5]
    by_cases h0 : y = 0
    · subst h0
      rw [Nat.gcd_zero_right] at hg ⊢
      rw [if_pos (show iI ((0 : Nat) : Int) = (0 : Int32) from rfl), vz_iI (by omega) (by omega) (by omega), vz_iI (by omega) (by omega) (by omega)]
      split <;> rfl
    · rw [if_neg (fun q => h0 ((eq0 hy2).mp q)), vz_iI (by omega) (by omega) (by omega), rem_iI hx (by omega) hy2, fX8_part_L5]
      have hr : x % y < y := Nat.mod_lt _ (by omega)
      by_cases h1 : x % y = 0
      · rw [if_pos ((eq0 (by omega)).mpr h1), gcd_s x y, h1, Nat.gcd_zero_right, vz_iI (by omega) (by omega) (by omega), vz_iI (by omega) (by omega) (by omega)]
        split <;> rfl
      · have hmh := mod_half (y := y) (r := x % y) (by omega) hr
        have hpow : 2 ^ (j + 1) = 2 * 2 ^ j := by rw [Nat.pow_succ, Nat.mul_comm]
        rw [if_neg (fun q => h1 ((eq0 (by omega)).mp q)), vz_iI (by omega) (by omega) (by omega), rem_iI hy2 (by omega) (by omega)]
        rw [gcd_s x y, gcd_s y (x % y)] at hg ⊢
        exact part_L j m (x % y) (y % (x % y)) (by omega) (by omega) (by omega) (by omega) hg
theorem op_odds {N : Nat} (hN : 40000 ≤ N) {a_text_bytes : Nat → Int32} {v_text_length : Int32} {a_told_a : Nat → Int32} {a_told_b : Nat → Int32} {v_told_size : Int32} {v_now_forgotten : Int32} {v_now_touches : Int32} {v_now_trapped : Int32} {v_now_one : Int32} {v_now_date : Int32} {a_history_steps : Nat → Int64} {v_history_known : Int32} {a_firstImage_history_steps : Nat → Int64} {v_firstImage_history_known : Int32} {v_firstImage_packed : Int64} {v_firstImage_kept : Int32} {a_secondImage_history_steps : Nat → Int64} {v_secondImage_history_known : Int32} {v_secondImage_packed : Int64} {v_secondImage_kept : Int32} {a_seen_days : Nat → Int32} {a_seen_books : Nat → Int32} {a_seen_there : Nat → Int32} {v_seen_size : Int32} {v_traced : Int64} {ma_text : Nat → Int32} {mv_typed : Int32} {ma_books : Nat → Int32} {ma_numberA : Nat → Int32} {ma_numberB : Nat → Int32} {ma_now : Nat → Int32} {ma_isKept : Nat → Int32} {ma_seenDays : Nat → Int32} {ma_seenBook : Nat → Int32} {ma_seenIs : Nat → Int32} {mv_seen : Int32} {mv_trace : Int64} (hI : Inv a_text_bytes v_text_length a_told_a a_told_b v_told_size v_now_forgotten v_now_touches v_now_trapped v_now_one v_now_date a_history_steps v_history_known a_firstImage_history_steps v_firstImage_history_known v_firstImage_packed v_firstImage_kept a_secondImage_history_steps v_secondImage_history_known v_secondImage_packed v_secondImage_kept a_seen_days a_seen_books a_seen_there v_seen_size v_traced ma_text mv_typed ma_books ma_numberA ma_numberB ma_now ma_isKept ma_seenDays ma_seenBook ma_seenIs mv_seen mv_trace) (a_ways_ranked : Nat → Int32) (a_ways_tens : Nat → Int32) (v_ways_size : Int32) (v_ways_trapped : Int32) (ma_near : Nat → Int32) (p1 : Int32) (p2 : Int32) (p3 : Int32) (p4 : Int32) : ∃ (q : (Int32 × (Nat → Int32) × (Nat → Int32) × Int32 × Int32)) (r : (Int32 × (Nat → Int32))), fX7_odds N a_told_a a_told_b v_told_size v_now_forgotten v_now_touches v_now_trapped v_now_one a_ways_ranked a_ways_tens v_ways_size v_ways_trapped p1 p2 p3 p4 = some q ∧ fX8_odds N ma_books ma_numberA ma_numberB ma_now ma_near p1 p2 p3 p4 = some r ∧ q.1 = r.1 ∧ Inv a_text_bytes v_text_length a_told_a a_told_b v_told_size v_now_forgotten v_now_touches v_now_trapped v_now_one v_now_date a_history_steps v_history_known a_firstImage_history_steps v_firstImage_history_known v_firstImage_packed v_firstImage_kept a_secondImage_history_steps v_secondImage_history_known v_secondImage_packed v_secondImage_kept a_seen_days a_seen_books a_seen_there v_seen_size v_traced ma_text mv_typed ma_books ma_numberA ma_numberB ma_now ma_isKept ma_seenDays ma_seenBook ma_seenIs mv_seen mv_trace := by
  have hI0 := hI
  obtain ⟨n, A, B, S, h, k, hT, ⟨hn, rfl, hbk, hab, hab8⟩, hS, ⟨rfl, rfl, rfl, rfl, rfl, hR⟩, hH, hI1, hI2, hW, rfl⟩ := hI
  have hM : M8 n A B S.1 S.2.2.1 ma_books ma_numberA ma_numberB ma_now := M8_of (fo := 0) (tc := 0) (tr := 0) (on := 0) (da := 0) ⟨hn, rfl, hbk, hab, hab8⟩ hS hR
  unfold fX7_odds fX8_odds fX7_isSomewhere
  have h13 : ma_now 13 = iI S.2.2.2.1 := by rw [hR 13 (by decide), rowS_13]
  rw [isBook8 hbk, in_within, t13, h13]
  rcases win p1 0 10 0 10 rfl rfl (by decide) (by decide) with hz | ⟨x, -, hx, rfl, hz⟩
  · exact ⟨_, _, if_pos hz, if_pos hz, rfl, hI0⟩
  rw [if_neg hz, if_neg hz]
  rcases win p2 0 6 0 6 rfl rfl (by decide) (by decide) with hz | ⟨d, -, hd, rfl, hz⟩
  · exact ⟨_, _, if_pos hz, if_pos hz, rfl, hI0⟩
  rw [if_neg hz, if_neg hz]
  rcases bookC hn p3 with hb | ⟨b, hb2, rfl, hb⟩
  · exact ⟨_, _, if_pos hb, if_pos hb, rfl, hI0⟩
  rw [if_neg hb, if_neg hb]
  rcases win p4 0 1 0 1 rfl rfl (by decide) (by decide) with hz | ⟨w, -, hw, rfl, hz⟩
  · exact ⟨_, _, if_pos hz, if_pos hz, rfl, hI0⟩
  rw [if_neg hz, if_neg hz]
  by_cases ho : fX7_isBook (iI n) (iI S.2.2.2.1) = 0
  · have e := one_no hS hn ho
    exact ⟨_, _, if_pos ho, if_pos (by rw [e]; rfl), rfl, hI0⟩
  obtain ⟨s, hs, e⟩ := one_yes hS hn ho
  rw [if_neg ho]
  rw [e] at h13 ⊢
  rw [e_m9, if_neg (nat_m9 s (by omega))]
  rw [e] at hI0
  have hTT := hS.2.1
  obtain ⟨nr, nr1, nr2⟩ := takeNear_iI (N := N) (by omega) ma_now ma_near
  obtain ⟨rk', tn', r', w1, w2, w3⟩ := waysNow_iI (N := N) (R := S.2.2.1) (by omega) hn hS.1 hab a_ways_ranked a_ways_tens v_ways_size v_ways_trapped
  have e0 : (0 : Int32) = iI ((0 : Nat) : Int) := rfl
  have e1 : (1 : Int32) = iI ((1 : Nat) : Int) := rfl
  have e10 : (10 : Int32) = iI ((10 : Nat) : Int) := rfl
  have h68 := odds8_L68 (N := N) (books := ma_books) (nA := ma_numberA) (nB := ma_numberB) (now := ma_now) (near := nr) (p1 := iI (x : Int)) (p3 := iI (b : Int)) (p4 := iI (w : Int)) hd N 0 1 (Nat.zero_le _) (by omega)
  have h90 := odds8_L90 (N := N) (U := 10 ^ d) (p4 := iI (w : Int)) (by omega) hM (near_of hR nr2) h13 hb2 hs hx hd N 0 0 (Nat.zero_le _) (by have := (p2d d hd).2; omega)
  have h11 := chances_L (N := N) (tn := tn') (by omega) hn hTT hS.2.2.1 w3 w2 hb2 hs hx hd N 0 0 (Nat.zero_le _) (by omega)
  rw [Nat.sub_zero] at h90 h11
  rw [Nat.sub_zero, Nat.one_mul, e0, h90] at h68
  rw [sum_eq _ d hd] at h68
  have htot := tot_le (go (tt A B S.1) S.2.1 S.2.2.1 n) b s x d hx hd
  rw [nr1, Option.bind_some, e1, e0, h68]
  unfold fX7_chancesOf
  rw [w1, Option.bind_some, e0, h11, Option.bind_some, e10, power_iI (by omega) (by omega), Option.bind_some]
  generalize sT (fun k => chN d k * fOdd (go (tt A B S.1) S.2.1 S.2.2.1 n) b s x d k) (d + 1) 0 0 = U at htot ⊢
  have hpd : ∀ d : Nat, d ≤ 6 → 1 ≤ 10 ^ d ∧ 10 ^ d ≤ 1000000 := by decide +kernel
  obtain ⟨hp1, hp2⟩ := hpd d hd
  have hgpos : 0 < Nat.gcd U (10 ^ d) := Nat.gcd_pos_of_pos_right _ (by omega)
  have hgle : Nat.gcd U (10 ^ d) ≤ 10 ^ d := Nat.gcd_le_right _ (by omega)
  have h220 : (2 : Nat) ^ 20 = 1048576 := by decide
  unfold fX7_greatestDivisor fX8_part
  rw [e0, gcd7_L 20 N 0 (10 ^ d) U (by omega) (by decide) (by omega) (by decide) (by omega), part_L 20 N U (10 ^ d) (by omega) (by decide) (by omega) (by omega) hgpos, Nat.gcd_comm (10 ^ d) U]
  generalize Nat.gcd U (10 ^ d) = G at hgpos hgle ⊢
  have emax : (if (1 : Int32) < iI (G : Int) then iI (G : Int) else (1 : Int32)) = iI (G : Int) := by
    by_cases hg1 : G = 1
    · subst hg1
      exact ite_self _
    · rw [if_pos (by rw [e1, iI_lt (by omega) (by omega) (by omega) (by omega)]; omega)]
  unfold fX7_odds_J94
  rw [Option.bind_some, Option.bind_some, emax, vz_iI (by omega) (by omega) (by omega), vz_iI (by omega) (by omega) (by omega)]
  by_cases hw0 : iI (w : Int) = iI ((0 : Nat) : Int)
  · refine ⟨_, _, if_pos hw0, rfl, ?_, hI0⟩
    show _ = (if iI (w : Int) = iI ((0 : Nat) : Int) then _ else _)
    rw [if_pos hw0]
  · refine ⟨_, _, if_neg hw0, rfl, ?_, hI0⟩
    show _ = (if iI (w : Int) = iI ((0 : Nat) : Int) then _ else _)
    rw [if_neg hw0]
end ODDS
