/-! which errors explain the total -/
section WHY2
def fP (c : Nat) : Nat → Nat
  | 0 => 0
  | k + 1 => fP c k + fg c k % 2
def fQ (c : Nat) : Nat → Nat
  | 0 => 0
  | k + 1 => fQ c k + fg c k / 2
def vld (cc : Nat → Nat) (c : Nat) : Nat → Bool
  | 0 => true
  | k + 1 => vld cc c k && decide (fg c k % 2 ≤ cc k % 2 ∧ fg c k / 2 ≤ cc k / 2)
def mkc (c : Nat) : Nat → Nat
  | 0 => 0
  | k + 1 => if fg c k = 0 then mkc c k else mkc c k ||| 2 ^ k
def sA (A B : Nat → Nat) : Nat → Nat
  | 0 => 0
  | k + 1 => sA A B k + (A k + B k)
def sg (A B : Nat → Nat) (c k : Nat) : Int := (sA A B k : Int) - 10 * (fP c k : Int) - 100 * (fQ c k : Int)
def pf (cl : Nat) : Nat → Nat
  | 0 => 0
  | k + 1 => pf cl k + (if k = cl then 0 else 1)
theorem fP_le (c : Nat) : ∀ k, fP c k ≤ k
  | 0 => Nat.le_refl _
  | k + 1 => by
    have := fP_le c k
    rw [fP]
    omega
theorem fQ_le (c : Nat) : ∀ k, fQ c k ≤ k
  | 0 => Nat.le_refl _
  | k + 1 => by
    have := fQ_le c k
    have := fg_lt c k
    rw [fQ]
    omega
theorem pf_le (cl : Nat) : ∀ k, pf cl k ≤ k
  | 0 => Nat.le_refl _
  | k + 1 => by
    have := pf_le cl k
    rw [pf]
    split <;> omega
theorem sA_le {A B : Nat → Nat} {n : Nat} (h : ∀ i, i < n → A i ≤ 999 ∧ B i ≤ 999) : ∀ k, k ≤ n → sA A B k ≤ 1998 * k
  | 0, _ => Nat.le_refl _
  | k + 1, hk => by
    have h1 := sA_le h k (by omega)
    have h2 := h k (by omega)
    rw [sA]
    omega
theorem qq_iff {cc : Nat → Nat} {c : Nat} : ∀ k P Q, qq cc k P Q c = (vld cc c k && (decide (fP c k = P) && decide (fQ c k = Q)))
  | 0, P, Q => by
    show (decide (P = 0) && decide (Q = 0)) = (true && (decide (0 = P) && decide (0 = Q)))
    rw [Bool.true_and]
    congr 1 <;> (apply decide_eq_decide.mpr; omega)
  | k + 1, P, Q => by
    rw [qq, qq_iff k, vld, fP, fQ]
    by_cases h1 : fg c k % 2 ≤ cc k % 2 ∧ fg c k / 2 ≤ cc k / 2
    · by_cases h2 : fg c k % 2 ≤ P ∧ fg c k / 2 ≤ Q
      · have e1 : decide (fg c k % 2 ≤ cc k % 2 ∧ fg c k / 2 ≤ cc k / 2 ∧ fg c k % 2 ≤ P ∧ fg c k / 2 ≤ Q) = true := decide_eq_true ⟨h1.1, h1.2, h2.1, h2.2⟩
        rw [e1, decide_eq_true h1, Bool.true_and, Bool.and_true]
        congr 1
        congr 1 <;> (apply decide_eq_decide.mpr; omega)
      · have e1 : decide (fg c k % 2 ≤ cc k % 2 ∧ fg c k / 2 ≤ cc k / 2 ∧ fg c k % 2 ≤ P ∧ fg c k / 2 ≤ Q) = false := decide_eq_false (fun q => h2 ⟨q.2.2.1, q.2.2.2⟩)
        rw [e1, Bool.false_and]
        by_cases h3 : fg c k % 2 ≤ P
        · have e2 : decide (fQ c k + fg c k / 2 = Q) = false := decide_eq_false (by omega)
          rw [e2]
          simp
        · have e2 : decide (fP c k + fg c k % 2 = P) = false := decide_eq_false (by omega)
          rw [e2]
          simp
    · have e1 : decide (fg c k % 2 ≤ cc k % 2 ∧ fg c k / 2 ≤ cc k / 2 ∧ fg c k % 2 ≤ P ∧ fg c k / 2 ≤ Q) = false := decide_eq_false (fun q => h1 ⟨q.1, q.2.1⟩)
      rw [e1, decide_eq_false h1]
      simp
theorem mkc_bit (c : Nat) : ∀ k b, (mkc c k).testBit b = (decide (b < k) && decide (fg c b ≠ 0))
  | 0, b => by
    show (0 : Nat).testBit b = _
    simp
  | k + 1, b => by
    rw [mkc]
    by_cases h : fg c k = 0
    · rw [if_pos h, mkc_bit c k b]
      by_cases hb : b = k
      · subst hb
        simp [h]
      · have e : decide (b < k + 1) = decide (b < k) := decide_eq_decide.mpr (by omega)
        rw [e]
    · rw [if_neg h, Nat.testBit_or, mkc_bit c k b, Nat.testBit_two_pow]
      by_cases hb : b = k
      · subst hb
        simp [h]
      · have e : decide (b < k + 1) = decide (b < k) := decide_eq_decide.mpr (by omega)
        rw [e, show decide (k = b) = false by simp; omega, Bool.or_false]
def cce (cr : Nat → Nat) (cl i : Nat) : Nat := if i = cl then 0 else cr i
theorem vld_cce {cr : Nat → Nat} {c cl : Nat} : ∀ k, vld (cce cr cl) c k = (vld cr c k && !(mkc c k).testBit cl)
  | 0 => by
    show true = (true && !(0 : Nat).testBit cl)
    simp
  | k + 1 => by
    rw [vld, vld, vld_cce k, mkc_bit, mkc_bit]
    unfold cce
    have hl := fg_lt c k
    by_cases hk : k = cl
    · subst hk
      rw [if_pos rfl]
      by_cases h0 : fg c k = 0
      · rw [h0]
        simp
      · have e : decide (fg c k % 2 ≤ 0 % 2 ∧ fg c k / 2 ≤ 0 / 2) = false := decide_eq_false (by omega)
        rw [e]
        simp [h0]
    · rw [if_neg hk]
      have e : decide (cl < k + 1) = decide (cl < k) := decide_eq_decide.mpr (by omega)
      rw [e, Bool.and_right_comm]
theorem vld_mono {cr : Nat → Nat} {c n : Nat} : ∀ j, vld cr c (n + j) = true → vld cr c n = true
  | 0, h => h
  | j + 1, h => by
    have h2 : vld cr c (n + j + 1) = true := h
    rw [vld, Bool.and_eq_true] at h2
    exact vld_mono j h2.1
/-- what is counted of all codes below c -/
def q1 (A B : Nat → Nat) (cr : Nat → Nat) (n : Nat) (t : Int) (cl c : Nat) : Bool := (vld cr c n && !(mkc c n).testBit cl) && decide (sg A B c n = t)
def kk (A B : Nat → Nat) (cr : Nat → Nat) (n : Nat) (t : Int) (c cl : Nat) : Nat := cb (q1 A B cr n t cl) c + pf cl n * cb (q1 A B cr n (t - 10) cl) c
def wl (cr : Nat → Nat) (n : Nat) (cl : Nat) (L : Int) : Nat := if L < 0 then 0 else chN (c1 (cce cr cl) n) (L / 10 % 10).toNat * chN (c2 (cce cr cl) n) (L / 100).toNat
theorem cb_q1 {A B cr : Nat → Nat} {n cl : Nat} {t : Int} (hn : n ≤ 6) (hcr : ∀ i, cr i < 4) (ht : ((sA A B n : Int) - t) % 10 = 0) : cb (q1 A B cr n t cl) (4 ^ n) = wl cr n cl ((sA A B n : Int) - t) := by
  have hcc : ∀ i, cce cr cl i < 4 := fun i => by
    unfold cce
    split
    · decide
    · exact hcr i
  unfold wl
  by_cases h0 : (sA A B n : Int) - t < 0
  · rw [if_pos h0, cb_congr (q := fun _ => false) (4 ^ n), cb_false]
    intro c _
    unfold q1 sg
    have : decide ((sA A B n : Int) - 10 * (fP c n : Int) - 100 * (fQ c n : Int) = t) = false := decide_eq_false (by omega)
    rw [this, Bool.and_false]
  · rw [if_neg h0, ← qq_count hcc n]
    apply cb_congr
    intro c _
    rw [qq_iff, vld_cce]
    unfold q1 sg
    congr 1
    have h1 := fP_le c n
    have h2 := fQ_le c n
    rw [← Bool.decide_and]
    apply decide_eq_decide.mpr
    omega
/-! what the reference holds while it counts -/
def Zs (n : Nat) (K : Nat → Nat) (s e o : Nat) : Prop := s = K 6 ∧ ∀ b, b < 32 → e.testBit b = (decide (b < n) && decide (K b = 0)) ∧ o.testBit b = (decide (b < n) && decide (K b < K 6)) ∧ (b < n → K b ≤ K 6) ∧ e < 64 ∧ o < 64
theorem Zs_congr {n s e o : Nat} {K K' : Nat → Nat} (h : ∀ cl, K cl = K' cl) (hz : Zs n K s e o) : Zs n K' s e o := by
  have : K = K' := funext h
  rw [← this]
  exact hz
theorem Zs_step {n s e o set : Nat} {K : Nat → Nat} (hn : n ≤ 6) (hz : Zs n K s e o) (hset : set < 64) (hb : ∀ b, n ≤ b → set.testBit b = false) : Zs n (fun cl => K cl + (if set.testBit cl then 0 else 1)) (s + 1) (e &&& set) (o ||| set) := by
  obtain ⟨h1, h2⟩ := hz
  have h6 := hb 6 hn
  refine ⟨by dsimp only; rw [h6, h1]; rfl, fun b hb32 => ?_⟩
  obtain ⟨e1, e2, e3, e4, e5⟩ := h2 b hb32
  simp only [h6, Nat.testBit_and, Nat.testBit_or, e1, e2]
  refine ⟨?_, ?_, ?_, Nat.lt_of_le_of_lt Nat.and_le_left e4, Nat.or_lt_two_pow (n := 6) e5 hset⟩
  · by_cases hs : set.testBit b = true
    · simp [hs]
    · simp [hs]
  · by_cases hs : set.testBit b = true
    · by_cases hbn : b < n
      · have := e3 hbn
        simp [hbn, hs]
        omega
      · rw [hb b (by omega)] at hs
        cases hs
    · simp [hs]
  · intro hbn
    have := e3 hbn
    split <;> simp <;> omega
theorem look_L101 {n c : Nat} {K0 : Nat → Nat} {books : Nat → Int32} {σ t : Int} (hn : n ≤ 6) (hbk : books 0 = iI n) (hσ : -100000 ≤ σ) (hσ2 : σ ≤ 100000) (ht : -100000 ≤ t) (ht2 : t ≤ 100000) : ∀ (m i s e o : Nat), i ≤ n → n - i < m → Zs n (fun cl => K0 cl + (if !(mkc c n).testBit cl && decide (σ + 10 = t) then pf cl i else 0)) s e o →
    ∃ s' e' o' : Nat, fX8_look_L101 books (iI t) (iI σ) (iI ((mkc c n : Nat) : Int)) m (iI (i : Int)) (iI (s : Int)) (iI (e : Int)) (iI (o : Int)) = some (iI (s' : Int), iI (e' : Int), iI (o' : Int)) ∧ Zs n (fun cl => K0 cl + (if !(mkc c n).testBit cl && decide (σ + 10 = t) then pf cl n else 0)) s' e' o'
  | 0, _, _, _, _, _, h, _ => absurd h (Nat.not_lt_zero _)
  | m + 1, i, s, e, o, hi, hm, hz => by
    rw [fX8_look_L101, t0, hbk]
    by_cases h : n ≤ i
    · have hin : i = n := by omega
      subst hin
      rw [if_pos (by rw [iI_le (by omega) (by omega) (by omega) (by omega)]; omega)]
      exact ⟨s, e, o, rfl, hz⟩
    · rw [if_neg (by rw [iI_le (by omega) (by omega) (by omega) (by omega)]; omega), if_pos (by rw [iI_lit 0, iI_le (by decide) (by decide) (by omega) (by omega)]; show (0 : Int) ≤ i; omega)]
      unfold fX8_look_J124 fX8_look_J146
      have e10 : iI σ + (10 : Int32) = iI (σ + 10) := by rw [iI_lit 10, iI_add]
      rw [e10, iI_s]
      by_cases hm2 : σ + 10 = t
      · have hmk : mkc c n < 64 := by
          have : mkc c n < 2 ^ 6 := Nat.lt_pow_two_of_testBit _ (fun j hj => by rw [mkc_bit, show decide (j < n) = false by simp; omega]; rfl)
          exact this
        have h2i : 2 ^ i < 64 := by
          have : 2 ^ i < 2 ^ 6 := Nat.pow_lt_pow_right (by decide) (by omega)
          exact this
        have hset : mkc c n ||| 2 ^ i < 64 := Nat.or_lt_two_pow (n := 6) hmk h2i
        rw [if_pos (by rw [hm2]), if_pos (by rw [iI_lit 0, iI_le (by decide) (by decide) (by omega) (by omega)]; show (0 : Int) ≤ i; omega), shl1 (by omega), iI_or, iI_or, iI_and, iI_s]
        have hstep := Zs_step hn hz hset (fun b hb => by
          rw [Nat.testBit_or, mkc_bit, Nat.testBit_two_pow, show decide (b < n) = false by simp; omega, show decide (i = b) = false by simp; omega]
          rfl)
        refine look_L101 hn hbk hσ hσ2 ht ht2 m (i + 1) (s + 1) _ _ (by omega) (by omega) (Zs_congr (fun cl => ?_) hstep)
        rw [hm2, pf, Nat.testBit_or, Nat.testBit_two_pow]
        cases (mkc c n).testBit cl
        · by_cases hic : i = cl
          · simp [hic]
          · simp [hic]
            omega
        · simp
      · rw [if_neg (by rw [iI_eq (by omega) (by omega) (by omega) (by omega)]; exact hm2)]
        refine look_L101 hn hbk hσ hσ2 ht ht2 m (i + 1) s e o (by omega) (by omega) (Zs_congr (fun cl => ?_) hz)
        have : decide (σ + 10 = t) = false := decide_eq_false hm2
        rw [this, Bool.and_false]
        rfl
theorem look_0 {N n c : Nat} {K0 : Nat → Nat} {books : Nat → Int32} {σ t : Int} {s e o : Nat} (hN : 300 ≤ N) (hn : n ≤ 6) (hbk : books 0 = iI n) (hσ : -100000 ≤ σ) (hσ2 : σ ≤ 100000) (ht : -100000 ≤ t) (ht2 : t ≤ 100000) (hz : Zs n K0 s e o) :
    ∃ s' e' o' : Nat, fX8_look_L101 books (iI t) (iI σ) (iI ((mkc c n : Nat) : Int)) N (-1) (iI (s : Int)) (iI (e : Int)) (iI (o : Int)) = some (iI (s' : Int), iI (e' : Int), iI (o' : Int)) ∧ Zs n (fun cl => (K0 cl + (!(mkc c n).testBit cl && decide (σ = t)).toNat) + (if !(mkc c n).testBit cl && decide (σ + 10 = t) then pf cl n else 0)) s' e' o' := by
  obtain ⟨m, rfl⟩ : ∃ m, N = m + 1 := ⟨N - 1, by omega⟩
  have hm1 : (-1 : Int32) = iI (-1) := rfl
  rw [fX8_look_L101, t0, hbk, hm1, if_neg (by rw [iI_le (by omega) (by omega) (by decide) (by decide)]; omega), if_neg (by decide)]
  unfold fX8_look_J124 fX8_look_J146
  have e0 : iI σ + (0 : Int32) = iI σ := by rw [iI_lit 0, iI_add]; congr 1; exact Int.add_zero σ
  have ez : iI (-1) + (1 : Int32) = iI ((0 : Nat) : Int) := rfl
  rw [e0, if_neg (show ¬ (0 : Int32) ≤ iI (-1) by decide)]
  have hmk : mkc c n < 64 := by
    have : mkc c n < 2 ^ 6 := Nat.lt_pow_two_of_testBit _ (fun j hj => by rw [mkc_bit, show decide (j < n) = false by simp; omega]; rfl)
    exact this
  by_cases h1 : σ = t
  · rw [if_pos (by rw [h1]), ez, iI_s, iI_and, iI_or]
    have hstep := Zs_step hn hz hmk (fun b hb => by rw [mkc_bit, show decide (b < n) = false by simp; omega]; rfl)
    refine look_L101 (K0 := fun cl => K0 cl + (!(mkc c n).testBit cl && decide (σ = t)).toNat) hn hbk hσ hσ2 ht ht2 m 0 (s + 1) _ _ (Nat.zero_le _) (by omega) (Zs_congr (fun cl => ?_) hstep)
    rw [pf, ite_self, Nat.add_zero, decide_eq_true h1]
    cases (mkc c n).testBit cl <;> rfl
  · rw [if_neg (by rw [iI_eq (by omega) (by omega) (by omega) (by omega)]; exact h1), ez]
    refine look_L101 (K0 := fun cl => K0 cl + (!(mkc c n).testBit cl && decide (σ = t)).toNat) hn hbk hσ hσ2 ht ht2 m 0 s e o (Nat.zero_le _) (by omega) (Zs_congr (fun cl => ?_) hz)
    rw [pf, ite_self, Nat.add_zero, decide_eq_false h1, Bool.and_false]
    rfl
theorem sub_dec : ∀ f : Nat, f < 4 → ∀ k : Nat, k < 4 → ((iI (f : Int) &&& (iI (k : Int) ^^^ (-1 : Int32))) = 0 ↔ (f % 2 ≤ k % 2 ∧ f / 2 ≤ k / 2)) := by decide +kernel
def cr (A B : Nat → Nat) (i : Nat) : Nat := car (A i) (B i)
theorem look_L11 {N n c : Nat} {A B : Nat → Nat} {books nA nB : Nat → Int32} {v1 v2 v3 p2 : Int32} (hN : 300 ≤ N) (hn : n ≤ 6) (hbk : books 0 = iI n) (hab : rowsAt n A B nA nB) (hc : c < 4096) : ∀ (m i : Nat), i ≤ n → n - i < m → vld (cr A B) c i = true →
    fX8_look_L11 N books nA nB v1 v2 v3 p2 m (iI (sg A B c i)) (iI ((mkc c i : Nat) : Int)) (iI ((c / 4 ^ i : Nat) : Int)) (iI (i : Int)) = (if vld (cr A B) c n = true then fX8_look_L101 books p2 (iI (sg A B c n)) (iI ((mkc c n : Nat) : Int)) N (-1) v1 v2 v3 else some (v1, v2, v3))
  | 0, _, _, h, _ => absurd h (Nat.not_lt_zero _)
  | m + 1, i, hi, hm, hv => by
    rw [fX8_look_L11, t0, hbk]
    by_cases h : n ≤ i
    · have hin : i = n := by omega
      subst hin
      rw [if_pos (by rw [iI_le (by omega) (by omega) (by omega) (by omega)]; omega), if_pos hv]
    · obtain ⟨hA, hB, hA8, hB8⟩ := hab i (by omega)
      have hi6 : i < 6 := by omega
      have hci : c / 4 ^ i ≤ c := Nat.div_le_self _ _
      have ef : iI ((c / 4 ^ i : Nat) : Int) - iI ((c / 4 ^ i : Nat) : Int) / (4 : Int32) * (4 : Int32) = iI ((fg c i : Nat) : Int) := by
        have e4 : (4 : Int32) = iI ((4 : Nat) : Int) := rfl
        rw [e4, rem_iI (by omega) (by decide) (by decide)]
        rfl
      have ed : iI ((c / 4 ^ i : Nat) : Int) / (4 : Int32) = iI ((c / 4 ^ (i + 1) : Nat) : Int) := by
        rw [Nat.pow_succ, ← Nat.div_div_eq_div_mul]
        generalize c / 4 ^ i = D at hci ⊢
        rw [iI_lit 4, iI_div (by omega) (by omega) (by decide) (by decide)]
        rfl
      rw [if_neg (by rw [iI_le (by omega) (by omega) (by omega) (by omega)]; omega), carries8_iI (by omega) hi6 hA8 hB8 hA hB, Option.bind_some, ef, ed, sum8_iI hi6 hA8 hB8, Option.bind_some, iI_s, f_and1 _ (fg_lt c i), f_shr1 _ (fg_lt c i), bitor0, bitor (by omega)]
      have es : iI (sg A B c i) + (iI ((A i : Int) + (B i : Int)) - (10 : Int32) * iI ((fg c i % 2 : Nat) : Int) - (100 : Int32) * iI ((fg c i / 2 : Nat) : Int)) = iI (sg A B c (i + 1)) := by
        rw [iI_lit 10, iI_lit 100, iI_mul, iI_mul, iI_sub, iI_sub, iI_add]
        congr 1
        unfold sg
        rw [sA, fP, fQ]
        show _ + (_ - (10 : Int) * _ - (100 : Int) * _) = _
        omega
      rw [es]
      have hcar := car_lt (A i) (B i)
      by_cases hs : fg c i % 2 ≤ car (A i) (B i) % 2 ∧ fg c i / 2 ≤ car (A i) (B i) / 2
      · have hv' : vld (cr A B) c (i + 1) = true := by
          rw [vld, hv, Bool.true_and]
          exact decide_eq_true hs
        have ih := look_L11 (v1 := v1) (v2 := v2) (v3 := v3) (p2 := p2) hN hn hbk hab hc m (i + 1) (by omega) (by omega) hv'
        rw [if_pos ((sub_dec _ (fg_lt c i) _ hcar).mpr hs)]
        by_cases h0 : fg c i = 0
        · rw [mkc, if_pos h0] at ih
          rw [if_pos (by rw [h0]; rfl)]
          exact ih
        · rw [mkc, if_neg h0] at ih
          have := fg_lt c i
          rw [if_neg (fun q => h0 ((eq0 (by omega)).mp q))]
          exact ih
      · rw [if_neg (fun q => hs ((sub_dec _ (fg_lt c i) _ hcar).mp q))]
        have hvn : ¬ vld (cr A B) c n = true := by
          intro q
          have h2 : vld (cr A B) c (i + 1) = true := vld_mono (n - (i + 1)) (by rw [show i + 1 + (n - (i + 1)) = n by omega]; exact q)
          rw [vld, Bool.and_eq_true] at h2
          exact hs (of_decide_eq_true h2.2)
        rw [if_neg hvn]
theorem sg_lo {A B : Nat → Nat} {n c : Nat} (hn : n ≤ 6) (h : ∀ i, i < n → A i ≤ 999 ∧ B i ≤ 999) : -100000 ≤ sg A B c n ∧ sg A B c n ≤ 100000 := by
  have h1 := fP_le c n
  have h2 := fQ_le c n
  have h3 := sA_le h n (Nat.le_refl _)
  unfold sg
  omega
theorem why8_L43 {N n : Nat} {A B : Nat → Nat} {books nA nB : Nat → Int32} {t : Int} {p1 : Int32} (hN : 40000 ≤ N) (hn : n ≤ 6) (hbk : books 0 = iI n) (hab : rowsAt n A B nA nB) (ht : -100000 ≤ t) (ht2 : t ≤ 100000) : ∀ (m c s e o : Nat), c ≤ 4 ^ n → 4 ^ n - c < m → Zs n (kk A B (cr A B) n t c) s e o →
    ∃ s' e' o' : Nat, fX8_why_L43 N books nA nB p1 (iI t) m (iI (c : Int)) (iI (s : Int)) (iI (e : Int)) (iI (o : Int)) = some (if p1 = 0 then iI (s' : Int) else if p1 = 1 then iI (e' : Int) else iI (o' : Int), iI (s' : Int), iI (e' : Int), iI (o' : Int)) ∧ Zs n (kk A B (cr A B) n t (4 ^ n)) s' e' o'
  | 0, _, _, _, _, _, h, _ => absurd h (Nat.not_lt_zero _)
  | m + 1, c, s, e, o, hc, hm, hz => by
    have h4n : 4 ^ n ≤ 4096 := by
      have : 4 ^ n ≤ 4 ^ 6 := Nat.pow_le_pow_right (by decide) hn
      exact this
    have e4 : (1 : Int32) <<< ((2 : Int32) * iI (n : Int) &&& 31) = iI ((4 ^ n : Nat) : Int) := by
      have : (2 : Int32) * iI (n : Int) = iI ((2 * n : Nat) : Int) := mulN 2 n
      rw [this, shl1 (by omega), Nat.pow_mul]
    rw [fX8_why_L43, t0, hbk, e4]
    by_cases h : 4 ^ n ≤ c
    · have hcn : c = 4 ^ n := by omega
      rw [if_pos (by rw [iI_le (by omega) (by omega) (by omega) (by omega)]; omega)]
      rw [hcn] at hz
      refine ⟨s, e, o, ?_, hz⟩
      by_cases c0 : p1 = 0
      · rw [if_pos c0, if_pos c0]
      rw [if_neg c0, if_neg c0]
      by_cases c1 : p1 = 1
      · rw [if_pos c1, if_pos c1]
      rw [if_neg c1, if_neg c1]
    · rw [if_neg (by rw [iI_le (by omega) (by omega) (by omega) (by omega)]; omega), iI_s]
      unfold fX8_look
      have e0 : (0 : Int32) = iI (sg A B c 0) := rfl
      have hl := look_L11 (N := N) (n := n) (c := c) (A := A) (B := B) (v1 := iI (s : Int)) (v2 := iI (e : Int)) (v3 := iI (o : Int)) (p2 := iI t) (by omega) hn hbk hab (by omega) N 0 (Nat.zero_le _) (by omega) rfl
      rw [Nat.pow_zero, Nat.div_one] at hl
      have hl' : fX8_look_L11 N books nA nB (iI (s : Int)) (iI (e : Int)) (iI (o : Int)) (iI t) N (0 : Int32) (0 : Int32) (iI (c : Int)) (0 : Int32) = _ := hl
      rw [hl']
      have hb := sg_lo (c := c) hn (fun i hi => ⟨(hab i hi).1, (hab i hi).2.1⟩)
      by_cases hv : vld (cr A B) c n = true
      · rw [if_pos hv]
        obtain ⟨s', e', o', g1, g2⟩ := look_0 (N := N) (c := c) (K0 := kk A B (cr A B) n t c) (by omega) hn hbk hb.1 hb.2 ht ht2 hz
        rw [g1, Option.bind_some]
        refine why8_L43 hN hn hbk hab ht ht2 m (c + 1) s' e' o' (by omega) (by omega) (Zs_congr (fun cl => ?_) g2)
        unfold kk
        rw [cb, cb, Nat.mul_add]
        unfold q1
        rw [hv, Bool.true_and]
        have e5 : decide (sg A B c n = t - 10) = decide (sg A B c n + 10 = t) := decide_eq_decide.mpr (by omega)
        rw [e5]
        cases (mkc c n).testBit cl
        · cases decide (sg A B c n = t) <;> cases decide (sg A B c n + 10 = t) <;> simp <;> omega
        · simp
      · have hv' : vld (cr A B) c n = false := by simpa using hv
        rw [if_neg hv, Option.bind_some]
        refine why8_L43 hN hn hbk hab ht ht2 m (c + 1) s e o (by omega) (by omega) (Zs_congr (fun cl => ?_) hz)
        unfold kk
        rw [cb, cb]
        unfold q1
        rw [hv']
        rfl
end WHY2
