/-! which touches to lay apart: the reference -/
section CUT8
theorem ti_dec : ∀ a : Nat, a < 6 → ∀ b : Nat, b < 6 → a < b → ti a (b + 1) = ti a b + 1 := by decide +kernel
theorem ti_dec6 : ∀ a : Nat, a < 6 → ti a 6 = ti (a + 1) (a + 2) := by decide +kernel
theorem ti_dec67 : ti 6 7 = 15 := by decide
theorem turn_ab {T a b : Nat} {near : Nat → Int32} (hp : nearIs (nbr T) near) (hab : a < b) (hb : b < 6) : ∃ near', fX8_turn near (iI (a : Int)) (iI (b : Int)) = some near' ∧ nearIs (nbr (T ^^^ 2 ^ ti a b)) near' := by
  have hne : a ≠ b := by omega
  unfold fX8_turn
  simp only [vg_iI (show (0 : Int) ≤ (a : Int) by omega) (show (a : Int) < ((6 : Nat) : Int) by omega) (by omega), vg_iI (show (0 : Int) ≤ (b : Int) by omega) (show (b : Int) < ((6 : Nat) : Int) by omega) (by omega), iI_clamp (show (0 : Int) ≤ (a : Int) by omega) (by omega), iI_clamp (show (0 : Int) ≤ (b : Int) by omega) (by omega), Int.toNat_natCast]
  refine ⟨_, rfl, fun c hc => ?_⟩
  have ea := mk6_xor (T := T) (a := a) (b := b) (by omega) (by omega) hne
  have eb := mk6_xor (T := T) (a := b) (b := a) (by omega) (by omega) (Ne.symm hne)
  rw [ti_comm b a] at eb
  by_cases hcb : c = b
  · subst hcb
    rw [pk_us, pk_un (Ne.symm hne), hp _ (by omega), shl1 (by omega), iI_xor, eb]
  · rw [pk_un hcb]
    by_cases hca : c = a
    · subst hca
      rw [pk_us, hp _ (by omega), shl1 (by omega), iI_xor, ea]
    · have eo := mk6_other (T := T) (a := a) (b := b) (x := c) (by omega) (by omega) hne hc hca hcb
      rw [pk_un hca, hp c hc, eo]
theorem mod_bit (x k : Nat) : x % 2 ^ (k + 1) = if x.testBit k then (x % 2 ^ k) ^^^ 2 ^ k else x % 2 ^ k := by
  apply Nat.eq_of_testBit_eq
  intro j
  rw [Nat.testBit_mod_two_pow]
  cases hx : x.testBit k
  · rw [if_neg (by decide), Nat.testBit_mod_two_pow]
    by_cases hj : j = k
    · subst hj
      simp [hx]
    · have : decide (j < k + 1) = decide (j < k) := by
        apply decide_eq_decide.mpr
        omega
      rw [this]
  · rw [if_pos rfl, Nat.testBit_xor, Nat.testBit_mod_two_pow, Nat.testBit_two_pow]
    by_cases hj : j = k
    · subst hj
      simp [hx]
    · have h1 : decide (j < k + 1) = decide (j < k) := by
        apply decide_eq_decide.mpr
        omega
      have h2 : k ≠ j := fun q => hj q.symm
      rw [h1]
      simp [h2]
theorem apart_L19 {T x a : Nat} {k : Int32 → Int32 → (Nat → Int32) → Option (Nat → Int32)} (hx : x < 32768) (ha : a < 6) : ∀ (m b : Nat) (w : Nat → Int32), a < b → b ≤ 6 → 6 - b < m → nearIs (nbr (T ^^^ (x % 2 ^ ti a b))) w →
    ∃ w', fX8_layApart_L19 (iI (x : Int)) (iI (a : Int)) k m (iI ((ti a b : Nat) : Int)) (iI (b : Int)) w = k (iI ((ti (a + 1) (a + 2) : Nat) : Int)) (iI ((a + 1 : Nat) : Int)) w' ∧ nearIs (nbr (T ^^^ (x % 2 ^ ti (a + 1) (a + 2)))) w'
  | 0, _, _, _, _, h, _ => absurd h (Nat.not_lt_zero _)
  | m + 1, b, w, hab, hb, hm, hw => by
    rw [fX8_layApart_L19]
    by_cases h : b = 6
    · subst h
      rw [if_pos (by decide), iI_s]
      rw [ti_dec6 a ha] at hw ⊢
      exact ⟨w, rfl, hw⟩
    · have htl := ti_lt a ha b (by omega) (by omega)
      rw [if_neg (by rw [iI_lit 6, iI_le (by decide) (by decide) (by omega) (by omega)]; show ¬ (6 : Int) ≤ b; omega), trap_bit (by omega) (by omega), iI_s, iI_s, ← ti_dec a ha b (by omega) hab]
      have hmb := mod_bit x (ti a b)
      rw [← ti_dec a ha b (by omega) hab] at hmb
      cases hc : x.testBit (ti a b)
      · rw [if_neg (by decide)]
        rw [hc, if_neg (by decide)] at hmb
        rw [← hmb] at hw
        exact apart_L19 hx ha m (b + 1) w (by omega) (by omega) (by omega) hw
      · rw [if_pos (by decide)]
        rw [hc, if_pos rfl] at hmb
        obtain ⟨w1, q1, q2⟩ := turn_ab hw hab (by omega)
        rw [q1, Option.bind_some]
        rw [Nat.xor_assoc, ← hmb] at q2
        exact apart_L19 hx ha m (b + 1) w1 (by omega) (by omega) (by omega) q2
theorem apart_L8 {N T x : Nat} (hN : 300 ≤ N) (hx : x < 32768) : ∀ (m a : Nat) (w : Nat → Int32), a ≤ 6 → 6 - a < m → nearIs (nbr (T ^^^ (x % 2 ^ ti a (a + 1)))) w →
    ∃ w', fX8_layApart_L8 N (iI (x : Int)) m (iI ((ti a (a + 1) : Nat) : Int)) (iI (a : Int)) w = some w' ∧ nearIs (nbr (T ^^^ x)) w'
  | 0, _, _, _, h, _ => absurd h (Nat.not_lt_zero _)
  | m + 1, a, w, ha, hm, hw => by
    rw [fX8_layApart_L8]
    by_cases h : a = 6
    · subst h
      rw [if_pos (by decide)]
      rw [ti_dec67, Nat.mod_eq_of_lt (show x < 2 ^ 15 from hx)] at hw
      exact ⟨w, rfl, hw⟩
    · have e1 : iI (a : Int) + (1 : Int32) = iI ((a + 1 : Nat) : Int) := iI_s a
      rw [if_neg (by rw [iI_lit 6, iI_le (by decide) (by decide) (by omega) (by omega)]; show ¬ (6 : Int) ≤ a; omega), e1]
      obtain ⟨w', q1, q2⟩ := apart_L19 (T := T) (x := x) (a := a) (k := fun z8_0 z8_1 z8_2 => fX8_layApart_L8 N (iI (x : Int)) m z8_0 z8_1 z8_2) hx (by omega) N (a + 1) w (by omega) (by omega) (by omega) hw
      rw [q1]
      exact apart_L8 hN hx m (a + 1) w' (by omega) (by omega) q2
theorem apart_iI {N T x : Nat} {now near : Nat → Int32} (hN : 300 ≤ N) (hx : x < 32768) (hnow : ∀ b, b < 6 → now (6 + b) = iI ((mk6 (nbr T b) : Nat) : Int)) : ∃ w', fX8_layApart N now near (iI (x : Int)) = some w' ∧ nearIs (nbr (T ^^^ x)) w' := by
  obtain ⟨nr, nr1, nr2⟩ := takeNear_iI (N := N) (by omega) now near
  unfold fX8_layApart
  rw [nr1, Option.bind_some]
  have h0 : nearIs (nbr (T ^^^ (x % 2 ^ ti 0 (0 + 1)))) nr := by
    have e : x % 2 ^ ti 0 (0 + 1) = 0 := by
      have : ti 0 (0 + 1) = 0 := rfl
      rw [this, Nat.pow_zero, Nat.mod_one]
    rw [e, Nat.xor_zero]
    intro c hc
    rw [nr2 c hc, hnow c hc]
  exact apart_L8 hN hx N 0 nr (Nat.zero_le _) (by omega) h0
def evt (g : Nat → Nat) (b : Nat) : Nat → Nat → Bool
  | 0, _ => false
  | k + 1, s => g s == b || evt g b k (g s)
theorem evb_evt (g : Nat → Nat) (b : Nat) : ∀ k s, evb g b k s = (s == b || evt g b k s)
  | 0, s => by simp [evb, evt]
  | k + 1, s => by rw [evb, evt, evb_evt g b k (g s)]
theorem ever_L {N n F R b T : Nat} {A B : Nat → Nat} {books nA nB now near : Nat → Int32} (hN : 300 ≤ N) (hM : M8 n A B F R books nA nB now) (hp : nearIs (nbr T) near) (hb : b < n) : ∀ (m i c : Nat) (f : Bool), i ≤ 6 → 6 - i < m → c < n →
    fX8_everComes_L22 N books nA nB now near (iI (b : Int)) m (iI (c : Int)) (iI ((f.toNat : Nat) : Int)) (iI (i : Int)) = some (iI (((f || evt (go (tt A B F) T R n) b (6 - i) c).toNat : Nat) : Int))
  | 0, _, _, _, _, h, _ => absurd h (Nat.not_lt_zero _)
  | m + 1, i, c, f, hi, hm, hc => by
    have hn := hM.1
    rw [fX8_everComes_L22]
    by_cases h : i = 6
    · subst h
      rw [if_pos (by decide), Nat.sub_self, evt, Bool.or_false]
      cases f
      · exact if_pos (by decide)
      · exact if_pos (by decide)
    · have e6 : 6 - i = (6 - (i + 1)) + 1 := by omega
      have hlt : go (tt A B F) T R n c < n := go_lt hc
      rw [if_neg (by rw [iI_lit 6, iI_le (by decide) (by decide) (by omega) (by omega)]; show ¬ (6 : Int) ≤ i; omega), goesTo8_iI (by omega) hM hp hc, Option.bind_some, iI_s, ← go_goP, e6, evt]
      have e0 : (0 : Int32) = iI ((false.toNat : Nat) : Int) := rfl
      have e1 : (1 : Int32) = iI ((true.toNat : Nat) : Int) := rfl
      have ih := fun f => ever_L hN hM hp hb m (i + 1) (go (tt A B F) T R n c) f (by omega) (by omega) hlt
      cases f
      · rw [if_pos (show iI ((false.toNat : Nat) : Int) = 0 from rfl)]
        by_cases hg : go (tt A B F) T R n c = b
        · rw [if_pos (by rw [hg]), e1, ih true, show (go (tt A B F) T R n c == b) = true by simp [hg]]
          rfl
        · rw [if_neg (by rw [iI_eq (by omega) (by omega) (by omega) (by omega)]; omega), e0, ih false, show (go (tt A B F) T R n c == b) = false by simp [hg]]
          rfl
      · rw [if_neg (by decide), e1, ih true]
        rfl
theorem ever_iI {N n F R b s T : Nat} {A B : Nat → Nat} {books nA nB now near : Nat → Int32} (hN : 300 ≤ N) (hM : M8 n A B F R books nA nB now) (hp : nearIs (nbr T) near) (h13 : now 13 = iI s) (hb : b < n) (hs : s < n) : fX8_everComes N books nA nB now near (iI (b : Int)) = some (iI (((evb (go (tt A B F) T R n) b 6 s).toNat : Nat) : Int)) := by
  have hn := hM.1
  have e0 : (0 : Int32) = iI ((0 : Nat) : Int) := rfl
  have ef : (0 : Int32) = iI ((false.toNat : Nat) : Int) := rfl
  have et : (1 : Int32) = iI ((true.toNat : Nat) : Int) := rfl
  unfold fX8_everComes fX8_everComes_J18
  rw [t13, h13, evb_evt]
  by_cases h : s = b
  · rw [if_pos (by rw [h]), et]
    have := ever_L hN hM hp hb N 0 s true (Nat.zero_le _) (by omega) hs
    rw [← e0] at this
    rw [this, show (s == b) = true by simp [h]]
  · rw [if_neg (by rw [iI_eq (by omega) (by omega) (by omega) (by omega)]; omega)]
    have := ever_L hN hM hp hb N 0 s false (Nat.zero_le _) (by omega) hs
    rw [show iI ((false.toNat : Nat) : Int) = 0 from rfl, show iI ((0 : Nat) : Int) = 0 from rfl] at this
    rw [this, show (s == b) = false by simp [h]]
/-! the touches as one number -/
theorem or_mod (T k : Nat) : (if T.testBit k then (T % 2 ^ k) ||| 2 ^ k else T % 2 ^ k) = T % 2 ^ (k + 1) := by
  rw [mod_bit]
  cases T.testBit k
  · rfl
  · rw [if_pos rfl, if_pos rfl, xor_bit (by rw [Nat.testBit_mod_two_pow]; simp)]
theorem touching_L17 {T a : Nat} {now : Nat → Int32} {k : Int32 → Int32 → Int32 → Option Int32} (hT : T < 32768) (hnow : ∀ b, b < 6 → now (6 + b) = iI ((mk6 (nbr T b) : Nat) : Int)) (ha : a < 6) : ∀ (m b : Nat), a < b → b ≤ 6 → 6 - b < m →
    fX8_touching_L17 now (iI (a : Int)) k m (iI ((T % 2 ^ ti a b : Nat) : Int)) (iI ((ti a b : Nat) : Int)) (iI (b : Int)) = k (iI ((T % 2 ^ ti (a + 1) (a + 2) : Nat) : Int)) (iI ((ti (a + 1) (a + 2) : Nat) : Int)) (iI ((a + 1 : Nat) : Int))
  | 0, _, _, _, h => absurd h (Nat.not_lt_zero _)
  | m + 1, b, hab, hb, hm => by
    rw [fX8_touching_L17]
    by_cases h : b = 6
    · subst h
      rw [if_pos (by decide), iI_s, ti_dec6 a ha]
    · have htl := ti_lt a ha b (by omega) (by omega)
      have hmk := mk6_lt (nbr T a)
      have hnb : nbr T a b = T.testBit (ti a b) := by
        unfold nbr
        have : (a != b) = true := by simp; omega
        rw [this]
        rfl
      rw [if_neg (by rw [iI_lit 6, iI_le (by decide) (by decide) (by omega) (by omega)]; show ¬ (6 : Int) ≤ b; omega), v6, vg_iI (by omega) (by omega) (by omega), iI_clamp (by omega) (by omega), Int.toNat_natCast, hnow a ha, trap_bit (by omega) (by omega), mk6_bit _ _ (by omega), hnb, iI_s, iI_s, ← ti_dec a ha b (by omega) hab, bitor0, bitor (by omega)]
      have hom := or_mod T (ti a b)
      rw [← ti_dec a ha b (by omega) hab] at hom
      have ih := touching_L17 (k := k) hT hnow ha m (b + 1) (by omega) (by omega) (by omega)
      cases hc : T.testBit (ti a b)
      · rw [hc, if_neg (by decide)] at hom
        rw [if_neg (by decide), hom]
        exact ih
      · rw [hc, if_pos rfl] at hom
        rw [if_pos (by decide), hom]
        exact ih
theorem touching_L6 {N T : Nat} {now : Nat → Int32} (hN : 300 ≤ N) (hT : T < 32768) (hnow : ∀ b, b < 6 → now (6 + b) = iI ((mk6 (nbr T b) : Nat) : Int)) : ∀ (m a : Nat), a ≤ 6 → 6 - a < m →
    fX8_touching_L6 N now m (iI ((T % 2 ^ ti a (a + 1) : Nat) : Int)) (iI ((ti a (a + 1) : Nat) : Int)) (iI (a : Int)) = some (iI (T : Int))
  | 0, _, _, h => absurd h (Nat.not_lt_zero _)
  | m + 1, a, ha, hm => by
    rw [fX8_touching_L6]
    by_cases h : a = 6
    · subst h
      rw [if_pos (by decide), ti_dec67, Nat.mod_eq_of_lt (show T < 2 ^ 15 from hT)]
    · have e1 : iI (a : Int) + (1 : Int32) = iI ((a + 1 : Nat) : Int) := iI_s a
      rw [if_neg (by rw [iI_lit 6, iI_le (by decide) (by decide) (by omega) (by omega)]; show ¬ (6 : Int) ≤ a; omega), e1, touching_L17 hT hnow (by omega) N (a + 1) (by omega) (by omega) (by omega)]
      exact touching_L6 hN hT hnow m (a + 1) (by omega) (by omega)
theorem touching_iI {N T : Nat} {now : Nat → Int32} (hN : 300 ≤ N) (hT : T < 32768) (hnow : ∀ b, b < 6 → now (6 + b) = iI ((mk6 (nbr T b) : Nat) : Int)) : fX8_touching N now = some (iI (T : Int)) := by
  have := touching_L6 hN hT hnow N 0 (Nat.zero_le _) (by omega)
  rw [show T % 2 ^ ti 0 (0 + 1) = 0 by rw [show ti 0 (0 + 1) = 0 from rfl, Nat.pow_zero, Nat.mod_one]] at this
  exact this
/-! the least of all -/
theorem cut8_L49 {N n F R b s T : Nat} {A B : Nat → Nat} {books nA nB now : Nat → Int32} (hN : 40000 ≤ N) (hM : M8 n A B F R books nA nB now) (hT : T < 32768) (hnow : ∀ b, b < 6 → now (6 + b) = iI ((mk6 (nbr T b) : Nat) : Int)) (h13 : now 13 = iI s) (hb : b < n) (hs : s < n) : ∀ (m i M : Nat) (w : Nat → Int32), i ≤ T → T - i < m → M < 32768 → cutC (tt A B F) R n b s T M = true → (∀ x, x < 32768 → (x < i ∨ T ≤ x) → cutC (tt A B F) R n b s T x = true → pops 15 M < pops 15 x ∨ (pops 15 M = pops 15 x ∧ M ≤ x)) →
    ∃ M' w', cmin (cutC (tt A B F) R n b s T) M' ∧ fX8_cut_L49 N books nA nB now (iI (b : Int)) (iI (T : Int)) m (iI (M : Int)) (iI (i : Int)) w = some (iI (M' : Int), w')
  | 0, _, _, _, _, h, _, _, _ => absurd h (Nat.not_lt_zero _)
  | m + 1, i, M, w, hi, hm, hM1, hMC, hMl => by
    rw [fX8_cut_L49]
    by_cases h : T ≤ i
    · rw [if_pos (by rw [iI_le (by omega) (by omega) (by omega) (by omega)]; omega)]
      exact ⟨M, w, ⟨hM1, hMC, fun x hx hxC => hMl x hx (by omega) hxC⟩, rfl⟩
    rw [if_neg (by rw [iI_le (by omega) (by omega) (by omega) (by omega)]; omega)]
    have hpx : pops 15 i < 1000 := by
      rw [pops15]
      have := bT (i.testBit 0); have := bT (i.testBit 1); have := bT (i.testBit 2); have := bT (i.testBit 3); have := bT (i.testBit 4); have := bT (i.testBit 5); have := bT (i.testBit 6); have := bT (i.testBit 7); have := bT (i.testBit 8); have := bT (i.testBit 9); have := bT (i.testBit 10); have := bT (i.testBit 11); have := bT (i.testBit 12); have := bT (i.testBit 13); have := bT (i.testBit 14)
      omega
    have hpM : pops 15 M < 1000 := by
      rw [pops15]
      have := bT (M.testBit 0); have := bT (M.testBit 1); have := bT (M.testBit 2); have := bT (M.testBit 3); have := bT (M.testBit 4); have := bT (M.testBit 5); have := bT (M.testBit 6); have := bT (M.testBit 7); have := bT (M.testBit 8); have := bT (M.testBit 9); have := bT (M.testBit 10); have := bT (M.testBit 11); have := bT (M.testBit 12); have := bT (M.testBit 13); have := bT (M.testBit 14)
      omega
    have skip : (cutC (tt A B F) R n b s T i = true → pops 15 M < pops 15 i ∨ (pops 15 M = pops 15 i ∧ M ≤ i)) → ∀ w, ∃ M' w', cmin (cutC (tt A B F) R n b s T) M' ∧ fX8_cut_L49 N books nA nB now (iI (b : Int)) (iI (T : Int)) m (iI (M : Int)) (iI ((i + 1 : Nat) : Int)) w = some (iI (M' : Int), w') := by
      intro hsk w
      refine cut8_L49 hN hM hT hnow h13 hb hs m (i + 1) M w (by omega) (by omega) hM1 hMC (fun x hx hxi hxC => ?_)
      by_cases hxe : x = i
      · subst hxe
        exact hsk hxC
      · exact hMl x hx (by omega) hxC
    unfold fX8_cut_J94 fX8_cut_J98 fX8_cut_J99
    rw [if_pos rfl, if_neg z1, iI_s, manyOf_iI (by omega) (by omega), manyOf_iI (by omega) (by omega), Option.bind_some, Option.bind_some, Option.bind_some, Option.bind_some]
    by_cases h1 : sbt i T = true
    · rw [if_pos ((sub_iI (by omega)).mpr h1)]
      obtain ⟨w1, q1, q2⟩ := apart_iI (N := N) (T := T) (x := i) (now := now) (near := w) (by omega) (by omega) hnow
      rw [xor_wo hT (by omega) h1] at q2
      have test : (pops 15 i < pops 15 M ∨ (pops 15 i = pops 15 M ∧ i < M)) → ∃ M' w', cmin (cutC (tt A B F) R n b s T) M' ∧ ((fX8_layApart N now w (iI (i : Int))).bind fun q_21 => (fX8_everComes N books nA nB now q_21 (iI (b : Int))).bind fun q_23 => if q_23 = 0 then fX8_cut_L49 N books nA nB now (iI (b : Int)) (iI (T : Int)) m (iI (i : Int)) (iI ((i + 1 : Nat) : Int)) q_21 else fX8_cut_L49 N books nA nB now (iI (b : Int)) (iI (T : Int)) m (iI (M : Int)) (iI ((i + 1 : Nat) : Int)) q_21) = some (iI (M' : Int), w') := by
        intro hlt
        rw [q1, Option.bind_some, ever_iI (by omega) hM q2 h13 hb hs, Option.bind_some]
        cases h4 : evb (go (tt A B F) (wo T i) R n) b 6 s
        · rw [if_pos (by decide)]
          refine cut8_L49 hN hM hT hnow h13 hb hs m (i + 1) i w1 (by omega) (by omega) (by omega) (by unfold cutC; rw [h1, h4]; rfl) (fun x hx hxi hxC => ?_)
          by_cases hxe : x = i
          · subst hxe
            exact Or.inr ⟨rfl, Nat.le_refl _⟩
          · have := hMl x hx (by omega) hxC
            omega
        · rw [if_neg (by decide)]
          exact skip (fun hC => by unfold cutC at hC; rw [h4] at hC; simp at hC) w1
      by_cases h2 : pops 15 i < pops 15 M
      · rw [if_pos (by rw [iI_lt (by omega) (by omega) (by omega) (by omega)]; omega)]
        exact test (Or.inl h2)
      · rw [if_neg (by rw [iI_lt (by omega) (by omega) (by omega) (by omega)]; omega)]
        by_cases h3 : pops 15 i = pops 15 M
        · rw [if_pos (by rw [h3])]
          by_cases h5 : M ≤ i
          · rw [if_pos (by rw [iI_le (by omega) (by omega) (by omega) (by omega)]; omega)]
            exact skip (fun _ => Or.inr ⟨h3.symm, h5⟩) w
          · rw [if_neg (by rw [iI_le (by omega) (by omega) (by omega) (by omega)]; omega)]
            exact test (Or.inr ⟨h3, by omega⟩)
        · rw [if_neg (by rw [iI_eq (by omega) (by omega) (by omega) (by omega)]; omega)]
          exact skip (fun _ => Or.inl (by omega)) w
    · rw [if_neg (fun q => h1 ((sub_iI (by omega)).mp q))]
      exact skip (fun hC => by unfold cutC at hC; simp [h1] at hC) w
theorem sbt_self {T : Nat} (hT : T < 32768) : sbt T T = true := (sbt_iff hT).mpr (fun _ h => h)
theorem wo_self {T : Nat} (hT : T < 32768) : wo T T = 0 := by
  apply Nat.eq_of_testBit_eq
  intro j
  rw [wo_bit hT]
  simp
theorem go_0 {t : Nat → Nat} {R n s : Nat} : go t 0 R n s = s := by
  rw [go_goP]
  unfold goP
  rw [bst_none n (fun j _ => by simp [nbr])]
  simp
theorem sbt_le {x T : Nat} (hx : x < 32768) (h : sbt x T = true) : x ≤ T := by
  have hs := (sbt_iff hx).mp h
  have : x = x &&& T := by
    apply Nat.eq_of_testBit_eq
    intro j
    rw [Nat.testBit_and]
    cases hxj : x.testBit j
    · rfl
    · rw [hs j hxj]
      rfl
  rw [this]
  exact Nat.and_le_right
theorem op_cut {N : Nat} (hN : 40000 ≤ N) {a_text_bytes : Nat → Int32} {v_text_length : Int32} {a_told_a : Nat → Int32} {a_told_b : Nat → Int32} {v_told_size : Int32} {v_now_forgotten : Int32} {v_now_touches : Int32} {v_now_trapped : Int32} {v_now_one : Int32} {v_now_date : Int32} {a_history_steps : Nat → Int64} {v_history_known : Int32} {a_firstImage_history_steps : Nat → Int64} {v_firstImage_history_known : Int32} {v_firstImage_packed : Int64} {v_firstImage_kept : Int32} {a_secondImage_history_steps : Nat → Int64} {v_secondImage_history_known : Int32} {v_secondImage_packed : Int64} {v_secondImage_kept : Int32} {a_seen_days : Nat → Int32} {a_seen_books : Nat → Int32} {a_seen_there : Nat → Int32} {v_seen_size : Int32} {v_traced : Int64} {ma_text : Nat → Int32} {mv_typed : Int32} {ma_books : Nat → Int32} {ma_numberA : Nat → Int32} {ma_numberB : Nat → Int32} {ma_now : Nat → Int32} {ma_isKept : Nat → Int32} {ma_seenDays : Nat → Int32} {ma_seenBook : Nat → Int32} {ma_seenIs : Nat → Int32} {mv_seen : Int32} {mv_trace : Int64} (hI : Inv a_text_bytes v_text_length a_told_a a_told_b v_told_size v_now_forgotten v_now_touches v_now_trapped v_now_one v_now_date a_history_steps v_history_known a_firstImage_history_steps v_firstImage_history_known v_firstImage_packed v_firstImage_kept a_secondImage_history_steps v_secondImage_history_known v_secondImage_packed v_secondImage_kept a_seen_days a_seen_books a_seen_there v_seen_size v_traced ma_text mv_typed ma_books ma_numberA ma_numberB ma_now ma_isKept ma_seenDays ma_seenBook ma_seenIs mv_seen mv_trace) (a_ways_ranked : Nat → Int32) (a_ways_tens : Nat → Int32) (v_ways_size : Int32) (v_ways_trapped : Int32) (ma_near : Nat → Int32) (p1 : Int32) : ∃ (q : (Int32 × (Nat → Int32) × (Nat → Int32) × Int32 × Int32)) (r : (Int32 × (Nat → Int32))), fX7_cut N a_told_a a_told_b v_told_size v_now_forgotten v_now_touches v_now_trapped v_now_one a_ways_ranked a_ways_tens v_ways_size v_ways_trapped p1 = some q ∧ fX8_cut N ma_books ma_numberA ma_numberB ma_now ma_near p1 = some r ∧ q.1 = r.1 ∧ Inv a_text_bytes v_text_length a_told_a a_told_b v_told_size v_now_forgotten v_now_touches v_now_trapped v_now_one v_now_date a_history_steps v_history_known a_firstImage_history_steps v_firstImage_history_known v_firstImage_packed v_firstImage_kept a_secondImage_history_steps v_secondImage_history_known v_secondImage_packed v_secondImage_kept a_seen_days a_seen_books a_seen_there v_seen_size v_traced ma_text mv_typed ma_books ma_numberA ma_numberB ma_now ma_isKept ma_seenDays ma_seenBook ma_seenIs mv_seen mv_trace := by
  have hI0 := hI
  obtain ⟨n, A, B, S, h, k, hT, ⟨hn, rfl, hbk, hab, hab8⟩, hS, ⟨rfl, rfl, rfl, rfl, rfl, hR⟩, hH, hI1, hI2, hW, rfl⟩ := hI
  have hM : M8 n A B S.1 S.2.2.1 ma_books ma_numberA ma_numberB ma_now := M8_of (fo := 0) (tc := 0) (tr := 0) (on := 0) (da := 0) ⟨hn, rfl, hbk, hab, hab8⟩ hS hR
  unfold fX7_cut fX8_cut fX7_isSomewhere
  have h13 : ma_now 13 = iI S.2.2.2.1 := by rw [hR 13 (by decide), rowS_13]
  rw [isBook8 hbk, t13, h13]
  rcases bookC hn p1 with hb | ⟨b, hb2, rfl, hb⟩
  · exact ⟨_, _, if_pos hb, if_pos hb, rfl, hI0⟩
  rw [if_neg hb, if_neg hb]
  by_cases ho : fX7_isBook (iI n) (iI S.2.2.2.1) = 0
  · have e := one_no hS hn ho
    exact ⟨_, _, if_pos ho, if_pos (by rw [e]; rfl), rfl, hI0⟩
  obtain ⟨s, hs, e⟩ := one_yes hS hn ho
  rw [if_neg ho]
  rw [e] at h13 ⊢
  rw [e_m9, if_neg (nat_m9 s (by omega))]
  rw [e] at hI0
  by_cases hsb : iI (s : Int) = iI (b : Int)
  · exact ⟨_, _, if_pos hsb, if_pos hsb, rfl, hI0⟩
  rw [if_neg hsb, if_neg hsb]
  have hne : s ≠ b := fun q => hsb (by rw [q])
  have hTT := hS.2.1
  obtain ⟨rk', tn', r', w1, w2, w3⟩ := waysNow_iI (N := N) (R := S.2.2.1) (by omega) hn hS.1 hab a_ways_ranked a_ways_tens v_ways_size v_ways_trapped
  have hnow : ∀ b, b < 6 → ma_now (6 + b) = iI ((mk6 (nbr S.2.1 b) : Nat) : Int) := fun c hc => (hR (6 + c) (by omega)).trans (rowS_mi hc)
  have e0 : (0 : Int32) = iI ((0 : Nat) : Int) := rfl
  have hTC : cutC (tt A B S.1) S.2.2.1 n b s S.2.1 S.2.1 = true := by
    unfold cutC
    rw [sbt_self hTT, wo_self hTT, evb_fix go_0 hne]
    rfl
  obtain ⟨M', w', hmin, hm8⟩ := cut8_L49 (N := N) hN hM hTT hnow h13 hb2 hs N 0 S.2.1 ma_near (Nat.zero_le _) (by omega) hTT hTC (fun x hx hor hxC => by
    have h1 : sbt x S.2.1 = true := by
      unfold cutC at hxC
      simp at hxC
      exact hxC.1
    have h2 := sbt_le hx h1
    have h3 : x = S.2.1 := by omega
    rw [h3]
    exact Or.inr ⟨rfl, Nat.le_refl _⟩)
  rw [touching_iI (by omega) hTT hnow, Option.bind_some, e0, hm8]
  unfold fX7_fewestTouchesToCut
  rw [w1, Option.bind_some]
  dsimp only
  rw [comesTo_iI (by omega) hn hTT hS.2.2.1 w3 w2 hb2 hs, Option.bind_some]
  have hwo0 : wo S.2.1 0 = S.2.1 := by
    apply Nat.eq_of_testBit_eq
    intro j
    rw [wo_bit hTT]
    simp
  have hs0 : sbt 0 S.2.1 = true := (sbt_iff (by decide)).mpr (fun j hj => by simp at hj)
  cases h4 : evb (go (tt A B S.1) S.2.1 S.2.2.1 n) b 6 s
  · have hmin0 : cmin (cutC (tt A B S.1) S.2.2.1 n b s S.2.1) 0 := by
      refine ⟨by decide, by unfold cutC; rw [hs0, hwo0, h4]; rfl, fun x hx _ => ?_⟩
      have : pops 15 0 = 0 := by decide
      omega
    have := cmin_eq hmin hmin0
    subst this
    rw [if_pos (by decide), Option.bind_some]
    exact ⟨_, _, rfl, rfl, rfl, hI0⟩
  · rw [if_neg (by decide)]
    obtain ⟨M, hminM, hL⟩ := fewest_L (N := N) (tn := tn') hN hn hTT hS.2.2.1 w3 w2 hb2 hs (cut_ex hn hTT hs hne) N 1 (by decide) (by decide) (by omega) (fun x hx hp => by
      have hx0 : x = 0 := by
        rw [pops15] at hp
        apply Nat.eq_of_testBit_eq
        intro j
        by_cases hj : j < 15
        · have hf : ∀ b : Bool, b.toNat = 0 → b = false := fun b => by cases b <;> simp
          have hc : j = 0 ∨ j = 1 ∨ j = 2 ∨ j = 3 ∨ j = 4 ∨ j = 5 ∨ j = 6 ∨ j = 7 ∨ j = 8 ∨ j = 9 ∨ j = 10 ∨ j = 11 ∨ j = 12 ∨ j = 13 ∨ j = 14 := by omega
          rw [Nat.zero_testBit]
          rcases hc with rfl | rfl | rfl | rfl | rfl | rfl | rfl | rfl | rfl | rfl | rfl | rfl | rfl | rfl | rfl <;> exact hf _ (by omega)
        · rw [hi_bit hx (by omega), Nat.zero_testBit]
      subst hx0
      unfold cutC
      rw [hwo0, h4]
      simp)
    have := cmin_eq hmin hminM
    subst this
    have e1 : (1 : Int32) = iI ((1 : Nat) : Int) := rfl
    rw [e1, hL, Option.bind_some]
    exact ⟨_, _, rfl, rfl, rfl, hI0⟩
end CUT8
