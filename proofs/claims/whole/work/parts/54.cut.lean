/-! which touches to lay apart -/
section CUT
def wo (T x : Nat) : Nat := T &&& (x ^^^ 4294967295)
def sbt (x T : Nat) : Bool := Nat.beq (x &&& (T ^^^ 4294967295)) 0
theorem ones_bit {j : Nat} (h : j < 32) : (4294967295 : Nat).testBit j = true := by
  have e : (4294967295 : Nat) = 2 ^ 32 - 1 := rfl
  rw [e, Nat.testBit_two_pow_sub_one]
  simp [h]
theorem hi_bit {T j : Nat} (hT : T < 32768) (hj : 15 ≤ j) : T.testBit j = false := Nat.testBit_lt_two_pow (by have : 2 ^ 15 ≤ 2 ^ j := Nat.pow_le_pow_right (by decide) hj; omega)
theorem wo_bit {T x j : Nat} (hT : T < 32768) : (wo T x).testBit j = (T.testBit j && !x.testBit j) := by
  unfold wo
  rw [Nat.testBit_and, Nat.testBit_xor]
  by_cases h : j < 15
  · rw [ones_bit (by omega)]
    simp
  · rw [hi_bit hT (by omega)]
    simp
theorem wo_lt {T x : Nat} (hT : T < 32768) : wo T x < 32768 := Nat.lt_of_le_of_lt Nat.and_le_left hT
theorem sbt_iff {x T : Nat} (hx : x < 32768) : sbt x T = true ↔ ∀ j, x.testBit j = true → T.testBit j = true := by
  unfold sbt
  constructor
  · intro h j hj
    have h0 : x &&& (T ^^^ 4294967295) = 0 := Nat.eq_of_beq_eq_true h
    have h1 : (x &&& (T ^^^ 4294967295)).testBit j = false := by rw [h0]; simp
    have hj15 : j < 15 := by
      by_cases q : j < 15
      · exact q
      · rw [hi_bit hx (by omega)] at hj
        cases hj
    rw [Nat.testBit_and, hj, Nat.testBit_xor, ones_bit (by omega)] at h1
    simpa using h1
  · intro h
    have h0 : x &&& (T ^^^ 4294967295) = 0 := by
      apply Nat.eq_of_testBit_eq
      intro j
      rw [Nat.testBit_and, Nat.testBit_xor]
      by_cases hj : x.testBit j = true
      · have hj15 : j < 15 := by
          by_cases q : j < 15
          · exact q
          · rw [hi_bit hx (by omega)] at hj
            cases hj
        rw [h j hj, ones_bit (by omega)]
        simp
      · simp [hj]
    rw [h0]
    rfl
theorem xor_wo {T x : Nat} (hT : T < 32768) (hx : x < 32768) (h : sbt x T = true) : T ^^^ x = wo T x := by
  have hs := (sbt_iff hx).mp h
  apply Nat.eq_of_testBit_eq
  intro j
  rw [wo_bit hT, Nat.testBit_xor]
  cases hxj : x.testBit j
  · simp
  · rw [hs j hxj]
    rfl
def cutC (t : Nat → Nat) (R n b s T x : Nat) : Bool := sbt x T && !evb (go t (wo T x) R n) b 6 s
def cmin (C : Nat → Bool) (M : Nat) : Prop := M < 32768 ∧ C M = true ∧ ∀ x, x < 32768 → C x = true → pops 15 M < pops 15 x ∨ (pops 15 M = pops 15 x ∧ M ≤ x)
theorem cmin_eq {C : Nat → Bool} {M M' : Nat} (h : cmin C M) (h' : cmin C M') : M = M' := by
  have h1 := h.2.2 M' h'.1 h'.2.1
  have h2 := h'.2.2 M h.1 h.2.1
  omega
/-! the class -/
theorem sub_iI {x T : Nat} (hx : x < 32768) : (iI (x : Int) &&& (iI (T : Int) ^^^ (-1 : Int32))) = 0 ↔ sbt x T = true := by
  rw [m1_iI, iI_xor, iI_and]
  have hle : x &&& (T ^^^ 4294967295) ≤ x := Nat.and_le_left
  have e0 : (0 : Int32) = iI ((0 : Nat) : Int) := rfl
  rw [e0, iI_eq (by omega) (by omega) (by omega) (by omega)]
  unfold sbt
  constructor
  · intro h
    have : x &&& (T ^^^ 4294967295) = 0 := by omega
    rw [this]
    rfl
  · intro h
    have := Nat.eq_of_beq_eq_true h
    omega
theorem wo_iI (T x : Nat) : iI (T : Int) &&& (iI (x : Int) ^^^ (-1 : Int32)) = iI ((wo T x : Nat) : Int) := by
  rw [m1_iI, iI_xor, iI_and]
  rfl
theorem nBC0 : nBC 0 = 0 := by decide
theorem least_L {N : Nat} {rk : Nat → Int32} {r t : Nat → Nat} {n T R b s p : Nat} (hN : 10 ≤ N) (hn : n ≤ 6) (hT : T < 32768) (hR : R < 64) (hr : ∀ i, i < n → rk i = iI (r i)) (hk : RK r t n) (hb : b < n) (hs : s < n) (hp : 1 ≤ p) (hp5 : p ≤ 5) : ∀ (m cur x5 z : Nat), isFst p z cur → x5 ≤ cur → cur < 131072 → 32768 - cur < m → (∀ x, x < z → x < 32768 → nBC x = p → cutC t R n b s T x = false) →
    ∃ v, fX7_leastCut_L14 N (iI (T : Int)) (iI (s : Int)) rk (iI (n : Int)) (iI (R : Int)) (iI (b : Int)) m (iI (cur : Int)) (iI (x5 : Int)) = some v ∧ ((∃ M : Nat, M < 32768 ∧ v = iI (M : Int) ∧ nBC M = p ∧ cutC t R n b s T M = true ∧ ∀ x, x < M → nBC x = p → cutC t R n b s T x = false) ∨ (v = iI (-9) ∧ ∀ x, x < 32768 → nBC x = p → cutC t R n b s T x = false))
  | 0, _, _, _, _, _, _, h, _ => absurd h (Nat.not_lt_zero _)
  | m + 1, cur, x5, z, hF, h5, hc, hm, hz => by
    have hnone : 32768 ≤ cur → ∀ x, x < 32768 → nBC x = p → cutC t R n b s T x = false := by
      intro hcur x hx hxp
      by_cases hxz : x < z
      · exact hz x hxz hx hxp
      · have := hF.1 x (by omega) hx hxp
        omega
    rw [fX7_leastCut_L14]
    by_cases h1 : 32768 ≤ x5
    · rw [if_pos (by rw [iI_lit 32768, iI_le (by decide) (by decide) (by omega) (by omega)]; show (32768 : Int) ≤ x5; omega)]
      exact ⟨_, rfl, Or.inr ⟨rfl, hnone (by omega)⟩⟩
    rw [if_neg (by rw [iI_lit 32768, iI_le (by decide) (by decide) (by omega) (by omega)]; show ¬ (32768 : Int) ≤ x5; omega)]
    by_cases h2 : 32768 ≤ cur
    · rw [if_pos (by rw [iI_lit 32768, iI_le (by decide) (by decide) (by omega) (by omega)]; show (32768 : Int) ≤ cur; omega)]
      exact ⟨_, rfl, Or.inr ⟨rfl, hnone h2⟩⟩
    rw [if_neg (by rw [iI_lit 32768, iI_le (by decide) (by decide) (by omega) (by omega)]; show ¬ (32768 : Int) ≤ cur; omega)]
    have hcur : cur < 32768 := by omega
    obtain ⟨hzc, hcp⟩ := hF.2 hcur
    have hc0 : 1 ≤ cur := by
      by_cases q : cur = 0
      · rw [q, nBC0] at hcp
        omega
      · omega
    have hF' := (gos p hp hp5).2 cur hcur hcp
    obtain ⟨hnx, hnl⟩ := next_iI hc0 hcur
    have hbelow : ∀ x, x < cur → nBC x = p → cutC t R n b s T x = false := by
      intro x hx hxp
      by_cases hxz : x < z
      · exact hz x hxz (by omega) hxp
      · have := hF.1 x (by omega) (by omega) hxp
        omega
    have hgt : cur < nxN cur := by
      by_cases q : nxN cur < 32768
      · have := (hF'.2 q).1
        omega
      · omega
    have goon : cutC t R n b s T cur = false → ∃ v, fX7_leastCut_J74 (iI (cur : Int)) (iI (x5 : Int)) (fun z14_0 z14_1 => fX7_leastCut_L14 N (iI (T : Int)) (iI (s : Int)) rk (iI (n : Int)) (iI (R : Int)) (iI (b : Int)) m z14_0 z14_1) = some v ∧ ((∃ M : Nat, M < 32768 ∧ v = iI (M : Int) ∧ nBC M = p ∧ cutC t R n b s T M = true ∧ ∀ x, x < M → nBC x = p → cutC t R n b s T x = false) ∨ (v = iI (-9) ∧ ∀ x, x < 32768 → nBC x = p → cutC t R n b s T x = false)) := by
      intro hC
      unfold fX7_leastCut_J74
      rw [hnx, iI_s]
      refine least_L hN hn hT hR hr hk hb hs hp hp5 m (nxN cur) (x5 + 1) (cur + 1) hF' (by omega) hnl (by omega) (fun x hx hx2 hxp => ?_)
      by_cases hxc : x = cur
      · rw [hxc]
        exact hC
      · exact hbelow x (by omega) hxp
    by_cases h3 : sbt cur T = true
    · rw [if_pos ((sub_iI hcur).mpr h3), wo_iI, comesTo_iI hN hn (wo_lt hT) hR hr hk hb hs, Option.bind_some]
      cases h4 : evb (go t (wo T cur) R n) b 6 s
      · rw [if_pos (by decide)]
        exact ⟨_, rfl, Or.inl ⟨cur, hcur, rfl, hcp, by unfold cutC; rw [h3, h4]; rfl, hbelow⟩⟩
      · rw [if_neg (by decide)]
        exact goon (by unfold cutC; rw [h4]; simp)
    · rw [if_neg (fun q => h3 ((sub_iI hcur).mp q))]
      exact goon (by unfold cutC; simp [h3])
theorem p2m1 : ∀ p : Nat, p ≤ 5 → ((1 : Int32) <<< (iI (p : Int) &&& 31)) - (1 : Int32) = iI ((2 ^ p - 1 : Nat) : Int) ∧ 2 ^ p - 1 < 32768 := by decide +kernel
theorem fewest_L {N : Nat} {rk tn : Nat → Int32} {r t : Nat → Nat} {n T R b s : Nat} (hN : 40000 ≤ N) (hn : n ≤ 6) (hT : T < 32768) (hR : R < 64) (hr : ∀ i, i < n → rk i = iI (r i)) (hk : RK r t n) (hb : b < n) (hs : s < n) (hex : ∃ x, x < 32768 ∧ cutC t R n b s T x = true ∧ pops 15 x ≤ 5) : ∀ (m p : Nat), 1 ≤ p → p ≤ 6 → 6 - p < m → (∀ x, x < 32768 → pops 15 x < p → cutC t R n b s T x = false) →
    ∃ M, cmin (cutC t R n b s T) M ∧ fX7_fewestTouchesToCut_L29 N (iI (T : Int)) (iI (s : Int)) (iI (b : Int)) (rk, tn, iI (n : Int), iI (R : Int)) m (iI (p : Int)) = some (iI (M : Int), rk, tn, iI (n : Int), iI (R : Int))
  | 0, _, _, _, h, _ => absurd h (Nat.not_lt_zero _)
  | m + 1, p, hp, hp6, hm, hz => by
    obtain ⟨x0, e1, e2, e3⟩ := hex
    by_cases h6 : p = 6
    · exfalso
      subst h6
      rw [hz x0 e1 (by omega)] at e2
      cases e2
    rw [fX7_fewestTouchesToCut_L29, if_neg (by rw [iI_lit 6, iI_le (by decide) (by decide) (by omega) (by omega)]; show ¬ (6 : Int) ≤ p; omega)]
    unfold fX7_leastCut
    have e0 : (0 : Int32) = iI ((0 : Nat) : Int) := rfl
    rw [(p2m1 p (by omega)).1, e0]
    obtain ⟨v, hv, hor⟩ := least_L (N := N) (by omega) hn hT hR hr hk hb hs hp (by omega) N (2 ^ p - 1) 0 0 (gos p hp (by omega)).1 (Nat.zero_le _) (by have := (p2m1 p (by omega)).2; omega) (by omega) (fun x hx => absurd hx (Nat.not_lt_zero _))
    dsimp only
    rw [hv, Option.bind_some]
    rcases hor with ⟨M, hM, rfl, hMp, hMC, hMl⟩ | ⟨rfl, hno⟩
    · rw [if_neg (show ¬ iI (M : Int) = (-9 : Int32) by rw [e_m9, iI_eq (by omega) (by omega) (by decide) (by decide)]; omega)]
      refine ⟨M, ⟨hM, hMC, fun x hx hxC => ?_⟩, rfl⟩
      rw [nBC_pops hM] at hMp
      by_cases h1 : pops 15 x < p
      · rw [hz x hx h1] at hxC
        cases hxC
      · by_cases h2 : pops 15 x = p
        · refine Or.inr ⟨by omega, ?_⟩
          by_cases h3 : M ≤ x
          · exact h3
          · rw [hMl x (by omega) (by rw [nBC_pops hx]; exact h2)] at hxC
            cases hxC
        · exact Or.inl (by omega)
    · rw [if_pos (show iI (-9) = (-9 : Int32) from rfl), iI_s]
      refine fewest_L hN hn hT hR hr hk hb hs ⟨x0, e1, e2, e3⟩ m (p + 1) (by omega) (by omega) (by omega) (fun x hx hxp => ?_)
      by_cases h1 : pops 15 x < p
      · exact hz x hx h1
      · exact hno x hx (by rw [nBC_pops hx]; omega)
/-! laying apart all that touches one book is enough -/
def mskS (s : Nat) : Nat := [31, 481, 3618, 12868, 21640, 26896].getD s 0
theorem mskS_dec : ∀ s : Nat, s < 6 → ∀ y : Nat, y < 6 → s ≠ y → (mskS s).testBit (ti s y) = true := by decide +kernel
theorem bT (b : Bool) : b.toNat ≤ 1 := by cases b <;> decide
theorem mskS_pops (T : Nat) : ∀ s : Nat, s < 6 → pops 15 (T &&& mskS s) ≤ 5 := by
  intro s hs
  have a0 := bT (T.testBit 0)
  have a1 := bT (T.testBit 1)
  have a2 := bT (T.testBit 2)
  have a3 := bT (T.testBit 3)
  have a4 := bT (T.testBit 4)
  have a5 := bT (T.testBit 5)
  have a6 := bT (T.testBit 6)
  have a7 := bT (T.testBit 7)
  have a8 := bT (T.testBit 8)
  have a9 := bT (T.testBit 9)
  have a10 := bT (T.testBit 10)
  have a11 := bT (T.testBit 11)
  have a12 := bT (T.testBit 12)
  have a13 := bT (T.testBit 13)
  have a14 := bT (T.testBit 14)
  rw [pops15]
  have hc : s = 0 ∨ s = 1 ∨ s = 2 ∨ s = 3 ∨ s = 4 ∨ s = 5 := by omega
  rcases hc with rfl | rfl | rfl | rfl | rfl | rfl
  · have m0 : (mskS 0).testBit 0 = true := by decide
    have m1 : (mskS 0).testBit 1 = true := by decide
    have m2 : (mskS 0).testBit 2 = true := by decide
    have m3 : (mskS 0).testBit 3 = true := by decide
    have m4 : (mskS 0).testBit 4 = true := by decide
    have m5 : (mskS 0).testBit 5 = false := by decide
    have m6 : (mskS 0).testBit 6 = false := by decide
    have m7 : (mskS 0).testBit 7 = false := by decide
    have m8 : (mskS 0).testBit 8 = false := by decide
    have m9 : (mskS 0).testBit 9 = false := by decide
    have m10 : (mskS 0).testBit 10 = false := by decide
    have m11 : (mskS 0).testBit 11 = false := by decide
    have m12 : (mskS 0).testBit 12 = false := by decide
    have m13 : (mskS 0).testBit 13 = false := by decide
    have m14 : (mskS 0).testBit 14 = false := by decide
    simp only [Nat.testBit_and, m0, m1, m2, m3, m4, m5, m6, m7, m8, m9, m10, m11, m12, m13, m14, Bool.and_true, Bool.and_false, Bool.toNat_false]
    omega
  · have m0 : (mskS 1).testBit 0 = true := by decide
    have m1 : (mskS 1).testBit 1 = false := by decide
    have m2 : (mskS 1).testBit 2 = false := by decide
    have m3 : (mskS 1).testBit 3 = false := by decide
    have m4 : (mskS 1).testBit 4 = false := by decide
    have m5 : (mskS 1).testBit 5 = true := by decide
    have m6 : (mskS 1).testBit 6 = true := by decide
    have m7 : (mskS 1).testBit 7 = true := by decide
    have m8 : (mskS 1).testBit 8 = true := by decide
    have m9 : (mskS 1).testBit 9 = false := by decide
    have m10 : (mskS 1).testBit 10 = false := by decide
    have m11 : (mskS 1).testBit 11 = false := by decide
    have m12 : (mskS 1).testBit 12 = false := by decide
    have m13 : (mskS 1).testBit 13 = false := by decide
    have m14 : (mskS 1).testBit 14 = false := by decide
    simp only [Nat.testBit_and, m0, m1, m2, m3, m4, m5, m6, m7, m8, m9, m10, m11, m12, m13, m14, Bool.and_true, Bool.and_false, Bool.toNat_false]
    omega
  · have m0 : (mskS 2).testBit 0 = false := by decide
    have m1 : (mskS 2).testBit 1 = true := by decide
    have m2 : (mskS 2).testBit 2 = false := by decide
    have m3 : (mskS 2).testBit 3 = false := by decide
    have m4 : (mskS 2).testBit 4 = false := by decide
    have m5 : (mskS 2).testBit 5 = true := by decide
    have m6 : (mskS 2).testBit 6 = false := by decide
    have m7 : (mskS 2).testBit 7 = false := by decide
    have m8 : (mskS 2).testBit 8 = false := by decide
    have m9 : (mskS 2).testBit 9 = true := by decide
    have m10 : (mskS 2).testBit 10 = true := by decide
    have m11 : (mskS 2).testBit 11 = true := by decide
    have m12 : (mskS 2).testBit 12 = false := by decide
    have m13 : (mskS 2).testBit 13 = false := by decide
    have m14 : (mskS 2).testBit 14 = false := by decide
    simp only [Nat.testBit_and, m0, m1, m2, m3, m4, m5, m6, m7, m8, m9, m10, m11, m12, m13, m14, Bool.and_true, Bool.and_false, Bool.toNat_false]
    omega
  · have m0 : (mskS 3).testBit 0 = false := by decide
    have m1 : (mskS 3).testBit 1 = false := by decide
    have m2 : (mskS 3).testBit 2 = true := by decide
    have m3 : (mskS 3).testBit 3 = false := by decide
    have m4 : (mskS 3).testBit 4 = false := by decide
    have m5 : (mskS 3).testBit 5 = false := by decide
    have m6 : (mskS 3).testBit 6 = true := by decide
    have m7 : (mskS 3).testBit 7 = false := by decide
    have m8 : (mskS 3).testBit 8 = false := by decide
    have m9 : (mskS 3).testBit 9 = true := by decide
    have m10 : (mskS 3).testBit 10 = false := by decide
    have m11 : (mskS 3).testBit 11 = false := by decide
    have m12 : (mskS 3).testBit 12 = true := by decide
    have m13 : (mskS 3).testBit 13 = true := by decide
    have m14 : (mskS 3).testBit 14 = false := by decide
    simp only [Nat.testBit_and, m0, m1, m2, m3, m4, m5, m6, m7, m8, m9, m10, m11, m12, m13, m14, Bool.and_true, Bool.and_false, Bool.toNat_false]
    omega
  · have m0 : (mskS 4).testBit 0 = false := by decide
    have m1 : (mskS 4).testBit 1 = false := by decide
    have m2 : (mskS 4).testBit 2 = false := by decide
    have m3 : (mskS 4).testBit 3 = true := by decide
    have m4 : (mskS 4).testBit 4 = false := by decide
    have m5 : (mskS 4).testBit 5 = false := by decide
    have m6 : (mskS 4).testBit 6 = false := by decide
    have m7 : (mskS 4).testBit 7 = true := by decide
    have m8 : (mskS 4).testBit 8 = false := by decide
    have m9 : (mskS 4).testBit 9 = false := by decide
    have m10 : (mskS 4).testBit 10 = true := by decide
    have m11 : (mskS 4).testBit 11 = false := by decide
    have m12 : (mskS 4).testBit 12 = true := by decide
    have m13 : (mskS 4).testBit 13 = false := by decide
    have m14 : (mskS 4).testBit 14 = true := by decide
    simp only [Nat.testBit_and, m0, m1, m2, m3, m4, m5, m6, m7, m8, m9, m10, m11, m12, m13, m14, Bool.and_true, Bool.and_false, Bool.toNat_false]
    omega
  · have m0 : (mskS 5).testBit 0 = false := by decide
    have m1 : (mskS 5).testBit 1 = false := by decide
    have m2 : (mskS 5).testBit 2 = false := by decide
    have m3 : (mskS 5).testBit 3 = false := by decide
    have m4 : (mskS 5).testBit 4 = true := by decide
    have m5 : (mskS 5).testBit 5 = false := by decide
    have m6 : (mskS 5).testBit 6 = false := by decide
    have m7 : (mskS 5).testBit 7 = false := by decide
    have m8 : (mskS 5).testBit 8 = true := by decide
    have m9 : (mskS 5).testBit 9 = false := by decide
    have m10 : (mskS 5).testBit 10 = false := by decide
    have m11 : (mskS 5).testBit 11 = true := by decide
    have m12 : (mskS 5).testBit 12 = false := by decide
    have m13 : (mskS 5).testBit 13 = true := by decide
    have m14 : (mskS 5).testBit 14 = true := by decide
    simp only [Nat.testBit_and, m0, m1, m2, m3, m4, m5, m6, m7, m8, m9, m10, m11, m12, m13, m14, Bool.and_true, Bool.and_false, Bool.toNat_false]
    omega
theorem evb_fix {g : Nat → Nat} {b s : Nat} (hg : g s = s) (hne : s ≠ b) : ∀ k, evb g b k s = false
  | 0 => by simp [evb, hne]
  | k + 1 => by rw [evb, hg, evb_fix hg hne k]; simp [hne]
theorem bst_none {t : Nat → Nat} {p : Nat → Bool} : ∀ n, (∀ j, j < n → p j = false) → bst t p n = none
  | 0, _ => rfl
  | k + 1, h => by
    unfold bst
    rw [h k (by omega), bst_none k (fun j hj => h j (by omega))]
    rfl
theorem cut_ex {t : Nat → Nat} {R n b s T : Nat} (hn : n ≤ 6) (hT : T < 32768) (hs : s < n) (hne : s ≠ b) : ∃ x, x < 32768 ∧ cutC t R n b s T x = true ∧ pops 15 x ≤ 5 := by
  have hx : T &&& mskS s < 32768 := Nat.lt_of_le_of_lt Nat.and_le_left hT
  refine ⟨T &&& mskS s, hx, ?_, mskS_pops T s (by omega)⟩
  have h1 : sbt (T &&& mskS s) T = true := (sbt_iff hx).mpr (fun j hj => by rw [Nat.testBit_and] at hj; simp at hj; exact hj.1)
  have hg : go t (wo T (T &&& mskS s)) R n s = s := by
    rw [go_goP]
    unfold goP
    rw [bst_none n]
    · simp
    · intro j hj
      unfold nbr
      by_cases hsj : s = j
      · simp [hsj]
      · rw [wo_bit hT, Nat.testBit_and, mskS_dec s (by omega) j (by omega) hsj]
        cases T.testBit (ti s j) <;> simp
  unfold cutC
  rw [h1, evb_fix hg hne]
  rfl
end CUT
