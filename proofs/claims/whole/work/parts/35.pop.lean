/-! how many bits -/
section POP
def nBC (x : Nat) : Nat :=
  let a := x - (x >>> 1 &&& 1431655765)
  let b := (a &&& 858993459) + (a >>> 2 &&& 858993459)
  let c := b + b >>> 4 &&& 252645135
  let d := c + c >>> 8
  let e := d + d >>> 16
  e &&& 63
def pops : Nat → Nat → Nat
  | 0, _ => 0
  | k + 1, x => pops k x + x >>> k % 2
def chkBC : Nat → Nat → Bool
  | 0, _ => true
  | k + 1, x => Nat.beq (nBC x) (pops 15 x) && chkBC k (x + 1)
theorem chk_0 : chkBC 2048 0 = true := by decide +kernel
theorem chk_1 : chkBC 2048 2048 = true := by decide +kernel
theorem chk_2 : chkBC 2048 4096 = true := by decide +kernel
theorem chk_3 : chkBC 2048 6144 = true := by decide +kernel
theorem chk_4 : chkBC 2048 8192 = true := by decide +kernel
theorem chk_5 : chkBC 2048 10240 = true := by decide +kernel
theorem chk_6 : chkBC 2048 12288 = true := by decide +kernel
theorem chk_7 : chkBC 2048 14336 = true := by decide +kernel
theorem chk_8 : chkBC 2048 16384 = true := by decide +kernel
theorem chk_9 : chkBC 2048 18432 = true := by decide +kernel
theorem chk_10 : chkBC 2048 20480 = true := by decide +kernel
theorem chk_11 : chkBC 2048 22528 = true := by decide +kernel
theorem chk_12 : chkBC 2048 24576 = true := by decide +kernel
theorem chk_13 : chkBC 2048 26624 = true := by decide +kernel
theorem chk_14 : chkBC 2048 28672 = true := by decide +kernel
theorem chk_15 : chkBC 2048 30720 = true := by decide +kernel
theorem chkBC_spec : ∀ k x0 : Nat, chkBC k x0 = true → ∀ x, x0 ≤ x → x < x0 + k → nBC x = pops 15 x
  | 0, x0, _, x, h1, h2 => absurd h2 (by omega)
  | k + 1, x0, h, x, h1, h2 => by
    simp only [chkBC, Bool.and_eq_true] at h
    by_cases hx : x = x0
    · subst hx
      exact Nat.eq_of_beq_eq_true h.1
    · exact chkBC_spec k (x0 + 1) h.2 x (by omega) (by omega)
theorem nBC_pops {x : Nat} (hx : x < 32768) : nBC x = pops 15 x := by
  by_cases h0 : x < 2048
  · exact chkBC_spec 2048 0 chk_0 x (by omega) (by omega)
  by_cases h1 : x < 4096
  · exact chkBC_spec 2048 2048 chk_1 x (by omega) (by omega)
  by_cases h2 : x < 6144
  · exact chkBC_spec 2048 4096 chk_2 x (by omega) (by omega)
  by_cases h3 : x < 8192
  · exact chkBC_spec 2048 6144 chk_3 x (by omega) (by omega)
  by_cases h4 : x < 10240
  · exact chkBC_spec 2048 8192 chk_4 x (by omega) (by omega)
  by_cases h5 : x < 12288
  · exact chkBC_spec 2048 10240 chk_5 x (by omega) (by omega)
  by_cases h6 : x < 14336
  · exact chkBC_spec 2048 12288 chk_6 x (by omega) (by omega)
  by_cases h7 : x < 16384
  · exact chkBC_spec 2048 14336 chk_7 x (by omega) (by omega)
  by_cases h8 : x < 18432
  · exact chkBC_spec 2048 16384 chk_8 x (by omega) (by omega)
  by_cases h9 : x < 20480
  · exact chkBC_spec 2048 18432 chk_9 x (by omega) (by omega)
  by_cases h10 : x < 22528
  · exact chkBC_spec 2048 20480 chk_10 x (by omega) (by omega)
  by_cases h11 : x < 24576
  · exact chkBC_spec 2048 22528 chk_11 x (by omega) (by omega)
  by_cases h12 : x < 26624
  · exact chkBC_spec 2048 24576 chk_12 x (by omega) (by omega)
  by_cases h13 : x < 28672
  · exact chkBC_spec 2048 26624 chk_13 x (by omega) (by omega)
  by_cases h14 : x < 30720
  · exact chkBC_spec 2048 28672 chk_14 x (by omega) (by omega)
  by_cases h15 : x < 32768
  · exact chkBC_spec 2048 30720 chk_15 x (by omega) (by omega)
  omega
theorem iI_addN (a b : Nat) : iI (a : Int) + iI (b : Int) = iI ((a + b : Nat) : Int) := iI_add _ _
theorem iI_subN {a b : Nat} (h : b ≤ a) : iI (a : Int) - iI (b : Int) = iI ((a - b : Nat) : Int) := by
  rw [iI_sub]
  congr 1
  omega
theorem ushr_iI {x : Nat} (s : Int32) (k : Nat) (hs : ((s.toUInt32 &&& Int32.toUInt32 31).toBitVec % 32).toNat = k) (hx : x < 2147483648) : ((iI (x : Int)).toUInt32 >>> (s.toUInt32 &&& Int32.toUInt32 31)).toInt32 = iI ((x >>> k : Nat) : Int) := by
  have e := pk_ushrN (n := x) (by omega) s k hs
  rw [Nat.shiftRight_eq_div_pow]
  exact e
def fbc (p : Int32) : Int32 :=
  let a := p - (((p.toUInt32 >>> ((1 : Int32).toUInt32 &&& Int32.toUInt32 31)).toInt32) &&& (1431655765 : Int32))
  let b := (a &&& (858993459 : Int32)) + (((a.toUInt32 >>> ((2 : Int32).toUInt32 &&& Int32.toUInt32 31)).toInt32) &&& (858993459 : Int32))
  let c := (b + ((b.toUInt32 >>> ((4 : Int32).toUInt32 &&& Int32.toUInt32 31)).toInt32)) &&& (252645135 : Int32)
  let d := c + ((c.toUInt32 >>> ((8 : Int32).toUInt32 &&& Int32.toUInt32 31)).toInt32)
  let e := d + ((d.toUInt32 >>> ((16 : Int32).toUInt32 &&& Int32.toUInt32 31)).toInt32)
  e &&& (63 : Int32)
theorem fbc_eq (p : Int32) : fJ6_bitCount_0f7a4 p = fbc p := rfl
theorem bitCount_iI {x : Nat} (hx : x < 32768) : fJ6_bitCount_0f7a4 (iI (x : Int)) = iI ((pops 15 x : Nat) : Int) := by
  rw [fbc_eq, ← nBC_pops hx]
  unfold fbc nBC
  have m1 : (1431655765 : Int32) = iI ((1431655765 : Nat) : Int) := rfl
  have m2 : (858993459 : Int32) = iI ((858993459 : Nat) : Int) := rfl
  have m3 : (252645135 : Int32) = iI ((252645135 : Nat) : Int) := rfl
  have m4 : (63 : Int32) = iI ((63 : Nat) : Int) := rfl
  rw [m1, m2, m3, m4]
  dsimp only
  have l1 : x >>> 1 &&& 1431655765 ≤ x := Nat.le_trans Nat.and_le_left (by rw [Nat.shiftRight_eq_div_pow]; exact Nat.div_le_self _ _)
  rw [ushr_iI 1 1 (by decide) (by omega), iI_and, iI_subN l1]
  generalize ha : x - (x >>> 1 &&& 1431655765) = a
  have la : a ≤ x := by omega
  rw [ushr_iI 2 2 (by decide) (by omega), iI_and, iI_and, iI_addN]
  have lb1 : a &&& 858993459 ≤ 858993459 := Nat.and_le_right
  have lb2 : a >>> 2 &&& 858993459 ≤ 858993459 := Nat.and_le_right
  generalize hb : (a &&& 858993459) + (a >>> 2 &&& 858993459) = b
  have lb : b < 2147483648 := by omega
  rw [ushr_iI 4 4 (by decide) lb, iI_addN, iI_and]
  have lc1 : b + b >>> 4 &&& 252645135 ≤ 252645135 := Nat.and_le_right
  generalize hc : b + b >>> 4 &&& 252645135 = c at lc1 ⊢
  rw [ushr_iI 8 8 (by decide) (by omega), iI_addN]
  have ld1 : c >>> 8 ≤ c := by rw [Nat.shiftRight_eq_div_pow]; exact Nat.div_le_self _ _
  generalize hd : c + c >>> 8 = d
  rw [ushr_iI 16 16 (by decide) (by omega), iI_addN, iI_and]
theorem pops_s (k x : Nat) : pops (k + 1) x = pops k x + x >>> k % 2 := rfl
theorem manyOf_L {N : Nat} {x : Nat} (hx : x < 32768) : ∀ (m i : Nat), i ≤ 16 → 16 - i < m → fX8_manyOf_L4 (iI (x : Int)) m (iI ((pops i x : Nat) : Int)) (iI (i : Int)) = some (iI ((pops 16 x : Nat) : Int))
  | 0, i, _, h => absurd h (Nat.not_lt_zero _)
  | m + 1, i, hi, hm => by
    rw [fX8_manyOf_L4]
    by_cases h : i = 16
    · subst h
      rw [if_pos (by decide)]
    · rw [if_neg (by rw [iI_lit 16, iI_le (by decide) (by decide) (by omega) (by omega)]; show ¬ (16 : Int) ≤ i; omega)]
      rw [iI_shr (by omega) (by omega), ← Nat.shiftRight_eq_div_pow]
      have e1 : (1 : Int32) = iI ((1 : Nat) : Int) := rfl
      have e2 : (x >>> i &&& 1) = x >>> i % 2 := Nat.and_two_pow_sub_one_eq_mod (x >>> i) 1
      rw [iI_s]
      have e3 : iI ((x >>> i : Nat) : Int) &&& (1 : Int32) = iI ((x >>> i % 2 : Nat) : Int) := by
        rw [e1, iI_and, e2]
      rw [e3, iI_addN, ← pops_s]
      exact manyOf_L (N := N) hx m (i + 1) (by omega) (by omega)
theorem pops16 {x : Nat} (hx : x < 32768) : pops 16 x = pops 15 x := by
  rw [pops_s, Nat.shiftRight_eq_div_pow, Nat.div_eq_of_lt (by omega)]
  rfl
theorem manyOf_iI {N x : Nat} (hN : 300 ≤ N) (hx : x < 32768) : fX8_manyOf N (iI (x : Int)) = some (iI ((pops 15 x : Nat) : Int)) := by
  rw [← pops16 hx]
  exact manyOf_L (N := N) hx N 0 (by decide) (by omega)
end POP
