/-! reckoning with small numbers: iI k is the int k -/
section CALC
def iI (k : Int) : Int32 := Int32.ofInt k
theorem iI_add (a b : Int) : iI a + iI b = iI (a + b) := (Int32.ofInt_add a b).symm
theorem iI_mul (a b : Int) : iI a * iI b = iI (a * b) := (Int32.ofInt_mul a b).symm
theorem iI_neg (a : Int) : -iI a = iI (-a) := (Int32.ofInt_neg a).symm
theorem iI_sub (a b : Int) : iI a - iI b = iI (a - b) := (Int32.ofInt_sub a b).symm
theorem iI_lit (n : Nat) : (OfNat.ofNat n : Int32) = iI (OfNat.ofNat n) := rfl
theorem iI_nI (n : Nat) : nI n = iI n := rfl
theorem iI_toInt {k : Int} (h1 : -2147483648 ≤ k) (h2 : k < 2147483648) : (iI k).toInt = k := by
  unfold iI
  rw [Int32.toInt_ofInt]
  have hs : Int32.size = 4294967296 := rfl
  rw [hs]
  simp only [Int.bmod]
  omega
theorem iI_le {a b : Int} (ha : -2147483648 ≤ a) (ha2 : a < 2147483648) (hb : -2147483648 ≤ b) (hb2 : b < 2147483648) : iI a ≤ iI b ↔ a ≤ b := by
  rw [Int32.le_iff_toInt_le, iI_toInt ha ha2, iI_toInt hb hb2]
theorem iI_lt {a b : Int} (ha : -2147483648 ≤ a) (ha2 : a < 2147483648) (hb : -2147483648 ≤ b) (hb2 : b < 2147483648) : iI a < iI b ↔ a < b := by
  rw [Int32.lt_iff_toInt_lt, iI_toInt ha ha2, iI_toInt hb hb2]
theorem iI_eq {a b : Int} (ha : -2147483648 ≤ a) (ha2 : a < 2147483648) (hb : -2147483648 ≤ b) (hb2 : b < 2147483648) : iI a = iI b ↔ a = b := by
  rw [← Int32.toInt_inj, iI_toInt ha ha2, iI_toInt hb hb2]
theorem iI_clamp {a : Int} (ha : 0 ≤ a) (ha2 : a < 2147483648) : (iI a).toNatClampNeg = a.toNat := by
  show (iI a).toInt.toNat = a.toNat
  rw [iI_toInt (by omega) ha2]
theorem vg_iI {α : Type} {k : Int} {n : Nat} {x : Option α} (h1 : 0 ≤ k) (h2 : k < n) (h3 : k < 2147483648) : vg (iI k) n x = x := by
  unfold vg vin
  rw [iI_toInt (by omega) h3]
  simp [h1, h2]
theorem vz_iI {α : Type} {k : Int} {x : Option α} (h0 : k ≠ 0) (h1 : -2147483648 ≤ k) (h2 : k < 2147483648) : vz (iI k) x = x := by
  unfold vz
  rw [if_neg]
  intro h
  rw [iI_lit, iI_eq h1 h2 (by decide) (by decide)] at h
  exact h0 h
theorem iI_ex (x : Int32) : ∃ k : Int, -2147483648 ≤ k ∧ k < 2147483648 ∧ x = iI k := by
  refine ⟨x.toInt, ?_, ?_, ?_⟩
  · have := x.le_toInt
    omega
  · have := x.toInt_lt
    omega
  · apply Int32.toInt_inj.mp
    rw [iI_toInt]
    · have := x.le_toInt
      omega
    · have := x.toInt_lt
      omega
theorem iI_div {a b : Int} (ha : 0 ≤ a) (ha2 : a < 2147483648) (hb : 0 < b) (hb2 : b < 2147483648) : iI a / iI b = iI (a / b) := by
  obtain ⟨m, rfl⟩ := Int.eq_ofNat_of_zero_le ha
  obtain ⟨n, rfl⟩ := Int.eq_ofNat_of_zero_le (Int.le_of_lt hb)
  have e := pk_div (a := m) (d := n) (by omega) (by omega) (by omega)
  exact e
theorem iI_and (a b : Nat) : iI a &&& iI b = iI ((a &&& b : Nat) : Int) := by
  apply Int32.toBitVec_inj.1
  show BitVec.ofNat 32 a &&& BitVec.ofNat 32 b = BitVec.ofNat 32 (a &&& b)
  apply BitVec.eq_of_getLsbD_eq
  intro i hi
  simp [hi]
theorem iI_or (a b : Nat) : iI a ||| iI b = iI ((a ||| b : Nat) : Int) := by
  apply Int32.toBitVec_inj.1
  show BitVec.ofNat 32 a ||| BitVec.ofNat 32 b = BitVec.ofNat 32 (a ||| b)
  apply BitVec.eq_of_getLsbD_eq
  intro i hi
  simp [hi]
theorem iI_xor (a b : Nat) : iI a ^^^ iI b = iI ((a ^^^ b : Nat) : Int) := by
  apply Int32.toBitVec_inj.1
  show BitVec.ofNat 32 a ^^^ BitVec.ofNat 32 b = BitVec.ofNat 32 (a ^^^ b)
  apply BitVec.eq_of_getLsbD_eq
  intro i hi
  simp [hi]
theorem iI_31 : ∀ k : Nat, k < 32 → (((iI k) &&& 31).toBitVec.smod 32).toNat = k := by decide +kernel
theorem iI_shl (a : Nat) {k : Nat} (hk : k < 32) : iI a <<< (iI k &&& 31) = iI ((a * 2 ^ k : Nat) : Int) := by
  apply Int32.toBitVec_inj.1
  apply BitVec.eq_of_toNat_eq
  rw [pk_shl (iI a) (iI k &&& 31) k (iI_31 k hk)]
  show (BitVec.ofNat 32 a).toNat * 2 ^ k % 2 ^ 32 = (BitVec.ofNat 32 (a * 2 ^ k)).toNat
  simp only [BitVec.toNat_ofNat]
  rw [Nat.mod_mul_mod]
theorem iI_shr {a k : Nat} (ha : a < 2147483648) (hk : k < 32) : iI a >>> (iI k &&& 31) = iI ((a / 2 ^ k : Nat) : Int) :=
  pk_shrN (n := a) (by omega) _ k (iI_31 k hk)
end CALC
