/-! the next number with as many bits -/
section GOSPER
def lowN (x : Nat) : Nat := x &&& (4294967296 - x)
def yN (x : Nat) : Nat := (x ^^^ 4294967295) &&& (x - 1)
def ct62 (a b : Nat) : Nat := if a ≤ 4 then b + a >>> 1 else (b + 2) + (a >>> 2) >>> 1
def ct49 (a b : Nat) : Nat := if a ≤ 16 then ct62 a b else ct62 (a >>> 4) (b + 4)
def ct34 (a b : Nat) : Nat := if a ≤ 256 then ct49 a b else ct49 (a >>> 8) (b + 8)
def ctN (x : Nat) : Nat := if 0 < yN x then ct34 (yN x) 1 else 0
def nxN (x : Nat) : Nat := (x + lowN x) ||| (((x ^^^ (x + lowN x)) >>> 2) >>> ctN x)
def chkG (p : Nat) : Nat → Nat → Nat → Nat → Bool
  | 0, _, c, e => Nat.beq c e
  | k + 1, z, c, e => cond (Nat.beq (nBC z) p) (cond (Nat.beq c z) (chkG p k (z + 1) (nxN z) e) false) (chkG p k (z + 1) c e)
theorem chkG_1_0 : chkG 1 2048 0 1 2048 = true := by decide +kernel
theorem chkG_1_1 : chkG 1 2048 2048 2048 4096 = true := by decide +kernel
theorem chkG_1_2 : chkG 1 2048 4096 4096 8192 = true := by decide +kernel
theorem chkG_1_3 : chkG 1 2048 6144 8192 8192 = true := by decide +kernel
theorem chkG_1_4 : chkG 1 2048 8192 8192 16384 = true := by decide +kernel
theorem chkG_1_5 : chkG 1 2048 10240 16384 16384 = true := by decide +kernel
theorem chkG_1_6 : chkG 1 2048 12288 16384 16384 = true := by decide +kernel
theorem chkG_1_7 : chkG 1 2048 14336 16384 16384 = true := by decide +kernel
theorem chkG_1_8 : chkG 1 2048 16384 16384 32768 = true := by decide +kernel
theorem chkG_1_9 : chkG 1 2048 18432 32768 32768 = true := by decide +kernel
theorem chkG_1_10 : chkG 1 2048 20480 32768 32768 = true := by decide +kernel
theorem chkG_1_11 : chkG 1 2048 22528 32768 32768 = true := by decide +kernel
theorem chkG_1_12 : chkG 1 2048 24576 32768 32768 = true := by decide +kernel
theorem chkG_1_13 : chkG 1 2048 26624 32768 32768 = true := by decide +kernel
theorem chkG_1_14 : chkG 1 2048 28672 32768 32768 = true := by decide +kernel
theorem chkG_1_15 : chkG 1 2048 30720 32768 32768 = true := by decide +kernel
theorem chkG_2_0 : chkG 2 2048 0 3 2049 = true := by decide +kernel
theorem chkG_2_1 : chkG 2 2048 2048 2049 4097 = true := by decide +kernel
theorem chkG_2_2 : chkG 2 2048 4096 4097 6144 = true := by decide +kernel
theorem chkG_2_3 : chkG 2 2048 6144 6144 8193 = true := by decide +kernel
theorem chkG_2_4 : chkG 2 2048 8192 8193 10240 = true := by decide +kernel
theorem chkG_2_5 : chkG 2 2048 10240 10240 12288 = true := by decide +kernel
theorem chkG_2_6 : chkG 2 2048 12288 12288 16385 = true := by decide +kernel
theorem chkG_2_7 : chkG 2 2048 14336 16385 16385 = true := by decide +kernel
theorem chkG_2_8 : chkG 2 2048 16384 16385 18432 = true := by decide +kernel
theorem chkG_2_9 : chkG 2 2048 18432 18432 20480 = true := by decide +kernel
theorem chkG_2_10 : chkG 2 2048 20480 20480 24576 = true := by decide +kernel
theorem chkG_2_11 : chkG 2 2048 22528 24576 24576 = true := by decide +kernel
theorem chkG_2_12 : chkG 2 2048 24576 24576 32769 = true := by decide +kernel
theorem chkG_2_13 : chkG 2 2048 26624 32769 32769 = true := by decide +kernel
theorem chkG_2_14 : chkG 2 2048 28672 32769 32769 = true := by decide +kernel
theorem chkG_2_15 : chkG 2 2048 30720 32769 32769 = true := by decide +kernel
theorem chkG_3_0 : chkG 3 2048 0 7 2051 = true := by decide +kernel
theorem chkG_3_1 : chkG 3 2048 2048 2051 4099 = true := by decide +kernel
theorem chkG_3_2 : chkG 3 2048 4096 4099 6145 = true := by decide +kernel
theorem chkG_3_3 : chkG 3 2048 6144 6145 8195 = true := by decide +kernel
theorem chkG_3_4 : chkG 3 2048 8192 8195 10241 = true := by decide +kernel
theorem chkG_3_5 : chkG 3 2048 10240 10241 12289 = true := by decide +kernel
theorem chkG_3_6 : chkG 3 2048 12288 12289 14336 = true := by decide +kernel
theorem chkG_3_7 : chkG 3 2048 14336 14336 16387 = true := by decide +kernel
theorem chkG_3_8 : chkG 3 2048 16384 16387 18433 = true := by decide +kernel
theorem chkG_3_9 : chkG 3 2048 18432 18433 20481 = true := by decide +kernel
theorem chkG_3_10 : chkG 3 2048 20480 20481 22528 = true := by decide +kernel
theorem chkG_3_11 : chkG 3 2048 22528 22528 24577 = true := by decide +kernel
theorem chkG_3_12 : chkG 3 2048 24576 24577 26624 = true := by decide +kernel
theorem chkG_3_13 : chkG 3 2048 26624 26624 28672 = true := by decide +kernel
theorem chkG_3_14 : chkG 3 2048 28672 28672 32771 = true := by decide +kernel
theorem chkG_3_15 : chkG 3 2048 30720 32771 32771 = true := by decide +kernel
theorem chkG_4_0 : chkG 4 2048 0 15 2055 = true := by decide +kernel
theorem chkG_4_1 : chkG 4 2048 2048 2055 4103 = true := by decide +kernel
theorem chkG_4_2 : chkG 4 2048 4096 4103 6147 = true := by decide +kernel
theorem chkG_4_3 : chkG 4 2048 6144 6147 8199 = true := by decide +kernel
theorem chkG_4_4 : chkG 4 2048 8192 8199 10243 = true := by decide +kernel
theorem chkG_4_5 : chkG 4 2048 10240 10243 12291 = true := by decide +kernel
theorem chkG_4_6 : chkG 4 2048 12288 12291 14337 = true := by decide +kernel
theorem chkG_4_7 : chkG 4 2048 14336 14337 16391 = true := by decide +kernel
theorem chkG_4_8 : chkG 4 2048 16384 16391 18435 = true := by decide +kernel
theorem chkG_4_9 : chkG 4 2048 18432 18435 20483 = true := by decide +kernel
theorem chkG_4_10 : chkG 4 2048 20480 20483 22529 = true := by decide +kernel
theorem chkG_4_11 : chkG 4 2048 22528 22529 24579 = true := by decide +kernel
theorem chkG_4_12 : chkG 4 2048 24576 24579 26625 = true := by decide +kernel
theorem chkG_4_13 : chkG 4 2048 26624 26625 28673 = true := by decide +kernel
theorem chkG_4_14 : chkG 4 2048 28672 28673 30720 = true := by decide +kernel
theorem chkG_4_15 : chkG 4 2048 30720 30720 32775 = true := by decide +kernel
theorem chkG_5_0 : chkG 5 2048 0 31 2063 = true := by decide +kernel
theorem chkG_5_1 : chkG 5 2048 2048 2063 4111 = true := by decide +kernel
theorem chkG_5_2 : chkG 5 2048 4096 4111 6151 = true := by decide +kernel
theorem chkG_5_3 : chkG 5 2048 6144 6151 8207 = true := by decide +kernel
theorem chkG_5_4 : chkG 5 2048 8192 8207 10247 = true := by decide +kernel
theorem chkG_5_5 : chkG 5 2048 10240 10247 12295 = true := by decide +kernel
theorem chkG_5_6 : chkG 5 2048 12288 12295 14339 = true := by decide +kernel
theorem chkG_5_7 : chkG 5 2048 14336 14339 16399 = true := by decide +kernel
theorem chkG_5_8 : chkG 5 2048 16384 16399 18439 = true := by decide +kernel
theorem chkG_5_9 : chkG 5 2048 18432 18439 20487 = true := by decide +kernel
theorem chkG_5_10 : chkG 5 2048 20480 20487 22531 = true := by decide +kernel
theorem chkG_5_11 : chkG 5 2048 22528 22531 24583 = true := by decide +kernel
theorem chkG_5_12 : chkG 5 2048 24576 24583 26627 = true := by decide +kernel
theorem chkG_5_13 : chkG 5 2048 26624 26627 28675 = true := by decide +kernel
theorem chkG_5_14 : chkG 5 2048 28672 28675 30721 = true := by decide +kernel
theorem chkG_5_15 : chkG 5 2048 30720 30721 32783 = true := by decide +kernel
theorem chkG_add (p : Nat) : ∀ k z c e k' e', chkG p k z c e = true → chkG p k' (z + k) e e' = true → chkG p (k + k') z c e' = true
  | 0, z, c, e, k', e', h1, h2 => by
    have : c = e := Nat.eq_of_beq_eq_true h1
    subst this
    rw [Nat.zero_add]
    exact h2
  | k + 1, z, c, e, k', e', h1, h2 => by
    have ek : k + 1 + k' = (k + k') + 1 := by omega
    rw [ek]
    have ez : z + (k + 1) = (z + 1) + k := by omega
    rw [ez] at h2
    rw [chkG] at h1 ⊢
    cases h3 : Nat.beq (nBC z) p
    · rw [h3] at h1
      exact chkG_add p k (z + 1) c e k' e' h1 h2
    · rw [h3] at h1
      cases h4 : Nat.beq c z
      · rw [h4] at h1
        cases h1
      · rw [h4] at h1
        exact chkG_add p k (z + 1) (nxN z) e k' e' h1 h2
def isFst (p z c : Nat) : Prop := (∀ x, z ≤ x → x < 32768 → nBC x = p → c ≤ x) ∧ (c < 32768 → z ≤ c ∧ nBC c = p)
theorem chkG_spec (p e : Nat) (he : 32768 ≤ e) : ∀ k z c, chkG p k z c e = true → z + k = 32768 → isFst p z c ∧ ∀ x, z ≤ x → x < 32768 → nBC x = p → isFst p (x + 1) (nxN x)
  | 0, z, c, h, hz => by
    have : c = e := Nat.eq_of_beq_eq_true h
    subst this
    exact ⟨⟨fun x h1 h2 => by omega, fun h1 => by omega⟩, fun x h1 h2 => by omega⟩
  | k + 1, z, c, h, hz => by
    rw [chkG] at h
    cases h3 : Nat.beq (nBC z) p
    · rw [h3] at h
      have hne : nBC z ≠ p := fun q => by rw [q, Nat.beq_refl] at h3; cases h3
      obtain ⟨⟨a, b⟩, c2⟩ := chkG_spec p e he k (z + 1) c h (by omega)
      refine ⟨⟨fun x h1 h2 h4 => ?_, fun h1 => ⟨by have := (b h1).1; omega, (b h1).2⟩⟩, fun x h1 h2 h4 => ?_⟩
      · by_cases hx : x = z
        · subst hx
          exact absurd h4 hne
        · exact a x (by omega) h2 h4
      · by_cases hx : x = z
        · subst hx
          exact absurd h4 hne
        · exact c2 x (by omega) h2 h4
    · rw [h3] at h
      cases h4 : Nat.beq c z
      · rw [h4] at h
        cases h
      · rw [h4] at h
        have hcz : c = z := Nat.eq_of_beq_eq_true h4
        have hp : nBC z = p := Nat.eq_of_beq_eq_true h3
        obtain ⟨hF, c2⟩ := chkG_spec p e he k (z + 1) (nxN z) h (by omega)
        refine ⟨⟨fun x h1 h2 h4 => by omega, fun h1 => ⟨by omega, by rw [hcz, hp]⟩⟩, fun x h1 h2 h4 => ?_⟩
        by_cases hx : x = z
        · subst hx
          exact hF
        · exact c2 x (by omega) h2 h4
theorem gos_1 : isFst 1 0 1 ∧ ∀ x, 0 ≤ x → x < 32768 → nBC x = 1 → isFst 1 (x + 1) (nxN x) := chkG_spec 1 32768 (by decide) 32768 0 1 (chkG_add 1 2048 0 1 2048 30720 32768 chkG_1_0 (chkG_add 1 2048 2048 2048 4096 28672 32768 chkG_1_1 (chkG_add 1 2048 4096 4096 8192 26624 32768 chkG_1_2 (chkG_add 1 2048 6144 8192 8192 24576 32768 chkG_1_3 (chkG_add 1 2048 8192 8192 16384 22528 32768 chkG_1_4 (chkG_add 1 2048 10240 16384 16384 20480 32768 chkG_1_5 (chkG_add 1 2048 12288 16384 16384 18432 32768 chkG_1_6 (chkG_add 1 2048 14336 16384 16384 16384 32768 chkG_1_7 (chkG_add 1 2048 16384 16384 32768 14336 32768 chkG_1_8 (chkG_add 1 2048 18432 32768 32768 12288 32768 chkG_1_9 (chkG_add 1 2048 20480 32768 32768 10240 32768 chkG_1_10 (chkG_add 1 2048 22528 32768 32768 8192 32768 chkG_1_11 (chkG_add 1 2048 24576 32768 32768 6144 32768 chkG_1_12 (chkG_add 1 2048 26624 32768 32768 4096 32768 chkG_1_13 (chkG_add 1 2048 28672 32768 32768 2048 32768 chkG_1_14 chkG_1_15))))))))))))))) rfl
theorem gos_2 : isFst 2 0 3 ∧ ∀ x, 0 ≤ x → x < 32768 → nBC x = 2 → isFst 2 (x + 1) (nxN x) := chkG_spec 2 32769 (by decide) 32768 0 3 (chkG_add 2 2048 0 3 2049 30720 32769 chkG_2_0 (chkG_add 2 2048 2048 2049 4097 28672 32769 chkG_2_1 (chkG_add 2 2048 4096 4097 6144 26624 32769 chkG_2_2 (chkG_add 2 2048 6144 6144 8193 24576 32769 chkG_2_3 (chkG_add 2 2048 8192 8193 10240 22528 32769 chkG_2_4 (chkG_add 2 2048 10240 10240 12288 20480 32769 chkG_2_5 (chkG_add 2 2048 12288 12288 16385 18432 32769 chkG_2_6 (chkG_add 2 2048 14336 16385 16385 16384 32769 chkG_2_7 (chkG_add 2 2048 16384 16385 18432 14336 32769 chkG_2_8 (chkG_add 2 2048 18432 18432 20480 12288 32769 chkG_2_9 (chkG_add 2 2048 20480 20480 24576 10240 32769 chkG_2_10 (chkG_add 2 2048 22528 24576 24576 8192 32769 chkG_2_11 (chkG_add 2 2048 24576 24576 32769 6144 32769 chkG_2_12 (chkG_add 2 2048 26624 32769 32769 4096 32769 chkG_2_13 (chkG_add 2 2048 28672 32769 32769 2048 32769 chkG_2_14 chkG_2_15))))))))))))))) rfl
theorem gos_3 : isFst 3 0 7 ∧ ∀ x, 0 ≤ x → x < 32768 → nBC x = 3 → isFst 3 (x + 1) (nxN x) := chkG_spec 3 32771 (by decide) 32768 0 7 (chkG_add 3 2048 0 7 2051 30720 32771 chkG_3_0 (chkG_add 3 2048 2048 2051 4099 28672 32771 chkG_3_1 (chkG_add 3 2048 4096 4099 6145 26624 32771 chkG_3_2 (chkG_add 3 2048 6144 6145 8195 24576 32771 chkG_3_3 (chkG_add 3 2048 8192 8195 10241 22528 32771 chkG_3_4 (chkG_add 3 2048 10240 10241 12289 20480 32771 chkG_3_5 (chkG_add 3 2048 12288 12289 14336 18432 32771 chkG_3_6 (chkG_add 3 2048 14336 14336 16387 16384 32771 chkG_3_7 (chkG_add 3 2048 16384 16387 18433 14336 32771 chkG_3_8 (chkG_add 3 2048 18432 18433 20481 12288 32771 chkG_3_9 (chkG_add 3 2048 20480 20481 22528 10240 32771 chkG_3_10 (chkG_add 3 2048 22528 22528 24577 8192 32771 chkG_3_11 (chkG_add 3 2048 24576 24577 26624 6144 32771 chkG_3_12 (chkG_add 3 2048 26624 26624 28672 4096 32771 chkG_3_13 (chkG_add 3 2048 28672 28672 32771 2048 32771 chkG_3_14 chkG_3_15))))))))))))))) rfl
theorem gos_4 : isFst 4 0 15 ∧ ∀ x, 0 ≤ x → x < 32768 → nBC x = 4 → isFst 4 (x + 1) (nxN x) := chkG_spec 4 32775 (by decide) 32768 0 15 (chkG_add 4 2048 0 15 2055 30720 32775 chkG_4_0 (chkG_add 4 2048 2048 2055 4103 28672 32775 chkG_4_1 (chkG_add 4 2048 4096 4103 6147 26624 32775 chkG_4_2 (chkG_add 4 2048 6144 6147 8199 24576 32775 chkG_4_3 (chkG_add 4 2048 8192 8199 10243 22528 32775 chkG_4_4 (chkG_add 4 2048 10240 10243 12291 20480 32775 chkG_4_5 (chkG_add 4 2048 12288 12291 14337 18432 32775 chkG_4_6 (chkG_add 4 2048 14336 14337 16391 16384 32775 chkG_4_7 (chkG_add 4 2048 16384 16391 18435 14336 32775 chkG_4_8 (chkG_add 4 2048 18432 18435 20483 12288 32775 chkG_4_9 (chkG_add 4 2048 20480 20483 22529 10240 32775 chkG_4_10 (chkG_add 4 2048 22528 22529 24579 8192 32775 chkG_4_11 (chkG_add 4 2048 24576 24579 26625 6144 32775 chkG_4_12 (chkG_add 4 2048 26624 26625 28673 4096 32775 chkG_4_13 (chkG_add 4 2048 28672 28673 30720 2048 32775 chkG_4_14 chkG_4_15))))))))))))))) rfl
theorem gos_5 : isFst 5 0 31 ∧ ∀ x, 0 ≤ x → x < 32768 → nBC x = 5 → isFst 5 (x + 1) (nxN x) := chkG_spec 5 32783 (by decide) 32768 0 31 (chkG_add 5 2048 0 31 2063 30720 32783 chkG_5_0 (chkG_add 5 2048 2048 2063 4111 28672 32783 chkG_5_1 (chkG_add 5 2048 4096 4111 6151 26624 32783 chkG_5_2 (chkG_add 5 2048 6144 6151 8207 24576 32783 chkG_5_3 (chkG_add 5 2048 8192 8207 10247 22528 32783 chkG_5_4 (chkG_add 5 2048 10240 10247 12295 20480 32783 chkG_5_5 (chkG_add 5 2048 12288 12295 14339 18432 32783 chkG_5_6 (chkG_add 5 2048 14336 14339 16399 16384 32783 chkG_5_7 (chkG_add 5 2048 16384 16399 18439 14336 32783 chkG_5_8 (chkG_add 5 2048 18432 18439 20487 12288 32783 chkG_5_9 (chkG_add 5 2048 20480 20487 22531 10240 32783 chkG_5_10 (chkG_add 5 2048 22528 22531 24583 8192 32783 chkG_5_11 (chkG_add 5 2048 24576 24583 26627 6144 32783 chkG_5_12 (chkG_add 5 2048 26624 26627 28675 4096 32783 chkG_5_13 (chkG_add 5 2048 28672 28675 30721 2048 32783 chkG_5_14 chkG_5_15))))))))))))))) rfl
theorem gos (p : Nat) (h1 : 1 ≤ p) (h2 : p ≤ 5) : isFst p 0 (2 ^ p - 1) ∧ ∀ x, x < 32768 → nBC x = p → isFst p (x + 1) (nxN x) := by
  have : p = 1 ∨ p = 2 ∨ p = 3 ∨ p = 4 ∨ p = 5 := by omega
  rcases this with rfl | rfl | rfl | rfl | rfl
  · exact ⟨gos_1.1, fun x => gos_1.2 x (Nat.zero_le _)⟩
  · exact ⟨gos_2.1, fun x => gos_2.2 x (Nat.zero_le _)⟩
  · exact ⟨gos_3.1, fun x => gos_3.2 x (Nat.zero_le _)⟩
  · exact ⟨gos_4.1, fun x => gos_4.2 x (Nat.zero_le _)⟩
  · exact ⟨gos_5.1, fun x => gos_5.2 x (Nat.zero_le _)⟩
/-! the class reckons it so -/
theorem low_iI {x : Nat} (hx : x < 32768) : fJ6_lowestOneBit_0f7a4 (iI (x : Int)) = iI ((lowN x : Nat) : Int) := by
  unfold fJ6_lowestOneBit_0f7a4 lowN
  have e : -iI (x : Int) = iI ((4294967296 - x : Nat) : Int) := by
    rw [iI_neg]
    unfold iI
    apply Int32.toInt_inj.mp
    rw [Int32.toInt_ofInt, Int32.toInt_ofInt]
    have hs : Int32.size = 4294967296 := rfl
    rw [hs]
    simp only [Int.bmod]
    omega
  rw [e, iI_and]
theorem lowN_le (x : Nat) : lowN x ≤ x := Nat.and_le_left
theorem ct62_iI {a b : Nat} (ha : a < 2147483648) : fJ6_numberOfTrailingZeros_0f7a4_J62 (iI (a : Int)) (iI (b : Int)) = iI ((ct62 a b : Nat) : Int) := by
  unfold fJ6_numberOfTrailingZeros_0f7a4_J62 ct62
  have l2 : a >>> 2 ≤ a := by rw [Nat.shiftRight_eq_div_pow]; exact Nat.div_le_self _ _
  rw [ushr_iI 1 1 (by decide) ha, ushr_iI 2 2 (by decide) ha, ushr_iI 1 1 (by decide) (by omega)]
  by_cases h : a ≤ 4
  · rw [if_pos (by rw [iI_lit 4, iI_le (by omega) (by omega) (by decide) (by decide)]; show (a : Int) ≤ 4; omega), if_pos h, iI_addN]
  · rw [if_neg (by rw [iI_lit 4, iI_le (by omega) (by omega) (by decide) (by decide)]; show ¬ (a : Int) ≤ 4; omega), if_neg h]
    have e : iI (b : Int) + 2 = iI ((b + 2 : Nat) : Int) := by rw [iI_lit 2, iI_add] <;> rfl
    rw [e, iI_addN]
theorem ct49_iI {a b : Nat} (ha : a < 2147483648) : fJ6_numberOfTrailingZeros_0f7a4_J49 (iI (a : Int)) (iI (b : Int)) = iI ((ct49 a b : Nat) : Int) := by
  unfold fJ6_numberOfTrailingZeros_0f7a4_J49 ct49
  have l2 : a >>> 4 ≤ a := by rw [Nat.shiftRight_eq_div_pow]; exact Nat.div_le_self _ _
  have e : iI (b : Int) + 4 = iI ((b + 4 : Nat) : Int) := by rw [iI_lit 4, iI_add] <;> rfl
  rw [ushr_iI 4 4 (by decide) ha, e, ct62_iI ha, ct62_iI (by omega)]
  by_cases h : a ≤ 16
  · rw [if_pos (by rw [iI_lit 16, iI_le (by omega) (by omega) (by decide) (by decide)]; show (a : Int) ≤ 16; omega), if_pos h]
  · rw [if_neg (by rw [iI_lit 16, iI_le (by omega) (by omega) (by decide) (by decide)]; show ¬ (a : Int) ≤ 16; omega), if_neg h]
theorem ct34_iI {a b : Nat} (ha : a < 2147483648) : fJ6_numberOfTrailingZeros_0f7a4_J34 (iI (a : Int)) (iI (b : Int)) = iI ((ct34 a b : Nat) : Int) := by
  unfold fJ6_numberOfTrailingZeros_0f7a4_J34 ct34
  have l2 : a >>> 8 ≤ a := by rw [Nat.shiftRight_eq_div_pow]; exact Nat.div_le_self _ _
  have e : iI (b : Int) + 8 = iI ((b + 8 : Nat) : Int) := by rw [iI_lit 8, iI_add] <;> rfl
  rw [ushr_iI 8 8 (by decide) ha, e, ct49_iI ha, ct49_iI (by omega)]
  by_cases h : a ≤ 256
  · rw [if_pos (by rw [iI_lit 256, iI_le (by omega) (by omega) (by decide) (by decide)]; show (a : Int) ≤ 256; omega), if_pos h]
  · rw [if_neg (by rw [iI_lit 256, iI_le (by omega) (by omega) (by decide) (by decide)]; show ¬ (a : Int) ≤ 256; omega), if_neg h]
theorem ct_iI {x : Nat} (hx0 : 1 ≤ x) (hx : x < 32768) : fJ6_numberOfTrailingZeros_0f7a4 (iI (x : Int)) = iI ((ctN x : Nat) : Int) := by
  unfold fJ6_numberOfTrailingZeros_0f7a4 ctN
  have e1 : iI (x : Int) - (1 : Int32) = iI ((x - 1 : Nat) : Int) := iI_subN hx0
  have ey : (iI (x : Int) ^^^ (-1 : Int32)) &&& (iI (x : Int) - (1 : Int32)) = iI ((yN x : Nat) : Int) := by
    rw [m1_iI, iI_xor, e1, iI_and]
    rfl
  have hy : yN x ≤ x - 1 := Nat.and_le_right
  have e11 : (1 : Int32) = iI ((1 : Nat) : Int) := rfl
  rw [ey]
  by_cases h : 0 < yN x
  · rw [if_pos (by rw [iI_lit 0, iI_lt (by decide) (by decide) (by omega) (by omega)]; show (0 : Int) < yN x; omega), if_pos h, if_pos (by rw [iI_lit 65536, iI_le (by omega) (by omega) (by decide) (by decide)]; show (yN x : Int) ≤ 65536; omega), e11, ct34_iI (by omega)]
  · rw [if_neg (by rw [iI_lit 0, iI_lt (by decide) (by decide) (by omega) (by omega)]; show ¬ (0 : Int) < yN x; omega), if_neg h]
    have h0 : yN x = 0 := by omega
    rw [h0]
    rfl
theorem sh_k : ∀ k : Nat, k < 32 → (((iI (k : Int)).toUInt32 &&& Int32.toUInt32 31).toBitVec % 32).toNat = k := by decide +kernel
theorem ct62_lt {a b : Nat} (h : a ≤ 16) : ct62 a b ≤ b + 4 := by
  unfold ct62
  rw [Nat.shiftRight_eq_div_pow, Nat.shiftRight_eq_div_pow, Nat.shiftRight_eq_div_pow]
  split <;> omega
theorem ct49_lt {a b : Nat} (h : a ≤ 256) : ct49 a b ≤ b + 8 := by
  unfold ct49
  split
  · have := ct62_lt (a := a) (b := b) (by omega)
    omega
  · have h2 : a >>> 4 ≤ 16 := by rw [Nat.shiftRight_eq_div_pow]; omega
    have := ct62_lt (b := b + 4) h2
    omega
theorem ctN_lt {x : Nat} (hx : x < 32768) : ctN x < 32 := by
  unfold ctN
  have hy : yN x ≤ x - 1 := Nat.and_le_right
  split
  · unfold ct34
    split
    · have := ct49_lt (a := yN x) (b := 1) (by omega)
      omega
    · have h2 : yN x >>> 8 ≤ 256 := by rw [Nat.shiftRight_eq_div_pow]; omega
      have := ct49_lt (b := 1 + 8) h2
      omega
  · omega
theorem next_iI {x : Nat} (hx0 : 1 ≤ x) (hx : x < 32768) : fX7_nextOfSameSize (iI (x : Int)) = iI ((nxN x : Nat) : Int) ∧ nxN x < 131072 := by
  unfold fX7_nextOfSameSize nxN
  have hl := lowN_le x
  have hxor : x ^^^ (x + lowN x) < 2 ^ 17 := Nat.xor_lt_two_pow (by omega) (by omega)
  have l2 : (x ^^^ (x + lowN x)) >>> 2 ≤ x ^^^ (x + lowN x) := by rw [Nat.shiftRight_eq_div_pow]; exact Nat.div_le_self _ _
  have l3 : (x ^^^ (x + lowN x)) >>> 2 >>> ctN x ≤ (x ^^^ (x + lowN x)) >>> 2 := by rw [Nat.shiftRight_eq_div_pow _ (ctN x)]; exact Nat.div_le_self _ _
  refine ⟨?_, Nat.or_lt_two_pow (n := 17) (by omega) (by omega)⟩
  rw [low_iI hx, ct_iI hx0 hx, iI_addN, iI_xor, ushr_iI 2 2 (by decide) (by omega), ushr_iI (iI (ctN x : Int)) (ctN x) (sh_k _ (ctN_lt hx)) (by omega), iI_or]
end GOSPER
