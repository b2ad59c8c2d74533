/-! what the books tell, in whole numbers -/
section SPEC
def fg (F i : Nat) : Nat := F / 4 ^ i % 4
def car (x y : Nat) : Nat := (if 10 ≤ x % 10 + y % 10 then 1 else 0) + (if 10 ≤ x / 10 % 10 + y / 10 % 10 + (if 10 ≤ x % 10 + y % 10 then 1 else 0) then 2 else 0)
def wri (x y f : Nat) : Int := (x : Int) + y - 10 * ((f % 2 : Nat) : Int) - 100 * ((f / 2 : Nat) : Int)
def tnI (v : Int) : Nat := if 0 ≤ v then (v / 10 % 10).toNat else 0
theorem fg_lt (F i : Nat) : fg F i < 4 := Nat.mod_lt _ (by decide)
theorem car_lt (x y : Nat) : car x y < 4 := by
  unfold car
  split <;> split <;> omega
theorem within_iI {a b c : Int} (ha : -2147483648 ≤ a) (ha2 : a < 2147483648) (hb : -2147483648 ≤ b) (hb2 : b < 2147483648) (hc : -2147483648 ≤ c) (hc2 : c < 2147483648) : fX7_within (iI a) (iI b) (iI c) = if b ≤ a ∧ a ≤ c then 1 else 0 := by
  unfold fX7_within
  simp only [iI_lt ha ha2 hb hb2, iI_lt hc hc2 ha ha2]
  by_cases h1 : a < b
  · rw [if_pos h1, if_neg (by omega)]
  · rw [if_neg h1]
    by_cases h2 : c < a
    · rw [if_pos h2, if_neg (by omega)]
    · rw [if_neg h2, if_pos (by omega)]
theorem within_0 {a b c : Int} (ha : -2147483648 ≤ a) (ha2 : a < 2147483648) (hb : -2147483648 ≤ b) (hb2 : b < 2147483648) (hc : -2147483648 ≤ c) (hc2 : c < 2147483648) : fX7_within (iI a) (iI b) (iI c) = 0 ↔ ¬ (b ≤ a ∧ a ≤ c) := by
  rw [within_iI ha ha2 hb hb2 hc hc2]
  by_cases h : b ≤ a ∧ a ≤ c
  · rw [if_pos h]
    simp [h]
  · rw [if_neg h]
    simp [h]
theorem in_within : fX8_in = fX7_within := rfl
theorem forgottenIn_iI {F b : Nat} (hF : F < 4096) (hb : b < 6) : fX3_forgottenIn (iI F) (iI b) = iI (fg F b) := by
  unfold fX3_forgottenIn fg
  have e : (2 : Int32) * iI b = iI ((2 * b : Nat) : Int) := by
    rw [iI_lit, iI_mul]
    congr 1
  rw [e, iI_shr (by omega) (by omega), iI_lit 3]
  have e2 : iI (((F / 2 ^ (2 * b) : Nat)) : Int) &&& iI (3 : Int) = iI ((F / 2 ^ (2 * b) &&& 3 : Nat) : Int) := iI_and _ 3
  have e3 : F / 2 ^ (2 * b) &&& 3 = F / 4 ^ b % 4 := by
    rw [show (3 : Nat) = 2 ^ 2 - 1 from rfl, Nat.and_two_pow_sub_one_eq_mod, Nat.pow_mul]
  rw [← e3]
  exact e2
theorem f_and1 : ∀ f : Nat, f < 4 → iI (f : Int) &&& (1 : Int32) = iI ((f % 2 : Nat) : Int) := by decide +kernel
theorem f_shr1 : ∀ f : Nat, f < 4 → iI (f : Int) >>> ((1 : Int32) &&& 31) = iI ((f / 2 : Nat) : Int) := by decide +kernel
theorem sum_iI {a b : Nat → Int32} {k x y : Nat} (hk : k < 6) (ha : a k = iI x) (hb : b k = iI y) : fX0_sum a b (iI k) = some (iI (x + y)) := by
  unfold fX0_sum
  rw [iI_clamp (by omega) (by omega), vg_iI (by omega) (by omega) (by omega), vg_iI (by omega) (by omega) (by omega)]
  simp only [Int.toNat_natCast, ha, hb, iI_add]
theorem carries_iI {a b : Nat → Int32} {k x y : Nat} (hk : k < 6) (ha : a k = iI x) (hb : b k = iI y) (hx : x ≤ 999) (hy : y ≤ 999) : fX0_carries a b (iI k) = some (iI (car x y)) := by
  unfold fX0_carries fX0_carries_J29 car
  simp only [iI_clamp (show (0 : Int) ≤ (k : Int) by omega) (by omega), vg_iI (show (0 : Int) ≤ (k : Int) by omega) (show (k : Int) < ((6 : Nat) : Int) by omega) (by omega), Int.toNat_natCast, ha, hb]
  simp (disch := omega) only [iI_lit, iI_div, iI_mul, iI_sub, iI_add, iI_lt]
  by_cases h1 : 10 ≤ x % 10 + y % 10
  · rw [if_neg (by omega)]
    simp only [if_pos h1]
    by_cases h2 : 10 ≤ x / 10 % 10 + y / 10 % 10 + 1
    · rw [if_neg (by omega), if_pos h2]
      rfl
    · rw [if_pos (by omega), if_neg h2]
      rfl
  · rw [if_pos (by omega)]
    simp only [if_neg h1]
    by_cases h2 : 10 ≤ x / 10 % 10 + y / 10 % 10 + 0
    · rw [if_neg (by omega), if_pos h2]
      rfl
    · rw [if_pos (by omega), if_neg h2]
      rfl
theorem written_iI {a b : Nat → Int32} {F k x y : Nat} (hF : F < 4096) (hk : k < 6) (ha : a k = iI x) (hb : b k = iI y) : fX7_written a b (iI F) (iI k) = some (iI (wri x y (fg F k))) := by
  unfold fX7_written wri
  rw [sum_iI hk ha hb, forgottenIn_iI hF hk, f_and1 _ (fg_lt F k), f_shr1 _ (fg_lt F k)]
  simp only [Option.bind_some, iI_lit, iI_mul, iI_sub]
theorem shown_iI {a b : Nat → Int32} {F k x y : Nat} {o : Int} (hF : F < 4096) (hk : k < 6) (ha : a k = iI x) (hb : b k = iI y) (ho : -10 < o) (ho2 : o < 10) : fX7_shown a b (iI F) (iI o) (iI k) = some (iI (wri x y (fg F k) + if o = k then 10 else 0)) := by
  unfold fX7_shown
  rw [written_iI hF hk ha hb]
  by_cases h : o = k
  · rw [if_pos (by rw [h]), if_pos h]
    simp only [Option.bind_some, iI_lit, iI_add]
  · rw [if_neg (by rw [iI_eq (by omega) (by omega) (by omega) (by omega)]; exact h), if_neg h]
    simp only [Option.bind_some, Int.add_zero]
theorem tensOf_iI {v : Int} (h1 : -100000 ≤ v) (h2 : v ≤ 100000) : fX7_tensOf (iI v) = iI (tnI v) := by
  unfold fX7_tensOf tnI
  have e : (0 : Int32) ≤ iI v ↔ (0 : Int) ≤ v := by
    rw [iI_lit 0]
    exact iI_le (by decide) (by decide) (by omega) (by omega)
  by_cases h : (0 : Int) ≤ v
  · rw [if_pos (e.mpr h), if_pos h]
    simp (disch := omega) only [iI_lit, iI_div, iI_mul, iI_sub]
    congr 1
    omega
  · rw [if_neg (fun q => h (e.mp q)), if_neg h]
    rfl
/-! the same of the reference -/
theorem figure0_iI {N : Nat} {v : Int} (hN : 10 ≤ N) (h1 : 0 ≤ v) (h2 : v ≤ 100000) : fX8_figure N (iI v) 0 = some (iI (v % 10)) := by
  obtain ⟨n, rfl⟩ : ∃ n, N = n + 1 := ⟨N - 1, by omega⟩
  unfold fX8_figure
  rw [fX8_figure_L4, if_pos (by decide)]
  simp (disch := omega) only [iI_lit, iI_div, iI_mul, iI_sub]
  congr 2
  omega
theorem figure1_iI {N : Nat} {v : Int} (hN : 10 ≤ N) (h1 : 0 ≤ v) (h2 : v ≤ 100000) : fX8_figure N (iI v) 1 = some (iI (v / 10 % 10)) := by
  obtain ⟨n, rfl⟩ : ∃ n, N = n + 2 := ⟨N - 2, by omega⟩
  unfold fX8_figure
  rw [fX8_figure_L4, if_neg (by decide), fX8_figure_L4, if_pos (by decide)]
  simp (disch := omega) only [iI_lit, iI_div, iI_mul, iI_sub]
  congr 2
  omega
theorem figure2_iI {N : Nat} {v : Int} (hN : 10 ≤ N) (h1 : 0 ≤ v) (h2 : v ≤ 100000) : fX8_figure N (iI v) 2 = some (iI (v / 100 % 10)) := by
  obtain ⟨n, rfl⟩ : ∃ n, N = n + 3 := ⟨N - 3, by omega⟩
  unfold fX8_figure
  rw [fX8_figure_L4, if_neg (by decide), fX8_figure_L4, if_neg (by decide), fX8_figure_L4, if_pos (by decide)]
  simp (disch := omega) only [iI_lit, iI_div, iI_mul, iI_sub]
  congr 2
  omega
theorem sum8_iI {a b : Nat → Int32} {k x y : Nat} (hk : k < 6) (ha : a k = iI x) (hb : b k = iI y) : fX8_sum a b (iI k) = some (iI (x + y)) := by
  unfold fX8_sum
  rw [iI_clamp (by omega) (by omega), vg_iI (by omega) (by omega) (by omega), vg_iI (by omega) (by omega) (by omega)]
  simp only [Int.toNat_natCast, ha, hb, iI_add]
theorem carries8_iI {N : Nat} {a b : Nat → Int32} {k x y : Nat} (hN : 10 ≤ N) (hk : k < 6) (ha : a k = iI x) (hb : b k = iI y) (hx : x ≤ 999) (hy : y ≤ 999) : fX8_carries N a b (iI k) = some (iI (car x y)) := by
  unfold fX8_carries fX8_carries_J31 car
  simp only [iI_clamp (show (0 : Int) ≤ (k : Int) by omega) (by omega), vg_iI (show (0 : Int) ≤ (k : Int) by omega) (show (k : Int) < ((12 : Nat) : Int) by omega) (by omega), Int.toNat_natCast, ha, hb, figure0_iI hN (show (0 : Int) ≤ (x : Int) by omega) (by omega), figure0_iI hN (show (0 : Int) ≤ (y : Int) by omega) (by omega), figure1_iI hN (show (0 : Int) ≤ (x : Int) by omega) (by omega), figure1_iI hN (show (0 : Int) ≤ (y : Int) by omega) (by omega), Option.bind_some]
  simp (disch := omega) only [iI_lit, iI_add, iI_lt]
  by_cases h1 : 10 ≤ x % 10 + y % 10
  · rw [if_neg (by omega)]
    simp only [if_pos h1]
    by_cases h2 : 10 ≤ x / 10 % 10 + y / 10 % 10 + 1
    · rw [if_neg (by omega), if_pos h2]
      rfl
    · rw [if_pos (by omega), if_neg h2]
      rfl
  · rw [if_pos (by omega)]
    simp only [if_neg h1]
    by_cases h2 : 10 ≤ x / 10 % 10 + y / 10 % 10 + 0
    · rw [if_neg (by omega), if_pos h2]
      rfl
    · rw [if_pos (by omega), if_neg h2]
      rfl
theorem written8_iI {a b g : Nat → Int32} {f k x y : Nat} (hf : f < 4) (hk : k < 6) (ha : a k = iI x) (hb : b k = iI y) (hg : g k = iI f) : fX8_written a b g (iI k) = some (iI (wri x y f)) := by
  unfold fX8_written wri
  have e : (0 : Int32) + iI k = iI k := by rw [iI_lit, iI_add]; congr 1; exact Int.zero_add _
  rw [sum8_iI hk ha hb, e, iI_clamp (by omega) (by omega), vg_iI (by omega) (by omega) (by omega)]
  simp only [Int.toNat_natCast, hg, Option.bind_some]
  rw [f_and1 _ hf, f_shr1 _ hf]
  simp only [iI_lit, iI_mul, iI_sub]
theorem shown8_iI {a b g : Nat → Int32} {f k x y : Nat} {o : Int} (hf : f < 4) (hk : k < 6) (ha : a k = iI x) (hb : b k = iI y) (hg : g k = iI f) (hgo : g 13 = iI o) (ho : -10 < o) (ho2 : o < 10) : fX8_shown a b g (iI k) = some (iI (wri x y f + if o = k then 10 else 0)) := by
  unfold fX8_shown
  rw [written8_iI hf hk ha hb hg]
  have e13 : (13 : Int32).toNatClampNeg = 13 := by decide
  rw [e13, hgo]
  by_cases h : o = k
  · simp only [Option.bind_some]
    rw [if_pos (by rw [h]), if_pos h]
    simp only [iI_lit, iI_add]
  · simp only [Option.bind_some]
    rw [if_neg (by rw [iI_eq (by omega) (by omega) (by omega) (by omega)]; exact h), if_neg h]
    simp only [iI_lit, iI_add]
theorem tens8_iI {N : Nat} {v : Int} (hN : 10 ≤ N) (h1 : -100000 ≤ v) (h2 : v ≤ 100000) : fX8_tens N (iI v) = some (iI (tnI v)) := by
  unfold fX8_tens tnI
  have e : (0 : Int32) ≤ iI v ↔ (0 : Int) ≤ v := by
    rw [iI_lit 0]
    exact iI_le (by decide) (by decide) (by omega) (by omega)
  by_cases h : (0 : Int) ≤ v
  · rw [if_pos (e.mpr h), if_pos h, figure1_iI hN h h2]
    simp only [Option.bind_some]
    congr 2
    omega
  · rw [if_neg (fun q => h (e.mp q)), if_neg h]
    rfl
theorem wri_lo {x y f : Nat} (hf : f < 4) : -110 ≤ wri x y f := by
  unfold wri
  omega
theorem wri_hi {x y f : Nat} (hx : x ≤ 999) (hy : y ≤ 999) : wri x y f ≤ 1998 := by
  unfold wri
  omega
theorem tnI_lt (v : Int) : tnI v < 10 := by
  unfold tnI
  split <;> omega
end SPEC
