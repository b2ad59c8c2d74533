/-! both step alike -/
section TEXT2
def TX (L : Nat) (c : Nat → Nat) (bytes text : Nat → Int32) : Prop := L ≤ 150 ∧ ∀ i, i < L → c i < 256 ∧ bytes i = iI (c i) ∧ text i = (iI (c i)).toInt8.toInt32
def RC (kind vl : Nat) (t v : Int32) : Prop := (kind = 3 ∧ t = 0) ∨ (97 ≤ kind ∧ kind ≤ 122 ∧ t = 1 ∧ v = iI kind) ∨ (kind = 1 ∧ vl ≤ 999 ∧ t = 2 ∧ v = iI vl) ∨ (kind = 2 ∧ t = 3) ∨ (kind = 4 ∧ (t = 4 ∨ (t = 1 ∧ v = -9)))
theorem wiv {ch lo hi : Nat} (h1 : ch < 256) (h2 : lo < 256) (h3 : hi < 256) : fX7_within (iI (ch : Int)) (iI (lo : Int)) (iI (hi : Int)) = 0 ↔ ¬ iv lo hi ch = true := by
  rw [within_0 (by omega) (by omega) (by omega) (by omega) (by omega) (by omega)]
  unfold iv
  rw [decide_eq_true_iff]
  omega
theorem over_L {L lo hi : Nat} {c : Nat → Nat} {bytes text : Nat → Int32} (hx : TX L c bytes text) (hlo : lo < 256) (hhi : hi < 256) : ∀ (m i : Nat), i ≤ L → L - i < m → fX5_stepOverAll_L0 bytes (iI (L : Int)) (iI (lo : Int)) (iI (hi : Int)) m (iI (i : Int)) = some (iI ((skp c (iv lo hi) (L - i) i : Nat) : Int))
  | 0, _, _, h => absurd h (Nat.not_lt_zero _)
  | m + 1, i, hi2, hm => by
    obtain ⟨hL, hc⟩ := hx
    rw [fX5_stepOverAll_L0]
    by_cases h : L ≤ i
    · have e0 : L - i = 0 := by omega
      rw [if_pos (by rw [iI_le (by omega) (by omega) (by omega) (by omega)]; omega), e0]
      rfl
    · have e0 : L - i = (L - (i + 1)) + 1 := by omega
      obtain ⟨c1, c2, -⟩ := hc i (by omega)
      have e1 : iI (i : Int) + (1 : Int32) = iI ((i + 1 : Nat) : Int) := iI_s i
      rw [if_neg (by rw [iI_le (by omega) (by omega) (by omega) (by omega)]; omega), vg_iI (by omega) (by omega) (by omega), vg_iI (by omega) (by omega) (by omega), iI_clamp (by omega) (by omega), Int.toNat_natCast, c2, e0, skp, e1]
      have ih := over_L (lo := lo) (hi := hi) ⟨hL, hc⟩ hlo hhi m (i + 1) (by omega) (by omega)
      unfold iv at ih ⊢
      by_cases h1 : c i < lo
      · rw [if_pos (by rw [iI_lt (by omega) (by omega) (by omega) (by omega)]; omega), if_neg (by rw [decide_eq_true_iff]; omega)]
      · rw [if_neg (by rw [iI_lt (by omega) (by omega) (by omega) (by omega)]; omega)]
        by_cases h2 : hi < c i
        · rw [if_pos (by rw [iI_lt (by omega) (by omega) (by omega) (by omega)]; omega), if_neg (by rw [decide_eq_true_iff]; omega)]
        · rw [if_neg (by rw [iI_lt (by omega) (by omega) (by omega) (by omega)]; omega), if_pos (by rw [decide_eq_true_iff]; omega)]
          exact ih
theorem figs_L {L s e : Nat} {c : Nat → Nat} {bytes text : Nat → Int32} (hx : TX L c bytes text) (he : e ≤ L) (hd : ∀ j, s ≤ j → j < e → iv 48 57 (c j) = true) : ∀ (m i a : Nat), s ≤ i → i ≤ e → e - i < m → fX5_valueOfFigures_L7 bytes (iI (e : Int)) m (iI (a : Int)) (iI (i : Int)) = some (iI ((nv c (e - i) i a : Nat) : Int))
  | 0, _, _, _, _, h => absurd h (Nat.not_lt_zero _)
  | m + 1, i, a, hs, hi, hm => by
    obtain ⟨hL, hc⟩ := hx
    rw [fX5_valueOfFigures_L7]
    by_cases h : e ≤ i
    · have e0 : e - i = 0 := by omega
      rw [if_pos (by rw [iI_le (by omega) (by omega) (by omega) (by omega)]; omega), e0]
      rfl
    · have e0 : e - i = (e - (i + 1)) + 1 := by omega
      obtain ⟨c1, c2, -⟩ := hc i (by omega)
      have hdi := hd i hs (by omega)
      unfold iv at hdi
      have hdi := of_decide_eq_true hdi
      have ev : (10 : Int32) * iI (a : Int) + iI (c i : Int) - (48 : Int32) = iI ((10 * a + c i - 48 : Nat) : Int) := by
        rw [iI_lit 10, iI_lit 48, iI_mul, iI_add, iI_sub]
        congr 1
        show (10 : Int) * a + c i - 48 = _
        omega
      rw [if_neg (by rw [iI_le (by omega) (by omega) (by omega) (by omega)]; omega), vg_iI (by omega) (by omega) (by omega), iI_clamp (by omega) (by omega), Int.toNat_natCast, c2, e0, nv, ev, iI_s]
      exact figs_L ⟨hL, hc⟩ he hd m (i + 1) _ (by omega) (by omega) (by omega)
theorem step_sp {N L : Nat} {c : Nat → Nat} {bytes text : Nat → Int32} {va : Int32} (hx : TX L c bytes text) : ∀ (m i : Nat), i ≤ L → L - i < m → fX5_step_L0 N bytes (iI (L : Int)) va m (iI (i : Int)) = fX5_step_J38 N bytes (iI (L : Int)) va (iI ((skp c spc (L - i) i : Nat) : Int))
  | 0, _, _, h => absurd h (Nat.not_lt_zero _)
  | m + 1, i, hi, hm => by
    obtain ⟨hL, hc⟩ := hx
    rw [fX5_step_L0]
    by_cases h : L ≤ i
    · have e0 : L - i = 0 := by omega
      rw [if_pos (by rw [iI_le (by omega) (by omega) (by omega) (by omega)]; omega), e0]
      rfl
    · have e0 : L - i = (L - (i + 1)) + 1 := by omega
      obtain ⟨c1, c2, -⟩ := hc i (by omega)
      have e1 : iI (i : Int) + (1 : Int32) = iI ((i + 1 : Nat) : Int) := iI_s i
      rw [if_neg (by rw [iI_le (by omega) (by omega) (by omega) (by omega)]; omega), vg_iI (by omega) (by omega) (by omega), iI_clamp (by omega) (by omega), Int.toNat_natCast, c2, e0, skp, e1]
      unfold spc
      by_cases h2 : c i = 32
      · rw [if_pos (by rw [h2]; rfl), if_pos (by simp [h2])]
        exact step_sp ⟨hL, hc⟩ m (i + 1) (by omega) (by omega)
      · rw [if_neg (by rw [iI_lit 32, iI_eq (by omega) (by omega) (by decide) (by decide)]; show ¬ (c i : Int) = 32; omega), if_neg (by simp [h2])]
theorem clsStep {N L i : Nat} {c : Nat → Nat} {bytes text : Nat → Int32} (hN : 300 ≤ N) (hx : TX L c bytes text) (hi : i ≤ L) (tk bg va : Int32) : ∃ t v, fX5_step N bytes (iI (L : Int)) (iI (i : Int)) tk bg va = some (iI ((tE c L i : Nat) : Int), t, iI ((tS c L i : Nat) : Int), v) ∧ RC (tK c L i) (tV c L i) t v := by
  have hxx := hx
  obtain ⟨hL, hc⟩ := hx
  unfold fX5_step
  rw [step_sp hxx N i hi (by omega)]
  have hs := tS_le (c := c) hi
  show ∃ t v, fX5_step_J38 N bytes (iI (L : Int)) va (iI ((tS c L i : Nat) : Int)) = _ ∧ _
  unfold tV tE tK
  generalize tS c L i = s at hs ⊢
  unfold fX5_step_J38 tG
  by_cases h : L ≤ s
  · have hF : tF c L s = s := by
      unfold tF
      rw [if_pos h]
    rw [if_pos (by rw [iI_le (by omega) (by omega) (by omega) (by omega)]; omega), hF]
    unfold fX5_step_J71
    rw [if_pos rfl, if_pos h]
    exact ⟨_, _, rfl, Or.inl ⟨rfl, rfl⟩⟩
  · obtain ⟨c1, c2, -⟩ := hc s (by omega)
    have hle := (tF_le (c := c) hs.2)
    rw [if_neg (by rw [iI_le (by omega) (by omega) (by omega) (by omega)]; omega), vg_iI (by omega) (by omega) (by omega), iI_clamp (by omega) (by omega), Int.toNat_natCast, c2, if_neg h]
    unfold fX5_step_J71
    rw [if_neg (show ¬ iI (c s : Int) = (-9 : Int32) by rw [e_m9, iI_eq (by omega) (by omega) (by decide) (by decide)]; omega)]
    have hw := wiv (lo := 97) (hi := 122) c1 (by decide) (by decide)
    have hw2 := wiv (lo := 48) (hi := 57) c1 (by decide) (by decide)
    have e97 : (97 : Int32) = iI ((97 : Nat) : Int) := rfl
    have e122 : (122 : Int32) = iI ((122 : Nat) : Int) := rfl
    have e48 : (48 : Int32) = iI ((48 : Nat) : Int) := rfl
    have e57 : (57 : Int32) = iI ((57 : Nat) : Int) := rfl
    by_cases h1 : iv 97 122 (c s) = true
    · have hF : tF c L s = skp c (iv 97 122) (L - s) s := by
        unfold tF
        rw [if_neg h, if_pos h1]
      rw [e97, e122, if_neg (fun q => (hw.mp q) h1), if_pos h1]
      unfold fX5_stepOverAll
      rw [over_L hxx (by decide) (by decide) N s hs.2 (by omega), Option.bind_some, ← hF, iI_subN hle.1]
      have h1' := h1
      unfold iv at h1'
      have h1' := of_decide_eq_true h1'
      by_cases h3 : tF c L s - s = 1
      · rw [if_pos (by rw [h3]; rfl), if_pos h3]
        exact ⟨_, _, rfl, Or.inr (Or.inl ⟨h1'.1, h1'.2, rfl, rfl⟩)⟩
      · rw [if_neg (by rw [iI_lit 1, iI_eq (by omega) (by omega) (by decide) (by decide)]; show ¬ ((tF c L s - s : Nat) : Int) = 1; omega), if_neg h3]
        exact ⟨_, _, rfl, Or.inr (Or.inr (Or.inr (Or.inr ⟨rfl, Or.inr ⟨rfl, rfl⟩⟩)))⟩
    · rw [e97, e122, if_pos (hw.mpr h1), if_neg h1]
      by_cases h2 : iv 48 57 (c s) = true
      · have hF : tF c L s = skp c (iv 48 57) (L - s) s := by
          unfold tF
          rw [if_neg h, if_neg h1, if_pos h2]
        have hdig : ∀ j, s ≤ j → j < tF c L s → iv 48 57 (c j) = true := fun j a b => skp_in c (iv 48 57) (L - s) s j a (by rw [← hF]; exact b)
        have hnum := num_eq (c := c) (s := s) (k := tF c L s - s) (by omega) (fun j a b => hdig j a (by omega))
        rw [e48, e57, if_neg (fun q => (hw2.mp q) h2), if_pos h2]
        unfold fX5_stepOverAll
        rw [over_L hxx (by decide) (by decide) N s hs.2 (by omega), Option.bind_some, ← hF]
        unfold fX5_isNumber fX5_step_J169
        have hval : fX5_valueOfFigures N bytes (iI ((tF c L s : Nat) : Int)) (iI (s : Int)) = some (iI ((nv c (tF c L s - s) s 0 : Nat) : Int)) := by
          have e0 : (0 : Int32) = iI ((0 : Nat) : Int) := rfl
          unfold fX5_valueOfFigures
          rw [e0]
          exact figs_L hxx hle.2.1 hdig N s 0 (Nat.le_refl _) hle.1 (by omega)
        rw [iI_subN hle.1, hval, Option.bind_some, if_neg (show ¬ (4 : Int32) = 2 by decide), if_pos rfl]
        generalize hD : tF c L s - s = D at hnum ⊢
        have hD2 : D ≤ 150 := by omega
        by_cases h3 : D = 1
        · rw [if_pos (show iI (D : Int) = 1 by rw [h3]; rfl), if_neg z1, if_pos (Or.inl h3)]
          exact ⟨_, _, rfl, Or.inr (Or.inr (Or.inl ⟨rfl, by have := hnum.1 (Or.inl h3); omega, rfl, rfl⟩))⟩
        · rw [if_neg (show ¬ iI (D : Int) = 1 by rw [iI_lit 1, iI_eq (by omega) (by omega) (by decide) (by decide)]; show ¬ (D : Int) = 1; omega)]
          by_cases h4 : 3 < D
          · rw [if_pos (show (3 : Int32) < iI (D : Int) by rw [iI_lit 3, iI_lt (by decide) (by decide) (by omega) (by omega)]; show (3 : Int) < D; omega), if_pos rfl, if_neg (by omega)]
            exact ⟨_, _, rfl, Or.inr (Or.inr (Or.inr (Or.inr ⟨rfl, Or.inl rfl⟩)))⟩
          · rw [if_neg (show ¬ (3 : Int32) < iI (D : Int) by rw [iI_lit 3, iI_lt (by decide) (by decide) (by omega) (by omega)]; show ¬ (3 : Int) < D; omega)]
            by_cases h5 : c s = 48
            · rw [if_pos (show iI (c s : Int) = (48 : Int32) by rw [h5]; rfl), if_pos rfl, if_neg (by omega)]
              exact ⟨_, _, rfl, Or.inr (Or.inr (Or.inr (Or.inr ⟨rfl, Or.inl rfl⟩)))⟩
            · rw [if_neg (show ¬ iI (c s : Int) = (48 : Int32) by rw [e48, iI_eq (by omega) (by omega) (by omega) (by omega)]; omega), if_neg z1, if_pos (Or.inr ⟨by omega, h5⟩)]
              exact ⟨_, _, rfl, Or.inr (Or.inr (Or.inl ⟨rfl, by have := hnum.1 (Or.inr ⟨by omega, h5⟩); omega, rfl, rfl⟩))⟩
      · have hF : tF c L s = s + 1 := by
          unfold tF
          rw [if_neg h, if_neg h1, if_neg h2]
        rw [e48, e57, if_pos (hw2.mpr h2), if_neg h2, hF]
        unfold fX5_step_J208
        have e1 : iI (s : Int) + (1 : Int32) = iI ((s + 1 : Nat) : Int) := iI_s s
        rw [e1]
        by_cases h6 : c s = 59
        · rw [if_pos (by rw [h6]; rfl), if_pos h6]
          exact ⟨_, _, rfl, Or.inr (Or.inr (Or.inr (Or.inl ⟨rfl, rfl⟩)))⟩
        · rw [if_neg (by rw [iI_lit 59, iI_eq (by omega) (by omega) (by decide) (by decide)]; show ¬ (c s : Int) = 59; omega), if_neg h6]
          exact ⟨_, _, rfl, Or.inr (Or.inr (Or.inr (Or.inr ⟨rfl, Or.inl rfl⟩)))⟩
/-! the reference -/
theorem byte_dec : ∀ x : Nat, x < 256 → (iI (x : Int)).toInt8.toInt32 &&& (255 : Int32) = iI (x : Int) := by decide +kernel
def chr (c : Nat → Nat) (L i : Nat) : Int := if i < L then (c i : Int) else -1
theorem here_iI {L i : Nat} {c : Nat → Nat} {bytes text : Nat → Int32} (hx : TX L c bytes text) (hi : i ≤ L) : fX8_here text (iI (L : Int)) (iI (i : Int)) = some (iI (chr c L i)) := by
  obtain ⟨hL, hc⟩ := hx
  unfold fX8_here chr
  by_cases h : L ≤ i
  · rw [if_pos (by rw [iI_le (by omega) (by omega) (by omega) (by omega)]; omega), if_neg (by omega)]
    rfl
  · obtain ⟨c1, -, c3⟩ := hc i (by omega)
    rw [if_neg (by rw [iI_le (by omega) (by omega) (by omega) (by omega)]; omega), vg_iI (by omega) (by omega) (by omega), iI_clamp (by omega) (by omega), Int.toNat_natCast, c3, byte_dec _ c1, if_pos (by omega)]
theorem chr_lo {c : Nat → Nat} {L i : Nat} {bytes text : Nat → Int32} (hx : TX L c bytes text) : -1 ≤ chr c L i ∧ chr c L i < 256 := by
  unfold chr
  by_cases h : i < L
  · have := (hx.2 i h).1
    rw [if_pos h]
    omega
  · rw [if_neg h]
    omega
theorem wiv8 {c : Nat → Nat} {L i lo hi : Nat} {bytes text : Nat → Int32} (hx : TX L c bytes text) (hlo : lo < 256) (hhi : hi < 256) : fX8_in (iI (chr c L i)) (iI (lo : Int)) (iI (hi : Int)) = 0 ↔ ¬ (i < L ∧ iv lo hi (c i) = true) := by
  have := chr_lo (i := i) hx
  rw [in_within, within_0 (by omega) (by omega) (by omega) (by omega) (by omega) (by omega)]
  unfold iv chr
  rw [decide_eq_true_iff]
  split <;> omega
theorem step8_L63 {L s : Nat} {c : Nat → Nat} {bytes text : Nat → Int32} {q5 : Int32} (hx : TX L c bytes text) : ∀ (m i : Nat), s ≤ i → i ≤ L → L - i < m → fX8_step_L63 text (iI (L : Int)) (iI (s : Int)) q5 m (iI (i : Int)) = (if iI ((skp c (iv 97 122) (L - i) i : Nat) : Int) - iI (s : Int) = (1 : Int32) then some (iI ((skp c (iv 97 122) (L - i) i : Nat) : Int), iI (s : Int), q5, (0 : Int32)) else some (iI ((skp c (iv 97 122) (L - i) i : Nat) : Int), iI (s : Int), (4 : Int32), (0 : Int32)))
  | 0, _, _, _, h => absurd h (Nat.not_lt_zero _)
  | m + 1, i, hs, hi, hm => by
    have e97 : (97 : Int32) = iI ((97 : Nat) : Int) := rfl
    have e122 : (122 : Int32) = iI ((122 : Nat) : Int) := rfl
    have e1 : iI (i : Int) + (1 : Int32) = iI ((i + 1 : Nat) : Int) := iI_s i
    have hw := wiv8 (i := i) (lo := 97) (hi := 122) hx (by decide) (by decide)
    rw [fX8_step_L63, here_iI hx hi, Option.bind_some, e97, e122, e1]
    by_cases h : i < L ∧ iv 97 122 (c i) = true
    · have e0 : L - i = (L - (i + 1)) + 1 := by omega
      rw [if_neg (fun q => (hw.mp q) h), e0, skp, if_pos h.2]
      exact step8_L63 hx m (i + 1) (by omega) (by omega) (by omega)
    · rw [if_pos (hw.mpr h)]
      have e0 : skp c (iv 97 122) (L - i) i = i := by
        by_cases h2 : i < L
        · have e0 : L - i = (L - (i + 1)) + 1 := by omega
          rw [e0, skp, if_neg (fun q => h ⟨h2, q⟩)]
        · have e0 : L - i = 0 := by omega
          rw [e0, skp]
      rw [e0]
def fN8 (s ch e v : Nat) : Option (Int32 × Int32 × Int32 × Int32) := if 999 < v then some (iI (e : Int), iI (s : Int), 4, iI (v : Int)) else if ch = 48 then (if e - s ≤ 1 then some (iI (e : Int), iI (s : Int), 1, iI (v : Int)) else some (iI (e : Int), iI (s : Int), 4, iI (v : Int))) else some (iI (e : Int), iI (s : Int), 1, iI (v : Int))
theorem step8_L126 {L s ch : Nat} {c : Nat → Nat} {bytes text : Nat → Int32} (hx : TX L c bytes text) (hch : ch < 256) : ∀ (m i a : Nat), s ≤ i → i ≤ L → L - i < m → a < 10000 → fX8_step_L126 text (iI (L : Int)) (iI (s : Int)) (iI (ch : Int)) m (iI (i : Int)) (iI (a : Int)) = fN8 s ch (skp c (iv 48 57) (L - i) i) (nw c (skp c (iv 48 57) (L - i) i - i) i a)
  | 0, _, _, _, _, h, _ => absurd h (Nat.not_lt_zero _)
  | m + 1, i, a, hs, hi, hm, ha => by
    have e48 : (48 : Int32) = iI ((48 : Nat) : Int) := rfl
    have e57 : (57 : Int32) = iI ((57 : Nat) : Int) := rfl
    have hw := wiv8 (i := i) (lo := 48) (hi := 57) hx (by decide) (by decide)
    have hL := hx.1
    rw [fX8_step_L126, here_iI hx hi, Option.bind_some, Option.bind_some, e48, e57]
    unfold fX8_step_J173
    have e1 : iI (i : Int) + (1 : Int32) = iI ((i + 1 : Nat) : Int) := iI_s i
    rw [e1]
    by_cases h : i < L ∧ iv 48 57 (c i) = true
    · have e0 : L - i = (L - (i + 1)) + 1 := by omega
      have hge := (skp_ge c (iv 48 57) (L - (i + 1)) (i + 1)).1
      have e2 : skp c (iv 48 57) (L - (i + 1)) (i + 1) - i = (skp c (iv 48 57) (L - (i + 1)) (i + 1) - (i + 1)) + 1 := by omega
      have hd := h.2
      unfold iv at hd
      have hd := of_decide_eq_true hd
      have ev : (10 : Int32) * iI (a : Int) + iI (chr c L i) - iI ((48 : Nat) : Int) = iI ((10 * a + c i - 48 : Nat) : Int) := by
        unfold chr
        rw [if_pos h.1, iI_lit 10, iI_mul, iI_add, iI_sub]
        congr 1
        show (10 : Int) * a + c i - 48 = _
        omega
      rw [if_neg (fun q => (hw.mp q) h), e0, skp, if_pos h.2, e2, nw, ev]
      by_cases h3 : a ≤ 999
      · rw [if_pos (by rw [iI_lit 999, iI_le (by omega) (by omega) (by decide) (by decide)]; show (a : Int) ≤ 999; omega), if_pos h3]
        exact step8_L126 hx hch m (i + 1) _ (by omega) (by omega) (by omega) (by omega)
      · rw [if_neg (by rw [iI_lit 999, iI_le (by omega) (by omega) (by decide) (by decide)]; show ¬ (a : Int) ≤ 999; omega), if_neg h3]
        exact step8_L126 hx hch m (i + 1) _ (by omega) (by omega) (by omega) ha
    · rw [if_pos (hw.mpr h)]
      have e0 : skp c (iv 48 57) (L - i) i = i := by
        by_cases h2 : i < L
        · have e0 : L - i = (L - (i + 1)) + 1 := by omega
          rw [e0, skp, if_neg (fun q => h ⟨h2, q⟩)]
        · have e0 : L - i = 0 := by omega
          rw [e0, skp]
      rw [e0, Nat.sub_self, nw, iI_subN hs]
      unfold fN8
      by_cases h3 : 999 < a
      · rw [if_pos (by rw [iI_lit 999, iI_lt (by decide) (by decide) (by omega) (by omega)]; show (999 : Int) < a; omega), if_pos h3]
      · rw [if_neg (by rw [iI_lit 999, iI_lt (by decide) (by decide) (by omega) (by omega)]; show ¬ (999 : Int) < a; omega), if_neg h3]
        by_cases h4 : ch = 48
        · rw [if_pos (show iI (ch : Int) = iI ((48 : Nat) : Int) by rw [h4]), if_pos h4]
          by_cases h5 : i - s ≤ 1
          · rw [if_pos (by rw [iI_lit 1, iI_le (by omega) (by omega) (by decide) (by decide)]; show ((i - s : Nat) : Int) ≤ 1; omega), if_pos h5]
          · rw [if_neg (by rw [iI_lit 1, iI_le (by omega) (by omega) (by decide) (by decide)]; show ¬ ((i - s : Nat) : Int) ≤ 1; omega), if_neg h5]
        · rw [if_neg (show ¬ iI (ch : Int) = iI ((48 : Nat) : Int) by rw [iI_eq (by omega) (by omega) (by omega) (by omega)]; omega), if_neg h4]
def TS (c : Nat → Nat) (L i : Nat) (at' st so va : Int32) : Prop := at' = iI ((tE c L i : Nat) : Int) ∧ st = iI ((tS c L i : Nat) : Int) ∧ so = iI ((tK c L i : Nat) : Int) ∧ (tK c L i = 1 → va = iI ((tV c L i : Nat) : Int))
theorem mdlStep_L {N L : Nat} {c : Nat → Nat} {bytes text : Nat → Int32} (hN : 300 ≤ N) (hx : TX L c bytes text) : ∀ (m i : Nat), i ≤ L → L - i < m → ∃ at' st so va, fX8_step_L0 N text (iI (L : Int)) m (iI (i : Int)) = some (at', st, so, va) ∧ at' = iI ((tF c L (skp c spc (L - i) i) : Nat) : Int) ∧ st = iI ((skp c spc (L - i) i : Nat) : Int) ∧ so = iI ((tG c L (skp c spc (L - i) i) : Nat) : Int) ∧ (tG c L (skp c spc (L - i) i) = 1 → va = iI ((nv c (tF c L (skp c spc (L - i) i) - skp c spc (L - i) i) (skp c spc (L - i) i) 0 : Nat) : Int))
  | 0, _, _, h => absurd h (Nat.not_lt_zero _)
  | m + 1, i, hi, hm => by
    have hxx := hx
    obtain ⟨hL, hc⟩ := hx
    have hch := chr_lo (i := i) hxx
    have e1 : iI (i : Int) + (1 : Int32) = iI ((i + 1 : Nat) : Int) := iI_s i
    rw [fX8_step_L0, here_iI hxx hi, Option.bind_some, Option.bind_some, e1]
    by_cases h : i < L ∧ c i = 32
    · have e0 : L - i = (L - (i + 1)) + 1 := by omega
      have hs : spc (c i) = true := by
        unfold spc
        simp [h.2]
      rw [if_pos (by unfold chr; rw [if_pos h.1, h.2]; rfl), e0, skp, if_pos hs]
      exact mdlStep_L hN hxx m (i + 1) (by omega) (by omega)
    · have hne : ¬ iI (chr c L i) = (32 : Int32) := by
        rw [iI_lit 32, iI_eq (by omega) (by omega) (by decide) (by decide)]
        show ¬ chr c L i = 32
        unfold chr
        split <;> omega
      have e0 : skp c spc (L - i) i = i := by
        by_cases h2 : i < L
        · have e0 : L - i = (L - (i + 1)) + 1 := by omega
          rw [e0, skp, if_neg (fun q => h ⟨h2, by unfold spc at q; exact of_decide_eq_true q⟩)]
        · have e0 : L - i = 0 := by omega
          rw [e0, skp]
      rw [if_neg hne, e0]
      unfold tG
      by_cases hLi : L ≤ i
      · have hc1 : chr c L i = -1 := by
          unfold chr
          rw [if_neg (by omega)]
        have hF : tF c L i = i := by
          unfold tF
          rw [if_pos hLi]
        rw [hc1, if_neg (by decide), hF, if_pos hLi]
        exact ⟨_, _, _, _, rfl, rfl, rfl, rfl, fun q => absurd q (by decide)⟩
      · have hc1 : chr c L i = (c i : Int) := by
          unfold chr
          rw [if_pos (by omega)]
        obtain ⟨cb, -, -⟩ := hc i (by omega)
        have hw := wiv8 (i := i) (lo := 97) (hi := 122) hxx (by decide) (by decide)
        have hw2 := wiv8 (i := i) (lo := 48) (hi := 57) hxx (by decide) (by decide)
        have e97 : (97 : Int32) = iI ((97 : Nat) : Int) := rfl
        have e122 : (122 : Int32) = iI ((122 : Nat) : Int) := rfl
        have e48 : (48 : Int32) = iI ((48 : Nat) : Int) := rfl
        have e57 : (57 : Int32) = iI ((57 : Nat) : Int) := rfl
        have hle := tF_le (c := c) hi
        rw [if_pos (by rw [hc1, iI_lit 0, iI_le (by decide) (by decide) (by omega) (by omega)]; show (0 : Int) ≤ c i; omega), if_neg hLi, e97, e122, e48, e57]
        by_cases h1 : iv 97 122 (c i) = true
        · have hF : tF c L i = skp c (iv 97 122) (L - i) i := by
            unfold tF
            rw [if_neg hLi, if_pos h1]
          have h1' := h1
          unfold iv at h1'
          have h1' := of_decide_eq_true h1'
          rw [if_neg (fun q => (hw.mp q) ⟨by omega, h1⟩), step8_L63 hxx N i (Nat.le_refl _) hi (by omega), ← hF, iI_subN hle.1, if_pos h1]
          by_cases h3 : tF c L i - i = 1
          · rw [if_pos (by rw [h3]; rfl), if_pos h3, hc1]
            exact ⟨_, _, _, _, rfl, rfl, rfl, rfl, fun q => by omega⟩
          · rw [if_neg (by rw [iI_lit 1, iI_eq (by omega) (by omega) (by decide) (by decide)]; show ¬ ((tF c L i - i : Nat) : Int) = 1; omega), if_neg h3]
            exact ⟨_, _, _, _, rfl, rfl, rfl, rfl, fun q => absurd q (by decide)⟩
        · rw [if_pos (hw.mpr (fun q => h1 q.2)), if_neg h1]
          by_cases h2 : iv 48 57 (c i) = true
          · have hF : tF c L i = skp c (iv 48 57) (L - i) i := by
              unfold tF
              rw [if_neg hLi, if_neg h1, if_pos h2]
            have hdig : ∀ j, i ≤ j → j < tF c L i → iv 48 57 (c j) = true := fun j a b => skp_in c (iv 48 57) (L - i) i j a (by rw [← hF]; exact b)
            have hnum := num_eq (c := c) (s := i) (k := tF c L i - i) (by omega) (fun j a b => hdig j a (by omega))
            have ez : (0 : Int32) = iI ((0 : Nat) : Int) := rfl
            rw [if_neg (fun q => (hw2.mp q) ⟨by omega, h2⟩), hc1, ez, step8_L126 hxx cb N i 0 (Nat.le_refl _) hi (by omega) (by decide), ← hF, if_pos h2]
            unfold fN8
            by_cases hok : tF c L i - i = 1 ∨ (tF c L i - i ≤ 3 ∧ c i ≠ 48)
            · obtain ⟨n1, n2⟩ := hnum.1 hok
              rw [if_neg (by omega), if_pos hok]
              by_cases h48 : c i = 48
              · rw [if_pos h48, if_pos (by omega), n1]
                exact ⟨_, _, _, _, rfl, rfl, rfl, rfl, fun _ => rfl⟩
              · rw [if_neg h48, n1]
                exact ⟨_, _, _, _, rfl, rfl, rfl, rfl, fun _ => rfl⟩
            · have n1 := hnum.2 hok
              rw [if_neg hok]
              by_cases h9 : 999 < nw c (tF c L i - i) i 0
              · rw [if_pos h9]
                exact ⟨_, _, _, _, rfl, rfl, rfl, rfl, fun q => absurd q (by decide)⟩
              · have h48 : c i = 48 := by omega
                rw [if_neg h9, if_pos h48, if_neg (by omega)]
                exact ⟨_, _, _, _, rfl, rfl, rfl, rfl, fun q => absurd q (by decide)⟩
          · have hF : tF c L i = i + 1 := by
              unfold tF
              rw [if_neg hLi, if_neg h1, if_neg h2]
            rw [if_pos (hw2.mpr (fun q => h2 q.2)), if_neg h2, hF, hc1]
            by_cases h6 : c i = 59
            · rw [if_pos (by rw [h6]; rfl), if_pos h6]
              exact ⟨_, _, _, _, rfl, rfl, rfl, rfl, fun q => absurd q (by decide)⟩
            · rw [if_neg (by rw [iI_lit 59, iI_eq (by omega) (by omega) (by decide) (by decide)]; show ¬ (c i : Int) = 59; omega), if_neg h6]
              exact ⟨_, _, _, _, rfl, rfl, rfl, rfl, fun q => absurd q (by decide)⟩
theorem mdlStep {N L i : Nat} {c : Nat → Nat} {bytes text : Nat → Int32} (hN : 300 ≤ N) (hx : TX L c bytes text) (hi : i ≤ L) (st so va : Int32) : ∃ at' st' so' va', fX8_step N text (iI (L : Int)) (iI (i : Int)) st so va = some (at', st', so', va') ∧ TS c L i at' st' so' va' := by
  have hL := hx.1
  exact mdlStep_L hN hx N i hi (by omega)
end TEXT2
