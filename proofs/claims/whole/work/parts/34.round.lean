/-! rounds; whether it ever comes; sets of starts -/
section ROUND
theorem gon_s (g : Nat → Nat) : ∀ d b, gon g (d + 1) b = g (gon g d b)
  | 0, b => rfl
  | d + 1, b => gon_s g d (g b)
theorem gon_add (g : Nat → Nat) : ∀ d e b, gon g (d + e) b = gon g d (gon g e b)
  | d, 0, b => rfl
  | d, e + 1, b => gon_add g d e (g b)
theorem gon_comm (g : Nat → Nat) (a b x : Nat) : gon g a (gon g b x) = gon g b (gon g a x) := by
  rw [← gon_add, ← gon_add, Nat.add_comm]
theorem pigeon : ∀ (n : Nat) (f : Nat → Nat), (∀ i, i ≤ n → f i < n) → ∃ i j, i < j ∧ j ≤ n ∧ f i = f j
  | 0, f, h => absurd (h 0 (Nat.le_refl _)) (Nat.not_lt_zero _)
  | n + 1, f, h => by
    by_cases hx : ∃ i, i ≤ n ∧ f i = f (n + 1)
    · obtain ⟨i, hi, e⟩ := hx
      exact ⟨i, n + 1, by omega, Nat.le_refl _, e⟩
    · have hne : ∀ i, i ≤ n → f i ≠ f (n + 1) := fun i hi e => hx ⟨i, hi, e⟩
      have hv := h (n + 1) (Nat.le_refl _)
      obtain ⟨i, j, hij, hj, e⟩ := pigeon n (fun i => if f i = n then f (n + 1) else f i) (fun i hi => by
        show (if f i = n then f (n + 1) else f i) < n
        have h1 := h i (by omega)
        have h2 := hne i hi
        split <;> omega)
      refine ⟨i, j, hij, by omega, ?_⟩
      have h1 := hne i (by omega)
      have h2 := hne j hj
      have e' : (if f i = n then f (n + 1) else f i) = (if f j = n then f (n + 1) else f j) := e
      split at e' <;> split at e' <;> omega
/-- t and l are the days till the round, and how many it has -/
def isR (g : Nat → Nat) (s t l : Nat) : Prop := t ≤ 5 ∧ 1 ≤ l ∧ l ≤ 6 ∧ gon g l (gon g t s) = gon g t s ∧ (∀ l', 1 ≤ l' → l' < l → gon g l' (gon g t s) ≠ gon g t s) ∧ ∀ t', t' < t → ∀ l', 1 ≤ l' → l' ≤ 6 → gon g l' (gon g t' s) ≠ gon g t' s
theorem isR_ex {g : Nat → Nat} {n s : Nat} (hn : n ≤ 6) (hg : ∀ b, b < n → g b < n) (hs : s < n) : ∃ t l, isR g s t l := by
  have hP : ∃ t, t ≤ 5 ∧ ∃ l, 1 ≤ l ∧ l ≤ 6 ∧ gon g l (gon g t s) = gon g t s := by
    obtain ⟨i, j, hij, hj, e⟩ := pigeon 6 (fun i => gon g i s) (fun i _ => Nat.lt_of_lt_of_le (gon_lt hg i s hs) hn)
    refine ⟨i, by omega, j - i, by omega, by omega, ?_⟩
    rw [← gon_add, show j - i + i = j by omega]
    exact e.symm
  obtain ⟨t, ⟨ht, hl⟩, hmin⟩ := pk_least (fun t => t ≤ 5 ∧ ∃ l, 1 ≤ l ∧ l ≤ 6 ∧ gon g l (gon g t s) = gon g t s) hP
  obtain ⟨l, ⟨h1, h2, h3⟩, hlm⟩ := pk_least (fun l => 1 ≤ l ∧ l ≤ 6 ∧ gon g l (gon g t s) = gon g t s) hl
  refine ⟨t, l, ht, h1, h2, h3, fun l' a b c => hlm l' b ⟨a, by omega, c⟩, fun t' a l' b c d => hmin t' a ⟨by omega, l', b, c, d⟩⟩
theorem gon_mul {g : Nat → Nat} {x l : Nat} (h : gon g l x = x) : ∀ k, gon g (k * l) x = x
  | 0 => by rw [Nat.zero_mul]; rfl
  | k + 1 => by rw [Nat.succ_mul, gon_add, h]; exact gon_mul h k
theorem gon_back {g : Nat → Nat} {x l k q : Nat} (hl : 1 ≤ l) (h : gon g l x = x) (hq : gon g q (gon g k x) = gon g k x) : gon g q x = x := by
  have h1 : k ≤ k * l := by
    have := Nat.mul_le_mul_left k hl
    omega
  have e : gon g (k * l - k) (gon g k x) = x := by
    rw [← gon_add, show k * l - k + k = k * l by omega]
    exact gon_mul h k
  calc gon g q x = gon g q (gon g (k * l - k) (gon g k x)) := by rw [e]
    _ = gon g (k * l - k) (gon g q (gon g k x)) := gon_comm g _ _ _
    _ = gon g (k * l - k) (gon g k x) := by rw [hq]
    _ = x := e
/-- the class: the length of the round, from where it is behind six days -/
theorem lengthOfRound_L {N : Nat} {rk : Nat → Int32} {r t : Nat → Nat} {n T R y l : Nat} (hN : 10 ≤ N) (hn : n ≤ 6) (hT : T < 32768) (hR : R < 64) (hr : ∀ i, i < n → rk i = iI (r i)) (hk : RK r t n) (hy : y < n) (hl : 1 ≤ l) (hl6 : l ≤ 6) (h1 : gon (go t T R n) l y = y) (h2 : ∀ l', 1 ≤ l' → l' < l → gon (go t T R n) l' y ≠ y) : ∀ (m i : Nat), 1 ≤ i → i ≤ l → l - i < m → fX6_lengthOfRound_L20 N rk (iI n) (iI R) (iI T) (iI y) m (iI ((gon (go t T R n) i y : Nat) : Int)) (iI i) = some (iI l)
  | 0, i, _, _, h => absurd h (Nat.not_lt_zero _)
  | m + 1, i, hi1, hi, hm => by
    have hlt : gon (go t T R n) i y < n := gon_lt (fun b hb => go_lt hb) i y hy
    rw [fX6_lengthOfRound_L20]
    by_cases h : i = l
    · subst h
      rw [h1, if_pos rfl]
    · have hne := h2 i hi1 (by omega)
      rw [if_neg (by rw [iI_eq (by omega) (by omega) (by omega) (by omega)]; omega)]
      rw [if_neg (by rw [iI_lit 6, iI_le (by decide) (by decide) (by omega) (by omega)]; show ¬ (6 : Int) ≤ i; omega)]
      rw [goesTo_iI hN hn hT hR hlt hr hk, Option.bind_some, iI_s, ← gon_s (go t T R n) i y]
      exact lengthOfRound_L hN hn hT hR hr hk hy hl hl6 h1 h2 m (i + 1) (by omega) (by omega) (by omega)
theorem isR_six {g : Nat → Nat} {s t l : Nat} (h : isR g s t l) : gon g l (gon g 6 s) = gon g 6 s ∧ ∀ l', 1 ≤ l' → l' < l → gon g l' (gon g 6 s) ≠ gon g 6 s := by
  obtain ⟨h1, h2, h3, h4, h5, h6⟩ := h
  have e : gon g 6 s = gon g (6 - t) (gon g t s) := by rw [← gon_add, show 6 - t + t = 6 by omega]
  constructor
  · rw [e, ← gon_add, Nat.add_comm, gon_add, h4]
  · intro l' a b c
    rw [e] at c
    exact h5 l' a b (gon_back h2 h4 c)
theorem lengthOfRound_iI {N : Nat} {rk : Nat → Int32} {r t : Nat → Nat} {n T R s d l : Nat} (hN : 300 ≤ N) (hn : n ≤ 6) (hT : T < 32768) (hR : R < 64) (hr : ∀ i, i < n → rk i = iI (r i)) (hk : RK r t n) (hs : s < n) (h : isR (go t T R n) s d l) : fX6_lengthOfRound N rk (iI n) (iI R) (iI s) (iI T) = some (iI l) := by
  unfold fX6_lengthOfRound
  have hy : gon (go t T R n) 6 s < n := gon_lt (fun b hb => go_lt hb) 6 s hs
  have e6 : (6 : Int32) = iI ((6 : Nat) : Int) := rfl
  have e1 : (1 : Int32) = iI ((1 : Nat) : Int) := rfl
  rw [e6, walk_iI hN hn hT hR hr hk (by omega) hs, Option.bind_some, goesTo_iI (by omega) hn hT hR hy hr hk, Option.bind_some, e1]
  obtain ⟨q1, q2⟩ := isR_six h
  exact lengthOfRound_L (by omega) hn hT hR hr hk hy h.2.1 h.2.2.1 q1 q2 N 1 (Nat.le_refl _) h.2.1 (by have := h.2.2.1; omega)
theorem daysToRound_L {N : Nat} {rk : Nat → Int32} {r t : Nat → Nat} {n T R s d l : Nat} (hN : 10 ≤ N) (hn : n ≤ 6) (hT : T < 32768) (hR : R < 64) (hr : ∀ i, i < n → rk i = iI (r i)) (hk : RK r t n) (hs : s < n) (h : isR (go t T R n) s d l) : ∀ (m i : Nat), i ≤ d → d - i < m → fX6_daysToRound_L15 N rk (iI n) (iI R) (iI T) m (iI ((gon (go t T R n) i s : Nat) : Int)) (iI ((gon (go t T R n) (i + l) s : Nat) : Int)) (iI i) = some (iI d)
  | 0, i, _, h => absurd h (Nat.not_lt_zero _)
  | m + 1, i, hi, hm => by
    obtain ⟨h1, h2, h3, h4, h5, h6⟩ := id h
    have hlt : gon (go t T R n) i s < n := gon_lt (fun b hb => go_lt hb) i s hs
    have hlt2 : gon (go t T R n) (i + l) s < n := gon_lt (fun b hb => go_lt hb) (i + l) s hs
    rw [fX6_daysToRound_L15]
    by_cases hd : i = d
    · subst hd
      rw [Nat.add_comm i l, gon_add, h4, if_pos rfl]
    · have hne := h6 i (by omega) l h2 h3
      rw [← gon_add, Nat.add_comm] at hne
      rw [if_neg (by rw [iI_eq (by omega) (by omega) (by omega) (by omega)]; omega)]
      rw [if_neg (by rw [iI_lit 6, iI_le (by decide) (by decide) (by omega) (by omega)]; show ¬ (6 : Int) ≤ i; omega)]
      rw [goesTo_iI hN hn hT hR hlt hr hk, Option.bind_some, goesTo_iI hN hn hT hR hlt2 hr hk, Option.bind_some, iI_s, ← gon_s (go t T R n) i s, ← gon_s (go t T R n) (i + l) s, show i + l + 1 = i + 1 + l by omega]
      exact daysToRound_L hN hn hT hR hr hk hs h m (i + 1) (by omega) (by omega)
theorem daysToRound_iI {N : Nat} {rk : Nat → Int32} {r t : Nat → Nat} {n T R s d l : Nat} (hN : 300 ≤ N) (hn : n ≤ 6) (hT : T < 32768) (hR : R < 64) (hr : ∀ i, i < n → rk i = iI (r i)) (hk : RK r t n) (hs : s < n) (h : isR (go t T R n) s d l) : fX6_daysToRound N rk (iI n) (iI R) (iI s) (iI l) (iI T) = some (iI d) := by
  unfold fX6_daysToRound
  have e0 : (0 : Int32) = iI ((0 : Nat) : Int) := rfl
  have hl := h.2.2.1
  have hd := h.1
  rw [walk_iI hN hn hT hR hr hk (by omega) hs, Option.bind_some, e0]
  have e := daysToRound_L (N := N) (by omega) hn hT hR hr hk hs h N 0 (Nat.zero_le _) (by omega)
  rw [Nat.zero_add] at e
  exact e
/-! the reference -/
theorem round8_L54 {N n F R y x2 : Nat} {A B : Nat → Nat} {books nA nB now near : Nat → Int32} {p : Nat → Nat → Bool} {p1 : Int32} {k : Int32 → Option (Int32 × (Nat → Int32))} (hN : 300 ≤ N) (hM : M8 n A B F R books nA nB now) (hp : nearIs p near) (hy : y < n) : ∀ (m i : Nat), 1 ≤ i → i ≤ 7 → 7 - i < m → (∀ l', 1 ≤ l' → l' < i → gon (goP (tt A B F) p R n) l' y ≠ y) →
    ((∀ l', 1 ≤ l' → l' ≤ 6 → gon (goP (tt A B F) p R n) l' y ≠ y) ∧ fX8_round_L54 N books nA nB now p1 near (iI x2) (iI y) k m (iI i) = k (iI x2 + 1)) ∨
    ∃ l, 1 ≤ l ∧ l ≤ 6 ∧ gon (goP (tt A B F) p R n) l y = y ∧ (∀ l', 1 ≤ l' → l' < l → gon (goP (tt A B F) p R n) l' y ≠ y) ∧ fX8_round_L54 N books nA nB now p1 near (iI x2) (iI y) k m (iI i) = some (if p1 = 0 then iI x2 else iI l, near)
  | 0, i, _, _, h, _ => absurd h (Nat.not_lt_zero _)
  | m + 1, i, h1, hi, hm, hno => by
    have hn := hM.1
    rw [fX8_round_L54]
    by_cases h : i = 7
    · subst h
      rw [if_pos (by decide)]
      exact Or.inl ⟨fun l' a b => hno l' a (by omega), rfl⟩
    · rw [if_neg (by rw [iI_lit 6, iI_lt (by decide) (by decide) (by omega) (by omega)]; show ¬ (6 : Int) < i; omega)]
      rw [goesIn8_iI hN hM hp (by omega) hy, Option.bind_some]
      have hlt : gon (goP (tt A B F) p R n) i y < n := gon_lt (fun b hb => goP_lt hb) i y hy
      by_cases e : gon (goP (tt A B F) p R n) i y = y
      · rw [if_pos (by rw [e])]
        refine Or.inr ⟨i, h1, by omega, e, hno, ?_⟩
        by_cases hz : p1 = 0
        · rw [if_pos hz, if_pos hz]
        · rw [if_neg hz, if_neg hz]
      · rw [if_neg (by rw [iI_eq (by omega) (by omega) (by omega) (by omega)]; omega), iI_s]
        refine round8_L54 hN hM hp hy m (i + 1) (by omega) (by omega) (by omega) (fun l' a b => ?_)
        by_cases hl : l' = i
        · rw [hl]
          exact e
        · exact hno l' a (by omega)
theorem round8_L32 {N n F R s t l : Nat} {A B : Nat → Nat} {books nA nB now near : Nat → Int32} {p : Nat → Nat → Bool} {p1 : Int32} (hN : 300 ≤ N) (hM : M8 n A B F R books nA nB now) (hp : nearIs p near) (hs : s < n) (h13 : now 13 = iI s) (hR : isR (goP (tt A B F) p R n) s t l) : ∀ (m i : Nat), i ≤ t → t - i < m →
    fX8_round_L32 N books nA nB now p1 near m (iI i) = some (if p1 = 0 then iI t else iI l, near)
  | 0, i, _, h => absurd h (Nat.not_lt_zero _)
  | m + 1, i, hi, hm => by
    obtain ⟨h1, h2, h3, h4, h5, h6⟩ := id hR
    have hn := hM.1
    have hlt : gon (goP (tt A B F) p R n) i s < n := gon_lt (fun b hb => goP_lt hb) i s hs
    rw [fX8_round_L32, if_neg (by rw [iI_lit 6, iI_lt (by decide) (by decide) (by omega) (by omega)]; show ¬ (6 : Int) < i; omega), t13, h13, goesIn8_iI hN hM hp (by omega) hs, Option.bind_some]
    have e1 : (1 : Int32) = iI ((1 : Nat) : Int) := rfl
    rw [e1]
    rcases round8_L54 (k := fun z => fX8_round_L32 N books nA nB now p1 near m z) (p1 := p1) (x2 := i) hN hM hp hlt N 1 (Nat.le_refl _) (by decide) (by omega) (fun l' a b => absurd a (by omega)) with ⟨q1, q2⟩ | ⟨l2, q1, q2, q3, q4, q5⟩
    · have hit : i ≠ t := fun e => by
        subst e
        exact q1 l h2 h3 h4
      rw [q2]
      show fX8_round_L32 N books nA nB now p1 near m (iI i + 1) = _
      rw [iI_s]
      exact round8_L32 hN hM hp hs h13 hR m (i + 1) (by omega) (by omega)
    · have hit : i = t := by
        rcases Nat.lt_or_ge i t with z | z
        · exact absurd q3 (h6 i z l2 q1 q2)
        · omega
      subst hit
      have hl : l2 = l := by
        rcases Nat.lt_trichotomy l2 l with z | z | z
        · exact absurd q3 (h5 l2 q1 z)
        · exact z
        · exact absurd h4 (q4 l h2 z)
      subst hl
      exact q5
/-! whether it ever comes -/
def evb (g : Nat → Nat) (b : Nat) : Nat → Nat → Bool
  | 0, s => s == b
  | k + 1, s => s == b || evb g b k (g s)
theorem comesTo_L {N : Nat} {rk : Nat → Int32} {r t : Nat → Nat} {n T R b : Nat} (hN : 10 ≤ N) (hn : n ≤ 6) (hT : T < 32768) (hR : R < 64) (hr : ∀ i, i < n → rk i = iI (r i)) (hk : RK r t n) (hb : b < n) : ∀ (m i s : Nat), i ≤ 6 → 6 - i < m → s < n → fX6_comesTo_L6 N rk (iI n) (iI R) (iI b) (iI T) m (iI s) (iI i) = some (iI (((evb (go t T R n) b (6 - i) s).toNat : Nat) : Int))
  | 0, i, s, _, h, _ => absurd h (Nat.not_lt_zero _)
  | m + 1, i, s, hi, hm, hs => by
    rw [fX6_comesTo_L6]
    have eJ : s = b → fX6_comesTo_J34 (iI b) (iI s) = some (iI ((true.toNat : Nat) : Int)) := fun e => by
      unfold fX6_comesTo_J34
      rw [if_pos (by rw [e])]
      rfl
    have eK : s ≠ b → fX6_comesTo_J34 (iI b) (iI s) = some (iI ((false.toNat : Nat) : Int)) := fun e => by
      unfold fX6_comesTo_J34
      rw [if_neg (by rw [iI_eq (by omega) (by omega) (by omega) (by omega)]; omega)]
      rfl
    by_cases h : i = 6
    · subst h
      rw [if_pos (by decide), Nat.sub_self, evb]
      by_cases e : s = b
      · rw [eJ e, show (s == b) = true by simp [e]]
      · rw [eK e, show (s == b) = false by simp [e]]
    · rw [if_neg (by rw [iI_lit 6, iI_le (by decide) (by decide) (by omega) (by omega)]; show ¬ (6 : Int) ≤ i; omega)]
      have e6 : 6 - i = (6 - (i + 1)) + 1 := by omega
      rw [e6, evb]
      by_cases e : s = b
      · rw [if_pos (by rw [e]), eJ e, show (s == b) = true by simp [e]]
        rfl
      · rw [if_neg (by rw [iI_eq (by omega) (by omega) (by omega) (by omega)]; omega), show (s == b) = false by simp [e], goesTo_iI hN hn hT hR hs hr hk, Option.bind_some, iI_s, comesTo_L hN hn hT hR hr hk hb m (i + 1) _ (by omega) (by omega) (go_lt hs)]
        rfl
theorem comesTo_iI {N : Nat} {rk : Nat → Int32} {r t : Nat → Nat} {n T R b s : Nat} (hN : 10 ≤ N) (hn : n ≤ 6) (hT : T < 32768) (hR : R < 64) (hr : ∀ i, i < n → rk i = iI (r i)) (hk : RK r t n) (hb : b < n) (hs : s < n) : fX6_comesTo N rk (iI n) (iI R) (iI b) (iI s) (iI T) = some (iI (((evb (go t T R n) b 6 s).toNat : Nat) : Int)) :=
  comesTo_L hN hn hT hR hr hk hb N 0 s (by decide) (by omega) hs
end ROUND
