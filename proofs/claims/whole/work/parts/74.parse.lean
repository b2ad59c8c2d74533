section ITEMS2
def ItemOut (c : Nat → Nat) (L i : Nat) (b0 : Int32) (x7 x8 : Nat → Int32) (cls : Option (Int32 × Int32 × Int32 × Int32 × Int32 × (Nat → Int32) × (Nat → Int32) × Int32 × Int32 × Int32)) (row : Option ((Nat → Int32) × (Nat → Int32) × (Nat → Int32) × (Nat → Int32) × Int32 × Int32 × Int32 × Int32 × Int32 × Int32 × Int32)) : Prop :=
  (∃ (i2 n : Nat) (A B : Nat → Nat) (T : Nat) (o : Int) (a b w6 w7 w8 w9 : Nat → Int32) (w10 w11 a4 s4 o4 v4 t v : Int32), i ≤ i2 ∧ i2 ≤ L ∧ row = some (w6, w7, w8, w9, w10, w11, a4, s4, o4, v4, -9) ∧ TS c L i2 a4 s4 o4 v4 ∧ DR b0 x7 x8 n A B T o a b w6 w7 w8 w9 w10 w11 ∧ cls = some ((if tK c L i2 = 2 then 1 else 0), iI ((tE c L i2 : Nat) : Int), t, iI ((tS c L i2 : Nat) : Int), v, a, b, iI n, iI T, iI o)) ∨
  (∃ (s : Nat) (a b w6 w7 w8 w9 : Nat → Int32) (w10 w11 a4 s4 o4 v4 p t v z8 z9 z10 : Int32), s ≤ 150 ∧ row = some (w6, w7, w8, w9, w10, w11, a4, s4, o4, v4, iI s) ∧ FX b0 x7 x8 w6 w7 w8 ∧ cls = some (0, p, t, iI s, v, a, b, z8, z9, z10))
theorem w1t : (1 : Int32).toNatClampNeg = 1 := by decide
theorem tV999 {N L i : Nat} {c : Nat → Nat} {bytes text : Nat → Int32} (hN : 300 ≤ N) (hx : TX L c bytes text) (hi : i ≤ L) : tK c L i = 1 → tV c L i ≤ 999 := by
  intro hk
  obtain ⟨t, v, -, h⟩ := clsStep hN hx hi 0 0 0
  exact (tV_le h hk).1
theorem item_b {N L i n : Nat} {c : Nat → Nat} {bytes text : Nat → Int32} {b0 : Int32} {x7 x8 : Nat → Int32} {A B : Nat → Nat} {T : Nat} {o : Int} {a b w6 w7 w8 w9 : Nat → Int32} {w10 w11 a1 s1 o1 v1 bg : Int32} (hN : 300 ≤ N) (hx : TX L c bytes text) (hi : i ≤ L) (hD : DR b0 x7 x8 n A B T o a b w6 w7 w8 w9 w10 w11) (hn : n < 6) (hT : TS c L i a1 s1 o1 v1) :
    ItemOut c L i b0 x7 x8 (fX5_readItem N bytes (iI (L : Int)) (iI (i : Int)) 1 bg 98 a b (iI (n : Int)) (iI (T : Int)) (iI o)) (fX8_readRow N text w6 w7 w8 w9 (iI (L : Int)) w10 w11 a1 s1 o1 v1 (-9) 98) := by
  have hL := hx.1
  have h7 := hD.2.2.2.2.2.2.1
  have hFX := hD.2.2.2.2.2.1
  have e9 : (999 : Int32) = iI 999 := rfl
  obtain ⟨f1, t1, u1, g1, g2, g3⟩ := clsNum (M := 999) hN hx hi (by decide) (by decide) 1 bg 98
  have hle1 := tE_le (c := c) hi
  have hs1 := tS_le (c := c) hi
  unfold fX5_readItem fX5_readBook fX8_readRow
  rw [if_pos rfl, if_pos rfl, if_neg (by rw [iI_lit 6, iI_le (by decide) (by decide) (by omega) (by omega)]; show ¬ (6 : Int) ≤ n; omega), if_pos rfl, w1t, h7, v6, e9, g1, Option.bind_some]
  dsimp only
  rw [iI_clamp (by omega) (by omega), Int.toNat_natCast]
  cases hok : okN c L i 999
  · rw [g3 hok, if_pos rfl, Option.bind_some, num_no (hL := hL) (tV999 hN hx hi) tK_lt (by decide) (by decide) hT hok, Option.bind_some, vg_iI (by omega) (by omega) (by omega), hT.2.1]
    dsimp only
    rw [num_fault (by omega), Option.bind_some, vg_iI (by omega) (by omega) (by omega)]
    refine Or.inr ⟨tS c L i, _, _, _, _, _, _, _, _, _, _, _, _, _, _, _, _, _, _, by omega, rfl, ⟨?_, fun j hj => ⟨?_, ?_⟩⟩, rfl⟩
    · rw [pk_un (by decide)]
      exact hFX.1
    · rw [pk_un (by omega)]
      exact (hFX.2 j hj).1
    · rw [pk_un (by omega)]
      exact (hFX.2 j hj).2
  · obtain ⟨k1, k2, k3⟩ := g2 hok
    obtain ⟨a2, s2, o2, v2, m1, m2⟩ := num_yes hN hx hi (by decide) (by decide) hT hok
    obtain ⟨f2, t2, u2, g4, g5, g6⟩ := clsNum (M := 999) hN hx hle1.2.1 (by decide) (by decide) t1 (iI ((tS c L i : Nat) : Int)) u1
    have hle2 := tE_le (c := c) hle1.2.1
    have hs2 := tS_le (c := c) hle1.2.1
    rw [k1, if_neg z1, g4, Option.bind_some, m1, Option.bind_some, vg_iI (by omega) (by omega) (by omega)]
    dsimp only
    cases hok2 : okN c L (tE c L i) 999
    · rw [g6 hok2, if_pos rfl, Option.bind_some, num_no (hL := hL) (tV999 hN hx hle1.2.1) tK_lt (by decide) (by decide) m2 hok2, Option.bind_some, vg_iI (by omega) (by omega) (by omega), m2.2.1]
      dsimp only
      refine Or.inr ⟨tS c L (tE c L i), _, _, _, _, _, _, _, _, _, _, _, _, _, _, _, _, _, _, by omega, rfl, ⟨?_, fun j hj => ⟨?_, ?_⟩⟩, rfl⟩
      · rw [pk_un (by decide)]
        exact hFX.1
      · rw [pk_un (by omega)]
        exact (hFX.2 j hj).1
      · rw [pk_un (by omega)]
        exact (hFX.2 j hj).2
    · obtain ⟨k4, k5, k6⟩ := g5 hok2
      obtain ⟨a3, s3, o3, v3, m3, m4⟩ := num_yes hN hx hle1.2.1 (by decide) (by decide) m2 hok2
      obtain ⟨t3, u3, g7⟩ := clsSemi hN hx hle2.2.1 t2 (iI ((tS c L (tE c L i) : Nat) : Int)) u2
      unfold fX0_append
      rw [k4, if_neg z1, if_neg (by rw [iI_lit 6, iI_le (by decide) (by decide) (by omega) (by omega)]; show ¬ (6 : Int) ≤ n; omega), vg_iI (by omega) (by omega) (by omega), vg_iI (by omega) (by omega) (by omega), Option.bind_some, g7, Option.bind_some, Option.bind_some, m3, Option.bind_some, vg_iI (by omega) (by omega) (by omega), iI_clamp (by omega) (by omega), Int.toNat_natCast, k2, k5]
      dsimp only
      have e1 : iI (n : Int) + (1 : Int32) = iI ((n + 1 : Nat) : Int) := iI_s n
      rw [e1]
      exact Or.inl ⟨tE c L (tE c L i), n + 1, _, _, T, o, _, _, _, _, _, _, _, _, _, _, _, _, _, _, by omega, hle2.2.1, rfl, m4, DR_book hD hn k3 k6, rfl⟩
theorem item_o {N L i n : Nat} {c : Nat → Nat} {bytes text : Nat → Int32} {b0 : Int32} {x7 x8 : Nat → Int32} {A B : Nat → Nat} {T : Nat} {a b w6 w7 w8 w9 : Nat → Int32} {w10 w11 a1 s1 o1 v1 bg : Int32} (hN : 300 ≤ N) (hx : TX L c bytes text) (hi : i ≤ L) (hD : DR b0 x7 x8 n A B T (-9) a b w6 w7 w8 w9 w10 w11) (hT : TS c L i a1 s1 o1 v1) :
    ItemOut c L i b0 x7 x8 (fX5_readItem N bytes (iI (L : Int)) (iI (i : Int)) 1 bg 111 a b (iI (n : Int)) (iI (T : Int)) (iI (-9))) (fX8_readRow N text w6 w7 w8 w9 (iI (L : Int)) w10 w11 a1 s1 o1 v1 (-9) 111) := by
  have hL := hx.1
  have hn := hD.1
  have h7 := hD.2.2.2.2.2.2.1
  have hFX := hD.2.2.2.2.2.1
  have en : iI (n : Int) - (1 : Int32) = iI ((n : Int) - 1) := by rw [iI_lit, iI_sub] <;> rfl
  obtain ⟨f1, t1, u1, g1, g2, g3⟩ := clsNum (M := (n : Int) - 1) hN hx hi (by omega) (by omega) 1 bg 111
  have hle1 := tE_le (c := c) hi
  have hs1 := tS_le (c := c) hi
  unfold fX5_readItem fX5_readOne fX8_readRow
  rw [if_pos rfl, if_neg (by decide), if_pos rfl, if_pos (show iI (-9) = (-9 : Int32) from rfl), if_neg (by decide), if_neg (by decide), w1t, h7, en, g1, Option.bind_some]
  dsimp only
  cases hok : okN c L i ((n : Int) - 1)
  · rw [g3 hok, if_pos rfl, Option.bind_some, num_no (hL := hL) (tV999 hN hx hi) tK_lt (by omega) (by omega) hT hok, Option.bind_some, hT.2.1]
    dsimp only
    exact Or.inr ⟨tS c L i, _, _, _, _, _, _, _, _, _, _, _, _, _, _, _, _, _, _, by omega, rfl, hFX, rfl⟩
  · obtain ⟨k1, k2, k3⟩ := g2 hok
    obtain ⟨a2, s2, o2, v2, m1, m2⟩ := num_yes hN hx hi (by omega) (by omega) hT hok
    obtain ⟨t3, u3, g7⟩ := clsSemi hN hx hle1.2.1 t1 (iI ((tS c L i : Nat) : Int)) u1
    have hV := (of_decide_eq_true hok).2
    rw [k1, if_neg z1, g7, Option.bind_some, m1, Option.bind_some, k2]
    dsimp only
    rw [Option.bind_some]
    refine Or.inl ⟨tE c L i, n, A, B, T, ((tV c L i : Nat) : Int), _, _, _, _, _, _, _, _, _, _, _, _, _, _, by omega, hle1.2.1, rfl, m2, ?_, rfl⟩
    obtain ⟨h1, h2, h3, h4, h5, h6, h7, h8, h9, h10, h11⟩ := hD
    exact ⟨h1, h2, h3, h4, Or.inr (by omega), h6, h7, h8, h9, rfl, (if_neg (by omega)).symm⟩
theorem item_t {N L i n : Nat} {c : Nat → Nat} {bytes text : Nat → Int32} {b0 : Int32} {x7 x8 : Nat → Int32} {A B : Nat → Nat} {T : Nat} {o : Int} {a b w6 w7 w8 w9 : Nat → Int32} {w10 w11 a1 s1 o1 v1 bg : Int32} (hN : 300 ≤ N) (hx : TX L c bytes text) (hi : i ≤ L) (hD : DR b0 x7 x8 n A B T o a b w6 w7 w8 w9 w10 w11) (hT : TS c L i a1 s1 o1 v1) :
    ItemOut c L i b0 x7 x8 (fX5_readItem N bytes (iI (L : Int)) (iI (i : Int)) 1 bg 116 a b (iI (n : Int)) (iI (T : Int)) (iI o)) (fX8_readRow N text w6 w7 w8 w9 (iI (L : Int)) w10 w11 a1 s1 o1 v1 (-9) 116) := by
  have hL := hx.1
  have hn := hD.1
  have h7 := hD.2.2.2.2.2.2.1
  have hFX := hD.2.2.2.2.2.1
  have en : iI (n : Int) - (1 : Int32) = iI ((n : Int) - 1) := by rw [iI_lit, iI_sub] <;> rfl
  obtain ⟨f1, t1, u1, g1, g2, g3⟩ := clsNum (M := (n : Int) - 1) hN hx hi (by omega) (by omega) 1 bg 116
  have hle1 := tE_le (c := c) hi
  have hs1 := tS_le (c := c) hi
  unfold fX5_readItem fX5_readTouch fX8_readRow fX8_readRow_J117 fX8_readRow_J118
  rw [if_pos rfl, if_neg (by decide), if_neg (by decide), if_pos rfl, if_neg (by decide), if_pos rfl, w1t, h7, en, g1, Option.bind_some]
  dsimp only
  cases hok : okN c L i ((n : Int) - 1)
  · rw [g3 hok, if_pos rfl, Option.bind_some, num_no (hL := hL) (tV999 hN hx hi) tK_lt (by omega) (by omega) hT hok, Option.bind_some, hT.2.1]
    dsimp only
    rw [due_fault (by omega), due_fault (by omega), Option.bind_some]
    dsimp only
    rw [if_neg (m9_nat (by omega)), ite_self, ite_self, ite_self]
    exact Or.inr ⟨tS c L i, _, _, _, _, _, _, _, _, _, _, _, _, _, _, _, _, _, _, by omega, rfl, hFX, rfl⟩
  · obtain ⟨k1, k2, k3⟩ := g2 hok
    obtain ⟨a2, s2, o2, v2, m1, m2⟩ := num_yes hN hx hi (by omega) (by omega) hT hok
    obtain ⟨f2, t2, u2, g4, g5, g6⟩ := clsNum (M := (n : Int) - 1) hN hx hle1.2.1 (by omega) (by omega) t1 (iI ((tS c L i : Nat) : Int)) u1
    have hle2 := tE_le (c := c) hle1.2.1
    have hs2 := tS_le (c := c) hle1.2.1
    have hV := (of_decide_eq_true hok).2
    rw [k1, if_neg z1, g4, Option.bind_some, m1, Option.bind_some, k2]
    dsimp only
    have hno : ∀ y : Int32, y = 0 → ((fX8_due N text (iI (L : Int)) a2 s2 o2 v2 (-9) y).bind fun q_8 => if q_8.2.2.2.2.2 = (-9 : Int32) then vg (iI ((tV c L i : Nat) : Int)) 6 (vg (iI ((tV c L i : Nat) : Int)) 6 (vg q_8.1 6 (vg q_8.1 6 (some (w6, w7, w8, (upd (upd w9 (iI ((tV c L i : Nat) : Int)).toNatClampNeg ((w9 (iI ((tV c L i : Nat) : Int)).toNatClampNeg) ||| ((1 : Int32) <<< (q_8.1 &&& 31)))) q_8.1.toNatClampNeg (((upd w9 (iI ((tV c L i : Nat) : Int)).toNatClampNeg ((w9 (iI ((tV c L i : Nat) : Int)).toNatClampNeg) ||| ((1 : Int32) <<< (q_8.1 &&& 31)))) q_8.1.toNatClampNeg) ||| ((1 : Int32) <<< (iI ((tV c L i : Nat) : Int) &&& 31)))), w10, w11, q_8.2.1, q_8.2.2.1, q_8.2.2.2.1, q_8.2.2.2.2.1, q_8.2.2.2.2.2))))) else some (w6, w7, w8, w9, w10, w11, q_8.2.1, q_8.2.2.1, q_8.2.2.2.1, q_8.2.2.2.2.1, q_8.2.2.2.2.2)) = some (w6, w7, w8, w9, w10, w11, a2, s2, o2, v2, iI ((tS c L (tE c L i) : Nat) : Int)) := by
      intro y hy
      subst hy
      rw [due_no, Option.bind_some, m2.2.1]
      dsimp only
      rw [if_neg (m9_nat (by omega))]
    rw [hno 0 rfl]
    cases hok2 : okN c L (tE c L i) ((n : Int) - 1)
    · rw [g6 hok2, if_pos rfl, Option.bind_some]
      have hrow : ∀ X : Option ((Nat → Int32) × (Nat → Int32) × (Nat → Int32) × (Nat → Int32) × Int32 × Int32 × Int32 × Int32 × Int32 × Int32 × Int32), (if o2 = (1 : Int32) then if iI (n : Int) ≤ v2 then some (w6, w7, w8, w9, w10, w11, a2, s2, o2, v2, iI ((tS c L (tE c L i) : Nat) : Int)) else if v2 = iI ((tV c L i : Nat) : Int) then some (w6, w7, w8, w9, w10, w11, a2, s2, o2, v2, iI ((tS c L (tE c L i) : Nat) : Int)) else X else some (w6, w7, w8, w9, w10, w11, a2, s2, o2, v2, iI ((tS c L (tE c L i) : Nat) : Int))) = some (w6, w7, w8, w9, w10, w11, a2, s2, o2, v2, iI ((tS c L (tE c L i) : Nat) : Int)) := by
        intro X
        obtain ⟨-, -, ho2, hv2⟩ := m2
        have hno2 := of_decide_eq_false hok2
        have hkl := tK_lt (c := c) (L := L) (i := tE c L i)
        by_cases hk2 : tK c L (tE c L i) = 1
        · have hv2 := hv2 hk2
          have hv9 := tV999 hN hx hle1.2.1 hk2
          rw [if_pos (by rw [ho2, hk2]; rfl), if_pos (by rw [hv2, iI_le (by omega) (by omega) (by omega) (by omega)]; omega)]
        · rw [if_neg (by rw [ho2, iI_lit 1, iI_eq (by omega) (by omega) (by decide) (by decide)]; show ¬ ((tK c L (tE c L i) : Nat) : Int) = 1; omega)]
      rw [hrow]
      exact Or.inr ⟨tS c L (tE c L i), _, _, _, _, _, _, _, _, _, _, _, _, _, _, _, _, _, _, by omega, rfl, hFX, rfl⟩
    · obtain ⟨k4, k5, k6⟩ := g5 hok2
      have hV2 := (of_decide_eq_true hok2)
      have ho2 := m2.2.2.1
      have hv2 := m2.2.2.2 hV2.1
      rw [k4, if_neg z1, k5, if_pos (show o2 = (1 : Int32) by rw [ho2, hV2.1]; rfl), if_neg (show ¬ iI (n : Int) ≤ v2 by rw [hv2, iI_le (by omega) (by omega) (by omega) (by omega)]; omega), hv2]
      by_cases hsame : tV c L (tE c L i) = tV c L i
      · rw [if_pos (show iI ((tV c L (tE c L i) : Nat) : Int) = iI ((tV c L i : Nat) : Int) by rw [hsame]), if_pos (show iI ((tV c L (tE c L i) : Nat) : Int) = iI ((tV c L i : Nat) : Int) by rw [hsame]), Option.bind_some]
        exact Or.inr ⟨tS c L (tE c L i), _, _, _, _, _, _, _, _, _, _, _, _, _, _, _, _, _, _, by omega, rfl, hFX, rfl⟩
      · have hne : ¬ iI ((tV c L (tE c L i) : Nat) : Int) = iI ((tV c L i : Nat) : Int) := by
          rw [iI_eq (by omega) (by omega) (by omega) (by omega)]
          omega
        obtain ⟨a3, s3, o3, v3, m3, m4⟩ := due_yes hN hx hle1.2.1 m2
        rw [hv2] at m3
        obtain ⟨t3, u3, g7⟩ := clsSemi hN hx hle2.2.1 t2 (iI ((tS c L (tE c L i) : Nat) : Int)) (iI ((tV c L (tE c L i) : Nat) : Int))
        rw [if_neg hne, if_neg hne, g7, Option.bind_some, Option.bind_some, m3, Option.bind_some]
        dsimp only
        rw [if_pos rfl, touchBit_iI (tV c L i) (by omega) (tV c L (tE c L i)) (by omega) (Ne.symm hsame), iI_or]
        simp only [vg_iI (show (0 : Int) ≤ ((tV c L i : Nat) : Int) by omega) (show ((tV c L i : Nat) : Int) < ((6 : Nat) : Int) by omega) (by omega), vg_iI (show (0 : Int) ≤ ((tV c L (tE c L i) : Nat) : Int) by omega) (show ((tV c L (tE c L i) : Nat) : Int) < ((6 : Nat) : Int) by omega) (by omega), iI_clamp (show (0 : Int) ≤ ((tV c L i : Nat) : Int) by omega) (by omega), iI_clamp (show (0 : Int) ≤ ((tV c L (tE c L i) : Nat) : Int) by omega) (by omega), Int.toNat_natCast]
        exact Or.inl ⟨tE c L (tE c L i), n, A, B, _, o, _, _, _, _, _, _, _, _, _, _, _, _, _, _, by omega, hle2.2.1, rfl, m4, DR_touch hD (by omega) (by omega) (Ne.symm hsame), rfl⟩
end ITEMS2
