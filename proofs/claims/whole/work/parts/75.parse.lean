section ITEMS3
theorem row_go {N L i m x : Nat} {c : Nat → Nat} {bytes text now isK : Nat → Int32} {sn : Int32} {b0 : Int32} {x7 x8 : Nat → Int32} {P : Option (Int32 × (Nat → Int32) × (Nat → Int32) × (Nat → Int32) × (Nat → Int32) × (Nat → Int32) × (Nat → Int32) × Int32 × Int32 × Int32 × Int32 × Int32 × Int32 × Int32 × Int32 × Int32) → Prop} {cls : Option (Int32 × Int32 × Int32 × Int32 × Int32 × (Nat → Int32) × (Nat → Int32) × Int32 × Int32 × Int32)} {row : Option ((Nat → Int32) × (Nat → Int32) × (Nat → Int32) × (Nat → Int32) × Int32 × Int32 × Int32 × Int32 × Int32 × Int32 × Int32)} (hN : 300 ≤ N) (hx : TX L c bytes text) (hm : 0 < m) (hI : ItemOut c L i b0 x7 x8 cls row)
    (hgo : ∀ (i2 n : Nat) (A B : Nat → Nat) (T : Nat) (o : Int) (a b w6 w7 w8 w9 : Nat → Int32) (w10 w11 a4 s4 o4 v4 t v : Int32) (s : Nat), i ≤ i2 → i2 ≤ L → DR b0 x7 x8 n A B T o a b w6 w7 w8 w9 w10 w11 → cls = some (1, iI ((tE c L i2 : Nat) : Int), t, iI (s : Int), v, a, b, iI n, iI T, iI o) → TS c L (tE c L i2) a4 s4 o4 v4 → P (fX8_books_L21 N text now isK (iI (L : Int)) sn m (iI ((x + 1 : Nat) : Int)) w6 w7 w8 w9 w10 w11 a4 s4 o4 v4 (-9)))
    (hbad : ∀ (s : Nat) (a b w6 w7 w8 w9 : Nat → Int32) (x8' w10 w11 p t v z8 z9 z10 y12 y13 y14 y15 : Int32), s ≤ 150 → cls = some (0, p, t, iI s, v, a, b, z8, z9, z10) → FX b0 x7 x8 w6 w7 w8 → P (fX8_books_J91 N now isK (iI (L : Int)) sn x8' w6 w7 w8 w9 w10 w11 y12 y13 y14 y15 (iI s))) :
    P (row.bind fun q_35 => if q_35.2.2.2.2.2.2.2.2.1 = (2 : Int32) then fX8_books_J81 N text (iI (L : Int)) (iI (x : Int)) q_35 (fun z21_0 z21_1 z21_2 z21_3 z21_4 z21_5 z21_6 z21_7 z21_8 z21_9 z21_10 z21_11 => fX8_books_L21 N text now isK (iI (L : Int)) sn m z21_0 z21_1 z21_2 z21_3 z21_4 z21_5 z21_6 z21_7 z21_8 z21_9 z21_10 z21_11) (1 : Int32)
      else fX8_books_J81 N text (iI (L : Int)) (iI (x : Int)) q_35 (fun z21_0 z21_1 z21_2 z21_3 z21_4 z21_5 z21_6 z21_7 z21_8 z21_9 z21_10 z21_11 => fX8_books_L21 N text now isK (iI (L : Int)) sn m z21_0 z21_1 z21_2 z21_3 z21_4 z21_5 z21_6 z21_7 z21_8 z21_9 z21_10 z21_11) (0 : Int32)) := by
  obtain ⟨m', rfl⟩ : ∃ m', m = m' + 1 := ⟨m - 1, by omega⟩
  have hL := hx.1
  unfold fX8_books_J81
  rcases hI with ⟨i2, n, A, B, T, o, a, b, w6, w7, w8, w9, w10, w11, a4, s4, o4, v4, t, v, h1, h2, rfl, hT, hD, rfl⟩ | ⟨s, a, b, w6, w7, w8, w9, w10, w11, a4, s4, o4, v4, p, t, v, z8, z9, z10, h1, rfl, hF, rfl⟩
  · rw [Option.bind_some]
    dsimp only
    have hs := tS_le (c := c) h2
    by_cases hk : tK c L i2 = 2
    · obtain ⟨a5, s5, o5, v5, m1, m2⟩ := due_yes hN hx h2 hT
      rw [if_pos (show o4 = (2 : Int32) by rw [hT.2.2.1, hk]; rfl), m1, Option.bind_some, iI_s]
      exact hgo i2 n A B T o a b w6 w7 w8 w9 w10 w11 a5 s5 o5 v5 t v (tS c L i2) h1 h2 hD (by rw [if_pos hk]) m2
    · have hkl := tK_lt (c := c) (L := L) (i := i2)
      rw [if_neg (show ¬ o4 = (2 : Int32) by rw [hT.2.2.1, iI_lit 2, iI_eq (by omega) (by omega) (by decide) (by decide)]; show ¬ ((tK c L i2 : Nat) : Int) = 2; omega), due_no, Option.bind_some, hT.2.1]
      dsimp only
      rw [fault_end (by omega)]
      exact hbad (tS c L i2) a b w6 w7 w8 w9 _ w10 w11 _ t v _ _ _ _ _ _ _ (by omega) (by rw [if_neg hk]) hD.2.2.2.2.2.1
  · rw [Option.bind_some]
    dsimp only
    rw [due_fault (by omega), due_fault (by omega), Option.bind_some, ite_self]
    dsimp only
    rw [fault_end (by omega)]
    exact hbad s a b w6 w7 w8 w9 _ w10 w11 p t v z8 z9 z10 _ _ _ _ h1 rfl hF
theorem parse_L {N L : Nat} {c : Nat → Nat} {bytes text now isK : Nat → Int32} {sn : Int32} {b0 : Int32} {x7 x8 : Nat → Int32} (hN : 300 ≤ N) (hx : TX L c bytes text) : ∀ (m m' i x n : Nat) (A B : Nat → Nat) (T : Nat) (o : Int) (a b w6 w7 w8 w9 : Nat → Int32) (w10 w11 at' st so va tk bg v0 : Int32), i ≤ L → L - i < m → L - i + 1 < m' → x ≤ i → DR b0 x7 x8 n A B T o a b w6 w7 w8 w9 w10 w11 → TS c L i at' st so va →
    Out N now isK (iI (L : Int)) sn b0 x7 x8 (fX5_readItems_L7 N bytes (iI (L : Int)) m (iI (x : Int)) (iI (i : Int)) tk bg v0 a b (iI (n : Int)) (iI (T : Int)) (iI o)) (fX8_books_L21 N text now isK (iI (L : Int)) sn m' (iI (x : Int)) w6 w7 w8 w9 w10 w11 at' st so va (-9))
  | 0, _, _, _, _, _, _, _, _, _, _, _, _, _, _, _, _, _, _, _, _, _, _, _, _, h, _, _, _, _ => absurd h (Nat.not_lt_zero _)
  | m + 1, m', i, x, n, A, B, T, o, a, b, w6, w7, w8, w9, w10, w11, at', st, so, va, tk, bg, v0, hi, hm, hm', hxi, hD, hT => by
    have hL := hx.1
    obtain ⟨m8, rfl⟩ : ∃ m8, m' = m8 + 2 := ⟨m' - 2, by omega⟩
    obtain ⟨t, v, g1, g2⟩ := clsStep hN hx hi tk bg v0
    have hle := tE_le (c := c) hi
    have hs := tS_le (c := c) hi
    have hkl := tK_lt (c := c) (L := L) (i := i)
    have hn := hD.1
    have hFX := hD.2.2.2.2.2.1
    rw [fX5_readItems_L7, if_neg (by rw [iI_lit 150, iI_lt (by decide) (by decide) (by omega) (by omega)]; show ¬ (150 : Int) < x; omega), g1, Option.bind_some, fX8_books_L21, if_pos rfl]
    dsimp only
    by_cases h3 : tK c L i = 3
    · rw [if_pos ((RC_0 g2).mpr h3), if_pos (show so = (3 : Int32) by rw [hT.2.2.1, h3]; rfl)]
      exact Or.inl ⟨x, n, A, B, T, o, a, b, w6, w7, w8, w9, w10, w11, _, _, _, _, _, _, _, _, by omega, rfl, rfl, hD⟩
    · have hei := hle.2.2 h3
      rw [if_neg (fun q => h3 ((RC_0 g2).mp q)), if_neg (show ¬ so = (3 : Int32) by rw [hT.2.2.1, iI_lit 3, iI_eq (by omega) (by omega) (by decide) (by decide)]; show ¬ ((tK c L i : Nat) : Int) = 3; omega)]
      have hbad0 : fX5_readItem N bytes (iI (L : Int)) (iI ((tE c L i : Nat) : Int)) t (iI ((tS c L i : Nat) : Int)) v a b (iI (n : Int)) (iI (T : Int)) (iI o) = some (0, iI ((tE c L i : Nat) : Int), t, iI ((tS c L i : Nat) : Int), v, a, b, iI (n : Int), iI (T : Int), iI o) → fX8_mayBe w6 w11 so = 0 → Out N now isK (iI (L : Int)) sn b0 x7 x8 ((fX5_readItem N bytes (iI (L : Int)) (iI ((tE c L i : Nat) : Int)) t (iI ((tS c L i : Nat) : Int)) v a b (iI (n : Int)) (iI (T : Int)) (iI o)).bind fun q_15 => if q_15.1 = 0 then some ((-9 : Int32), q_15.2.1, q_15.2.2.1, q_15.2.2.2.1, q_15.2.2.2.2.1, q_15.2.2.2.2.2.1, q_15.2.2.2.2.2.2.1, q_15.2.2.2.2.2.2.2.1, q_15.2.2.2.2.2.2.2.2.1, q_15.2.2.2.2.2.2.2.2.2) else fX5_readItems_L7 N bytes (iI (L : Int)) m (iI (x : Int) + 1) q_15.2.1 q_15.2.2.1 q_15.2.2.2.1 q_15.2.2.2.2.1 q_15.2.2.2.2.2.1 q_15.2.2.2.2.2.2.1 q_15.2.2.2.2.2.2.2.1 q_15.2.2.2.2.2.2.2.2.1 q_15.2.2.2.2.2.2.2.2.2) ((fX8_due N text (iI (L : Int)) at' st so va (-9) (fX8_mayBe w6 w11 so)).bind fun q_32 => if q_32.2.2.2.2.2 = (-9 : Int32) then (fX8_readRow N text w6 w7 w8 w9 (iI (L : Int)) w10 w11 q_32.2.1 q_32.2.2.1 q_32.2.2.2.1 q_32.2.2.2.2.1 q_32.2.2.2.2.2 so).bind fun q_35 => if q_35.2.2.2.2.2.2.2.2.1 = (2 : Int32) then fX8_books_J81 N text (iI (L : Int)) (iI (x : Int)) q_35 (fun z21_0 z21_1 z21_2 z21_3 z21_4 z21_5 z21_6 z21_7 z21_8 z21_9 z21_10 z21_11 => fX8_books_L21 N text now isK (iI (L : Int)) sn (m8 + 1) z21_0 z21_1 z21_2 z21_3 z21_4 z21_5 z21_6 z21_7 z21_8 z21_9 z21_10 z21_11) (1 : Int32) else fX8_books_J81 N text (iI (L : Int)) (iI (x : Int)) q_35 (fun z21_0 z21_1 z21_2 z21_3 z21_4 z21_5 z21_6 z21_7 z21_8 z21_9 z21_10 z21_11 => fX8_books_L21 N text now isK (iI (L : Int)) sn (m8 + 1) z21_0 z21_1 z21_2 z21_3 z21_4 z21_5 z21_6 z21_7 z21_8 z21_9 z21_10 z21_11) (0 : Int32) else fX8_books_L21 N text now isK (iI (L : Int)) sn (m8 + 1) (iI (x : Int)) w6 w7 w8 w9 w10 w11 q_32.2.1 q_32.2.2.1 q_32.2.2.2.1 q_32.2.2.2.2.1 q_32.2.2.2.2.2) := by
        intro e1 e2
        rw [e1, Option.bind_some, e2, due_no, Option.bind_some, hT.2.1]
        dsimp only
        rw [if_pos rfl, if_neg (m9_nat (by omega)), fault_end (by omega)]
        exact Or.inr ⟨tS c L i, a, b, w6, w7, w8, w9, _, w10, w11, _, _, _, _, _, _, _, _, _, _, by omega, rfl, rfl, hFX⟩
      have hgood : ∀ kd : Nat, tK c L i = kd → 97 ≤ kd → kd ≤ 122 → fX8_mayBe w6 w11 so = 1 → (∀ a1 s1 o1 v1, TS c L (tE c L i) a1 s1 o1 v1 → ItemOut c L (tE c L i) b0 x7 x8 (fX5_readItem N bytes (iI (L : Int)) (iI ((tE c L i : Nat) : Int)) 1 (iI ((tS c L i : Nat) : Int)) (iI (kd : Int)) a b (iI (n : Int)) (iI (T : Int)) (iI o)) (fX8_readRow N text w6 w7 w8 w9 (iI (L : Int)) w10 w11 a1 s1 o1 v1 (-9) (iI (kd : Int)))) → Out N now isK (iI (L : Int)) sn b0 x7 x8 ((fX5_readItem N bytes (iI (L : Int)) (iI ((tE c L i : Nat) : Int)) t (iI ((tS c L i : Nat) : Int)) v a b (iI (n : Int)) (iI (T : Int)) (iI o)).bind fun q_15 => if q_15.1 = 0 then some ((-9 : Int32), q_15.2.1, q_15.2.2.1, q_15.2.2.2.1, q_15.2.2.2.2.1, q_15.2.2.2.2.2.1, q_15.2.2.2.2.2.2.1, q_15.2.2.2.2.2.2.2.1, q_15.2.2.2.2.2.2.2.2.1, q_15.2.2.2.2.2.2.2.2.2) else fX5_readItems_L7 N bytes (iI (L : Int)) m (iI (x : Int) + 1) q_15.2.1 q_15.2.2.1 q_15.2.2.2.1 q_15.2.2.2.2.1 q_15.2.2.2.2.2.1 q_15.2.2.2.2.2.2.1 q_15.2.2.2.2.2.2.2.1 q_15.2.2.2.2.2.2.2.2.1 q_15.2.2.2.2.2.2.2.2.2) ((fX8_due N text (iI (L : Int)) at' st so va (-9) (fX8_mayBe w6 w11 so)).bind fun q_32 => if q_32.2.2.2.2.2 = (-9 : Int32) then (fX8_readRow N text w6 w7 w8 w9 (iI (L : Int)) w10 w11 q_32.2.1 q_32.2.2.1 q_32.2.2.2.1 q_32.2.2.2.2.1 q_32.2.2.2.2.2 so).bind fun q_35 => if q_35.2.2.2.2.2.2.2.2.1 = (2 : Int32) then fX8_books_J81 N text (iI (L : Int)) (iI (x : Int)) q_35 (fun z21_0 z21_1 z21_2 z21_3 z21_4 z21_5 z21_6 z21_7 z21_8 z21_9 z21_10 z21_11 => fX8_books_L21 N text now isK (iI (L : Int)) sn (m8 + 1) z21_0 z21_1 z21_2 z21_3 z21_4 z21_5 z21_6 z21_7 z21_8 z21_9 z21_10 z21_11) (1 : Int32) else fX8_books_J81 N text (iI (L : Int)) (iI (x : Int)) q_35 (fun z21_0 z21_1 z21_2 z21_3 z21_4 z21_5 z21_6 z21_7 z21_8 z21_9 z21_10 z21_11 => fX8_books_L21 N text now isK (iI (L : Int)) sn (m8 + 1) z21_0 z21_1 z21_2 z21_3 z21_4 z21_5 z21_6 z21_7 z21_8 z21_9 z21_10 z21_11) (0 : Int32) else fX8_books_L21 N text now isK (iI (L : Int)) sn (m8 + 1) (iI (x : Int)) w6 w7 w8 w9 w10 w11 q_32.2.1 q_32.2.2.1 q_32.2.2.2.1 q_32.2.2.2.2.1 q_32.2.2.2.2.2) := by
        intro kd hkd hlo hhi e1 hitem
        have htv : t = 1 ∧ v = iI (kd : Int) := by
          rcases g2 with ⟨h, -⟩ | ⟨-, -, rfl, rfl⟩ | ⟨h, -⟩ | ⟨h, -⟩ | ⟨h, -⟩
          · omega
          · exact ⟨rfl, by rw [hkd]⟩
          · omega
          · omega
          · omega
        obtain ⟨rfl, rfl⟩ := htv
        obtain ⟨a2, s2, o2, v2, m1, m2⟩ := due_yes hN hx hi hT
        have hso : so = iI (kd : Int) := by rw [hT.2.2.1, hkd]
        have hit := hitem a2 s2 o2 v2 m2
        rw [e1, m1, Option.bind_some]
        dsimp only
        rw [if_pos rfl, hso]
        generalize fX5_readItem N bytes (iI (L : Int)) (iI ((tE c L i : Nat) : Int)) 1 (iI ((tS c L i : Nat) : Int)) (iI (kd : Int)) a b (iI (n : Int)) (iI (T : Int)) (iI o) = cls at hit ⊢
        refine row_go (x := x) (P := fun r => Out N now isK (iI (L : Int)) sn b0 x7 x8 _ r) hN hx (by omega) hit ?_ ?_
        · intro i2 n2 A2 B2 T2 o2 a2 b2 y6 y7 y8 y9 y10 y11 a4 s4 o4 v4 t4 v4' s4' p1 p2 p3 p4 p5
          have hle2 := tE_le (c := c) p2
          subst p4
          rw [Option.bind_some]
          dsimp only
          rw [if_neg z1, iI_s]
          exact parse_L hN hx m (m8 + 1) (tE c L i2) (x + 1) n2 A2 B2 T2 o2 a2 b2 y6 y7 y8 y9 y10 y11 a4 s4 o4 v4 _ _ _ hle2.2.1 (by omega) (by omega) (by omega) p3 p5
        · intro s a2 b2 y6 y7 y8 y9 x' y10 y11 p t4 v4 z8 z9 z10 y12 y13 y14 y15 p1 p2 p3
          subst p2
          rw [Option.bind_some]
          dsimp only
          rw [if_pos rfl]
          exact Or.inr ⟨s, a2, b2, y6, y7, y8, y9, x', y10, y11, p, t4, v4, z8, z9, z10, _, _, _, _, p1, rfl, rfl, p3⟩
      have e97 : ∀ q : Nat, q < 200 → ∀ r : Nat, r < 200 → (iI (q : Int) = iI (r : Int) ↔ q = r) := by
        intro q hq r hr
        rw [iI_eq (by omega) (by omega) (by omega) (by omega)]
        omega
      by_cases k98 : tK c L i = 98
      · by_cases hn6 : n = 6
        · refine hbad0 ?_ ?_
          · have htv : t = 1 ∧ v = 98 := by
              rcases g2 with ⟨h, -⟩ | ⟨-, -, rfl, rfl⟩ | ⟨h, -⟩ | ⟨h, -⟩ | ⟨h, -⟩
              · omega
              · exact ⟨rfl, by rw [k98]; rfl⟩
              · omega
              · omega
              · omega
            obtain ⟨rfl, rfl⟩ := htv
            unfold fX5_readItem fX5_readBook
            rw [if_pos rfl, if_pos rfl, hn6, if_pos (by decide), Option.bind_some]
          · rw [hT.2.2.1, k98]
            unfold fX8_mayBe
            rw [if_pos (show iI ((98 : Nat) : Int) = (98 : Int32) from rfl), w1t, hD.2.2.2.2.2.2.1, hn6, if_pos (by decide)]
        · refine hgood 98 k98 (by decide) (by decide) ?_ (fun a1 s1 o1 v1 hT1 => item_b hN hx hle.2.1 hD (by omega) hT1)
          rw [hT.2.2.1, k98]
          unfold fX8_mayBe
          rw [if_pos (show iI ((98 : Nat) : Int) = (98 : Int32) from rfl), w1t, hD.2.2.2.2.2.2.1, if_neg (by rw [iI_lit 6, iI_le (by decide) (by decide) (by omega) (by omega)]; show ¬ (6 : Int) ≤ n; omega)]
      by_cases k116 : tK c L i = 116
      · refine hgood 116 k116 (by decide) (by decide) ?_ (fun a1 s1 o1 v1 hT1 => item_t hN hx hle.2.1 hD hT1)
        rw [hT.2.2.1, k116]
        unfold fX8_mayBe
        rw [if_neg (by decide), if_pos (show iI ((116 : Nat) : Int) = (116 : Int32) from rfl)]
      by_cases k111 : tK c L i = 111
      · by_cases ho9 : o = -9
        · subst ho9
          refine hgood 111 k111 (by decide) (by decide) ?_ (fun a1 s1 o1 v1 hT1 => item_o hN hx hle.2.1 hD hT1)
          rw [hT.2.2.1, k111]
          unfold fX8_mayBe
          rw [if_neg (by decide), if_neg (by decide), if_pos (show iI ((111 : Nat) : Int) = (111 : Int32) from rfl), hD.2.2.2.2.2.2.2.2.2.2, if_pos rfl, if_pos rfl]
        · refine hbad0 ?_ ?_
          · have htv : t = 1 ∧ v = 111 := by
              rcases g2 with ⟨h, -⟩ | ⟨-, -, rfl, rfl⟩ | ⟨h, -⟩ | ⟨h, -⟩ | ⟨h, -⟩
              · omega
              · exact ⟨rfl, by rw [k111]; rfl⟩
              · omega
              · omega
              · omega
            obtain ⟨rfl, rfl⟩ := htv
            have ho' := hD.2.2.2.2.1
            unfold fX5_readItem fX5_readOne
            rw [if_pos rfl, if_neg (by decide), if_pos rfl, if_neg (show ¬ iI o = (-9 : Int32) by rw [e_m9, iI_eq (by omega) (by omega) (by decide) (by decide)]; exact ho9), Option.bind_some]
          · rw [hT.2.2.1, k111]
            unfold fX8_mayBe
            rw [if_neg (by decide), if_neg (by decide), if_pos (show iI ((111 : Nat) : Int) = (111 : Int32) from rfl), hD.2.2.2.2.2.2.2.2.2.2, if_neg ho9, if_neg z1]
      · refine hbad0 ?_ ?_
        · unfold fX5_readItem
          rcases g2 with ⟨h, -⟩ | ⟨q1, q2, rfl, rfl⟩ | ⟨-, -, rfl, -⟩ | ⟨-, rfl⟩ | ⟨-, rfl | ⟨rfl, rfl⟩⟩
          · exact absurd h h3
          · rw [if_pos rfl, if_neg (show ¬ iI ((tK c L i : Nat) : Int) = (98 : Int32) from fun q => k98 ((e97 _ hkl 98 (by decide)).mp q)), if_neg (show ¬ iI ((tK c L i : Nat) : Int) = (111 : Int32) from fun q => k111 ((e97 _ hkl 111 (by decide)).mp q)), if_neg (show ¬ iI ((tK c L i : Nat) : Int) = (116 : Int32) from fun q => k116 ((e97 _ hkl 116 (by decide)).mp q))]
          · rw [if_neg (by decide)]
          · rw [if_neg (by decide)]
          · rw [if_neg (by decide)]
          · rw [if_pos rfl, if_neg (by decide), if_neg (by decide), if_neg (by decide)]
        · rw [hT.2.2.1]
          exact mayBe_no hkl k98 k116 k111
end ITEMS3
