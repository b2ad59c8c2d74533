/-! numbers and semicolons -/
section PARSE
theorem tV_le {c : Nat → Nat} {L i : Nat} {t v : Int32} (h : RC (tK c L i) (tV c L i) t v) (hk : tK c L i = 1) : tV c L i ≤ 999 ∧ t = 2 ∧ v = iI ((tV c L i : Nat) : Int) := by
  rcases h with ⟨h, -⟩ | ⟨h, h2, -⟩ | ⟨-, h1, h2, h3⟩ | ⟨h, -⟩ | ⟨h, -⟩
  · omega
  · omega
  · exact ⟨h1, h2, h3⟩
  · omega
  · omega
theorem RC_ne2 {k vl : Nat} {t v : Int32} (h : RC k vl t v) (hk : k ≠ 1) : ¬ t = 2 := by
  rcases h with ⟨-, rfl⟩ | ⟨-, -, rfl, -⟩ | ⟨h, -⟩ | ⟨-, rfl⟩ | ⟨-, rfl | ⟨rfl, -⟩⟩
  · decide
  · decide
  · exact absurd h hk
  · decide
  · decide
  · decide
theorem RC_3 {k vl : Nat} {t v : Int32} (h : RC k vl t v) : t = 3 ↔ k = 2 := by
  rcases h with ⟨rfl, rfl⟩ | ⟨h1, h2, rfl, -⟩ | ⟨rfl, -, rfl, -⟩ | ⟨rfl, rfl⟩ | ⟨rfl, rfl | ⟨rfl, -⟩⟩
  · decide
  · exact ⟨fun q => absurd q (by decide), fun q => by omega⟩
  · decide
  · decide
  · decide
  · decide
theorem RC_0 {k vl : Nat} {t v : Int32} (h : RC k vl t v) : t = 0 ↔ k = 3 := by
  rcases h with ⟨rfl, rfl⟩ | ⟨h1, h2, rfl, -⟩ | ⟨rfl, -, rfl, -⟩ | ⟨rfl, rfl⟩ | ⟨rfl, rfl | ⟨rfl, -⟩⟩
  · decide
  · exact ⟨fun q => absurd q (by decide), fun q => by omega⟩
  · decide
  · decide
  · decide
  · decide
def okN (c : Nat → Nat) (L i : Nat) (M : Int) : Bool := decide (tK c L i = 1 ∧ ((tV c L i : Nat) : Int) ≤ M)
theorem clsNum {N L i : Nat} {c : Nat → Nat} {bytes text : Nat → Int32} {M : Int} (hN : 300 ≤ N) (hx : TX L c bytes text) (hi : i ≤ L) (hM : -1000 ≤ M) (hM2 : M ≤ 1000) (tk bg va : Int32) : ∃ f t v, fX5_readNumber N bytes (iI (L : Int)) (iI (i : Int)) tk bg va (iI M) = some (f, iI ((tE c L i : Nat) : Int), t, iI ((tS c L i : Nat) : Int), v) ∧ (okN c L i M = true → f = 1 ∧ v = iI ((tV c L i : Nat) : Int) ∧ tV c L i ≤ 999) ∧ (okN c L i M = false → f = 0) := by
  obtain ⟨t, v, h1, h2⟩ := clsStep hN hx hi tk bg va
  unfold fX5_readNumber okN
  rw [h1, Option.bind_some]
  dsimp only
  by_cases hk : tK c L i = 1
  · obtain ⟨h3, rfl, rfl⟩ := tV_le h2 hk
    rw [if_pos rfl]
    by_cases h4 : M < ((tV c L i : Nat) : Int)
    · rw [if_pos (by rw [iI_lt (by omega) (by omega) (by omega) (by omega)]; exact h4)]
      refine ⟨_, _, _, rfl, fun q => ?_, fun _ => rfl⟩
      have := of_decide_eq_true q
      omega
    · rw [if_neg (by rw [iI_lt (by omega) (by omega) (by omega) (by omega)]; exact h4)]
      refine ⟨_, _, _, rfl, fun _ => ⟨rfl, rfl, h3⟩, fun q => ?_⟩
      have := of_decide_eq_false q
      omega
  · rw [if_neg (RC_ne2 h2 hk)]
    refine ⟨_, _, _, rfl, fun q => ?_, fun _ => rfl⟩
    exact absurd (of_decide_eq_true q).1 hk
theorem clsSemi {N L i : Nat} {c : Nat → Nat} {bytes text : Nat → Int32} (hN : 300 ≤ N) (hx : TX L c bytes text) (hi : i ≤ L) (tk bg va : Int32) : ∃ t v, fX5_readSemicolon N bytes (iI (L : Int)) (iI (i : Int)) tk bg va = some ((if tK c L i = 2 then 1 else 0), iI ((tE c L i : Nat) : Int), t, iI ((tS c L i : Nat) : Int), v) := by
  obtain ⟨t, v, h1, h2⟩ := clsStep hN hx hi tk bg va
  unfold fX5_readSemicolon
  rw [h1, Option.bind_some]
  dsimp only
  by_cases hk : tK c L i = 2
  · rw [if_pos ((RC_3 h2).mpr hk), if_pos hk]
    exact ⟨_, _, rfl⟩
  · rw [if_neg (fun q => hk ((RC_3 h2).mp q)), if_neg hk]
    exact ⟨_, _, rfl⟩
/-! the reference -/
theorem m9_nat {s : Nat} (hs : s < 1000) : ¬ iI (s : Int) = (-9 : Int32) := by
  rw [e_m9, iI_eq (by omega) (by omega) (by decide) (by decide)]
  omega
theorem due_yes {N L i : Nat} {c : Nat → Nat} {bytes text : Nat → Int32} {at' st so va : Int32} (hN : 300 ≤ N) (hx : TX L c bytes text) (hi : i ≤ L) (hT : TS c L i at' st so va) : ∃ a2 s2 o2 v2, fX8_due N text (iI (L : Int)) at' st so va (-9) 1 = some (va, a2, s2, o2, v2, -9) ∧ TS c L (tE c L i) a2 s2 o2 v2 := by
  obtain ⟨rfl, rfl, rfl, hv⟩ := hT
  obtain ⟨a2, s2, o2, v2, h1, h2⟩ := mdlStep hN hx (tE_le (c := c) hi).2.1 (iI ((tS c L i : Nat) : Int)) (iI ((tK c L i : Nat) : Int)) va
  unfold fX8_due
  rw [if_pos rfl, if_neg z1, h1, Option.bind_some]
  exact ⟨a2, s2, o2, v2, rfl, h2⟩
theorem due_no {N : Nat} {text : Nat → Int32} {L at' st so va : Int32} : fX8_due N text L at' st so va (-9) 0 = some (va, at', st, so, va, st) := by
  unfold fX8_due
  rw [if_pos rfl, if_pos rfl]
theorem due_fault {N : Nat} {text : Nat → Int32} {L at' st so va p : Int32} {s : Nat} (hs : s < 1000) : fX8_due N text L at' st so va (iI (s : Int)) p = some (va, at', st, so, va, iI (s : Int)) := by
  unfold fX8_due
  rw [if_neg (m9_nat hs)]
theorem num_yes {N L i : Nat} {c : Nat → Nat} {bytes text : Nat → Int32} {at' st so va : Int32} {M : Int} (hN : 300 ≤ N) (hx : TX L c bytes text) (hi : i ≤ L) (hM : -1000 ≤ M) (hM2 : M ≤ 1000) (hT : TS c L i at' st so va) (hok : okN c L i M = true) : ∃ a2 s2 o2 v2, fX8_number N text (iI (L : Int)) at' st so va (-9) 0 (iI M) = some (iI ((tV c L i : Nat) : Int), a2, s2, o2, v2, -9) ∧ TS c L (tE c L i) a2 s2 o2 v2 := by
  have hk := (of_decide_eq_true hok)
  obtain ⟨a2, s2, o2, v2, h1, h2⟩ := due_yes hN hx hi hT
  obtain ⟨rfl, rfl, rfl, hv⟩ := hT
  have hv := hv hk.1
  subst hv
  have e0 : (0 : Int32) = iI ((0 : Nat) : Int) := rfl
  unfold fX8_number fX8_number_J26
  rw [if_pos (by rw [hk.1]; rfl), in_within, if_neg (fun q => by
    rw [e0] at q
    exact ((within_0 (by omega) (by omega) (by omega) (by omega) (by omega) (by omega)).mp q) ⟨by omega, hk.2⟩), h1, Option.bind_some]
  exact ⟨a2, s2, o2, v2, rfl, h2⟩
theorem num_no {N L i : Nat} {c : Nat → Nat} {text : Nat → Int32} {at' st so va : Int32} {M : Int} {hL : L ≤ 150} (hV : tK c L i = 1 → tV c L i ≤ 999) (hK : tK c L i < 200) (hM : -1000 ≤ M) (hM2 : M ≤ 1000) (hT : TS c L i at' st so va) (hok : okN c L i M = false) : fX8_number N text (iI (L : Int)) at' st so va (-9) 0 (iI M) = some (va, at', st, so, va, st) := by
  have hk := (of_decide_eq_false hok)
  obtain ⟨rfl, rfl, rfl, hv⟩ := hT
  have e0 : (0 : Int32) = iI ((0 : Nat) : Int) := rfl
  unfold fX8_number fX8_number_J25 fX8_number_J26
  rw [due_no, Option.bind_some]
  by_cases h1 : tK c L i = 1
  · have hv := hv h1
    have hV := hV h1
    subst hv
    rw [if_pos (by rw [h1]; rfl), in_within, if_pos (by
      rw [e0]
      exact (within_0 (by omega) (by omega) (by omega) (by omega) (by omega) (by omega)).mpr (by omega))]
  · rw [if_neg (by rw [iI_lit 1, iI_eq (by omega) (by omega) (by decide) (by decide)]; show ¬ ((tK c L i : Nat) : Int) = 1; omega)]
theorem num_fault {N : Nat} {text : Nat → Int32} {L at' st so va p1 p2 : Int32} {s : Nat} (hs : s < 1000) : fX8_number N text L at' st so va (iI (s : Int)) p1 p2 = some (va, at', st, so, va, iI (s : Int)) := by
  unfold fX8_number fX8_number_J25 fX8_number_J26
  rw [due_fault hs, due_fault hs, Option.bind_some, ite_self]
  split <;> rfl
theorem tK_lt {c : Nat → Nat} {L i : Nat} : tK c L i < 200 := by
  unfold tK tG iv
  split
  · omega
  · split
    · rename_i h1
      have := of_decide_eq_true h1
      split <;> omega
    · split
      · split <;> omega
      · split <;> omega
end PARSE
