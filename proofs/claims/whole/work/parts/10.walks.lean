section WALKS
variable {l : Launch} {dC : Nat → ClassId} {dI : Nat → Nat → Nat} {cI cJ cB cZ : ClassId}
abbrev rX0_empty : Room := { frames := 0, cells := 0, slots := 0, locals := 0 }
abbrev wX0_empty : List Cond := Cond.code yX0_empty cX0_empty 1 none :: VT
set_option maxHeartbeats 4000000 in
set_option maxRecDepth 100000 in
theorem kX0_empty (ad0 : Nat) (ad_a : Nat) (ad_b : Nat) (v_size : Int32) (v_touches : Int32) (v_one : Int32) (q0 : (Int32 × Int32 × Int32)) (hf : fX0_empty v_size v_touches v_one = q0) : Kv l yX0_empty wX0_empty rX0_empty (dC, dI) (vTy cI cJ cB cZ) [.ref ad0] [(ad0, oX0 ad_a ad_b v_size v_touches v_one)] [(ad0, oX0 ad_a ad_b q0.1 q0.2.1 q0.2.2)] := by
  refine Kv.mk (cc := cX0_empty) (maxL := 1) (ret := none) (by decide) (Nat.le_of_ble_eq_true rfl) ?_
  intro p e s m args below meth c A Q H locs C hQ hP hD hS ls hl
  obtain ⟨hx, hb, -, hml, hts, hown, -, hK, hN, hA⟩ := id C
  have hown : s.vm.findClass RX0 = some m.cls := hown
  have hl : lv_has ls 1 [(0, .ref ad0)] := hl
  unfold fX0_empty at hf
  refine lv_aload_n hx hb (dt uX0_empty 0 rfl) rfl (lv_at hl 0 rfl) ?_
  refine lv_iconst (v := (0 : Int32)) hx hb (dt uX0_empty 1 rfl) (by decide) ?_
  refine va_put (D := (dC, dI)) (ci := 0) (v := .int (0 : Int32)) (ty := .int) (C := RX0) (T := TX0) (N := 5) hx hb hts inU0 tyX0 tyX0_ok nmX0 hown hK hP hD hS 0 rfl rfl 2 (by decide) (hts _ tw_0) (fun _ h9 => h9) rfl (by decide +kernel) rfl rfl (Nat.le_of_ble_eq_true rfl) (dt uX0_empty 2 rfl) (fun H locs hP hD hS => ?_)
  have hP : va_P (dC, dI) vwCl [(ad0, oX0 ad_a ad_b (0 : Int32) v_touches v_one)] H := hP
  have hD : va_D A [(ad0, oX0 ad_a ad_b (0 : Int32) v_touches v_one)] := hD
  refine lv_aload_n hx hb (dt uX0_empty 3 rfl) rfl (lv_at hl 0 rfl) ?_
  refine lv_iconst (v := (0 : Int32)) hx hb (dt uX0_empty 4 rfl) (by decide) ?_
  refine va_put (D := (dC, dI)) (ci := 0) (v := .int (0 : Int32)) (ty := .int) (C := RX0) (T := TX0) (N := 5) hx hb hts inU0 tyX0 tyX0_ok nmX0 hown hK hP hD hS 0 rfl rfl 3 (by decide) (hts _ tw_1) (fun _ h9 => h9) rfl (by decide +kernel) rfl rfl (Nat.le_of_ble_eq_true rfl) (dt uX0_empty 5 rfl) (fun H locs hP hD hS => ?_)
  have hP : va_P (dC, dI) vwCl [(ad0, oX0 ad_a ad_b (0 : Int32) (0 : Int32) v_one)] H := hP
  have hD : va_D A [(ad0, oX0 ad_a ad_b (0 : Int32) (0 : Int32) v_one)] := hD
  refine lv_aload_n hx hb (dt uX0_empty 6 rfl) rfl (lv_at hl 0 rfl) ?_
  refine lv_bipush (v := (-9 : Int32)) hx hb (dt uX0_empty 7 rfl) (by decide) ?_
  refine va_put (D := (dC, dI)) (ci := 0) (v := .int (-9 : Int32)) (ty := .int) (C := RX0) (T := TX0) (N := 5) hx hb hts inU0 tyX0 tyX0_ok nmX0 hown hK hP hD hS 0 rfl rfl 4 (by decide) (hts _ tw_2) (fun _ h9 => h9) rfl (by decide +kernel) rfl rfl (Nat.le_of_ble_eq_true rfl) (dt uX0_empty 8 rfl) (fun H locs hP hD hS => ?_)
  have hP : va_P (dC, dI) vwCl [(ad0, oX0 ad_a ad_b (0 : Int32) (0 : Int32) (-9 : Int32))] H := hP
  have hD : va_D A [(ad0, oX0 ad_a ad_b (0 : Int32) (0 : Int32) (-9 : Int32))] := hD
  subst hf
  rw [hQ]
  exact vret_v C hP hD hS (dt uX0_empty 9 rfl)
abbrev rX0_copyFrom : Room := { frames := 0, cells := 0, slots := 0, locals := 0 }
abbrev wX0_copyFrom : List Cond := Cond.code yX0_copyFrom cX0_copyFrom 3 none :: VT
set_option maxHeartbeats 4000000 in
set_option maxRecDepth 100000 in
theorem kX0_copyFrom (ad0 : Nat) (ad_a : Nat) (ad_b : Nat) (ad_p1 : Nat) (ad_p1_a : Nat) (ad_p1_b : Nat) (v_size : Int32) (v_touches : Int32) (v_one : Int32) (a_a : Nat → Int32) (a_b : Nat → Int32) (v_p1_size : Int32) (v_p1_touches : Int32) (v_p1_one : Int32) (a_p1_a : Nat → Int32) (a_p1_b : Nat → Int32) (N : Nat) (q0 : ((Nat → Int32) × (Nat → Int32) × Int32 × Int32 × Int32)) (hf : fX0_copyFrom N a_a a_b v_size v_touches v_one a_p1_a a_p1_b v_p1_size v_p1_touches v_p1_one = some q0) : Kv l yX0_copyFrom wX0_copyFrom rX0_copyFrom (dC, dI) (vTy cI cJ cB cZ) [.ref ad0, .ref ad_p1] [(ad0, oX0 ad_a ad_b v_size v_touches v_one), (ad_a, .inl (cI, 6, .inl a_a)), (ad_b, .inl (cI, 6, .inl a_b)), (ad_p1, oX0 ad_p1_a ad_p1_b v_p1_size v_p1_touches v_p1_one), (ad_p1_a, .inl (cI, 6, .inl a_p1_a)), (ad_p1_b, .inl (cI, 6, .inl a_p1_b))] [(ad0, oX0 ad_a ad_b q0.2.2.1 q0.2.2.2.1 q0.2.2.2.2), (ad_a, .inl (cI, 6, .inl q0.1)), (ad_b, .inl (cI, 6, .inl q0.2.1)), (ad_p1, oX0 ad_p1_a ad_p1_b v_p1_size v_p1_touches v_p1_one), (ad_p1_a, .inl (cI, 6, .inl a_p1_a)), (ad_p1_b, .inl (cI, 6, .inl a_p1_b))] := by
  refine Kv.mk (cc := cX0_copyFrom) (maxL := 3) (ret := none) (by decide) (Nat.le_of_ble_eq_true rfl) ?_
  intro p e s m args below meth c A Q H locs C hQ hP hD hS ls hl
  obtain ⟨hx, hb, -, hml, hts, hown, -, hK, hN, hA⟩ := id C
  have hown : s.vm.findClass RX0 = some m.cls := hown
  have hl : lv_has ls 3 [(0, .ref ad0), (1, .ref ad_p1)] := hl
  unfold fX0_copyFrom at hf
  refine lv_iconst (v := (0 : Int32)) hx hb (dt uX0_copyFrom 0 rfl) (by decide) ?_
  refine lv_istore_n (lv' := [(2, .int (0 : Int32)), (0, .ref ad0), (1, .ref ad_p1)]) hx hb (dt uX0_copyFrom 1 rfl) rfl hl (by decide) rfl (fun ls hl => ?_)
  have hL2 : ∀ (n2 : Nat), ∀ (x2_1 : Int32) (w_2 : Nat → Int32) (w_3 : Nat → Int32) (H : Heap) (locs : List Loc) (ls : Array Slot), fX0_copyFrom_L2 a_p1_a a_p1_b v_p1_size v_p1_touches v_p1_one n2 x2_1 w_2 w_3 = some q0 → va_P (dC, dI) vwCl [(ad0, oX0 ad_a ad_b v_size v_touches v_one), (ad_a, .inl (cI, 6, .inl w_2)), (ad_b, .inl (cI, 6, .inl w_3)), (ad_p1, oX0 ad_p1_a ad_p1_b v_p1_size v_p1_touches v_p1_one), (ad_p1_a, .inl (cI, 6, .inl a_p1_a)), (ad_p1_b, .inl (cI, 6, .inl a_p1_b))] H → va_D A [(ad0, oX0 ad_a ad_b v_size v_touches v_one), (ad_a, .inl (cI, 6, .inl w_2)), (ad_b, .inl (cI, 6, .inl w_3)), (ad_p1, oX0 ad_p1_a ad_p1_b v_p1_size v_p1_touches v_p1_one), (ad_p1_a, .inl (cI, 6, .inl a_p1_a)), (ad_p1_b, .inl (cI, 6, .inl a_p1_b))] → va_S A s.heap H locs → lv_has ls 3 [(0, .ref ad0), (1, .ref ad_p1), (2, .int x2_1)] → W p l e rX0_copyFrom s m args below meth c H locs 0 0 Q (F0 m 2 ls []) := by
    intro n2
    induction n2 with
    | zero => intro x2_1 w_2 w_3 H locs ls hf hP hD hS hl; cases hf
    | succ n2 ih2 =>
      intro x2_1 w_2 w_3 H locs ls hf hP hD hS hl
      rw [fX0_copyFrom_L2] at hf
      refine lv_iload_n hx hb (dt uX0_copyFrom 2 rfl) rfl (lv_at hl 2 rfl) ?_
      refine lv_bipush (v := (6 : Int32)) hx hb (dt uX0_copyFrom 3 rfl) (by decide) ?_
      refine lv_icmp_ge (tgt := 38) hx hb (dt uX0_copyFrom 4 rfl) (by decide) (fun c_4 => ?_) (fun c_4 => ?_)
      · have hf := vif_t c_4 hf
        refine lv_aload_n hx hb (dt uX0_copyFrom 23 rfl) rfl (lv_at hl 0 rfl) ?_
        refine lv_aload_n hx hb (dt uX0_copyFrom 24 rfl) rfl (lv_at hl 1 rfl) ?_
        refine va_get (D := (dC, dI)) (ci := 0) (v := .int v_p1_size) (C := RX0) (T := TX0) (N := 5) hx hb hts inU0 hown hK hP 3 rfl rfl 2 (by decide) (hts _ tw_0) (fun _ h9 => h9) rfl (dt uX0_copyFrom 25 rfl) ?_
        refine va_put (D := (dC, dI)) (ci := 0) (v := .int v_p1_size) (ty := .int) (C := RX0) (T := TX0) (N := 5) hx hb hts inU0 tyX0 tyX0_ok nmX0 hown hK hP hD hS 0 rfl rfl 2 (by decide) (hts _ tw_0) (fun _ h9 => h9) rfl (by decide +kernel) rfl rfl (Nat.le_of_ble_eq_true rfl) (dt uX0_copyFrom 26 rfl) (fun H locs hP hD hS => ?_)
        have hP : va_P (dC, dI) vwCl [(ad0, oX0 ad_a ad_b v_p1_size v_touches v_one), (ad_a, .inl (cI, 6, .inl w_2)), (ad_b, .inl (cI, 6, .inl w_3)), (ad_p1, oX0 ad_p1_a ad_p1_b v_p1_size v_p1_touches v_p1_one), (ad_p1_a, .inl (cI, 6, .inl a_p1_a)), (ad_p1_b, .inl (cI, 6, .inl a_p1_b))] H := hP
        have hD : va_D A [(ad0, oX0 ad_a ad_b v_p1_size v_touches v_one), (ad_a, .inl (cI, 6, .inl w_2)), (ad_b, .inl (cI, 6, .inl w_3)), (ad_p1, oX0 ad_p1_a ad_p1_b v_p1_size v_p1_touches v_p1_one), (ad_p1_a, .inl (cI, 6, .inl a_p1_a)), (ad_p1_b, .inl (cI, 6, .inl a_p1_b))] := hD
        refine lv_aload_n hx hb (dt uX0_copyFrom 27 rfl) rfl (lv_at hl 0 rfl) ?_
        refine lv_aload_n hx hb (dt uX0_copyFrom 28 rfl) rfl (lv_at hl 1 rfl) ?_
        refine va_get (D := (dC, dI)) (ci := 0) (v := .int v_p1_touches) (C := RX0) (T := TX0) (N := 5) hx hb hts inU0 hown hK hP 3 rfl rfl 3 (by decide) (hts _ tw_1) (fun _ h9 => h9) rfl (dt uX0_copyFrom 29 rfl) ?_
        refine va_put (D := (dC, dI)) (ci := 0) (v := .int v_p1_touches) (ty := .int) (C := RX0) (T := TX0) (N := 5) hx hb hts inU0 tyX0 tyX0_ok nmX0 hown hK hP hD hS 0 rfl rfl 3 (by decide) (hts _ tw_1) (fun _ h9 => h9) rfl (by decide +kernel) rfl rfl (Nat.le_of_ble_eq_true rfl) (dt uX0_copyFrom 30 rfl) (fun H locs hP hD hS => ?_)
        have hP : va_P (dC, dI) vwCl [(ad0, oX0 ad_a ad_b v_p1_size v_p1_touches v_one), (ad_a, .inl (cI, 6, .inl w_2)), (ad_b, .inl (cI, 6, .inl w_3)), (ad_p1, oX0 ad_p1_a ad_p1_b v_p1_size v_p1_touches v_p1_one), (ad_p1_a, .inl (cI, 6, .inl a_p1_a)), (ad_p1_b, .inl (cI, 6, .inl a_p1_b))] H := hP
        have hD : va_D A [(ad0, oX0 ad_a ad_b v_p1_size v_p1_touches v_one), (ad_a, .inl (cI, 6, .inl w_2)), (ad_b, .inl (cI, 6, .inl w_3)), (ad_p1, oX0 ad_p1_a ad_p1_b v_p1_size v_p1_touches v_p1_one), (ad_p1_a, .inl (cI, 6, .inl a_p1_a)), (ad_p1_b, .inl (cI, 6, .inl a_p1_b))] := hD
        refine lv_aload_n hx hb (dt uX0_copyFrom 31 rfl) rfl (lv_at hl 0 rfl) ?_
        refine lv_aload_n hx hb (dt uX0_copyFrom 32 rfl) rfl (lv_at hl 1 rfl) ?_
        refine va_get (D := (dC, dI)) (ci := 0) (v := .int v_p1_one) (C := RX0) (T := TX0) (N := 5) hx hb hts inU0 hown hK hP 3 rfl rfl 4 (by decide) (hts _ tw_2) (fun _ h9 => h9) rfl (dt uX0_copyFrom 33 rfl) ?_
        refine va_put (D := (dC, dI)) (ci := 0) (v := .int v_p1_one) (ty := .int) (C := RX0) (T := TX0) (N := 5) hx hb hts inU0 tyX0 tyX0_ok nmX0 hown hK hP hD hS 0 rfl rfl 4 (by decide) (hts _ tw_2) (fun _ h9 => h9) rfl (by decide +kernel) rfl rfl (Nat.le_of_ble_eq_true rfl) (dt uX0_copyFrom 34 rfl) (fun H locs hP hD hS => ?_)
        have hP : va_P (dC, dI) vwCl [(ad0, oX0 ad_a ad_b v_p1_size v_p1_touches v_p1_one), (ad_a, .inl (cI, 6, .inl w_2)), (ad_b, .inl (cI, 6, .inl w_3)), (ad_p1, oX0 ad_p1_a ad_p1_b v_p1_size v_p1_touches v_p1_one), (ad_p1_a, .inl (cI, 6, .inl a_p1_a)), (ad_p1_b, .inl (cI, 6, .inl a_p1_b))] H := hP
        have hD : va_D A [(ad0, oX0 ad_a ad_b v_p1_size v_p1_touches v_p1_one), (ad_a, .inl (cI, 6, .inl w_2)), (ad_b, .inl (cI, 6, .inl w_3)), (ad_p1, oX0 ad_p1_a ad_p1_b v_p1_size v_p1_touches v_p1_one), (ad_p1_a, .inl (cI, 6, .inl a_p1_a)), (ad_p1_b, .inl (cI, 6, .inl a_p1_b))] := hD
        have hf := Option.some.inj hf
        subst hf
        rw [hQ]
        exact vret_v C hP hD hS (dt uX0_copyFrom 35 rfl)
      · have hf := vif_f c_4 hf
        refine lv_aload_n hx hb (dt uX0_copyFrom 5 rfl) rfl (lv_at hl 0 rfl) ?_
        refine va_get (D := (dC, dI)) (ci := 0) (v := .ref ad_a) (C := RX0) (T := TX0) (N := 5) hx hb hts inU0 hown hK hP 0 rfl rfl 0 (by decide) (hts _ tw_3) (fun _ h9 => h9) rfl (dt uX0_copyFrom 6 rfl) ?_
        refine lv_iload_n hx hb (dt uX0_copyFrom 7 rfl) rfl (lv_at hl 2 rfl) ?_
        refine lv_aload_n hx hb (dt uX0_copyFrom 8 rfl) rfl (lv_at hl 1 rfl) ?_
        refine va_get (D := (dC, dI)) (ci := 0) (v := .ref ad_p1_a) (C := RX0) (T := TX0) (N := 5) hx hb hts inU0 hown hK hP 3 rfl rfl 0 (by decide) (hts _ tw_3) (fun _ h9 => h9) rfl (dt uX0_copyFrom 9 rfl) ?_
        refine lv_iload_n hx hb (dt uX0_copyFrom 10 rfl) rfl (lv_at hl 2 rfl) ?_
        obtain ⟨hi_5, hf⟩ := vg_some hf
        refine va_iald hx hb hK hP 4 0 rfl rfl hi_5 (dt uX0_copyFrom 11 rfl) ?_
        obtain ⟨hi_6, hf⟩ := vg_some hf
        refine va_iast hx hb hK hP hD hS 1 0 rfl rfl hi_6 (dt uX0_copyFrom 12 rfl) (fun H locs hP hD hS => ?_)
        have hP : va_P (dC, dI) vwCl [(ad0, oX0 ad_a ad_b v_size v_touches v_one), (ad_a, .inl (cI, 6, .inl (upd w_2 x2_1.toNatClampNeg (a_p1_a x2_1.toNatClampNeg)))), (ad_b, .inl (cI, 6, .inl w_3)), (ad_p1, oX0 ad_p1_a ad_p1_b v_p1_size v_p1_touches v_p1_one), (ad_p1_a, .inl (cI, 6, .inl a_p1_a)), (ad_p1_b, .inl (cI, 6, .inl a_p1_b))] H := hP
        have hD : va_D A [(ad0, oX0 ad_a ad_b v_size v_touches v_one), (ad_a, .inl (cI, 6, .inl (upd w_2 x2_1.toNatClampNeg (a_p1_a x2_1.toNatClampNeg)))), (ad_b, .inl (cI, 6, .inl w_3)), (ad_p1, oX0 ad_p1_a ad_p1_b v_p1_size v_p1_touches v_p1_one), (ad_p1_a, .inl (cI, 6, .inl a_p1_a)), (ad_p1_b, .inl (cI, 6, .inl a_p1_b))] := hD
        refine lv_aload_n hx hb (dt uX0_copyFrom 13 rfl) rfl (lv_at hl 0 rfl) ?_
        refine va_get (D := (dC, dI)) (ci := 0) (v := .ref ad_b) (C := RX0) (T := TX0) (N := 5) hx hb hts inU0 hown hK hP 0 rfl rfl 1 (by decide) (hts _ tw_4) (fun _ h9 => h9) rfl (dt uX0_copyFrom 14 rfl) ?_
        refine lv_iload_n hx hb (dt uX0_copyFrom 15 rfl) rfl (lv_at hl 2 rfl) ?_
        refine lv_aload_n hx hb (dt uX0_copyFrom 16 rfl) rfl (lv_at hl 1 rfl) ?_
        refine va_get (D := (dC, dI)) (ci := 0) (v := .ref ad_p1_b) (C := RX0) (T := TX0) (N := 5) hx hb hts inU0 hown hK hP 3 rfl rfl 1 (by decide) (hts _ tw_4) (fun _ h9 => h9) rfl (dt uX0_copyFrom 17 rfl) ?_
        refine lv_iload_n hx hb (dt uX0_copyFrom 18 rfl) rfl (lv_at hl 2 rfl) ?_
        obtain ⟨hi_7, hf⟩ := vg_some hf
        refine va_iald hx hb hK hP 5 0 rfl rfl hi_7 (dt uX0_copyFrom 19 rfl) ?_
        obtain ⟨hi_8, hf⟩ := vg_some hf
        refine va_iast hx hb hK hP hD hS 2 0 rfl rfl hi_8 (dt uX0_copyFrom 20 rfl) (fun H locs hP hD hS => ?_)
        have hP : va_P (dC, dI) vwCl [(ad0, oX0 ad_a ad_b v_size v_touches v_one), (ad_a, .inl (cI, 6, .inl (upd w_2 x2_1.toNatClampNeg (a_p1_a x2_1.toNatClampNeg)))), (ad_b, .inl (cI, 6, .inl (upd w_3 x2_1.toNatClampNeg (a_p1_b x2_1.toNatClampNeg)))), (ad_p1, oX0 ad_p1_a ad_p1_b v_p1_size v_p1_touches v_p1_one), (ad_p1_a, .inl (cI, 6, .inl a_p1_a)), (ad_p1_b, .inl (cI, 6, .inl a_p1_b))] H := hP
        have hD : va_D A [(ad0, oX0 ad_a ad_b v_size v_touches v_one), (ad_a, .inl (cI, 6, .inl (upd w_2 x2_1.toNatClampNeg (a_p1_a x2_1.toNatClampNeg)))), (ad_b, .inl (cI, 6, .inl (upd w_3 x2_1.toNatClampNeg (a_p1_b x2_1.toNatClampNeg)))), (ad_p1, oX0 ad_p1_a ad_p1_b v_p1_size v_p1_touches v_p1_one), (ad_p1_a, .inl (cI, 6, .inl a_p1_a)), (ad_p1_b, .inl (cI, 6, .inl a_p1_b))] := hD
        refine lv_iinc (v := x2_1 + 1) (lv' := [(2, .int (x2_1 + 1)), (0, .ref ad0), (1, .ref ad_p1)]) hx hb (dt uX0_copyFrom 21 rfl) hl (k := 2) rfl rfl (by decide) rfl (fun ls hl => ?_)
        refine lv_goto (tgt := 2) hx hb (dt uX0_copyFrom 22 rfl) (by decide) ?_
        exact ih2 (x2_1 + 1) (upd w_2 x2_1.toNatClampNeg (a_p1_a x2_1.toNatClampNeg)) (upd w_3 x2_1.toNatClampNeg (a_p1_b x2_1.toNatClampNeg)) _ _ _ hf hP hD hS (lv_sub hl [1, 2, 0] rfl)
  exact hL2 N (0 : Int32) a_a a_b _ _ _ hf hP hD hS (lv_sub hl [1, 2, 0] rfl)
abbrev rX0_append : Room := { frames := 0, cells := 0, slots := 0, locals := 0 }
abbrev wX0_append : List Cond := Cond.code yX0_append cX0_append 3 none :: VT
set_option maxHeartbeats 4000000 in
set_option maxRecDepth 100000 in
theorem kX0_append (ad0 : Nat) (ad_a : Nat) (ad_b : Nat) (v_size : Int32) (v_touches : Int32) (v_one : Int32) (a_a : Nat → Int32) (a_b : Nat → Int32) (p1 : Int32) (p2 : Int32) (q0 : ((Nat → Int32) × (Nat → Int32) × Int32)) (hf : fX0_append a_a a_b v_size p1 p2 = some q0) : Kv l yX0_append wX0_append rX0_append (dC, dI) (vTy cI cJ cB cZ) [.ref ad0, .int p1, .int p2] [(ad0, oX0 ad_a ad_b v_size v_touches v_one), (ad_a, .inl (cI, 6, .inl a_a)), (ad_b, .inl (cI, 6, .inl a_b))] [(ad0, oX0 ad_a ad_b q0.2.2 v_touches v_one), (ad_a, .inl (cI, 6, .inl q0.1)), (ad_b, .inl (cI, 6, .inl q0.2.1))] := by
  refine Kv.mk (cc := cX0_append) (maxL := 3) (ret := none) (by decide) (Nat.le_of_ble_eq_true rfl) ?_
  intro p e s m args below meth c A Q H locs C hQ hP hD hS ls hl
  obtain ⟨hx, hb, -, hml, hts, hown, -, hK, hN, hA⟩ := id C
  have hown : s.vm.findClass RX0 = some m.cls := hown
  have hl : lv_has ls 3 [(0, .ref ad0), (1, .int p1), (2, .int p2)] := hl
  unfold fX0_append at hf
  refine lv_aload_n hx hb (dt uX0_append 0 rfl) rfl (lv_at hl 0 rfl) ?_
  refine va_get (D := (dC, dI)) (ci := 0) (v := .int v_size) (C := RX0) (T := TX0) (N := 5) hx hb hts inU0 hown hK hP 0 rfl rfl 2 (by decide) (hts _ tw_0) (fun _ h9 => h9) rfl (dt uX0_append 1 rfl) ?_
  refine lv_bipush (v := (6 : Int32)) hx hb (dt uX0_append 2 rfl) (by decide) ?_
  refine lv_icmp_ge (tgt := 39) hx hb (dt uX0_append 3 rfl) (by decide) (fun c_1 => ?_) (fun c_1 => ?_)
  · have hf := vif_t c_1 hf
    have hf := Option.some.inj hf
    subst hf
    rw [hQ]
    exact vret_v C hP hD hS (dt uX0_append 22 rfl)
  · have hf := vif_f c_1 hf
    refine lv_aload_n hx hb (dt uX0_append 4 rfl) rfl (lv_at hl 0 rfl) ?_
    refine va_get (D := (dC, dI)) (ci := 0) (v := .ref ad_a) (C := RX0) (T := TX0) (N := 5) hx hb hts inU0 hown hK hP 0 rfl rfl 0 (by decide) (hts _ tw_3) (fun _ h9 => h9) rfl (dt uX0_append 5 rfl) ?_
    refine lv_aload_n hx hb (dt uX0_append 6 rfl) rfl (lv_at hl 0 rfl) ?_
    refine va_get (D := (dC, dI)) (ci := 0) (v := .int v_size) (C := RX0) (T := TX0) (N := 5) hx hb hts inU0 hown hK hP 0 rfl rfl 2 (by decide) (hts _ tw_0) (fun _ h9 => h9) rfl (dt uX0_append 7 rfl) ?_
    refine lv_iload_n hx hb (dt uX0_append 8 rfl) rfl (lv_at hl 1 rfl) ?_
    obtain ⟨hi_2, hf⟩ := vg_some hf
    refine va_iast hx hb hK hP hD hS 1 0 rfl rfl hi_2 (dt uX0_append 9 rfl) (fun H locs hP hD hS => ?_)
    have hP : va_P (dC, dI) vwCl [(ad0, oX0 ad_a ad_b v_size v_touches v_one), (ad_a, .inl (cI, 6, .inl (upd a_a v_size.toNatClampNeg p1))), (ad_b, .inl (cI, 6, .inl a_b))] H := hP
    have hD : va_D A [(ad0, oX0 ad_a ad_b v_size v_touches v_one), (ad_a, .inl (cI, 6, .inl (upd a_a v_size.toNatClampNeg p1))), (ad_b, .inl (cI, 6, .inl a_b))] := hD
    refine lv_aload_n hx hb (dt uX0_append 10 rfl) rfl (lv_at hl 0 rfl) ?_
    refine va_get (D := (dC, dI)) (ci := 0) (v := .ref ad_b) (C := RX0) (T := TX0) (N := 5) hx hb hts inU0 hown hK hP 0 rfl rfl 1 (by decide) (hts _ tw_4) (fun _ h9 => h9) rfl (dt uX0_append 11 rfl) ?_
    refine lv_aload_n hx hb (dt uX0_append 12 rfl) rfl (lv_at hl 0 rfl) ?_
    refine va_get (D := (dC, dI)) (ci := 0) (v := .int v_size) (C := RX0) (T := TX0) (N := 5) hx hb hts inU0 hown hK hP 0 rfl rfl 2 (by decide) (hts _ tw_0) (fun _ h9 => h9) rfl (dt uX0_append 13 rfl) ?_
    refine lv_iload_n hx hb (dt uX0_append 14 rfl) rfl (lv_at hl 2 rfl) ?_
    obtain ⟨hi_3, hf⟩ := vg_some hf
    refine va_iast hx hb hK hP hD hS 2 0 rfl rfl hi_3 (dt uX0_append 15 rfl) (fun H locs hP hD hS => ?_)
    have hP : va_P (dC, dI) vwCl [(ad0, oX0 ad_a ad_b v_size v_touches v_one), (ad_a, .inl (cI, 6, .inl (upd a_a v_size.toNatClampNeg p1))), (ad_b, .inl (cI, 6, .inl (upd a_b v_size.toNatClampNeg p2)))] H := hP
    have hD : va_D A [(ad0, oX0 ad_a ad_b v_size v_touches v_one), (ad_a, .inl (cI, 6, .inl (upd a_a v_size.toNatClampNeg p1))), (ad_b, .inl (cI, 6, .inl (upd a_b v_size.toNatClampNeg p2)))] := hD
    refine lv_aload_n hx hb (dt uX0_append 16 rfl) rfl (lv_at hl 0 rfl) ?_
    refine lv_dup hx hb (dt uX0_append 17 rfl) rfl ?_
    refine va_get (D := (dC, dI)) (ci := 0) (v := .int v_size) (C := RX0) (T := TX0) (N := 5) hx hb hts inU0 hown hK hP 0 rfl rfl 2 (by decide) (hts _ tw_0) (fun _ h9 => h9) rfl (dt uX0_append 18 rfl) ?_
    refine lv_iconst (v := (1 : Int32)) hx hb (dt uX0_append 19 rfl) (by decide) ?_
    refine lv_iadd hx hb (dt uX0_append 20 rfl) ?_
    refine va_put (D := (dC, dI)) (ci := 0) (v := .int (v_size + (1 : Int32))) (ty := .int) (C := RX0) (T := TX0) (N := 5) hx hb hts inU0 tyX0 tyX0_ok nmX0 hown hK hP hD hS 0 rfl rfl 2 (by decide) (hts _ tw_0) (fun _ h9 => h9) rfl (by decide +kernel) rfl rfl (Nat.le_of_ble_eq_true rfl) (dt uX0_append 21 rfl) (fun H locs hP hD hS => ?_)
    have hP : va_P (dC, dI) vwCl [(ad0, oX0 ad_a ad_b (v_size + (1 : Int32)) v_touches v_one), (ad_a, .inl (cI, 6, .inl (upd a_a v_size.toNatClampNeg p1))), (ad_b, .inl (cI, 6, .inl (upd a_b v_size.toNatClampNeg p2)))] H := hP
    have hD : va_D A [(ad0, oX0 ad_a ad_b (v_size + (1 : Int32)) v_touches v_one), (ad_a, .inl (cI, 6, .inl (upd a_a v_size.toNatClampNeg p1))), (ad_b, .inl (cI, 6, .inl (upd a_b v_size.toNatClampNeg p2)))] := hD
    have hf := Option.some.inj hf
    subst hf
    rw [hQ]
    exact vret_v C hP hD hS (dt uX0_append 22 rfl)
abbrev rX0_sum : Room := { frames := 0, cells := 0, slots := 0, locals := 0 }
abbrev wX0_sum : List Cond := Cond.code yX0_sum cX0_sum 2 (some .int) :: VT
set_option maxHeartbeats 4000000 in
set_option maxRecDepth 100000 in
theorem kX0_sum (ad0 : Nat) (ad_a : Nat) (ad_b : Nat) (v_size : Int32) (v_touches : Int32) (v_one : Int32) (a_a : Nat → Int32) (a_b : Nat → Int32) (p1 : Int32) (q0 : Int32) (hf : fX0_sum a_a a_b p1 = some q0) : Ki l yX0_sum wX0_sum rX0_sum (dC, dI) (vTy cI cJ cB cZ) [.ref ad0, .int p1] [(ad0, oX0 ad_a ad_b v_size v_touches v_one), (ad_a, .inl (cI, 6, .inl a_a)), (ad_b, .inl (cI, 6, .inl a_b))] [(ad0, oX0 ad_a ad_b v_size v_touches v_one), (ad_a, .inl (cI, 6, .inl a_a)), (ad_b, .inl (cI, 6, .inl a_b))] q0 := by
  refine Ki.mk (cc := cX0_sum) (maxL := 2) (ret := some .int) (by decide) (Nat.le_of_ble_eq_true rfl) ?_
  intro p e s m args below meth c A Q H locs C hQ hP hD hS ls hl
  obtain ⟨hx, hb, -, hml, hts, hown, -, hK, hN, hA⟩ := id C
  have hown : s.vm.findClass RX0 = some m.cls := hown
  have hl : lv_has ls 2 [(0, .ref ad0), (1, .int p1)] := hl
  unfold fX0_sum at hf
  refine lv_aload_n hx hb (dt uX0_sum 0 rfl) rfl (lv_at hl 0 rfl) ?_
  refine va_get (D := (dC, dI)) (ci := 0) (v := .ref ad_a) (C := RX0) (T := TX0) (N := 5) hx hb hts inU0 hown hK hP 0 rfl rfl 0 (by decide) (hts _ tw_3) (fun _ h9 => h9) rfl (dt uX0_sum 1 rfl) ?_
  refine lv_iload_n hx hb (dt uX0_sum 2 rfl) rfl (lv_at hl 1 rfl) ?_
  obtain ⟨hi_1, hf⟩ := vg_some hf
  refine va_iald hx hb hK hP 1 0 rfl rfl hi_1 (dt uX0_sum 3 rfl) ?_
  refine lv_aload_n hx hb (dt uX0_sum 4 rfl) rfl (lv_at hl 0 rfl) ?_
  refine va_get (D := (dC, dI)) (ci := 0) (v := .ref ad_b) (C := RX0) (T := TX0) (N := 5) hx hb hts inU0 hown hK hP 0 rfl rfl 1 (by decide) (hts _ tw_4) (fun _ h9 => h9) rfl (dt uX0_sum 5 rfl) ?_
  refine lv_iload_n hx hb (dt uX0_sum 6 rfl) rfl (lv_at hl 1 rfl) ?_
  obtain ⟨hi_2, hf⟩ := vg_some hf
  refine va_iald hx hb hK hP 2 0 rfl rfl hi_2 (dt uX0_sum 7 rfl) ?_
  refine lv_iadd hx hb (dt uX0_sum 8 rfl) ?_
  have hf := Option.some.inj hf
  subst hf
  rw [hQ]
  exact vret_i C hP hD hS (dt uX0_sum 9 rfl)
abbrev rX0_carries : Room := { frames := 0, cells := 0, slots := 0, locals := 0 }
abbrev wX0_carries : List Cond := Cond.code yX0_carries cX0_carries 4 (some .int) :: VT
set_option maxHeartbeats 4000000 in
set_option maxRecDepth 100000 in
theorem kX0_carries (ad0 : Nat) (ad_a : Nat) (ad_b : Nat) (v_size : Int32) (v_touches : Int32) (v_one : Int32) (a_a : Nat → Int32) (a_b : Nat → Int32) (p1 : Int32) (q0 : Int32) (hf : fX0_carries a_a a_b p1 = some q0) : Ki l yX0_carries wX0_carries rX0_carries (dC, dI) (vTy cI cJ cB cZ) [.ref ad0, .int p1] [(ad0, oX0 ad_a ad_b v_size v_touches v_one), (ad_a, .inl (cI, 6, .inl a_a)), (ad_b, .inl (cI, 6, .inl a_b))] [(ad0, oX0 ad_a ad_b v_size v_touches v_one), (ad_a, .inl (cI, 6, .inl a_a)), (ad_b, .inl (cI, 6, .inl a_b))] q0 := by
  refine Ki.mk (cc := cX0_carries) (maxL := 4) (ret := some .int) (by decide) (Nat.le_of_ble_eq_true rfl) ?_
  intro p e s m args below meth c A Q H locs C hQ hP hD hS ls hl
  obtain ⟨hx, hb, -, hml, hts, hown, -, hK, hN, hA⟩ := id C
  have hown : s.vm.findClass RX0 = some m.cls := hown
  have hl : lv_has ls 4 [(0, .ref ad0), (1, .int p1)] := hl
  unfold fX0_carries at hf
  refine lv_aload_n hx hb (dt uX0_carries 0 rfl) rfl (lv_at hl 0 rfl) ?_
  refine va_get (D := (dC, dI)) (ci := 0) (v := .ref ad_a) (C := RX0) (T := TX0) (N := 5) hx hb hts inU0 hown hK hP 0 rfl rfl 0 (by decide) (hts _ tw_3) (fun _ h9 => h9) rfl (dt uX0_carries 1 rfl) ?_
  refine lv_iload_n hx hb (dt uX0_carries 2 rfl) rfl (lv_at hl 1 rfl) ?_
  obtain ⟨hi_1, hf⟩ := vg_some hf
  refine va_iald hx hb hK hP 1 0 rfl rfl hi_1 (dt uX0_carries 3 rfl) ?_
  refine lv_bipush (v := (10 : Int32)) hx hb (dt uX0_carries 4 rfl) (by decide) ?_
  refine lv_irem hx hb (dt uX0_carries 5 rfl) (by decide) ?_
  refine lv_aload_n hx hb (dt uX0_carries 6 rfl) rfl (lv_at hl 0 rfl) ?_
  refine va_get (D := (dC, dI)) (ci := 0) (v := .ref ad_b) (C := RX0) (T := TX0) (N := 5) hx hb hts inU0 hown hK hP 0 rfl rfl 1 (by decide) (hts _ tw_4) (fun _ h9 => h9) rfl (dt uX0_carries 7 rfl) ?_
  refine lv_iload_n hx hb (dt uX0_carries 8 rfl) rfl (lv_at hl 1 rfl) ?_
  obtain ⟨hi_2, hf⟩ := vg_some hf
  refine va_iald hx hb hK hP 2 0 rfl rfl hi_2 (dt uX0_carries 9 rfl) ?_
  refine lv_bipush (v := (10 : Int32)) hx hb (dt uX0_carries 10 rfl) (by decide) ?_
  refine lv_irem hx hb (dt uX0_carries 11 rfl) (by decide) ?_
  refine lv_iadd hx hb (dt uX0_carries 12 rfl) ?_
  refine lv_bipush (v := (10 : Int32)) hx hb (dt uX0_carries 13 rfl) (by decide) ?_
  have hJ29 : ∀ (y0_3 : Int32) (H : Heap) (locs : List Loc) (ls : Array Slot), fX0_carries_J29 a_a a_b p1 y0_3 = some q0 → va_P (dC, dI) vwCl [(ad0, oX0 ad_a ad_b v_size v_touches v_one), (ad_a, .inl (cI, 6, .inl a_a)), (ad_b, .inl (cI, 6, .inl a_b))] H → va_D A [(ad0, oX0 ad_a ad_b v_size v_touches v_one), (ad_a, .inl (cI, 6, .inl a_a)), (ad_b, .inl (cI, 6, .inl a_b))] → va_S A s.heap H locs → lv_has ls 4 [(0, .ref ad0), (1, .int p1)] → W p l e rX0_carries s m args below meth c H locs 0 0 Q (F0 m 29 ls [.int y0_3]) := by
    intro y0_3 H locs ls hf hP hD hS hl
    unfold fX0_carries_J29 at hf
    refine lv_istore_n (lv' := [(2, .int y0_3), (0, .ref ad0), (1, .int p1)]) hx hb (dt uX0_carries 18 rfl) rfl hl (by decide) rfl (fun ls hl => ?_)
    refine lv_aload_n hx hb (dt uX0_carries 19 rfl) rfl (lv_at hl 1 rfl) ?_
    refine va_get (D := (dC, dI)) (ci := 0) (v := .ref ad_a) (C := RX0) (T := TX0) (N := 5) hx hb hts inU0 hown hK hP 0 rfl rfl 0 (by decide) (hts _ tw_3) (fun _ h9 => h9) rfl (dt uX0_carries 20 rfl) ?_
    refine lv_iload_n hx hb (dt uX0_carries 21 rfl) rfl (lv_at hl 2 rfl) ?_
    obtain ⟨hi_4, hf⟩ := vg_some hf
    refine va_iald hx hb hK hP 1 0 rfl rfl hi_4 (dt uX0_carries 22 rfl) ?_
    refine lv_bipush (v := (10 : Int32)) hx hb (dt uX0_carries 23 rfl) (by decide) ?_
    refine lv_idiv hx hb (dt uX0_carries 24 rfl) (by decide) ?_
    refine lv_bipush (v := (10 : Int32)) hx hb (dt uX0_carries 25 rfl) (by decide) ?_
    refine lv_irem hx hb (dt uX0_carries 26 rfl) (by decide) ?_
    refine lv_aload_n hx hb (dt uX0_carries 27 rfl) rfl (lv_at hl 1 rfl) ?_
    refine va_get (D := (dC, dI)) (ci := 0) (v := .ref ad_b) (C := RX0) (T := TX0) (N := 5) hx hb hts inU0 hown hK hP 0 rfl rfl 1 (by decide) (hts _ tw_4) (fun _ h9 => h9) rfl (dt uX0_carries 28 rfl) ?_
    refine lv_iload_n hx hb (dt uX0_carries 29 rfl) rfl (lv_at hl 2 rfl) ?_
    obtain ⟨hi_5, hf⟩ := vg_some hf
    refine va_iald hx hb hK hP 2 0 rfl rfl hi_5 (dt uX0_carries 30 rfl) ?_
    refine lv_bipush (v := (10 : Int32)) hx hb (dt uX0_carries 31 rfl) (by decide) ?_
    refine lv_idiv hx hb (dt uX0_carries 32 rfl) (by decide) ?_
    refine lv_bipush (v := (10 : Int32)) hx hb (dt uX0_carries 33 rfl) (by decide) ?_
    refine lv_irem hx hb (dt uX0_carries 34 rfl) (by decide) ?_
    refine lv_iadd hx hb (dt uX0_carries 35 rfl) ?_
    refine lv_iload_n hx hb (dt uX0_carries 36 rfl) rfl (lv_at hl 0 rfl) ?_
    refine lv_iadd hx hb (dt uX0_carries 37 rfl) ?_
    refine lv_istore_n (lv' := [(3, .int (((((a_a p1.toNatClampNeg) / (10 : Int32)) - ((a_a p1.toNatClampNeg) / (10 : Int32)) / (10 : Int32) * (10 : Int32)) + (((a_b p1.toNatClampNeg) / (10 : Int32)) - ((a_b p1.toNatClampNeg) / (10 : Int32)) / (10 : Int32) * (10 : Int32))) + y0_3)), (2, .int y0_3), (0, .ref ad0), (1, .int p1)]) hx hb (dt uX0_carries 38 rfl) rfl hl (by decide) rfl (fun ls hl => ?_)
    refine lv_iload_n hx hb (dt uX0_carries 39 rfl) rfl (lv_at hl 0 rfl) ?_
    refine lv_bipush (v := (10 : Int32)) hx hb (dt uX0_carries 40 rfl) (by decide) ?_
    refine lv_icmp_lt (tgt := 70) hx hb (dt uX0_carries 41 rfl) (by decide) (fun c_6 => ?_) (fun c_6 => ?_)
    · have hf := vif_t c_6 hf
      refine lv_iload_n hx hb (dt uX0_carries 46 rfl) rfl (lv_at hl 1 rfl) ?_
      have hf := Option.some.inj hf
      subst hf
      rw [hQ]
      exact vret_i C hP hD hS (dt uX0_carries 47 rfl)
    · have hf := vif_f c_6 hf
      refine lv_iload_n hx hb (dt uX0_carries 42 rfl) rfl (lv_at hl 1 rfl) ?_
      refine lv_iconst (v := (2 : Int32)) hx hb (dt uX0_carries 43 rfl) (by decide) ?_
      refine lv_ior hx hb (dt uX0_carries 44 rfl) ?_
      refine lv_goto (tgt := 71) hx hb (dt uX0_carries 45 rfl) (by decide) ?_
      have hf := Option.some.inj hf
      subst hf
      rw [hQ]
      exact vret_i C hP hD hS (dt uX0_carries 47 rfl)
  refine lv_icmp_lt (tgt := 28) hx hb (dt uX0_carries 14 rfl) (by decide) (fun c_7 => ?_) (fun c_7 => ?_)
  · have hf := vif_t c_7 hf
    refine lv_iconst (v := (0 : Int32)) hx hb (dt uX0_carries 17 rfl) (by decide) ?_
    exact hJ29 (0 : Int32) _ _ _ hf hP hD hS (lv_sub hl [0, 1] rfl)
  · have hf := vif_f c_7 hf
    refine lv_iconst (v := (1 : Int32)) hx hb (dt uX0_carries 15 rfl) (by decide) ?_
    refine lv_goto (tgt := 29) hx hb (dt uX0_carries 16 rfl) (by decide) ?_
    exact hJ29 (1 : Int32) _ _ _ hf hP hD hS (lv_sub hl [0, 1] rfl)
abbrev rX1_append : Room := { frames := 1, cells := 0, slots := 0, locals := 18 }
abbrev wX1_append : List Cond := Cond.code yX1_append cX1_append 3 none :: VT
set_option maxHeartbeats 4000000 in
set_option maxRecDepth 100000 in
theorem kX1_append (ad0 : Nat) (ad_steps : Nat) (v_known : Int32) (a_steps : Nat → Int64) (p1 : Int64) (q0 : ((Nat → Int64) × Int32)) (hf : fX1_append a_steps v_known p1 = some q0) : Kv l yX1_append wX1_append rX1_append (dC, dI) (vTy cI cJ cB cZ) [.ref ad0, .long p1] [(ad0, oX1 ad_steps v_known), (ad_steps, .inl (cJ, 10, .inr (.inl a_steps)))] [(ad0, oX1 ad_steps q0.2), (ad_steps, .inl (cJ, 10, .inr (.inl q0.1)))] := by
  refine Kv.mk (cc := cX1_append) (maxL := 3) (ret := none) (by decide) (Nat.le_of_ble_eq_true rfl) ?_
  intro p e s m args below meth c A Q H locs C hQ hP hD hS ls hl
  obtain ⟨hx, hb, -, hml, hts, hown, -, hK, hN, hA⟩ := id C
  have hown : s.vm.findClass RX1 = some m.cls := hown
  have hl : lv_has ls 3 [(0, .ref ad0), (1, .long p1)] := hl
  unfold fX1_append at hf
  refine lv_aload_n hx hb (dt uX1_append 0 rfl) rfl (lv_at hl 0 rfl) ?_
  refine va_get (D := (dC, dI)) (ci := 1) (v := .int v_known) (C := RX1) (T := TX1) (N := 2) hx hb hts inU1 hown hK hP 0 rfl rfl 1 (by decide) (hts _ tw_5) (fun _ h9 => h9) rfl (dt uX1_append 1 rfl) ?_
  refine lv_bipush (v := (10 : Int32)) hx hb (dt uX1_append 2 rfl) (by decide) ?_
  have hJ30 : ∀ (w_1 : Nat → Int64) (w_2 : Int32) (H : Heap) (locs : List Loc) (ls : Array Slot), fX1_append_J30 p1 w_1 w_2 = some q0 → va_P (dC, dI) vwCl [(ad0, oX1 ad_steps w_2), (ad_steps, .inl (cJ, 10, .inr (.inl w_1)))] H → va_D A [(ad0, oX1 ad_steps w_2), (ad_steps, .inl (cJ, 10, .inr (.inl w_1)))] → va_S A s.heap H locs → lv_has ls 3 [(0, .ref ad0), (1, .long p1)] → W p l e rX1_append s m args below meth c H locs 0 0 Q (F0 m 30 ls []) := by
    intro w_1 w_2 H locs ls hf hP hD hS hl
    unfold fX1_append_J30 at hf
    refine lv_aload_n hx hb (dt uX1_append 15 rfl) rfl (lv_at hl 0 rfl) ?_
    refine va_get (D := (dC, dI)) (ci := 1) (v := .ref ad_steps) (C := RX1) (T := TX1) (N := 2) hx hb hts inU1 hown hK hP 0 rfl rfl 0 (by decide) (hts _ tw_6) (fun _ h9 => h9) rfl (dt uX1_append 16 rfl) ?_
    refine lv_aload_n hx hb (dt uX1_append 17 rfl) rfl (lv_at hl 0 rfl) ?_
    refine va_get (D := (dC, dI)) (ci := 1) (v := .int w_2) (C := RX1) (T := TX1) (N := 2) hx hb hts inU1 hown hK hP 0 rfl rfl 1 (by decide) (hts _ tw_5) (fun _ h9 => h9) rfl (dt uX1_append 18 rfl) ?_
    refine lv_lload_n hx hb (dt uX1_append 19 rfl) rfl (lv_at hl 1 rfl) ?_
    obtain ⟨hi_3, hf⟩ := vg_some hf
    refine va_last hx hb hK hP hD hS 1 1 rfl rfl hi_3 (dt uX1_append 20 rfl) (fun H locs hP hD hS => ?_)
    have hP : va_P (dC, dI) vwCl [(ad0, oX1 ad_steps w_2), (ad_steps, .inl (cJ, 10, .inr (.inl (vp_updL w_1 w_2.toNatClampNeg p1))))] H := hP
    have hD : va_D A [(ad0, oX1 ad_steps w_2), (ad_steps, .inl (cJ, 10, .inr (.inl (vp_updL w_1 w_2.toNatClampNeg p1))))] := hD
    refine lv_aload_n hx hb (dt uX1_append 21 rfl) rfl (lv_at hl 0 rfl) ?_
    refine lv_dup hx hb (dt uX1_append 22 rfl) rfl ?_
    refine va_get (D := (dC, dI)) (ci := 1) (v := .int w_2) (C := RX1) (T := TX1) (N := 2) hx hb hts inU1 hown hK hP 0 rfl rfl 1 (by decide) (hts _ tw_5) (fun _ h9 => h9) rfl (dt uX1_append 23 rfl) ?_
    refine lv_iconst (v := (1 : Int32)) hx hb (dt uX1_append 24 rfl) (by decide) ?_
    refine lv_iadd hx hb (dt uX1_append 25 rfl) ?_
    refine va_put (D := (dC, dI)) (ci := 1) (v := .int (w_2 + (1 : Int32))) (ty := .int) (C := RX1) (T := TX1) (N := 2) hx hb hts inU1 tyX1 tyX1_ok nmX1 hown hK hP hD hS 0 rfl rfl 1 (by decide) (hts _ tw_5) (fun _ h9 => h9) rfl (by decide +kernel) rfl rfl (Nat.le_of_ble_eq_true rfl) (dt uX1_append 26 rfl) (fun H locs hP hD hS => ?_)
    have hP : va_P (dC, dI) vwCl [(ad0, oX1 ad_steps (w_2 + (1 : Int32))), (ad_steps, .inl (cJ, 10, .inr (.inl (vp_updL w_1 w_2.toNatClampNeg p1))))] H := hP
    have hD : va_D A [(ad0, oX1 ad_steps (w_2 + (1 : Int32))), (ad_steps, .inl (cJ, 10, .inr (.inl (vp_updL w_1 w_2.toNatClampNeg p1))))] := hD
    have hf := Option.some.inj hf
    subst hf
    rw [hQ]
    exact vret_v C hP hD hS (dt uX1_append 27 rfl)
  refine lv_icmp_lt (tgt := 30) hx hb (dt uX1_append 3 rfl) (by decide) (fun c_4 => ?_) (fun c_4 => ?_)
  · have hf := vif_t c_4 hf
    exact hJ30 a_steps v_known _ _ _ hf hP hD hS (lv_sub hl [0, 1] rfl)
  · have hf := vif_f c_4 hf
    refine lv_aload_n hx hb (dt uX1_append 4 rfl) rfl (lv_at hl 0 rfl) ?_
    refine va_get (D := (dC, dI)) (ci := 1) (v := .ref ad_steps) (C := RX1) (T := TX1) (N := 2) hx hb hts inU1 hown hK hP 0 rfl rfl 0 (by decide) (hts _ tw_6) (fun _ h9 => h9) rfl (dt uX1_append 5 rfl) ?_
    refine lv_iconst (v := (1 : Int32)) hx hb (dt uX1_append 6 rfl) (by decide) ?_
    refine lv_aload_n hx hb (dt uX1_append 7 rfl) rfl (lv_at hl 0 rfl) ?_
    refine va_get (D := (dC, dI)) (ci := 1) (v := .ref ad_steps) (C := RX1) (T := TX1) (N := 2) hx hb hts inU1 hown hK hP 0 rfl rfl 0 (by decide) (hts _ tw_6) (fun _ h9 => h9) rfl (dt uX1_append 8 rfl) ?_
    refine lv_iconst (v := (0 : Int32)) hx hb (dt uX1_append 9 rfl) (by decide) ?_
    refine lv_bipush (v := (9 : Int32)) hx hb (dt uX1_append 10 rfl) (by decide) ?_
    refine va_copyl hx hb (by rw [hml]; exact hl.1.symm) hown (hts _ tw_7) (hts _ tw_8) (hts _ tw_9) (hts _ tw_10) hK hP hD hS 1 1 1 1 rfl rfl rfl rfl rfl (by decide) (by decide) (by decide) (by decide) (by decide) (fun _ _ => rfl) (Nat.le_of_ble_eq_true rfl) (Nat.le_of_ble_eq_true rfl) (dt uX1_append 11 rfl) (fun H locs hP hD hS => ?_)
    have hP : va_P (dC, dI) vwCl [(ad0, oX1 ad_steps v_known), (ad_steps, .inl (cJ, 10, .inr (.inl (va_cpy a_steps a_steps (1 : Int32).toNatClampNeg (0 : Int32).toNatClampNeg (9 : Int32).toNatClampNeg))))] H := hP
    have hD : va_D A [(ad0, oX1 ad_steps v_known), (ad_steps, .inl (cJ, 10, .inr (.inl (va_cpy a_steps a_steps (1 : Int32).toNatClampNeg (0 : Int32).toNatClampNeg (9 : Int32).toNatClampNeg))))] := hD
    refine lv_aload_n hx hb (dt uX1_append 12 rfl) rfl (lv_at hl 0 rfl) ?_
    refine lv_bipush (v := (9 : Int32)) hx hb (dt uX1_append 13 rfl) (by decide) ?_
    refine va_put (D := (dC, dI)) (ci := 1) (v := .int (9 : Int32)) (ty := .int) (C := RX1) (T := TX1) (N := 2) hx hb hts inU1 tyX1 tyX1_ok nmX1 hown hK hP hD hS 0 rfl rfl 1 (by decide) (hts _ tw_5) (fun _ h9 => h9) rfl (by decide +kernel) rfl rfl (Nat.le_of_ble_eq_true rfl) (dt uX1_append 14 rfl) (fun H locs hP hD hS => ?_)
    have hP : va_P (dC, dI) vwCl [(ad0, oX1 ad_steps (9 : Int32)), (ad_steps, .inl (cJ, 10, .inr (.inl (va_cpy a_steps a_steps (1 : Int32).toNatClampNeg (0 : Int32).toNatClampNeg (9 : Int32).toNatClampNeg))))] H := hP
    have hD : va_D A [(ad0, oX1 ad_steps (9 : Int32)), (ad_steps, .inl (cJ, 10, .inr (.inl (va_cpy a_steps a_steps (1 : Int32).toNatClampNeg (0 : Int32).toNatClampNeg (9 : Int32).toNatClampNeg))))] := hD
    exact hJ30 (va_cpy a_steps a_steps (1 : Int32).toNatClampNeg (0 : Int32).toNatClampNeg (9 : Int32).toNatClampNeg) (9 : Int32) _ _ _ hf hP hD hS (lv_sub hl [0, 1] rfl)
abbrev rX1_takeLatest : Room := { frames := 0, cells := 0, slots := 0, locals := 0 }
abbrev wX1_takeLatest : List Cond := Cond.code yX1_takeLatest cX1_takeLatest 1 (some .long) :: VT
set_option maxHeartbeats 4000000 in
set_option maxRecDepth 100000 in
theorem kX1_takeLatest (ad0 : Nat) (ad_steps : Nat) (v_known : Int32) (a_steps : Nat → Int64) (q0 : (Int64 × Int32)) (hf : fX1_takeLatest a_steps v_known = some q0) : Kl l yX1_takeLatest wX1_takeLatest rX1_takeLatest (dC, dI) (vTy cI cJ cB cZ) [.ref ad0] [(ad0, oX1 ad_steps v_known), (ad_steps, .inl (cJ, 10, .inr (.inl a_steps)))] [(ad0, oX1 ad_steps q0.2), (ad_steps, .inl (cJ, 10, .inr (.inl a_steps)))] q0.1 := by
  refine Kl.mk (cc := cX1_takeLatest) (maxL := 1) (ret := some .long) (by decide) (Nat.le_of_ble_eq_true rfl) ?_
  intro p e s m args below meth c A Q H locs C hQ hP hD hS ls hl
  obtain ⟨hx, hb, -, hml, hts, hown, -, hK, hN, hA⟩ := id C
  have hown : s.vm.findClass RX1 = some m.cls := hown
  have hl : lv_has ls 1 [(0, .ref ad0)] := hl
  unfold fX1_takeLatest at hf
  refine lv_aload_n hx hb (dt uX1_takeLatest 0 rfl) rfl (lv_at hl 0 rfl) ?_
  refine va_get (D := (dC, dI)) (ci := 1) (v := .int v_known) (C := RX1) (T := TX1) (N := 2) hx hb hts inU1 hown hK hP 0 rfl rfl 1 (by decide) (hts _ tw_5) (fun _ h9 => h9) rfl (dt uX1_takeLatest 1 rfl) ?_
  have hJ17 : ∀ (w_1 : Int32) (H : Heap) (locs : List Loc) (ls : Array Slot), fX1_takeLatest_J17 a_steps w_1 = some q0 → va_P (dC, dI) vwCl [(ad0, oX1 ad_steps w_1), (ad_steps, .inl (cJ, 10, .inr (.inl a_steps)))] H → va_D A [(ad0, oX1 ad_steps w_1), (ad_steps, .inl (cJ, 10, .inr (.inl a_steps)))] → va_S A s.heap H locs → lv_has ls 1 [(0, .ref ad0)] → W p l e rX1_takeLatest s m args below meth c H locs 0 0 Q (F0 m 17 ls []) := by
    intro w_1 H locs ls hf hP hD hS hl
    unfold fX1_takeLatest_J17 at hf
    refine lv_aload_n hx hb (dt uX1_takeLatest 9 rfl) rfl (lv_at hl 0 rfl) ?_
    refine va_get (D := (dC, dI)) (ci := 1) (v := .ref ad_steps) (C := RX1) (T := TX1) (N := 2) hx hb hts inU1 hown hK hP 0 rfl rfl 0 (by decide) (hts _ tw_6) (fun _ h9 => h9) rfl (dt uX1_takeLatest 10 rfl) ?_
    refine lv_aload_n hx hb (dt uX1_takeLatest 11 rfl) rfl (lv_at hl 0 rfl) ?_
    refine va_get (D := (dC, dI)) (ci := 1) (v := .int w_1) (C := RX1) (T := TX1) (N := 2) hx hb hts inU1 hown hK hP 0 rfl rfl 1 (by decide) (hts _ tw_5) (fun _ h9 => h9) rfl (dt uX1_takeLatest 12 rfl) ?_
    obtain ⟨hi_2, hf⟩ := vg_some hf
    refine va_lald hx hb hK hP 1 1 rfl rfl hi_2 (dt uX1_takeLatest 13 rfl) ?_
    have hf := Option.some.inj hf
    subst hf
    rw [hQ]
    exact vret_l C hP hD hS (dt uX1_takeLatest 14 rfl)
  refine lv_if_le (tgt := 17) hx hb (dt uX1_takeLatest 2 rfl) (by decide) (fun c_3 => ?_) (fun c_3 => ?_)
  · have hf := vif_t c_3 hf
    exact hJ17 v_known _ _ _ hf hP hD hS (lv_sub hl [0] rfl)
  · have hf := vif_f c_3 hf
    refine lv_aload_n hx hb (dt uX1_takeLatest 3 rfl) rfl (lv_at hl 0 rfl) ?_
    refine lv_dup hx hb (dt uX1_takeLatest 4 rfl) rfl ?_
    refine va_get (D := (dC, dI)) (ci := 1) (v := .int v_known) (C := RX1) (T := TX1) (N := 2) hx hb hts inU1 hown hK hP 0 rfl rfl 1 (by decide) (hts _ tw_5) (fun _ h9 => h9) rfl (dt uX1_takeLatest 5 rfl) ?_
    refine lv_iconst (v := (1 : Int32)) hx hb (dt uX1_takeLatest 6 rfl) (by decide) ?_
    refine lv_isub hx hb (dt uX1_takeLatest 7 rfl) ?_
    refine va_put (D := (dC, dI)) (ci := 1) (v := .int (v_known - (1 : Int32))) (ty := .int) (C := RX1) (T := TX1) (N := 2) hx hb hts inU1 tyX1 tyX1_ok nmX1 hown hK hP hD hS 0 rfl rfl 1 (by decide) (hts _ tw_5) (fun _ h9 => h9) rfl (by decide +kernel) rfl rfl (Nat.le_of_ble_eq_true rfl) (dt uX1_takeLatest 8 rfl) (fun H locs hP hD hS => ?_)
    have hP : va_P (dC, dI) vwCl [(ad0, oX1 ad_steps (v_known - (1 : Int32))), (ad_steps, .inl (cJ, 10, .inr (.inl a_steps)))] H := hP
    have hD : va_D A [(ad0, oX1 ad_steps (v_known - (1 : Int32))), (ad_steps, .inl (cJ, 10, .inr (.inl a_steps)))] := hD
    exact hJ17 (v_known - (1 : Int32)) _ _ _ hf hP hD hS (lv_sub hl [0] rfl)
abbrev rX1_copyFrom : Room := { frames := 1, cells := 0, slots := 0, locals := 18 }
abbrev wX1_copyFrom : List Cond := Cond.code yX1_copyFrom cX1_copyFrom 2 none :: VT
set_option maxHeartbeats 4000000 in
set_option maxRecDepth 100000 in
theorem kX1_copyFrom (ad0 : Nat) (ad_steps : Nat) (ad_p1 : Nat) (ad_p1_steps : Nat) (v_known : Int32) (a_steps : Nat → Int64) (v_p1_known : Int32) (a_p1_steps : Nat → Int64) (q0 : ((Nat → Int64) × Int32)) (hf : fX1_copyFrom a_steps v_known a_p1_steps v_p1_known = q0) : Kv l yX1_copyFrom wX1_copyFrom rX1_copyFrom (dC, dI) (vTy cI cJ cB cZ) [.ref ad0, .ref ad_p1] [(ad0, oX1 ad_steps v_known), (ad_steps, .inl (cJ, 10, .inr (.inl a_steps))), (ad_p1, oX1 ad_p1_steps v_p1_known), (ad_p1_steps, .inl (cJ, 10, .inr (.inl a_p1_steps)))] [(ad0, oX1 ad_steps q0.2), (ad_steps, .inl (cJ, 10, .inr (.inl q0.1))), (ad_p1, oX1 ad_p1_steps v_p1_known), (ad_p1_steps, .inl (cJ, 10, .inr (.inl a_p1_steps)))] := by
  refine Kv.mk (cc := cX1_copyFrom) (maxL := 2) (ret := none) (by decide) (Nat.le_of_ble_eq_true rfl) ?_
  intro p e s m args below meth c A Q H locs C hQ hP hD hS ls hl
  obtain ⟨hx, hb, -, hml, hts, hown, -, hK, hN, hA⟩ := id C
  have hown : s.vm.findClass RX1 = some m.cls := hown
  have hl : lv_has ls 2 [(0, .ref ad0), (1, .ref ad_p1)] := hl
  unfold fX1_copyFrom at hf
  refine lv_aload_n hx hb (dt uX1_copyFrom 0 rfl) rfl (lv_at hl 1 rfl) ?_
  refine va_get (D := (dC, dI)) (ci := 1) (v := .ref ad_p1_steps) (C := RX1) (T := TX1) (N := 2) hx hb hts inU1 hown hK hP 2 rfl rfl 0 (by decide) (hts _ tw_6) (fun _ h9 => h9) rfl (dt uX1_copyFrom 1 rfl) ?_
  refine lv_iconst (v := (0 : Int32)) hx hb (dt uX1_copyFrom 2 rfl) (by decide) ?_
  refine lv_aload_n hx hb (dt uX1_copyFrom 3 rfl) rfl (lv_at hl 0 rfl) ?_
  refine va_get (D := (dC, dI)) (ci := 1) (v := .ref ad_steps) (C := RX1) (T := TX1) (N := 2) hx hb hts inU1 hown hK hP 0 rfl rfl 0 (by decide) (hts _ tw_6) (fun _ h9 => h9) rfl (dt uX1_copyFrom 4 rfl) ?_
  refine lv_iconst (v := (0 : Int32)) hx hb (dt uX1_copyFrom 5 rfl) (by decide) ?_
  refine lv_bipush (v := (10 : Int32)) hx hb (dt uX1_copyFrom 6 rfl) (by decide) ?_
  refine va_copyl hx hb (by rw [hml]; exact hl.1.symm) hown (hts _ tw_7) (hts _ tw_8) (hts _ tw_9) (hts _ tw_10) hK hP hD hS 3 1 1 1 rfl rfl rfl rfl rfl (by decide) (by decide) (by decide) (by decide) (by decide) (fun _ _ => rfl) (Nat.le_of_ble_eq_true rfl) (Nat.le_of_ble_eq_true rfl) (dt uX1_copyFrom 7 rfl) (fun H locs hP hD hS => ?_)
  have hP : va_P (dC, dI) vwCl [(ad0, oX1 ad_steps v_known), (ad_steps, .inl (cJ, 10, .inr (.inl (va_cpy a_p1_steps a_steps (0 : Int32).toNatClampNeg (0 : Int32).toNatClampNeg (10 : Int32).toNatClampNeg)))), (ad_p1, oX1 ad_p1_steps v_p1_known), (ad_p1_steps, .inl (cJ, 10, .inr (.inl a_p1_steps)))] H := hP
  have hD : va_D A [(ad0, oX1 ad_steps v_known), (ad_steps, .inl (cJ, 10, .inr (.inl (va_cpy a_p1_steps a_steps (0 : Int32).toNatClampNeg (0 : Int32).toNatClampNeg (10 : Int32).toNatClampNeg)))), (ad_p1, oX1 ad_p1_steps v_p1_known), (ad_p1_steps, .inl (cJ, 10, .inr (.inl a_p1_steps)))] := hD
  refine lv_aload_n hx hb (dt uX1_copyFrom 8 rfl) rfl (lv_at hl 0 rfl) ?_
  refine lv_aload_n hx hb (dt uX1_copyFrom 9 rfl) rfl (lv_at hl 1 rfl) ?_
  refine va_get (D := (dC, dI)) (ci := 1) (v := .int v_p1_known) (C := RX1) (T := TX1) (N := 2) hx hb hts inU1 hown hK hP 2 rfl rfl 1 (by decide) (hts _ tw_5) (fun _ h9 => h9) rfl (dt uX1_copyFrom 10 rfl) ?_
  refine va_put (D := (dC, dI)) (ci := 1) (v := .int v_p1_known) (ty := .int) (C := RX1) (T := TX1) (N := 2) hx hb hts inU1 tyX1 tyX1_ok nmX1 hown hK hP hD hS 0 rfl rfl 1 (by decide) (hts _ tw_5) (fun _ h9 => h9) rfl (by decide +kernel) rfl rfl (Nat.le_of_ble_eq_true rfl) (dt uX1_copyFrom 11 rfl) (fun H locs hP hD hS => ?_)
  have hP : va_P (dC, dI) vwCl [(ad0, oX1 ad_steps v_p1_known), (ad_steps, .inl (cJ, 10, .inr (.inl (va_cpy a_p1_steps a_steps (0 : Int32).toNatClampNeg (0 : Int32).toNatClampNeg (10 : Int32).toNatClampNeg)))), (ad_p1, oX1 ad_p1_steps v_p1_known), (ad_p1_steps, .inl (cJ, 10, .inr (.inl a_p1_steps)))] H := hP
  have hD : va_D A [(ad0, oX1 ad_steps v_p1_known), (ad_steps, .inl (cJ, 10, .inr (.inl (va_cpy a_p1_steps a_steps (0 : Int32).toNatClampNeg (0 : Int32).toNatClampNeg (10 : Int32).toNatClampNeg)))), (ad_p1, oX1 ad_p1_steps v_p1_known), (ad_p1_steps, .inl (cJ, 10, .inr (.inl a_p1_steps)))] := hD
  subst hf
  rw [hQ]
  exact vret_v C hP hD hS (dt uX1_copyFrom 12 rfl)
abbrev rX3_packed : Room := { frames := 0, cells := 0, slots := 0, locals := 0 }
abbrev wX3_packed : List Cond := Cond.code yX3_packed cX3_packed 3 (some .long) :: VT
set_option maxHeartbeats 4000000 in
set_option maxRecDepth 100000 in
theorem kX3_packed (ad0 : Nat) (v_forgotten : Int32) (v_touches : Int32) (v_trapped : Int32) (v_one : Int32) (v_date : Int32) (q0 : Int64) (hf : fX3_packed v_forgotten v_touches v_trapped v_one v_date = q0) : Kl l yX3_packed wX3_packed rX3_packed (dC, dI) (vTy cI cJ cB cZ) [.ref ad0] [(ad0, oX3 v_forgotten v_touches v_trapped v_one v_date)] [(ad0, oX3 v_forgotten v_touches v_trapped v_one v_date)] q0 := by
  refine Kl.mk (cc := cX3_packed) (maxL := 3) (ret := some .long) (by decide) (Nat.le_of_ble_eq_true rfl) ?_
  intro p e s m args below meth c A Q H locs C hQ hP hD hS ls hl
  obtain ⟨hx, hb, -, hml, hts, hown, -, hK, hN, hA⟩ := id C
  have hown : s.vm.findClass RX3 = some m.cls := hown
  have hl : lv_has ls 3 [(0, .ref ad0)] := hl
  unfold fX3_packed at hf
  refine lv_aload_n hx hb (dt uX3_packed 0 rfl) rfl (lv_at hl 0 rfl) ?_
  refine va_get (D := (dC, dI)) (ci := 3) (v := .int v_date) (C := RX3) (T := TX3) (N := 5) hx hb hts inU3 hown hK hP 0 rfl rfl 4 (by decide) (hts _ tw_11) (fun _ h9 => h9) rfl (dt uX3_packed 1 rfl) ?_
  refine lv_i2l (v := v_date.toInt64) hx hb (dt uX3_packed 2 rfl) rfl ?_
  refine lv_lstore_n (lv' := [(1, .long v_date.toInt64), (0, .ref ad0)]) hx hb (dt uX3_packed 3 rfl) rfl hl (by decide) rfl (fun ls hl => ?_)
  refine lv_lload_n hx hb (dt uX3_packed 4 rfl) rfl (lv_at hl 0 rfl) ?_
  refine lv_iconst (v := (3 : Int32)) hx hb (dt uX3_packed 5 rfl) (by decide) ?_
  refine lv_lshl (v := (v_date.toInt64 <<< ((3 : Int32).toInt64 &&& 63))) hx hb (dt uX3_packed 6 rfl) rfl ?_
  refine lv_aload_n hx hb (dt uX3_packed 7 rfl) rfl (lv_at hl 1 rfl) ?_
  refine va_get (D := (dC, dI)) (ci := 3) (v := .int v_one) (C := RX3) (T := TX3) (N := 5) hx hb hts inU3 hown hK hP 0 rfl rfl 3 (by decide) (hts _ tw_12) (fun _ h9 => h9) rfl (dt uX3_packed 8 rfl) ?_
  have hJ25 : ∀ (y1_1 : Int32) (H : Heap) (locs : List Loc) (ls : Array Slot), fX3_packed_J25 v_forgotten v_touches v_trapped v_date y1_1 = q0 → va_P (dC, dI) vwCl [(ad0, oX3 v_forgotten v_touches v_trapped v_one v_date)] H → va_D A [(ad0, oX3 v_forgotten v_touches v_trapped v_one v_date)] → va_S A s.heap H locs → lv_has ls 3 [(0, .ref ad0)] → W p l e rX3_packed s m args below meth c H locs 0 0 Q (F0 m 25 ls [.int y1_1, .long (v_date.toInt64 <<< ((3 : Int32).toInt64 &&& 63))]) := by
    intro y1_1 H locs ls hf hP hD hS hl
    unfold fX3_packed_J25 at hf
    refine lv_i2l (v := y1_1.toInt64) hx hb (dt uX3_packed 14 rfl) rfl ?_
    refine lv_lor hx hb (dt uX3_packed 15 rfl) ?_
    refine lv_lstore_n (lv' := [(1, .long ((v_date.toInt64 <<< ((3 : Int32).toInt64 &&& 63)) ||| y1_1.toInt64)), (0, .ref ad0)]) hx hb (dt uX3_packed 16 rfl) rfl hl (by decide) rfl (fun ls hl => ?_)
    refine lv_lload_n hx hb (dt uX3_packed 17 rfl) rfl (lv_at hl 0 rfl) ?_
    refine lv_bipush (v := (6 : Int32)) hx hb (dt uX3_packed 18 rfl) (by decide) ?_
    refine lv_lshl (v := (((v_date.toInt64 <<< ((3 : Int32).toInt64 &&& 63)) ||| y1_1.toInt64) <<< ((6 : Int32).toInt64 &&& 63))) hx hb (dt uX3_packed 19 rfl) rfl ?_
    refine lv_aload_n hx hb (dt uX3_packed 20 rfl) rfl (lv_at hl 1 rfl) ?_
    refine va_get (D := (dC, dI)) (ci := 3) (v := .int v_trapped) (C := RX3) (T := TX3) (N := 5) hx hb hts inU3 hown hK hP 0 rfl rfl 2 (by decide) (hts _ tw_13) (fun _ h9 => h9) rfl (dt uX3_packed 21 rfl) ?_
    refine lv_i2l (v := v_trapped.toInt64) hx hb (dt uX3_packed 22 rfl) rfl ?_
    refine lv_lor hx hb (dt uX3_packed 23 rfl) ?_
    refine lv_lstore_n (lv' := [(1, .long ((((v_date.toInt64 <<< ((3 : Int32).toInt64 &&& 63)) ||| y1_1.toInt64) <<< ((6 : Int32).toInt64 &&& 63)) ||| v_trapped.toInt64)), (0, .ref ad0)]) hx hb (dt uX3_packed 24 rfl) rfl hl (by decide) rfl (fun ls hl => ?_)
    refine lv_lload_n hx hb (dt uX3_packed 25 rfl) rfl (lv_at hl 0 rfl) ?_
    refine lv_bipush (v := (15 : Int32)) hx hb (dt uX3_packed 26 rfl) (by decide) ?_
    refine lv_lshl (v := (((((v_date.toInt64 <<< ((3 : Int32).toInt64 &&& 63)) ||| y1_1.toInt64) <<< ((6 : Int32).toInt64 &&& 63)) ||| v_trapped.toInt64) <<< ((15 : Int32).toInt64 &&& 63))) hx hb (dt uX3_packed 27 rfl) rfl ?_
    refine lv_aload_n hx hb (dt uX3_packed 28 rfl) rfl (lv_at hl 1 rfl) ?_
    refine va_get (D := (dC, dI)) (ci := 3) (v := .int v_touches) (C := RX3) (T := TX3) (N := 5) hx hb hts inU3 hown hK hP 0 rfl rfl 1 (by decide) (hts _ tw_14) (fun _ h9 => h9) rfl (dt uX3_packed 29 rfl) ?_
    refine lv_i2l (v := v_touches.toInt64) hx hb (dt uX3_packed 30 rfl) rfl ?_
    refine lv_lor hx hb (dt uX3_packed 31 rfl) ?_
    refine lv_lstore_n (lv' := [(1, .long ((((((v_date.toInt64 <<< ((3 : Int32).toInt64 &&& 63)) ||| y1_1.toInt64) <<< ((6 : Int32).toInt64 &&& 63)) ||| v_trapped.toInt64) <<< ((15 : Int32).toInt64 &&& 63)) ||| v_touches.toInt64)), (0, .ref ad0)]) hx hb (dt uX3_packed 32 rfl) rfl hl (by decide) rfl (fun ls hl => ?_)
    refine lv_lload_n hx hb (dt uX3_packed 33 rfl) rfl (lv_at hl 0 rfl) ?_
    refine lv_bipush (v := (12 : Int32)) hx hb (dt uX3_packed 34 rfl) (by decide) ?_
    refine lv_lshl (v := (((((((v_date.toInt64 <<< ((3 : Int32).toInt64 &&& 63)) ||| y1_1.toInt64) <<< ((6 : Int32).toInt64 &&& 63)) ||| v_trapped.toInt64) <<< ((15 : Int32).toInt64 &&& 63)) ||| v_touches.toInt64) <<< ((12 : Int32).toInt64 &&& 63))) hx hb (dt uX3_packed 35 rfl) rfl ?_
    refine lv_aload_n hx hb (dt uX3_packed 36 rfl) rfl (lv_at hl 1 rfl) ?_
    refine va_get (D := (dC, dI)) (ci := 3) (v := .int v_forgotten) (C := RX3) (T := TX3) (N := 5) hx hb hts inU3 hown hK hP 0 rfl rfl 0 (by decide) (hts _ tw_15) (fun _ h9 => h9) rfl (dt uX3_packed 37 rfl) ?_
    refine lv_i2l (v := v_forgotten.toInt64) hx hb (dt uX3_packed 38 rfl) rfl ?_
    refine lv_lor hx hb (dt uX3_packed 39 rfl) ?_
    subst hf
    rw [hQ]
    exact vret_l C hP hD hS (dt uX3_packed 40 rfl)
  refine lv_if_ge (tgt := 21) hx hb (dt uX3_packed 9 rfl) (by decide) (fun c_2 => ?_) (fun c_2 => ?_)
  · have hf := vif_t c_2 hf
    refine lv_aload_n hx hb (dt uX3_packed 12 rfl) rfl (lv_at hl 1 rfl) ?_
    refine va_get (D := (dC, dI)) (ci := 3) (v := .int v_one) (C := RX3) (T := TX3) (N := 5) hx hb hts inU3 hown hK hP 0 rfl rfl 3 (by decide) (hts _ tw_12) (fun _ h9 => h9) rfl (dt uX3_packed 13 rfl) ?_
    exact hJ25 v_one _ _ _ hf hP hD hS (lv_sub hl [1] rfl)
  · have hf := vif_f c_2 hf
    refine lv_bipush (v := (7 : Int32)) hx hb (dt uX3_packed 10 rfl) (by decide) ?_
    refine lv_goto (tgt := 25) hx hb (dt uX3_packed 11 rfl) (by decide) ?_
    exact hJ25 (7 : Int32) _ _ _ hf hP hD hS (lv_sub hl [1] rfl)
abbrev rX2_fill : Room := { frames := 2, cells := 0, slots := 0, locals := 39 }
abbrev wX2_fill : List Cond := Cond.code yX2_fill cX2_fill 3 none :: VT
set_option maxHeartbeats 4000000 in
set_option maxRecDepth 100000 in
theorem kX2_fill (ad0 : Nat) (ad_history : Nat) (ad_history_steps : Nat) (ad_p1 : Nat) (ad_p2 : Nat) (ad_p2_steps : Nat) (v_packed : Int64) (v_kept : Int32) (v_history_known : Int32) (a_history_steps : Nat → Int64) (v_p1_forgotten : Int32) (v_p1_touches : Int32) (v_p1_trapped : Int32) (v_p1_one : Int32) (v_p1_date : Int32) (v_p2_known : Int32) (a_p2_steps : Nat → Int64) (q0 : ((Nat → Int64) × Int32 × Int64 × Int32)) (hf : fX2_fill a_history_steps v_history_known v_packed v_kept v_p1_forgotten v_p1_touches v_p1_trapped v_p1_one v_p1_date a_p2_steps v_p2_known = q0) : Kv l yX2_fill wX2_fill rX2_fill (dC, dI) (vTy cI cJ cB cZ) [.ref ad0, .ref ad_p1, .ref ad_p2] [(ad0, oX2 ad_history v_packed v_kept), (ad_history, oX1 ad_history_steps v_history_known), (ad_history_steps, .inl (cJ, 10, .inr (.inl a_history_steps))), (ad_p1, oX3 v_p1_forgotten v_p1_touches v_p1_trapped v_p1_one v_p1_date), (ad_p2, oX1 ad_p2_steps v_p2_known), (ad_p2_steps, .inl (cJ, 10, .inr (.inl a_p2_steps)))] [(ad0, oX2 ad_history q0.2.2.1 q0.2.2.2), (ad_history, oX1 ad_history_steps q0.2.1), (ad_history_steps, .inl (cJ, 10, .inr (.inl q0.1))), (ad_p1, oX3 v_p1_forgotten v_p1_touches v_p1_trapped v_p1_one v_p1_date), (ad_p2, oX1 ad_p2_steps v_p2_known), (ad_p2_steps, .inl (cJ, 10, .inr (.inl a_p2_steps)))] := by
  refine Kv.mk (cc := cX2_fill) (maxL := 3) (ret := none) (by decide) (Nat.le_of_ble_eq_true rfl) ?_
  intro p e s m args below meth c A Q H locs C hQ hP hD hS ls hl
  obtain ⟨hx, hb, -, hml, hts, hown, -, hK, hN, hA⟩ := id C
  have hown : s.vm.findClass RX2 = some m.cls := hown
  have hl : lv_has ls 3 [(0, .ref ad0), (1, .ref ad_p1), (2, .ref ad_p2)] := hl
  unfold fX2_fill at hf
  refine lv_aload_n hx hb (dt uX2_fill 0 rfl) rfl (lv_at hl 0 rfl) ?_
  refine lv_aload_n hx hb (dt uX2_fill 1 rfl) rfl (lv_at hl 1 rfl) ?_
  refine vk_l0 [3] (va_runVN (As := []) (rest := [.ref ad0]) ⟨hx, hb, hml, hown, hts⟩ (kX3_packed ad_p1 v_p1_forgotten v_p1_touches v_p1_trapped v_p1_one v_p1_date _ rfl H.size) (vcwVN hts (nm_56 hN) tw_18 tw_19 tw_16 tw_17 hd_X3_packed rfl rfl ⟨Nat.le_of_ble_eq_true rfl, Nat.le_of_ble_eq_true rfl⟩) (vpreV hK hN hP hD [3] rfl (by decide) (ci := 3) (q0 := 3) rfl rfl) rfl rfl hl.1 rfl (lv_room (Nat.le_of_ble_eq_true rfl)) (dt uX2_fill 2 rfl) ⟨Nat.zero_le _, Nat.zero_le _⟩) hA hP hD hS rfl (by decide) (fun H locs hP hD hS => ?_)
  refine va_put (D := (dC, dI)) (ci := 2) (v := .long (fX3_packed v_p1_forgotten v_p1_touches v_p1_trapped v_p1_one v_p1_date)) (ty := .long) (C := RX2) (T := TX2) (N := 3) hx hb hts inU2 tyX2 tyX2_ok nmX2 hown hK hP hD hS 0 rfl rfl 1 (by decide) (hts _ tw_20) (fun _ h9 => h9) rfl (by decide +kernel) rfl rfl (Nat.le_of_ble_eq_true rfl) (dt uX2_fill 3 rfl) (fun H locs hP hD hS => ?_)
  have hP : va_P (dC, dI) vwCl [(ad0, oX2 ad_history (fX3_packed v_p1_forgotten v_p1_touches v_p1_trapped v_p1_one v_p1_date) v_kept), (ad_history, oX1 ad_history_steps v_history_known), (ad_history_steps, .inl (cJ, 10, .inr (.inl a_history_steps))), (ad_p1, oX3 v_p1_forgotten v_p1_touches v_p1_trapped v_p1_one v_p1_date), (ad_p2, oX1 ad_p2_steps v_p2_known), (ad_p2_steps, .inl (cJ, 10, .inr (.inl a_p2_steps)))] H := hP
  have hD : va_D A [(ad0, oX2 ad_history (fX3_packed v_p1_forgotten v_p1_touches v_p1_trapped v_p1_one v_p1_date) v_kept), (ad_history, oX1 ad_history_steps v_history_known), (ad_history_steps, .inl (cJ, 10, .inr (.inl a_history_steps))), (ad_p1, oX3 v_p1_forgotten v_p1_touches v_p1_trapped v_p1_one v_p1_date), (ad_p2, oX1 ad_p2_steps v_p2_known), (ad_p2_steps, .inl (cJ, 10, .inr (.inl a_p2_steps)))] := hD
  refine lv_aload_n hx hb (dt uX2_fill 4 rfl) rfl (lv_at hl 0 rfl) ?_
  refine va_get (D := (dC, dI)) (ci := 2) (v := .ref ad_history) (C := RX2) (T := TX2) (N := 3) hx hb hts inU2 hown hK hP 0 rfl rfl 0 (by decide) (hts _ tw_21) (fun _ h9 => h9) rfl (dt uX2_fill 5 rfl) ?_
  refine lv_aload_n hx hb (dt uX2_fill 6 rfl) rfl (lv_at hl 2 rfl) ?_
  refine vk_v [1, 2, 4, 5] (ws2 := [(ad0, oX2 ad_history (fX3_packed v_p1_forgotten v_p1_touches v_p1_trapped v_p1_one v_p1_date) v_kept), (ad_history, oX1 ad_history_steps ((fX1_copyFrom a_history_steps v_history_known a_p2_steps v_p2_known).2)), (ad_history_steps, .inl (cJ, 10, .inr (.inl ((fX1_copyFrom a_history_steps v_history_known a_p2_steps v_p2_known).1)))), (ad_p1, oX3 v_p1_forgotten v_p1_touches v_p1_trapped v_p1_one v_p1_date), (ad_p2, oX1 ad_p2_steps v_p2_known), (ad_p2_steps, .inl (cJ, 10, .inr (.inl a_p2_steps)))]) (va_runVN (As := [.ref ad_p2]) (rest := []) ⟨hx, hb, hml, hown, hts⟩ (kX1_copyFrom ad_history ad_history_steps ad_p2 ad_p2_steps v_history_known a_history_steps v_p2_known a_p2_steps _ rfl H.size) (vcwVN hts (nm_57 hN) tw_24 tw_25 tw_22 tw_23 hd_X1_copyFrom rfl rfl ⟨Nat.le_of_ble_eq_true rfl, Nat.le_of_ble_eq_true rfl⟩) (vpreV hK hN hP hD [1, 2, 4, 5] rfl (by decide) (ci := 1) (q0 := 1) rfl rfl) rfl rfl hl.1 rfl (lv_room (Nat.le_of_ble_eq_true rfl)) (dt uX2_fill 7 rfl) ⟨Nat.zero_le _, Nat.zero_le _⟩) hA hP hD hS rfl (by decide) rfl rfl (fun H locs hP hD hS => ?_)
  refine lv_aload_n hx hb (dt uX2_fill 8 rfl) rfl (lv_at hl 0 rfl) ?_
  refine lv_iconst (v := (1 : Int32)) hx hb (dt uX2_fill 9 rfl) (by decide) ?_
  refine va_put (D := (dC, dI)) (ci := 2) (v := .int (1 : Int32)) (ty := .boolean) (C := RX2) (T := TX2) (N := 3) hx hb hts inU2 tyX2 tyX2_ok nmX2 hown hK hP hD hS 0 rfl rfl 2 (by decide) (hts _ tw_26) (fun _ h9 => h9) rfl (by decide +kernel) rfl rfl (Nat.le_of_ble_eq_true rfl) (dt uX2_fill 10 rfl) (fun H locs hP hD hS => ?_)
  have hP : va_P (dC, dI) vwCl [(ad0, oX2 ad_history (fX3_packed v_p1_forgotten v_p1_touches v_p1_trapped v_p1_one v_p1_date) (1 : Int32)), (ad_history, oX1 ad_history_steps ((fX1_copyFrom a_history_steps v_history_known a_p2_steps v_p2_known).2)), (ad_history_steps, .inl (cJ, 10, .inr (.inl ((fX1_copyFrom a_history_steps v_history_known a_p2_steps v_p2_known).1)))), (ad_p1, oX3 v_p1_forgotten v_p1_touches v_p1_trapped v_p1_one v_p1_date), (ad_p2, oX1 ad_p2_steps v_p2_known), (ad_p2_steps, .inl (cJ, 10, .inr (.inl a_p2_steps)))] H := hP
  have hD : va_D A [(ad0, oX2 ad_history (fX3_packed v_p1_forgotten v_p1_touches v_p1_trapped v_p1_one v_p1_date) (1 : Int32)), (ad_history, oX1 ad_history_steps ((fX1_copyFrom a_history_steps v_history_known a_p2_steps v_p2_known).2)), (ad_history_steps, .inl (cJ, 10, .inr (.inl ((fX1_copyFrom a_history_steps v_history_known a_p2_steps v_p2_known).1)))), (ad_p1, oX3 v_p1_forgotten v_p1_touches v_p1_trapped v_p1_one v_p1_date), (ad_p2, oX1 ad_p2_steps v_p2_known), (ad_p2_steps, .inl (cJ, 10, .inr (.inl a_p2_steps)))] := hD
  subst hf
  rw [hQ]
  exact vret_v C hP hD hS (dt uX2_fill 11 rfl)
abbrev rX3_lowest : Room := { frames := 0, cells := 0, slots := 0, locals := 0 }
abbrev wX3_lowest : List Cond := Cond.code yX3_lowest cX3_lowest 3 (some .int) :: VT
set_option maxHeartbeats 4000000 in
set_option maxRecDepth 100000 in
theorem kX3_lowest (p1 : Int64) (p2 : Int32) (q0 : Int32) (hf : fX3_lowest p1 p2 = q0) : Ki l yX3_lowest wX3_lowest rX3_lowest (dC, dI) (vTy cI cJ cB cZ) [.long p1, .int p2] [] [] q0 := by
  refine Ki.mk (cc := cX3_lowest) (maxL := 3) (ret := some .int) (by decide) (Nat.le_of_ble_eq_true rfl) ?_
  intro p e s m args below meth c A Q H locs C hQ hP hD hS ls hl
  obtain ⟨hx, hb, -, hml, hts, hown, -, hK, hN, hA⟩ := id C
  have hown : s.vm.findClass RX3 = some m.cls := hown
  have hl : lv_has ls 3 [(0, .long p1), (2, .int p2)] := hl
  unfold fX3_lowest at hf
  refine lv_lload_n hx hb (dt uX3_lowest 0 rfl) rfl (lv_at hl 0 rfl) ?_
  refine lv_lconst (v := (1 : Int64)) hx hb (dt uX3_lowest 1 rfl) (by decide) ?_
  refine lv_iload_n hx hb (dt uX3_lowest 2 rfl) rfl (lv_at hl 1 rfl) ?_
  refine lv_lshl (v := ((1 : Int64) <<< (p2.toInt64 &&& 63))) hx hb (dt uX3_lowest 3 rfl) rfl ?_
  refine lv_lconst (v := (1 : Int64)) hx hb (dt uX3_lowest 4 rfl) (by decide) ?_
  refine lv_lsub hx hb (dt uX3_lowest 5 rfl) ?_
  refine lv_land hx hb (dt uX3_lowest 6 rfl) ?_
  refine lv_l2i (v := (p1 &&& (((1 : Int64) <<< (p2.toInt64 &&& 63)) - (1 : Int64))).toInt32) hx hb (dt uX3_lowest 7 rfl) rfl ?_
  subst hf
  rw [hQ]
  exact vret_i C hP hD hS (dt uX3_lowest 8 rfl)
abbrev rX3_unpack : Room := { frames := 1, cells := 0, slots := 0, locals := 22 }
abbrev wX3_unpack : List Cond := Cond.code yX3_unpack cX3_unpack 5 none :: VT
set_option maxHeartbeats 4000000 in
set_option maxRecDepth 100000 in
theorem kX3_unpack (ad0 : Nat) (v_forgotten : Int32) (v_touches : Int32) (v_trapped : Int32) (v_one : Int32) (v_date : Int32) (p1 : Int64) (q0 : (Int32 × Int32 × Int32 × Int32 × Int32)) (hf : fX3_unpack v_forgotten v_touches v_trapped v_one v_date p1 = q0) : Kv l yX3_unpack wX3_unpack rX3_unpack (dC, dI) (vTy cI cJ cB cZ) [.ref ad0, .long p1] [(ad0, oX3 v_forgotten v_touches v_trapped v_one v_date)] [(ad0, oX3 q0.1 q0.2.1 q0.2.2.1 q0.2.2.2.1 q0.2.2.2.2)] := by
  refine Kv.mk (cc := cX3_unpack) (maxL := 5) (ret := none) (by decide) (Nat.le_of_ble_eq_true rfl) ?_
  intro p e s m args below meth c A Q H locs C hQ hP hD hS ls hl
  obtain ⟨hx, hb, -, hml, hts, hown, -, hK, hN, hA⟩ := id C
  have hown : s.vm.findClass RX3 = some m.cls := hown
  have hl : lv_has ls 5 [(0, .ref ad0), (1, .long p1)] := hl
  unfold fX3_unpack at hf
  refine lv_lload_n hx hb (dt uX3_unpack 0 rfl) rfl (lv_at hl 1 rfl) ?_
  refine lv_lstore_n (lv' := [(3, .long p1), (0, .ref ad0), (1, .long p1)]) hx hb (dt uX3_unpack 1 rfl) rfl hl (by decide) rfl (fun ls hl => ?_)
  refine lv_aload_n hx hb (dt uX3_unpack 2 rfl) rfl (lv_at hl 1 rfl) ?_
  refine lv_lload_n hx hb (dt uX3_unpack 3 rfl) rfl (lv_at hl 0 rfl) ?_
  refine lv_bipush (v := (12 : Int32)) hx hb (dt uX3_unpack 4 rfl) (by decide) ?_
  refine vk_i0 [] (va_runS (As := [.long p1, .int (12 : Int32)]) (rest := [.ref ad0]) ⟨hx, hb, hml, hown, hts⟩ (kX3_lowest p1 (12 : Int32) _ rfl H.size) (vcwS hts tw_28 tw_29 tw_16 tw_27 hd_X3_lowest rfl rfl ⟨Nat.le_of_ble_eq_true rfl, Nat.le_of_ble_eq_true rfl⟩) (vpreS hK hN hP hD [] rfl (by decide)) rfl rfl hl.1 rfl (lv_room (Nat.le_of_ble_eq_true rfl)) (dt uX3_unpack 5 rfl) ⟨Nat.zero_le _, Nat.zero_le _⟩) hA hP hD hS rfl (by decide) (fun H locs hP hD hS => ?_)
  refine va_put (D := (dC, dI)) (ci := 3) (v := .int (fX3_lowest p1 (12 : Int32))) (ty := .int) (C := RX3) (T := TX3) (N := 5) hx hb hts inU3 tyX3 tyX3_ok nmX3 hown hK hP hD hS 0 rfl rfl 0 (by decide) (hts _ tw_15) (fun _ h9 => h9) rfl (by decide +kernel) rfl rfl (Nat.le_of_ble_eq_true rfl) (dt uX3_unpack 6 rfl) (fun H locs hP hD hS => ?_)
  have hP : va_P (dC, dI) vwCl [(ad0, oX3 (fX3_lowest p1 (12 : Int32)) v_touches v_trapped v_one v_date)] H := hP
  have hD : va_D A [(ad0, oX3 (fX3_lowest p1 (12 : Int32)) v_touches v_trapped v_one v_date)] := hD
  refine lv_lload_n hx hb (dt uX3_unpack 7 rfl) rfl (lv_at hl 0 rfl) ?_
  refine lv_bipush (v := (12 : Int32)) hx hb (dt uX3_unpack 8 rfl) (by decide) ?_
  refine lv_lshr (v := (p1 >>> ((12 : Int32).toInt64 &&& 63))) hx hb (dt uX3_unpack 9 rfl) rfl ?_
  refine lv_lstore_n (lv' := [(3, .long (p1 >>> ((12 : Int32).toInt64 &&& 63))), (0, .ref ad0), (1, .long p1)]) hx hb (dt uX3_unpack 10 rfl) rfl hl (by decide) rfl (fun ls hl => ?_)
  refine lv_aload_n hx hb (dt uX3_unpack 11 rfl) rfl (lv_at hl 1 rfl) ?_
  refine lv_lload_n hx hb (dt uX3_unpack 12 rfl) rfl (lv_at hl 0 rfl) ?_
  refine lv_bipush (v := (15 : Int32)) hx hb (dt uX3_unpack 13 rfl) (by decide) ?_
  refine vk_i0 [] (va_runS (As := [.long (p1 >>> ((12 : Int32).toInt64 &&& 63)), .int (15 : Int32)]) (rest := [.ref ad0]) ⟨hx, hb, hml, hown, hts⟩ (kX3_lowest (p1 >>> ((12 : Int32).toInt64 &&& 63)) (15 : Int32) _ rfl H.size) (vcwS hts tw_28 tw_29 tw_16 tw_27 hd_X3_lowest rfl rfl ⟨Nat.le_of_ble_eq_true rfl, Nat.le_of_ble_eq_true rfl⟩) (vpreS hK hN hP hD [] rfl (by decide)) rfl rfl hl.1 rfl (lv_room (Nat.le_of_ble_eq_true rfl)) (dt uX3_unpack 14 rfl) ⟨Nat.zero_le _, Nat.zero_le _⟩) hA hP hD hS rfl (by decide) (fun H locs hP hD hS => ?_)
  refine va_put (D := (dC, dI)) (ci := 3) (v := .int (fX3_lowest (p1 >>> ((12 : Int32).toInt64 &&& 63)) (15 : Int32))) (ty := .int) (C := RX3) (T := TX3) (N := 5) hx hb hts inU3 tyX3 tyX3_ok nmX3 hown hK hP hD hS 0 rfl rfl 1 (by decide) (hts _ tw_14) (fun _ h9 => h9) rfl (by decide +kernel) rfl rfl (Nat.le_of_ble_eq_true rfl) (dt uX3_unpack 15 rfl) (fun H locs hP hD hS => ?_)
  have hP : va_P (dC, dI) vwCl [(ad0, oX3 (fX3_lowest p1 (12 : Int32)) (fX3_lowest (p1 >>> ((12 : Int32).toInt64 &&& 63)) (15 : Int32)) v_trapped v_one v_date)] H := hP
  have hD : va_D A [(ad0, oX3 (fX3_lowest p1 (12 : Int32)) (fX3_lowest (p1 >>> ((12 : Int32).toInt64 &&& 63)) (15 : Int32)) v_trapped v_one v_date)] := hD
  refine lv_lload_n hx hb (dt uX3_unpack 16 rfl) rfl (lv_at hl 0 rfl) ?_
  refine lv_bipush (v := (15 : Int32)) hx hb (dt uX3_unpack 17 rfl) (by decide) ?_
  refine lv_lshr (v := ((p1 >>> ((12 : Int32).toInt64 &&& 63)) >>> ((15 : Int32).toInt64 &&& 63))) hx hb (dt uX3_unpack 18 rfl) rfl ?_
  refine lv_lstore_n (lv' := [(3, .long ((p1 >>> ((12 : Int32).toInt64 &&& 63)) >>> ((15 : Int32).toInt64 &&& 63))), (0, .ref ad0), (1, .long p1)]) hx hb (dt uX3_unpack 19 rfl) rfl hl (by decide) rfl (fun ls hl => ?_)
  refine lv_aload_n hx hb (dt uX3_unpack 20 rfl) rfl (lv_at hl 1 rfl) ?_
  refine lv_lload_n hx hb (dt uX3_unpack 21 rfl) rfl (lv_at hl 0 rfl) ?_
  refine lv_bipush (v := (6 : Int32)) hx hb (dt uX3_unpack 22 rfl) (by decide) ?_
  refine vk_i0 [] (va_runS (As := [.long ((p1 >>> ((12 : Int32).toInt64 &&& 63)) >>> ((15 : Int32).toInt64 &&& 63)), .int (6 : Int32)]) (rest := [.ref ad0]) ⟨hx, hb, hml, hown, hts⟩ (kX3_lowest ((p1 >>> ((12 : Int32).toInt64 &&& 63)) >>> ((15 : Int32).toInt64 &&& 63)) (6 : Int32) _ rfl H.size) (vcwS hts tw_28 tw_29 tw_16 tw_27 hd_X3_lowest rfl rfl ⟨Nat.le_of_ble_eq_true rfl, Nat.le_of_ble_eq_true rfl⟩) (vpreS hK hN hP hD [] rfl (by decide)) rfl rfl hl.1 rfl (lv_room (Nat.le_of_ble_eq_true rfl)) (dt uX3_unpack 23 rfl) ⟨Nat.zero_le _, Nat.zero_le _⟩) hA hP hD hS rfl (by decide) (fun H locs hP hD hS => ?_)
  refine va_put (D := (dC, dI)) (ci := 3) (v := .int (fX3_lowest ((p1 >>> ((12 : Int32).toInt64 &&& 63)) >>> ((15 : Int32).toInt64 &&& 63)) (6 : Int32))) (ty := .int) (C := RX3) (T := TX3) (N := 5) hx hb hts inU3 tyX3 tyX3_ok nmX3 hown hK hP hD hS 0 rfl rfl 2 (by decide) (hts _ tw_13) (fun _ h9 => h9) rfl (by decide +kernel) rfl rfl (Nat.le_of_ble_eq_true rfl) (dt uX3_unpack 24 rfl) (fun H locs hP hD hS => ?_)
  have hP : va_P (dC, dI) vwCl [(ad0, oX3 (fX3_lowest p1 (12 : Int32)) (fX3_lowest (p1 >>> ((12 : Int32).toInt64 &&& 63)) (15 : Int32)) (fX3_lowest ((p1 >>> ((12 : Int32).toInt64 &&& 63)) >>> ((15 : Int32).toInt64 &&& 63)) (6 : Int32)) v_one v_date)] H := hP
  have hD : va_D A [(ad0, oX3 (fX3_lowest p1 (12 : Int32)) (fX3_lowest (p1 >>> ((12 : Int32).toInt64 &&& 63)) (15 : Int32)) (fX3_lowest ((p1 >>> ((12 : Int32).toInt64 &&& 63)) >>> ((15 : Int32).toInt64 &&& 63)) (6 : Int32)) v_one v_date)] := hD
  refine lv_lload_n hx hb (dt uX3_unpack 25 rfl) rfl (lv_at hl 0 rfl) ?_
  refine lv_bipush (v := (6 : Int32)) hx hb (dt uX3_unpack 26 rfl) (by decide) ?_
  refine lv_lshr (v := (((p1 >>> ((12 : Int32).toInt64 &&& 63)) >>> ((15 : Int32).toInt64 &&& 63)) >>> ((6 : Int32).toInt64 &&& 63))) hx hb (dt uX3_unpack 27 rfl) rfl ?_
  refine lv_lstore_n (lv' := [(3, .long (((p1 >>> ((12 : Int32).toInt64 &&& 63)) >>> ((15 : Int32).toInt64 &&& 63)) >>> ((6 : Int32).toInt64 &&& 63))), (0, .ref ad0), (1, .long p1)]) hx hb (dt uX3_unpack 28 rfl) rfl hl (by decide) rfl (fun ls hl => ?_)
  refine lv_aload_n hx hb (dt uX3_unpack 29 rfl) rfl (lv_at hl 1 rfl) ?_
  refine lv_lload_n hx hb (dt uX3_unpack 30 rfl) rfl (lv_at hl 0 rfl) ?_
  refine lv_iconst (v := (3 : Int32)) hx hb (dt uX3_unpack 31 rfl) (by decide) ?_
  refine vk_i0 [] (va_runS (As := [.long (((p1 >>> ((12 : Int32).toInt64 &&& 63)) >>> ((15 : Int32).toInt64 &&& 63)) >>> ((6 : Int32).toInt64 &&& 63)), .int (3 : Int32)]) (rest := [.ref ad0]) ⟨hx, hb, hml, hown, hts⟩ (kX3_lowest (((p1 >>> ((12 : Int32).toInt64 &&& 63)) >>> ((15 : Int32).toInt64 &&& 63)) >>> ((6 : Int32).toInt64 &&& 63)) (3 : Int32) _ rfl H.size) (vcwS hts tw_28 tw_29 tw_16 tw_27 hd_X3_lowest rfl rfl ⟨Nat.le_of_ble_eq_true rfl, Nat.le_of_ble_eq_true rfl⟩) (vpreS hK hN hP hD [] rfl (by decide)) rfl rfl hl.1 rfl (lv_room (Nat.le_of_ble_eq_true rfl)) (dt uX3_unpack 32 rfl) ⟨Nat.zero_le _, Nat.zero_le _⟩) hA hP hD hS rfl (by decide) (fun H locs hP hD hS => ?_)
  refine va_put (D := (dC, dI)) (ci := 3) (v := .int (fX3_lowest (((p1 >>> ((12 : Int32).toInt64 &&& 63)) >>> ((15 : Int32).toInt64 &&& 63)) >>> ((6 : Int32).toInt64 &&& 63)) (3 : Int32))) (ty := .int) (C := RX3) (T := TX3) (N := 5) hx hb hts inU3 tyX3 tyX3_ok nmX3 hown hK hP hD hS 0 rfl rfl 3 (by decide) (hts _ tw_12) (fun _ h9 => h9) rfl (by decide +kernel) rfl rfl (Nat.le_of_ble_eq_true rfl) (dt uX3_unpack 33 rfl) (fun H locs hP hD hS => ?_)
  have hP : va_P (dC, dI) vwCl [(ad0, oX3 (fX3_lowest p1 (12 : Int32)) (fX3_lowest (p1 >>> ((12 : Int32).toInt64 &&& 63)) (15 : Int32)) (fX3_lowest ((p1 >>> ((12 : Int32).toInt64 &&& 63)) >>> ((15 : Int32).toInt64 &&& 63)) (6 : Int32)) (fX3_lowest (((p1 >>> ((12 : Int32).toInt64 &&& 63)) >>> ((15 : Int32).toInt64 &&& 63)) >>> ((6 : Int32).toInt64 &&& 63)) (3 : Int32)) v_date)] H := hP
  have hD : va_D A [(ad0, oX3 (fX3_lowest p1 (12 : Int32)) (fX3_lowest (p1 >>> ((12 : Int32).toInt64 &&& 63)) (15 : Int32)) (fX3_lowest ((p1 >>> ((12 : Int32).toInt64 &&& 63)) >>> ((15 : Int32).toInt64 &&& 63)) (6 : Int32)) (fX3_lowest (((p1 >>> ((12 : Int32).toInt64 &&& 63)) >>> ((15 : Int32).toInt64 &&& 63)) >>> ((6 : Int32).toInt64 &&& 63)) (3 : Int32)) v_date)] := hD
  refine lv_aload_n hx hb (dt uX3_unpack 34 rfl) rfl (lv_at hl 1 rfl) ?_
  refine lv_lload_n hx hb (dt uX3_unpack 35 rfl) rfl (lv_at hl 0 rfl) ?_
  refine lv_iconst (v := (3 : Int32)) hx hb (dt uX3_unpack 36 rfl) (by decide) ?_
  refine lv_lshr (v := ((((p1 >>> ((12 : Int32).toInt64 &&& 63)) >>> ((15 : Int32).toInt64 &&& 63)) >>> ((6 : Int32).toInt64 &&& 63)) >>> ((3 : Int32).toInt64 &&& 63))) hx hb (dt uX3_unpack 37 rfl) rfl ?_
  refine lv_l2i (v := ((((p1 >>> ((12 : Int32).toInt64 &&& 63)) >>> ((15 : Int32).toInt64 &&& 63)) >>> ((6 : Int32).toInt64 &&& 63)) >>> ((3 : Int32).toInt64 &&& 63)).toInt32) hx hb (dt uX3_unpack 38 rfl) rfl ?_
  refine va_put (D := (dC, dI)) (ci := 3) (v := .int (((((p1 >>> ((12 : Int32).toInt64 &&& 63)) >>> ((15 : Int32).toInt64 &&& 63)) >>> ((6 : Int32).toInt64 &&& 63)) >>> ((3 : Int32).toInt64 &&& 63)).toInt32)) (ty := .int) (C := RX3) (T := TX3) (N := 5) hx hb hts inU3 tyX3 tyX3_ok nmX3 hown hK hP hD hS 0 rfl rfl 4 (by decide) (hts _ tw_11) (fun _ h9 => h9) rfl (by decide +kernel) rfl rfl (Nat.le_of_ble_eq_true rfl) (dt uX3_unpack 39 rfl) (fun H locs hP hD hS => ?_)
  have hP : va_P (dC, dI) vwCl [(ad0, oX3 (fX3_lowest p1 (12 : Int32)) (fX3_lowest (p1 >>> ((12 : Int32).toInt64 &&& 63)) (15 : Int32)) (fX3_lowest ((p1 >>> ((12 : Int32).toInt64 &&& 63)) >>> ((15 : Int32).toInt64 &&& 63)) (6 : Int32)) (fX3_lowest (((p1 >>> ((12 : Int32).toInt64 &&& 63)) >>> ((15 : Int32).toInt64 &&& 63)) >>> ((6 : Int32).toInt64 &&& 63)) (3 : Int32)) (((((p1 >>> ((12 : Int32).toInt64 &&& 63)) >>> ((15 : Int32).toInt64 &&& 63)) >>> ((6 : Int32).toInt64 &&& 63)) >>> ((3 : Int32).toInt64 &&& 63)).toInt32))] H := hP
  have hD : va_D A [(ad0, oX3 (fX3_lowest p1 (12 : Int32)) (fX3_lowest (p1 >>> ((12 : Int32).toInt64 &&& 63)) (15 : Int32)) (fX3_lowest ((p1 >>> ((12 : Int32).toInt64 &&& 63)) >>> ((15 : Int32).toInt64 &&& 63)) (6 : Int32)) (fX3_lowest (((p1 >>> ((12 : Int32).toInt64 &&& 63)) >>> ((15 : Int32).toInt64 &&& 63)) >>> ((6 : Int32).toInt64 &&& 63)) (3 : Int32)) (((((p1 >>> ((12 : Int32).toInt64 &&& 63)) >>> ((15 : Int32).toInt64 &&& 63)) >>> ((6 : Int32).toInt64 &&& 63)) >>> ((3 : Int32).toInt64 &&& 63)).toInt32))] := hD
  refine lv_aload_n hx hb (dt uX3_unpack 40 rfl) rfl (lv_at hl 1 rfl) ?_
  refine va_get (D := (dC, dI)) (ci := 3) (v := .int (fX3_lowest (((p1 >>> ((12 : Int32).toInt64 &&& 63)) >>> ((15 : Int32).toInt64 &&& 63)) >>> ((6 : Int32).toInt64 &&& 63)) (3 : Int32))) (C := RX3) (T := TX3) (N := 5) hx hb hts inU3 hown hK hP 0 rfl rfl 3 (by decide) (hts _ tw_12) (fun _ h9 => h9) rfl (dt uX3_unpack 41 rfl) ?_
  refine lv_bipush (v := (7 : Int32)) hx hb (dt uX3_unpack 42 rfl) (by decide) ?_
  refine lv_icmp_ne (tgt := 79) hx hb (dt uX3_unpack 43 rfl) (by decide) (fun c_1 => ?_) (fun c_1 => ?_)
  · have hf := vif_f c_1 hf
    subst hf
    rw [hQ]
    exact vret_v C hP hD hS (dt uX3_unpack 47 rfl)
  · have hf := vif_t c_1 hf
    refine lv_aload_n hx hb (dt uX3_unpack 44 rfl) rfl (lv_at hl 1 rfl) ?_
    refine lv_bipush (v := (-9 : Int32)) hx hb (dt uX3_unpack 45 rfl) (by decide) ?_
    refine va_put (D := (dC, dI)) (ci := 3) (v := .int (-9 : Int32)) (ty := .int) (C := RX3) (T := TX3) (N := 5) hx hb hts inU3 tyX3 tyX3_ok nmX3 hown hK hP hD hS 0 rfl rfl 3 (by decide) (hts _ tw_12) (fun _ h9 => h9) rfl (by decide +kernel) rfl rfl (Nat.le_of_ble_eq_true rfl) (dt uX3_unpack 46 rfl) (fun H locs hP hD hS => ?_)
    have hP : va_P (dC, dI) vwCl [(ad0, oX3 (fX3_lowest p1 (12 : Int32)) (fX3_lowest (p1 >>> ((12 : Int32).toInt64 &&& 63)) (15 : Int32)) (fX3_lowest ((p1 >>> ((12 : Int32).toInt64 &&& 63)) >>> ((15 : Int32).toInt64 &&& 63)) (6 : Int32)) (-9 : Int32) (((((p1 >>> ((12 : Int32).toInt64 &&& 63)) >>> ((15 : Int32).toInt64 &&& 63)) >>> ((6 : Int32).toInt64 &&& 63)) >>> ((3 : Int32).toInt64 &&& 63)).toInt32))] H := hP
    have hD : va_D A [(ad0, oX3 (fX3_lowest p1 (12 : Int32)) (fX3_lowest (p1 >>> ((12 : Int32).toInt64 &&& 63)) (15 : Int32)) (fX3_lowest ((p1 >>> ((12 : Int32).toInt64 &&& 63)) >>> ((15 : Int32).toInt64 &&& 63)) (6 : Int32)) (-9 : Int32) (((((p1 >>> ((12 : Int32).toInt64 &&& 63)) >>> ((15 : Int32).toInt64 &&& 63)) >>> ((6 : Int32).toInt64 &&& 63)) >>> ((3 : Int32).toInt64 &&& 63)).toInt32))] := hD
    subst hf
    rw [hQ]
    exact vret_v C hP hD hS (dt uX3_unpack 47 rfl)
abbrev rX2_restore : Room := { frames := 2, cells := 0, slots := 0, locals := 46 }
abbrev wX2_restore : List Cond := Cond.code yX2_restore cX2_restore 3 none :: VT
set_option maxHeartbeats 4000000 in
set_option maxRecDepth 100000 in
theorem kX2_restore (ad0 : Nat) (ad_history : Nat) (ad_history_steps : Nat) (ad_p1 : Nat) (ad_p2 : Nat) (ad_p2_steps : Nat) (v_packed : Int64) (v_kept : Int32) (v_history_known : Int32) (a_history_steps : Nat → Int64) (v_p1_forgotten : Int32) (v_p1_touches : Int32) (v_p1_trapped : Int32) (v_p1_one : Int32) (v_p1_date : Int32) (v_p2_known : Int32) (a_p2_steps : Nat → Int64) (q0 : (Int32 × Int32 × Int32 × Int32 × Int32 × (Nat → Int64) × Int32)) (hf : fX2_restore a_history_steps v_history_known v_packed v_p1_forgotten v_p1_touches v_p1_trapped v_p1_one v_p1_date a_p2_steps v_p2_known = q0) : Kv l yX2_restore wX2_restore rX2_restore (dC, dI) (vTy cI cJ cB cZ) [.ref ad0, .ref ad_p1, .ref ad_p2] [(ad0, oX2 ad_history v_packed v_kept), (ad_history, oX1 ad_history_steps v_history_known), (ad_history_steps, .inl (cJ, 10, .inr (.inl a_history_steps))), (ad_p1, oX3 v_p1_forgotten v_p1_touches v_p1_trapped v_p1_one v_p1_date), (ad_p2, oX1 ad_p2_steps v_p2_known), (ad_p2_steps, .inl (cJ, 10, .inr (.inl a_p2_steps)))] [(ad0, oX2 ad_history v_packed v_kept), (ad_history, oX1 ad_history_steps v_history_known), (ad_history_steps, .inl (cJ, 10, .inr (.inl a_history_steps))), (ad_p1, oX3 q0.1 q0.2.1 q0.2.2.1 q0.2.2.2.1 q0.2.2.2.2.1), (ad_p2, oX1 ad_p2_steps q0.2.2.2.2.2.2), (ad_p2_steps, .inl (cJ, 10, .inr (.inl q0.2.2.2.2.2.1)))] := by
  refine Kv.mk (cc := cX2_restore) (maxL := 3) (ret := none) (by decide) (Nat.le_of_ble_eq_true rfl) ?_
  intro p e s m args below meth c A Q H locs C hQ hP hD hS ls hl
  obtain ⟨hx, hb, -, hml, hts, hown, -, hK, hN, hA⟩ := id C
  have hown : s.vm.findClass RX2 = some m.cls := hown
  have hl : lv_has ls 3 [(0, .ref ad0), (1, .ref ad_p1), (2, .ref ad_p2)] := hl
  unfold fX2_restore at hf
  refine lv_aload_n hx hb (dt uX2_restore 0 rfl) rfl (lv_at hl 1 rfl) ?_
  refine lv_aload_n hx hb (dt uX2_restore 1 rfl) rfl (lv_at hl 0 rfl) ?_
  refine va_get (D := (dC, dI)) (ci := 2) (v := .long v_packed) (C := RX2) (T := TX2) (N := 3) hx hb hts inU2 hown hK hP 0 rfl rfl 1 (by decide) (hts _ tw_20) (fun _ h9 => h9) rfl (dt uX2_restore 2 rfl) ?_
  refine vk_v [3] (ws2 := [(ad0, oX2 ad_history v_packed v_kept), (ad_history, oX1 ad_history_steps v_history_known), (ad_history_steps, .inl (cJ, 10, .inr (.inl a_history_steps))), (ad_p1, oX3 ((fX3_unpack v_p1_forgotten v_p1_touches v_p1_trapped v_p1_one v_p1_date v_packed).1) ((fX3_unpack v_p1_forgotten v_p1_touches v_p1_trapped v_p1_one v_p1_date v_packed).2.1) ((fX3_unpack v_p1_forgotten v_p1_touches v_p1_trapped v_p1_one v_p1_date v_packed).2.2.1) ((fX3_unpack v_p1_forgotten v_p1_touches v_p1_trapped v_p1_one v_p1_date v_packed).2.2.2.1) ((fX3_unpack v_p1_forgotten v_p1_touches v_p1_trapped v_p1_one v_p1_date v_packed).2.2.2.2)), (ad_p2, oX1 ad_p2_steps v_p2_known), (ad_p2_steps, .inl (cJ, 10, .inr (.inl a_p2_steps)))]) (va_runVN (As := [.long v_packed]) (rest := []) ⟨hx, hb, hml, hown, hts⟩ (kX3_unpack ad_p1 v_p1_forgotten v_p1_touches v_p1_trapped v_p1_one v_p1_date v_packed _ rfl H.size) (vcwVN hts (nm_59 hN) tw_31 tw_32 tw_16 tw_30 hd_X3_unpack rfl rfl ⟨Nat.le_of_ble_eq_true rfl, Nat.le_of_ble_eq_true rfl⟩) (vpreV hK hN hP hD [3] rfl (by decide) (ci := 3) (q0 := 3) rfl rfl) rfl rfl hl.1 rfl (lv_room (Nat.le_of_ble_eq_true rfl)) (dt uX2_restore 3 rfl) ⟨Nat.zero_le _, Nat.zero_le _⟩) hA hP hD hS rfl (by decide) rfl rfl (fun H locs hP hD hS => ?_)
  refine lv_aload_n hx hb (dt uX2_restore 4 rfl) rfl (lv_at hl 2 rfl) ?_
  refine lv_aload_n hx hb (dt uX2_restore 5 rfl) rfl (lv_at hl 0 rfl) ?_
  refine va_get (D := (dC, dI)) (ci := 2) (v := .ref ad_history) (C := RX2) (T := TX2) (N := 3) hx hb hts inU2 hown hK hP 0 rfl rfl 0 (by decide) (hts _ tw_21) (fun _ h9 => h9) rfl (dt uX2_restore 6 rfl) ?_
  refine vk_v [4, 5, 1, 2] (ws2 := [(ad0, oX2 ad_history v_packed v_kept), (ad_history, oX1 ad_history_steps v_history_known), (ad_history_steps, .inl (cJ, 10, .inr (.inl a_history_steps))), (ad_p1, oX3 ((fX3_unpack v_p1_forgotten v_p1_touches v_p1_trapped v_p1_one v_p1_date v_packed).1) ((fX3_unpack v_p1_forgotten v_p1_touches v_p1_trapped v_p1_one v_p1_date v_packed).2.1) ((fX3_unpack v_p1_forgotten v_p1_touches v_p1_trapped v_p1_one v_p1_date v_packed).2.2.1) ((fX3_unpack v_p1_forgotten v_p1_touches v_p1_trapped v_p1_one v_p1_date v_packed).2.2.2.1) ((fX3_unpack v_p1_forgotten v_p1_touches v_p1_trapped v_p1_one v_p1_date v_packed).2.2.2.2)), (ad_p2, oX1 ad_p2_steps ((fX1_copyFrom a_p2_steps v_p2_known a_history_steps v_history_known).2)), (ad_p2_steps, .inl (cJ, 10, .inr (.inl ((fX1_copyFrom a_p2_steps v_p2_known a_history_steps v_history_known).1))))]) (va_runVN (As := [.ref ad_history]) (rest := []) ⟨hx, hb, hml, hown, hts⟩ (kX1_copyFrom ad_p2 ad_p2_steps ad_history ad_history_steps v_p2_known a_p2_steps v_history_known a_history_steps _ rfl H.size) (vcwVN hts (nm_57 hN) tw_24 tw_25 tw_22 tw_23 hd_X1_copyFrom rfl rfl ⟨Nat.le_of_ble_eq_true rfl, Nat.le_of_ble_eq_true rfl⟩) (vpreV hK hN hP hD [4, 5, 1, 2] rfl (by decide) (ci := 1) (q0 := 4) rfl rfl) rfl rfl hl.1 rfl (lv_room (Nat.le_of_ble_eq_true rfl)) (dt uX2_restore 7 rfl) ⟨Nat.zero_le _, Nat.zero_le _⟩) hA hP hD hS rfl (by decide) rfl rfl (fun H locs hP hD hS => ?_)
  subst hf
  rw [hQ]
  exact vret_v C hP hD hS (dt uX2_restore 8 rfl)
abbrev rX3_begin : Room := { frames := 0, cells := 0, slots := 0, locals := 0 }
abbrev wX3_begin : List Cond := Cond.code yX3_begin cX3_begin 2 none :: VT
set_option maxHeartbeats 4000000 in
set_option maxRecDepth 100000 in
theorem kX3_begin (ad0 : Nat) (ad_p1 : Nat) (ad_p1_a : Nat) (ad_p1_b : Nat) (v_forgotten : Int32) (v_touches : Int32) (v_trapped : Int32) (v_one : Int32) (v_date : Int32) (v_p1_size : Int32) (v_p1_touches : Int32) (v_p1_one : Int32) (q0 : (Int32 × Int32 × Int32 × Int32 × Int32)) (hf : fX3_begin v_forgotten v_touches v_trapped v_one v_date v_p1_touches v_p1_one = q0) : Kv l yX3_begin wX3_begin rX3_begin (dC, dI) (vTy cI cJ cB cZ) [.ref ad0, .ref ad_p1] [(ad0, oX3 v_forgotten v_touches v_trapped v_one v_date), (ad_p1, oX0 ad_p1_a ad_p1_b v_p1_size v_p1_touches v_p1_one)] [(ad0, oX3 q0.1 q0.2.1 q0.2.2.1 q0.2.2.2.1 q0.2.2.2.2), (ad_p1, oX0 ad_p1_a ad_p1_b v_p1_size v_p1_touches v_p1_one)] := by
  refine Kv.mk (cc := cX3_begin) (maxL := 2) (ret := none) (by decide) (Nat.le_of_ble_eq_true rfl) ?_
  intro p e s m args below meth c A Q H locs C hQ hP hD hS ls hl
  obtain ⟨hx, hb, -, hml, hts, hown, -, hK, hN, hA⟩ := id C
  have hown : s.vm.findClass RX3 = some m.cls := hown
  have hl : lv_has ls 2 [(0, .ref ad0), (1, .ref ad_p1)] := hl
  unfold fX3_begin at hf
  refine lv_aload_n hx hb (dt uX3_begin 0 rfl) rfl (lv_at hl 0 rfl) ?_
  refine lv_iconst (v := (0 : Int32)) hx hb (dt uX3_begin 1 rfl) (by decide) ?_
  refine va_put (D := (dC, dI)) (ci := 3) (v := .int (0 : Int32)) (ty := .int) (C := RX3) (T := TX3) (N := 5) hx hb hts inU3 tyX3 tyX3_ok nmX3 hown hK hP hD hS 0 rfl rfl 0 (by decide) (hts _ tw_15) (fun _ h9 => h9) rfl (by decide +kernel) rfl rfl (Nat.le_of_ble_eq_true rfl) (dt uX3_begin 2 rfl) (fun H locs hP hD hS => ?_)
  have hP : va_P (dC, dI) vwCl [(ad0, oX3 (0 : Int32) v_touches v_trapped v_one v_date), (ad_p1, oX0 ad_p1_a ad_p1_b v_p1_size v_p1_touches v_p1_one)] H := hP
  have hD : va_D A [(ad0, oX3 (0 : Int32) v_touches v_trapped v_one v_date), (ad_p1, oX0 ad_p1_a ad_p1_b v_p1_size v_p1_touches v_p1_one)] := hD
  refine lv_aload_n hx hb (dt uX3_begin 3 rfl) rfl (lv_at hl 0 rfl) ?_
  refine lv_aload_n hx hb (dt uX3_begin 4 rfl) rfl (lv_at hl 1 rfl) ?_
  refine va_getN (D := (dC, dI)) (ci := 0) (v := .int v_p1_touches) (C := RX0) (T := TX0) (N := 5) hx hb hts inU0 hown hK hP 1 rfl rfl 3 (by decide) (nw_8 hN) (fun _ h9 => h9) rfl (dt uX3_begin 5 rfl) ?_
  refine va_put (D := (dC, dI)) (ci := 3) (v := .int v_p1_touches) (ty := .int) (C := RX3) (T := TX3) (N := 5) hx hb hts inU3 tyX3 tyX3_ok nmX3 hown hK hP hD hS 0 rfl rfl 1 (by decide) (hts _ tw_14) (fun _ h9 => h9) rfl (by decide +kernel) rfl rfl (Nat.le_of_ble_eq_true rfl) (dt uX3_begin 6 rfl) (fun H locs hP hD hS => ?_)
  have hP : va_P (dC, dI) vwCl [(ad0, oX3 (0 : Int32) v_p1_touches v_trapped v_one v_date), (ad_p1, oX0 ad_p1_a ad_p1_b v_p1_size v_p1_touches v_p1_one)] H := hP
  have hD : va_D A [(ad0, oX3 (0 : Int32) v_p1_touches v_trapped v_one v_date), (ad_p1, oX0 ad_p1_a ad_p1_b v_p1_size v_p1_touches v_p1_one)] := hD
  refine lv_aload_n hx hb (dt uX3_begin 7 rfl) rfl (lv_at hl 0 rfl) ?_
  refine lv_iconst (v := (0 : Int32)) hx hb (dt uX3_begin 8 rfl) (by decide) ?_
  refine va_put (D := (dC, dI)) (ci := 3) (v := .int (0 : Int32)) (ty := .int) (C := RX3) (T := TX3) (N := 5) hx hb hts inU3 tyX3 tyX3_ok nmX3 hown hK hP hD hS 0 rfl rfl 2 (by decide) (hts _ tw_13) (fun _ h9 => h9) rfl (by decide +kernel) rfl rfl (Nat.le_of_ble_eq_true rfl) (dt uX3_begin 9 rfl) (fun H locs hP hD hS => ?_)
  have hP : va_P (dC, dI) vwCl [(ad0, oX3 (0 : Int32) v_p1_touches (0 : Int32) v_one v_date), (ad_p1, oX0 ad_p1_a ad_p1_b v_p1_size v_p1_touches v_p1_one)] H := hP
  have hD : va_D A [(ad0, oX3 (0 : Int32) v_p1_touches (0 : Int32) v_one v_date), (ad_p1, oX0 ad_p1_a ad_p1_b v_p1_size v_p1_touches v_p1_one)] := hD
  refine lv_aload_n hx hb (dt uX3_begin 10 rfl) rfl (lv_at hl 0 rfl) ?_
  refine lv_aload_n hx hb (dt uX3_begin 11 rfl) rfl (lv_at hl 1 rfl) ?_
  refine va_getN (D := (dC, dI)) (ci := 0) (v := .int v_p1_one) (C := RX0) (T := TX0) (N := 5) hx hb hts inU0 hown hK hP 1 rfl rfl 4 (by decide) (nw_10 hN) (fun _ h9 => h9) rfl (dt uX3_begin 12 rfl) ?_
  refine va_put (D := (dC, dI)) (ci := 3) (v := .int v_p1_one) (ty := .int) (C := RX3) (T := TX3) (N := 5) hx hb hts inU3 tyX3 tyX3_ok nmX3 hown hK hP hD hS 0 rfl rfl 3 (by decide) (hts _ tw_12) (fun _ h9 => h9) rfl (by decide +kernel) rfl rfl (Nat.le_of_ble_eq_true rfl) (dt uX3_begin 13 rfl) (fun H locs hP hD hS => ?_)
  have hP : va_P (dC, dI) vwCl [(ad0, oX3 (0 : Int32) v_p1_touches (0 : Int32) v_p1_one v_date), (ad_p1, oX0 ad_p1_a ad_p1_b v_p1_size v_p1_touches v_p1_one)] H := hP
  have hD : va_D A [(ad0, oX3 (0 : Int32) v_p1_touches (0 : Int32) v_p1_one v_date), (ad_p1, oX0 ad_p1_a ad_p1_b v_p1_size v_p1_touches v_p1_one)] := hD
  refine lv_aload_n hx hb (dt uX3_begin 14 rfl) rfl (lv_at hl 0 rfl) ?_
  refine lv_iconst (v := (0 : Int32)) hx hb (dt uX3_begin 15 rfl) (by decide) ?_
  refine va_put (D := (dC, dI)) (ci := 3) (v := .int (0 : Int32)) (ty := .int) (C := RX3) (T := TX3) (N := 5) hx hb hts inU3 tyX3 tyX3_ok nmX3 hown hK hP hD hS 0 rfl rfl 4 (by decide) (hts _ tw_11) (fun _ h9 => h9) rfl (by decide +kernel) rfl rfl (Nat.le_of_ble_eq_true rfl) (dt uX3_begin 16 rfl) (fun H locs hP hD hS => ?_)
  have hP : va_P (dC, dI) vwCl [(ad0, oX3 (0 : Int32) v_p1_touches (0 : Int32) v_p1_one (0 : Int32)), (ad_p1, oX0 ad_p1_a ad_p1_b v_p1_size v_p1_touches v_p1_one)] H := hP
  have hD : va_D A [(ad0, oX3 (0 : Int32) v_p1_touches (0 : Int32) v_p1_one (0 : Int32)), (ad_p1, oX0 ad_p1_a ad_p1_b v_p1_size v_p1_touches v_p1_one)] := hD
  subst hf
  rw [hQ]
  exact vret_v C hP hD hS (dt uX3_begin 17 rfl)
abbrev rX3_forgottenIn : Room := { frames := 0, cells := 0, slots := 0, locals := 0 }
abbrev wX3_forgottenIn : List Cond := Cond.code yX3_forgottenIn cX3_forgottenIn 2 (some .int) :: VT
set_option maxHeartbeats 4000000 in
set_option maxRecDepth 100000 in
theorem kX3_forgottenIn (ad0 : Nat) (v_forgotten : Int32) (v_touches : Int32) (v_trapped : Int32) (v_one : Int32) (v_date : Int32) (p1 : Int32) (q0 : Int32) (hf : fX3_forgottenIn v_forgotten p1 = q0) : Ki l yX3_forgottenIn wX3_forgottenIn rX3_forgottenIn (dC, dI) (vTy cI cJ cB cZ) [.ref ad0, .int p1] [(ad0, oX3 v_forgotten v_touches v_trapped v_one v_date)] [(ad0, oX3 v_forgotten v_touches v_trapped v_one v_date)] q0 := by
  refine Ki.mk (cc := cX3_forgottenIn) (maxL := 2) (ret := some .int) (by decide) (Nat.le_of_ble_eq_true rfl) ?_
  intro p e s m args below meth c A Q H locs C hQ hP hD hS ls hl
  obtain ⟨hx, hb, -, hml, hts, hown, -, hK, hN, hA⟩ := id C
  have hown : s.vm.findClass RX3 = some m.cls := hown
  have hl : lv_has ls 2 [(0, .ref ad0), (1, .int p1)] := hl
  unfold fX3_forgottenIn at hf
  refine lv_aload_n hx hb (dt uX3_forgottenIn 0 rfl) rfl (lv_at hl 0 rfl) ?_
  refine va_get (D := (dC, dI)) (ci := 3) (v := .int v_forgotten) (C := RX3) (T := TX3) (N := 5) hx hb hts inU3 hown hK hP 0 rfl rfl 0 (by decide) (hts _ tw_15) (fun _ h9 => h9) rfl (dt uX3_forgottenIn 1 rfl) ?_
  refine lv_iconst (v := (2 : Int32)) hx hb (dt uX3_forgottenIn 2 rfl) (by decide) ?_
  refine lv_iload_n hx hb (dt uX3_forgottenIn 3 rfl) rfl (lv_at hl 1 rfl) ?_
  refine lv_imul hx hb (dt uX3_forgottenIn 4 rfl) ?_
  refine lv_ishr hx hb (dt uX3_forgottenIn 5 rfl) ?_
  refine lv_iconst (v := (3 : Int32)) hx hb (dt uX3_forgottenIn 6 rfl) (by decide) ?_
  refine lv_iand hx hb (dt uX3_forgottenIn 7 rfl) ?_
  subst hf
  rw [hQ]
  exact vret_i C hP hD hS (dt uX3_forgottenIn 8 rfl)
abbrev rX3_isTrap : Room := { frames := 0, cells := 0, slots := 0, locals := 0 }
abbrev wX3_isTrap : List Cond := Cond.code yX3_isTrap cX3_isTrap 2 (some .boolean) :: VT
set_option maxHeartbeats 4000000 in
set_option maxRecDepth 100000 in
theorem kX3_isTrap (ad0 : Nat) (v_forgotten : Int32) (v_touches : Int32) (v_trapped : Int32) (v_one : Int32) (v_date : Int32) (p1 : Int32) (q0 : Int32) (hf : fX3_isTrap v_trapped p1 = q0) : Kz l yX3_isTrap wX3_isTrap rX3_isTrap (dC, dI) (vTy cI cJ cB cZ) [.ref ad0, .int p1] [(ad0, oX3 v_forgotten v_touches v_trapped v_one v_date)] [(ad0, oX3 v_forgotten v_touches v_trapped v_one v_date)] q0 := by
  refine Kz.mk (cc := cX3_isTrap) (maxL := 2) (ret := some .boolean) (by decide) (Nat.le_of_ble_eq_true rfl) ?_
  intro p e s m args below meth c A Q H locs C hQ hP hD hS ls hl
  obtain ⟨hx, hb, -, hml, hts, hown, -, hK, hN, hA⟩ := id C
  have hown : s.vm.findClass RX3 = some m.cls := hown
  have hl : lv_has ls 2 [(0, .ref ad0), (1, .int p1)] := hl
  unfold fX3_isTrap at hf
  refine lv_aload_n hx hb (dt uX3_isTrap 0 rfl) rfl (lv_at hl 0 rfl) ?_
  refine va_get (D := (dC, dI)) (ci := 3) (v := .int v_trapped) (C := RX3) (T := TX3) (N := 5) hx hb hts inU3 hown hK hP 0 rfl rfl 2 (by decide) (hts _ tw_13) (fun _ h9 => h9) rfl (dt uX3_isTrap 1 rfl) ?_
  refine lv_iload_n hx hb (dt uX3_isTrap 2 rfl) rfl (lv_at hl 1 rfl) ?_
  refine lv_ishr hx hb (dt uX3_isTrap 3 rfl) ?_
  refine lv_iconst (v := (1 : Int32)) hx hb (dt uX3_isTrap 4 rfl) (by decide) ?_
  refine lv_iand hx hb (dt uX3_isTrap 5 rfl) ?_
  refine lv_if_eq (tgt := 15) hx hb (dt uX3_isTrap 6 rfl) (by decide) (fun c_1 => ?_) (fun c_1 => ?_)
  · have hf := vif_t c_1 hf
    refine lv_iconst (v := (0 : Int32)) hx hb (dt uX3_isTrap 9 rfl) (by decide) ?_
    subst hf
    rw [hQ]
    exact vret_z C hP hD hS (dt uX3_isTrap 10 rfl) (Or.inl rfl)
  · have hf := vif_f c_1 hf
    refine lv_iconst (v := (1 : Int32)) hx hb (dt uX3_isTrap 7 rfl) (by decide) ?_
    refine lv_goto (tgt := 16) hx hb (dt uX3_isTrap 8 rfl) (by decide) ?_
    subst hf
    rw [hQ]
    exact vret_z C hP hD hS (dt uX3_isTrap 10 rfl) (Or.inr rfl)
abbrev rX4_append : Room := { frames := 0, cells := 0, slots := 0, locals := 0 }
abbrev wX4_append : List Cond := Cond.code yX4_append cX4_append 4 (some .boolean) :: VT
set_option maxHeartbeats 4000000 in
set_option maxRecDepth 100000 in
theorem kX4_append (ad0 : Nat) (ad_days : Nat) (ad_books : Nat) (ad_there : Nat) (v_size : Int32) (a_days : Nat → Int32) (a_books : Nat → Int32) (a_there : Nat → Int32) (p1 : Int32) (p2 : Int32) (p3 : Int32) (q0 : (Int32 × (Nat → Int32) × (Nat → Int32) × (Nat → Int32) × Int32)) (hf : fX4_append a_days a_books a_there v_size p1 p2 p3 = some q0) : Kz l yX4_append wX4_append rX4_append (dC, dI) (vTy cI cJ cB cZ) [.ref ad0, .int p1, .int p2, .int p3] [(ad0, oX4 ad_days ad_books ad_there v_size), (ad_days, .inl (cI, 6, .inl a_days)), (ad_books, .inl (cI, 6, .inl a_books)), (ad_there, .inl (cZ, 6, .inl a_there))] [(ad0, oX4 ad_days ad_books ad_there q0.2.2.2.2), (ad_days, .inl (cI, 6, .inl q0.2.1)), (ad_books, .inl (cI, 6, .inl q0.2.2.1)), (ad_there, .inl (cZ, 6, .inl q0.2.2.2.1))] q0.1 := by
  refine Kz.mk (cc := cX4_append) (maxL := 4) (ret := some .boolean) (by decide) (Nat.le_of_ble_eq_true rfl) ?_
  intro p e s m args below meth c A Q H locs C hQ hP hD hS ls hl
  obtain ⟨hx, hb, -, hml, hts, hown, -, hK, hN, hA⟩ := id C
  have hown : s.vm.findClass RX4 = some m.cls := hown
  have hl : lv_has ls 4 [(0, .ref ad0), (1, .int p1), (2, .int p2), (3, .int p3)] := hl
  unfold fX4_append at hf
  refine lv_aload_n hx hb (dt uX4_append 0 rfl) rfl (lv_at hl 0 rfl) ?_
  refine va_get (D := (dC, dI)) (ci := 4) (v := .int v_size) (C := RX4) (T := TX4) (N := 4) hx hb hts inU4 hown hK hP 0 rfl rfl 3 (by decide) (hts _ tw_33) (fun _ h9 => h9) rfl (dt uX4_append 1 rfl) ?_
  refine lv_bipush (v := (6 : Int32)) hx hb (dt uX4_append 2 rfl) (by decide) ?_
  refine lv_icmp_lt (tgt := 11) hx hb (dt uX4_append 3 rfl) (by decide) (fun c_1 => ?_) (fun c_1 => ?_)
  · have hf := vif_t c_1 hf
    refine lv_aload_n hx hb (dt uX4_append 6 rfl) rfl (lv_at hl 0 rfl) ?_
    refine va_get (D := (dC, dI)) (ci := 4) (v := .ref ad_days) (C := RX4) (T := TX4) (N := 4) hx hb hts inU4 hown hK hP 0 rfl rfl 0 (by decide) (hts _ tw_34) (fun _ h9 => h9) rfl (dt uX4_append 7 rfl) ?_
    refine lv_aload_n hx hb (dt uX4_append 8 rfl) rfl (lv_at hl 0 rfl) ?_
    refine va_get (D := (dC, dI)) (ci := 4) (v := .int v_size) (C := RX4) (T := TX4) (N := 4) hx hb hts inU4 hown hK hP 0 rfl rfl 3 (by decide) (hts _ tw_33) (fun _ h9 => h9) rfl (dt uX4_append 9 rfl) ?_
    refine lv_iload_n hx hb (dt uX4_append 10 rfl) rfl (lv_at hl 1 rfl) ?_
    obtain ⟨hi_2, hf⟩ := vg_some hf
    refine va_iast hx hb hK hP hD hS 1 0 rfl rfl hi_2 (dt uX4_append 11 rfl) (fun H locs hP hD hS => ?_)
    have hP : va_P (dC, dI) vwCl [(ad0, oX4 ad_days ad_books ad_there v_size), (ad_days, .inl (cI, 6, .inl (upd a_days v_size.toNatClampNeg p1))), (ad_books, .inl (cI, 6, .inl a_books)), (ad_there, .inl (cZ, 6, .inl a_there))] H := hP
    have hD : va_D A [(ad0, oX4 ad_days ad_books ad_there v_size), (ad_days, .inl (cI, 6, .inl (upd a_days v_size.toNatClampNeg p1))), (ad_books, .inl (cI, 6, .inl a_books)), (ad_there, .inl (cZ, 6, .inl a_there))] := hD
    refine lv_aload_n hx hb (dt uX4_append 12 rfl) rfl (lv_at hl 0 rfl) ?_
    refine va_get (D := (dC, dI)) (ci := 4) (v := .ref ad_books) (C := RX4) (T := TX4) (N := 4) hx hb hts inU4 hown hK hP 0 rfl rfl 1 (by decide) (hts _ tw_35) (fun _ h9 => h9) rfl (dt uX4_append 13 rfl) ?_
    refine lv_aload_n hx hb (dt uX4_append 14 rfl) rfl (lv_at hl 0 rfl) ?_
    refine va_get (D := (dC, dI)) (ci := 4) (v := .int v_size) (C := RX4) (T := TX4) (N := 4) hx hb hts inU4 hown hK hP 0 rfl rfl 3 (by decide) (hts _ tw_33) (fun _ h9 => h9) rfl (dt uX4_append 15 rfl) ?_
    refine lv_iload_n hx hb (dt uX4_append 16 rfl) rfl (lv_at hl 2 rfl) ?_
    obtain ⟨hi_3, hf⟩ := vg_some hf
    refine va_iast hx hb hK hP hD hS 2 0 rfl rfl hi_3 (dt uX4_append 17 rfl) (fun H locs hP hD hS => ?_)
    have hP : va_P (dC, dI) vwCl [(ad0, oX4 ad_days ad_books ad_there v_size), (ad_days, .inl (cI, 6, .inl (upd a_days v_size.toNatClampNeg p1))), (ad_books, .inl (cI, 6, .inl (upd a_books v_size.toNatClampNeg p2))), (ad_there, .inl (cZ, 6, .inl a_there))] H := hP
    have hD : va_D A [(ad0, oX4 ad_days ad_books ad_there v_size), (ad_days, .inl (cI, 6, .inl (upd a_days v_size.toNatClampNeg p1))), (ad_books, .inl (cI, 6, .inl (upd a_books v_size.toNatClampNeg p2))), (ad_there, .inl (cZ, 6, .inl a_there))] := hD
    refine lv_aload_n hx hb (dt uX4_append 18 rfl) rfl (lv_at hl 0 rfl) ?_
    refine va_get (D := (dC, dI)) (ci := 4) (v := .ref ad_there) (C := RX4) (T := TX4) (N := 4) hx hb hts inU4 hown hK hP 0 rfl rfl 2 (by decide) (hts _ tw_36) (fun _ h9 => h9) rfl (dt uX4_append 19 rfl) ?_
    refine lv_aload_n hx hb (dt uX4_append 20 rfl) rfl (lv_at hl 0 rfl) ?_
    refine va_get (D := (dC, dI)) (ci := 4) (v := .int v_size) (C := RX4) (T := TX4) (N := 4) hx hb hts inU4 hown hK hP 0 rfl rfl 3 (by decide) (hts _ tw_33) (fun _ h9 => h9) rfl (dt uX4_append 21 rfl) ?_
    refine lv_iload_n hx hb (dt uX4_append 22 rfl) rfl (lv_at hl 3 rfl) ?_
    obtain ⟨hi_4, hf⟩ := vg_some hf
    refine va_zast hx hb hK hP hD hS 3 3 rfl rfl hi_4 (dt uX4_append 23 rfl) (fun H locs hP hD hS => ?_)
    have hP : va_P (dC, dI) vwCl [(ad0, oX4 ad_days ad_books ad_there v_size), (ad_days, .inl (cI, 6, .inl (upd a_days v_size.toNatClampNeg p1))), (ad_books, .inl (cI, 6, .inl (upd a_books v_size.toNatClampNeg p2))), (ad_there, .inl (cZ, 6, .inl (upd a_there v_size.toNatClampNeg (vp_nar .boolean p3))))] H := hP
    have hD : va_D A [(ad0, oX4 ad_days ad_books ad_there v_size), (ad_days, .inl (cI, 6, .inl (upd a_days v_size.toNatClampNeg p1))), (ad_books, .inl (cI, 6, .inl (upd a_books v_size.toNatClampNeg p2))), (ad_there, .inl (cZ, 6, .inl (upd a_there v_size.toNatClampNeg (vp_nar .boolean p3))))] := hD
    refine lv_aload_n hx hb (dt uX4_append 24 rfl) rfl (lv_at hl 0 rfl) ?_
    refine lv_dup hx hb (dt uX4_append 25 rfl) rfl ?_
    refine va_get (D := (dC, dI)) (ci := 4) (v := .int v_size) (C := RX4) (T := TX4) (N := 4) hx hb hts inU4 hown hK hP 0 rfl rfl 3 (by decide) (hts _ tw_33) (fun _ h9 => h9) rfl (dt uX4_append 26 rfl) ?_
    refine lv_iconst (v := (1 : Int32)) hx hb (dt uX4_append 27 rfl) (by decide) ?_
    refine lv_iadd hx hb (dt uX4_append 28 rfl) ?_
    refine va_put (D := (dC, dI)) (ci := 4) (v := .int (v_size + (1 : Int32))) (ty := .int) (C := RX4) (T := TX4) (N := 4) hx hb hts inU4 tyX4 tyX4_ok nmX4 hown hK hP hD hS 0 rfl rfl 3 (by decide) (hts _ tw_33) (fun _ h9 => h9) rfl (by decide +kernel) rfl rfl (Nat.le_of_ble_eq_true rfl) (dt uX4_append 29 rfl) (fun H locs hP hD hS => ?_)
    have hP : va_P (dC, dI) vwCl [(ad0, oX4 ad_days ad_books ad_there (v_size + (1 : Int32))), (ad_days, .inl (cI, 6, .inl (upd a_days v_size.toNatClampNeg p1))), (ad_books, .inl (cI, 6, .inl (upd a_books v_size.toNatClampNeg p2))), (ad_there, .inl (cZ, 6, .inl (upd a_there v_size.toNatClampNeg (vp_nar .boolean p3))))] H := hP
    have hD : va_D A [(ad0, oX4 ad_days ad_books ad_there (v_size + (1 : Int32))), (ad_days, .inl (cI, 6, .inl (upd a_days v_size.toNatClampNeg p1))), (ad_books, .inl (cI, 6, .inl (upd a_books v_size.toNatClampNeg p2))), (ad_there, .inl (cZ, 6, .inl (upd a_there v_size.toNatClampNeg (vp_nar .boolean p3))))] := hD
    refine lv_iconst (v := (1 : Int32)) hx hb (dt uX4_append 30 rfl) (by decide) ?_
    have hf := Option.some.inj hf
    subst hf
    rw [hQ]
    exact vret_z C hP hD hS (dt uX4_append 31 rfl) (Or.inr rfl)
  · have hf := vif_f c_1 hf
    refine lv_iconst (v := (0 : Int32)) hx hb (dt uX4_append 4 rfl) (by decide) ?_
    have hf := Option.some.inj hf
    subst hf
    rw [hQ]
    exact vret_z C hP hD hS (dt uX4_append 5 rfl) (Or.inl rfl)
abbrev rX5_append : Room := { frames := 0, cells := 0, slots := 0, locals := 0 }
abbrev wX5_append : List Cond := Cond.code yX5_append cX5_append 2 (some .boolean) :: VT
set_option maxHeartbeats 4000000 in
set_option maxRecDepth 100000 in
theorem kX5_append (ad0 : Nat) (ad_bytes : Nat) (v_length : Int32) (v_place : Int32) (v_token : Int32) (v_begin : Int32) (v_value : Int32) (a_bytes : Nat → Int32) (p1 : Int32) (q0 : (Int32 × (Nat → Int32) × Int32)) (hf : fX5_append a_bytes v_length p1 = some q0) : Kz l yX5_append wX5_append rX5_append (dC, dI) (vTy cI cJ cB cZ) [.ref ad0, .int p1] [(ad0, oX5 ad_bytes v_length v_place v_token v_begin v_value), (ad_bytes, .inl (cI, 150, .inl a_bytes))] [(ad0, oX5 ad_bytes q0.2.2 v_place v_token v_begin v_value), (ad_bytes, .inl (cI, 150, .inl q0.2.1))] q0.1 := by
  refine Kz.mk (cc := cX5_append) (maxL := 2) (ret := some .boolean) (by decide) (Nat.le_of_ble_eq_true rfl) ?_
  intro p e s m args below meth c A Q H locs C hQ hP hD hS ls hl
  obtain ⟨hx, hb, -, hml, hts, hown, -, hK, hN, hA⟩ := id C
  have hown : s.vm.findClass RX5 = some m.cls := hown
  have hl : lv_has ls 2 [(0, .ref ad0), (1, .int p1)] := hl
  unfold fX5_append at hf
  refine lv_aload_n hx hb (dt uX5_append 0 rfl) rfl (lv_at hl 0 rfl) ?_
  refine va_get (D := (dC, dI)) (ci := 5) (v := .int v_length) (C := RX5) (T := TX5) (N := 6) hx hb hts inU5 hown hK hP 0 rfl rfl 1 (by decide) (hts _ tw_37) (fun _ h9 => h9) rfl (dt uX5_append 1 rfl) ?_
  refine lv_sipush (v := (150 : Int32)) hx hb (dt uX5_append 2 rfl) (by decide) ?_
  refine lv_icmp_lt (tgt := 12) hx hb (dt uX5_append 3 rfl) (by decide) (fun c_1 => ?_) (fun c_1 => ?_)
  · have hf := vif_t c_1 hf
    refine lv_aload_n hx hb (dt uX5_append 6 rfl) rfl (lv_at hl 0 rfl) ?_
    refine va_get (D := (dC, dI)) (ci := 5) (v := .ref ad_bytes) (C := RX5) (T := TX5) (N := 6) hx hb hts inU5 hown hK hP 0 rfl rfl 0 (by decide) (hts _ tw_38) (fun _ h9 => h9) rfl (dt uX5_append 7 rfl) ?_
    refine lv_aload_n hx hb (dt uX5_append 8 rfl) rfl (lv_at hl 0 rfl) ?_
    refine va_get (D := (dC, dI)) (ci := 5) (v := .int v_length) (C := RX5) (T := TX5) (N := 6) hx hb hts inU5 hown hK hP 0 rfl rfl 1 (by decide) (hts _ tw_37) (fun _ h9 => h9) rfl (dt uX5_append 9 rfl) ?_
    refine lv_iload_n hx hb (dt uX5_append 10 rfl) rfl (lv_at hl 1 rfl) ?_
    obtain ⟨hi_2, hf⟩ := vg_some hf
    refine va_iast hx hb hK hP hD hS 1 0 rfl rfl hi_2 (dt uX5_append 11 rfl) (fun H locs hP hD hS => ?_)
    have hP : va_P (dC, dI) vwCl [(ad0, oX5 ad_bytes v_length v_place v_token v_begin v_value), (ad_bytes, .inl (cI, 150, .inl (upd a_bytes v_length.toNatClampNeg p1)))] H := hP
    have hD : va_D A [(ad0, oX5 ad_bytes v_length v_place v_token v_begin v_value), (ad_bytes, .inl (cI, 150, .inl (upd a_bytes v_length.toNatClampNeg p1)))] := hD
    refine lv_aload_n hx hb (dt uX5_append 12 rfl) rfl (lv_at hl 0 rfl) ?_
    refine lv_dup hx hb (dt uX5_append 13 rfl) rfl ?_
    refine va_get (D := (dC, dI)) (ci := 5) (v := .int v_length) (C := RX5) (T := TX5) (N := 6) hx hb hts inU5 hown hK hP 0 rfl rfl 1 (by decide) (hts _ tw_37) (fun _ h9 => h9) rfl (dt uX5_append 14 rfl) ?_
    refine lv_iconst (v := (1 : Int32)) hx hb (dt uX5_append 15 rfl) (by decide) ?_
    refine lv_iadd hx hb (dt uX5_append 16 rfl) ?_
    refine va_put (D := (dC, dI)) (ci := 5) (v := .int (v_length + (1 : Int32))) (ty := .int) (C := RX5) (T := TX5) (N := 6) hx hb hts inU5 tyX5 tyX5_ok nmX5 hown hK hP hD hS 0 rfl rfl 1 (by decide) (hts _ tw_37) (fun _ h9 => h9) rfl (by decide +kernel) rfl rfl (Nat.le_of_ble_eq_true rfl) (dt uX5_append 17 rfl) (fun H locs hP hD hS => ?_)
    have hP : va_P (dC, dI) vwCl [(ad0, oX5 ad_bytes (v_length + (1 : Int32)) v_place v_token v_begin v_value), (ad_bytes, .inl (cI, 150, .inl (upd a_bytes v_length.toNatClampNeg p1)))] H := hP
    have hD : va_D A [(ad0, oX5 ad_bytes (v_length + (1 : Int32)) v_place v_token v_begin v_value), (ad_bytes, .inl (cI, 150, .inl (upd a_bytes v_length.toNatClampNeg p1)))] := hD
    refine lv_iconst (v := (1 : Int32)) hx hb (dt uX5_append 18 rfl) (by decide) ?_
    have hf := Option.some.inj hf
    subst hf
    rw [hQ]
    exact vret_z C hP hD hS (dt uX5_append 19 rfl) (Or.inr rfl)
  · have hf := vif_f c_1 hf
    refine lv_iconst (v := (0 : Int32)) hx hb (dt uX5_append 4 rfl) (by decide) ?_
    have hf := Option.some.inj hf
    subst hf
    rw [hQ]
    exact vret_z C hP hD hS (dt uX5_append 5 rfl) (Or.inl rfl)
abbrev rX7_within : Room := { frames := 0, cells := 0, slots := 0, locals := 0 }
abbrev wX7_within : List Cond := Cond.code yX7_within cX7_within 3 (some .boolean) :: VT
set_option maxHeartbeats 4000000 in
set_option maxRecDepth 100000 in
theorem kX7_within (p1 : Int32) (p2 : Int32) (p3 : Int32) (q0 : Int32) (hf : fX7_within p1 p2 p3 = q0) : Kz l yX7_within wX7_within rX7_within (dC, dI) (vTy cI cJ cB cZ) [.int p1, .int p2, .int p3] [] [] q0 := by
  refine Kz.mk (cc := cX7_within) (maxL := 3) (ret := some .boolean) (by decide) (Nat.le_of_ble_eq_true rfl) ?_
  intro p e s m args below meth c A Q H locs C hQ hP hD hS ls hl
  obtain ⟨hx, hb, -, hml, hts, hown, -, hK, hN, hA⟩ := id C
  have hown : s.vm.findClass RX7 = some m.cls := hown
  have hl : lv_has ls 3 [(0, .int p1), (1, .int p2), (2, .int p3)] := hl
  unfold fX7_within at hf
  refine lv_iload_n hx hb (dt uX7_within 0 rfl) rfl (lv_at hl 0 rfl) ?_
  refine lv_iload_n hx hb (dt uX7_within 1 rfl) rfl (lv_at hl 1 rfl) ?_
  refine lv_icmp_lt (tgt := 14) hx hb (dt uX7_within 2 rfl) (by decide) (fun c_1 => ?_) (fun c_1 => ?_)
  · have hf := vif_t c_1 hf
    refine lv_iconst (v := (0 : Int32)) hx hb (dt uX7_within 8 rfl) (by decide) ?_
    subst hf
    rw [hQ]
    exact vret_z C hP hD hS (dt uX7_within 9 rfl) (Or.inl rfl)
  · have hf := vif_f c_1 hf
    refine lv_iload_n hx hb (dt uX7_within 3 rfl) rfl (lv_at hl 0 rfl) ?_
    refine lv_iload_n hx hb (dt uX7_within 4 rfl) rfl (lv_at hl 2 rfl) ?_
    refine lv_icmp_gt (tgt := 14) hx hb (dt uX7_within 5 rfl) (by decide) (fun c_2 => ?_) (fun c_2 => ?_)
    · have hf := vif_t c_2 hf
      refine lv_iconst (v := (0 : Int32)) hx hb (dt uX7_within 8 rfl) (by decide) ?_
      subst hf
      rw [hQ]
      exact vret_z C hP hD hS (dt uX7_within 9 rfl) (Or.inl rfl)
    · have hf := vif_f c_2 hf
      refine lv_iconst (v := (1 : Int32)) hx hb (dt uX7_within 6 rfl) (by decide) ?_
      refine lv_goto (tgt := 15) hx hb (dt uX7_within 7 rfl) (by decide) ?_
      subst hf
      rw [hQ]
      exact vret_z C hP hD hS (dt uX7_within 9 rfl) (Or.inr rfl)
abbrev rX5_stepOverAll : Room := { frames := 0, cells := 0, slots := 0, locals := 0 }
abbrev wX5_stepOverAll : List Cond := Cond.code yX5_stepOverAll cX5_stepOverAll 3 none :: VT
set_option maxHeartbeats 4000000 in
set_option maxRecDepth 100000 in
theorem kX5_stepOverAll (ad0 : Nat) (ad_bytes : Nat) (v_length : Int32) (v_place : Int32) (v_token : Int32) (v_begin : Int32) (v_value : Int32) (a_bytes : Nat → Int32) (p1 : Int32) (p2 : Int32) (N : Nat) (q0 : Int32) (hf : fX5_stepOverAll N a_bytes v_length v_place p1 p2 = some q0) : Kv l yX5_stepOverAll wX5_stepOverAll rX5_stepOverAll (dC, dI) (vTy cI cJ cB cZ) [.ref ad0, .int p1, .int p2] [(ad0, oX5 ad_bytes v_length v_place v_token v_begin v_value), (ad_bytes, .inl (cI, 150, .inl a_bytes))] [(ad0, oX5 ad_bytes v_length q0 v_token v_begin v_value), (ad_bytes, .inl (cI, 150, .inl a_bytes))] := by
  refine Kv.mk (cc := cX5_stepOverAll) (maxL := 3) (ret := none) (by decide) (Nat.le_of_ble_eq_true rfl) ?_
  intro p e s m args below meth c A Q H locs C hQ hP hD hS ls hl
  obtain ⟨hx, hb, -, hml, hts, hown, -, hK, hN, hA⟩ := id C
  have hown : s.vm.findClass RX5 = some m.cls := hown
  have hl : lv_has ls 3 [(0, .ref ad0), (1, .int p1), (2, .int p2)] := hl
  unfold fX5_stepOverAll at hf
  have hL0 : ∀ (n0 : Nat), ∀ (w_1 : Int32) (H : Heap) (locs : List Loc) (ls : Array Slot), fX5_stepOverAll_L0 a_bytes v_length p1 p2 n0 w_1 = some q0 → va_P (dC, dI) vwCl [(ad0, oX5 ad_bytes v_length w_1 v_token v_begin v_value), (ad_bytes, .inl (cI, 150, .inl a_bytes))] H → va_D A [(ad0, oX5 ad_bytes v_length w_1 v_token v_begin v_value), (ad_bytes, .inl (cI, 150, .inl a_bytes))] → va_S A s.heap H locs → lv_has ls 3 [(0, .ref ad0), (1, .int p1), (2, .int p2)] → W p l e rX5_stepOverAll s m args below meth c H locs 0 0 Q (F0 m 0 ls []) := by
    intro n0
    induction n0 with
    | zero => intro w_1 H locs ls hf hP hD hS hl; cases hf
    | succ n0 ih0 =>
      intro w_1 H locs ls hf hP hD hS hl
      rw [fX5_stepOverAll_L0] at hf
      refine lv_aload_n hx hb (dt uX5_stepOverAll 0 rfl) rfl (lv_at hl 0 rfl) ?_
      refine va_get (D := (dC, dI)) (ci := 5) (v := .int w_1) (C := RX5) (T := TX5) (N := 6) hx hb hts inU5 hown hK hP 0 rfl rfl 2 (by decide) (hts _ tw_39) (fun _ h9 => h9) rfl (dt uX5_stepOverAll 1 rfl) ?_
      refine lv_aload_n hx hb (dt uX5_stepOverAll 2 rfl) rfl (lv_at hl 0 rfl) ?_
      refine va_get (D := (dC, dI)) (ci := 5) (v := .int v_length) (C := RX5) (T := TX5) (N := 6) hx hb hts inU5 hown hK hP 0 rfl rfl 1 (by decide) (hts _ tw_37) (fun _ h9 => h9) rfl (dt uX5_stepOverAll 3 rfl) ?_
      refine lv_icmp_ge (tgt := 50) hx hb (dt uX5_stepOverAll 4 rfl) (by decide) (fun c_2 => ?_) (fun c_2 => ?_)
      · have hf := vif_t c_2 hf
        have hf := Option.some.inj hf
        subst hf
        rw [hQ]
        exact vret_v C hP hD hS (dt uX5_stepOverAll 26 rfl)
      · have hf := vif_f c_2 hf
        refine lv_aload_n hx hb (dt uX5_stepOverAll 5 rfl) rfl (lv_at hl 0 rfl) ?_
        refine va_get (D := (dC, dI)) (ci := 5) (v := .ref ad_bytes) (C := RX5) (T := TX5) (N := 6) hx hb hts inU5 hown hK hP 0 rfl rfl 0 (by decide) (hts _ tw_38) (fun _ h9 => h9) rfl (dt uX5_stepOverAll 6 rfl) ?_
        refine lv_aload_n hx hb (dt uX5_stepOverAll 7 rfl) rfl (lv_at hl 0 rfl) ?_
        refine va_get (D := (dC, dI)) (ci := 5) (v := .int w_1) (C := RX5) (T := TX5) (N := 6) hx hb hts inU5 hown hK hP 0 rfl rfl 2 (by decide) (hts _ tw_39) (fun _ h9 => h9) rfl (dt uX5_stepOverAll 8 rfl) ?_
        obtain ⟨hi_3, hf⟩ := vg_some hf
        refine va_iald hx hb hK hP 1 0 rfl rfl hi_3 (dt uX5_stepOverAll 9 rfl) ?_
        refine lv_iload_n hx hb (dt uX5_stepOverAll 10 rfl) rfl (lv_at hl 1 rfl) ?_
        refine lv_icmp_lt (tgt := 50) hx hb (dt uX5_stepOverAll 11 rfl) (by decide) (fun c_4 => ?_) (fun c_4 => ?_)
        · have hf := vif_t c_4 hf
          have hf := Option.some.inj hf
          subst hf
          rw [hQ]
          exact vret_v C hP hD hS (dt uX5_stepOverAll 26 rfl)
        · have hf := vif_f c_4 hf
          refine lv_aload_n hx hb (dt uX5_stepOverAll 12 rfl) rfl (lv_at hl 0 rfl) ?_
          refine va_get (D := (dC, dI)) (ci := 5) (v := .ref ad_bytes) (C := RX5) (T := TX5) (N := 6) hx hb hts inU5 hown hK hP 0 rfl rfl 0 (by decide) (hts _ tw_38) (fun _ h9 => h9) rfl (dt uX5_stepOverAll 13 rfl) ?_
          refine lv_aload_n hx hb (dt uX5_stepOverAll 14 rfl) rfl (lv_at hl 0 rfl) ?_
          refine va_get (D := (dC, dI)) (ci := 5) (v := .int w_1) (C := RX5) (T := TX5) (N := 6) hx hb hts inU5 hown hK hP 0 rfl rfl 2 (by decide) (hts _ tw_39) (fun _ h9 => h9) rfl (dt uX5_stepOverAll 15 rfl) ?_
          obtain ⟨hi_5, hf⟩ := vg_some hf
          refine va_iald hx hb hK hP 1 0 rfl rfl hi_5 (dt uX5_stepOverAll 16 rfl) ?_
          refine lv_iload_n hx hb (dt uX5_stepOverAll 17 rfl) rfl (lv_at hl 2 rfl) ?_
          refine lv_icmp_gt (tgt := 50) hx hb (dt uX5_stepOverAll 18 rfl) (by decide) (fun c_6 => ?_) (fun c_6 => ?_)
          · have hf := vif_t c_6 hf
            have hf := Option.some.inj hf
            subst hf
            rw [hQ]
            exact vret_v C hP hD hS (dt uX5_stepOverAll 26 rfl)
          · have hf := vif_f c_6 hf
            refine lv_aload_n hx hb (dt uX5_stepOverAll 19 rfl) rfl (lv_at hl 0 rfl) ?_
            refine lv_dup hx hb (dt uX5_stepOverAll 20 rfl) rfl ?_
            refine va_get (D := (dC, dI)) (ci := 5) (v := .int w_1) (C := RX5) (T := TX5) (N := 6) hx hb hts inU5 hown hK hP 0 rfl rfl 2 (by decide) (hts _ tw_39) (fun _ h9 => h9) rfl (dt uX5_stepOverAll 21 rfl) ?_
            refine lv_iconst (v := (1 : Int32)) hx hb (dt uX5_stepOverAll 22 rfl) (by decide) ?_
            refine lv_iadd hx hb (dt uX5_stepOverAll 23 rfl) ?_
            refine va_put (D := (dC, dI)) (ci := 5) (v := .int (w_1 + (1 : Int32))) (ty := .int) (C := RX5) (T := TX5) (N := 6) hx hb hts inU5 tyX5 tyX5_ok nmX5 hown hK hP hD hS 0 rfl rfl 2 (by decide) (hts _ tw_39) (fun _ h9 => h9) rfl (by decide +kernel) rfl rfl (Nat.le_of_ble_eq_true rfl) (dt uX5_stepOverAll 24 rfl) (fun H locs hP hD hS => ?_)
            have hP : va_P (dC, dI) vwCl [(ad0, oX5 ad_bytes v_length (w_1 + (1 : Int32)) v_token v_begin v_value), (ad_bytes, .inl (cI, 150, .inl a_bytes))] H := hP
            have hD : va_D A [(ad0, oX5 ad_bytes v_length (w_1 + (1 : Int32)) v_token v_begin v_value), (ad_bytes, .inl (cI, 150, .inl a_bytes))] := hD
            refine lv_goto (tgt := 0) hx hb (dt uX5_stepOverAll 25 rfl) (by decide) ?_
            exact ih0 (w_1 + (1 : Int32)) _ _ _ hf hP hD hS (lv_sub hl [0, 1, 2] rfl)
  exact hL0 N v_place _ _ _ hf hP hD hS (lv_sub hl [0, 1, 2] rfl)
abbrev rX5_isNumber : Room := { frames := 0, cells := 0, slots := 0, locals := 0 }
abbrev wX5_isNumber : List Cond := Cond.code yX5_isNumber cX5_isNumber 3 (some .boolean) :: VT
set_option maxHeartbeats 4000000 in
set_option maxRecDepth 100000 in
theorem kX5_isNumber (ad0 : Nat) (ad_bytes : Nat) (v_length : Int32) (v_place : Int32) (v_token : Int32) (v_begin : Int32) (v_value : Int32) (p1 : Int32) (q0 : Int32) (hf : fX5_isNumber v_place v_begin p1 = q0) : Kz l yX5_isNumber wX5_isNumber rX5_isNumber (dC, dI) (vTy cI cJ cB cZ) [.ref ad0, .int p1] [(ad0, oX5 ad_bytes v_length v_place v_token v_begin v_value)] [(ad0, oX5 ad_bytes v_length v_place v_token v_begin v_value)] q0 := by
  refine Kz.mk (cc := cX5_isNumber) (maxL := 3) (ret := some .boolean) (by decide) (Nat.le_of_ble_eq_true rfl) ?_
  intro p e s m args below meth c A Q H locs C hQ hP hD hS ls hl
  obtain ⟨hx, hb, -, hml, hts, hown, -, hK, hN, hA⟩ := id C
  have hown : s.vm.findClass RX5 = some m.cls := hown
  have hl : lv_has ls 3 [(0, .ref ad0), (1, .int p1)] := hl
  unfold fX5_isNumber at hf
  refine lv_aload_n hx hb (dt uX5_isNumber 0 rfl) rfl (lv_at hl 0 rfl) ?_
  refine va_get (D := (dC, dI)) (ci := 5) (v := .int v_place) (C := RX5) (T := TX5) (N := 6) hx hb hts inU5 hown hK hP 0 rfl rfl 2 (by decide) (hts _ tw_39) (fun _ h9 => h9) rfl (dt uX5_isNumber 1 rfl) ?_
  refine lv_aload_n hx hb (dt uX5_isNumber 2 rfl) rfl (lv_at hl 0 rfl) ?_
  refine va_get (D := (dC, dI)) (ci := 5) (v := .int v_begin) (C := RX5) (T := TX5) (N := 6) hx hb hts inU5 hown hK hP 0 rfl rfl 4 (by decide) (hts _ tw_40) (fun _ h9 => h9) rfl (dt uX5_isNumber 3 rfl) ?_
  refine lv_isub hx hb (dt uX5_isNumber 4 rfl) ?_
  refine lv_istore_n (lv' := [(2, .int (v_place - v_begin)), (0, .ref ad0), (1, .int p1)]) hx hb (dt uX5_isNumber 5 rfl) rfl hl (by decide) rfl (fun ls hl => ?_)
  refine lv_iload_n hx hb (dt uX5_isNumber 6 rfl) rfl (lv_at hl 0 rfl) ?_
  refine lv_iconst (v := (1 : Int32)) hx hb (dt uX5_isNumber 7 rfl) (by decide) ?_
  refine lv_icmp_eq (tgt := 26) hx hb (dt uX5_isNumber 8 rfl) (by decide) (fun c_1 => ?_) (fun c_1 => ?_)
  · have hf := vif_t c_1 hf
    refine lv_iconst (v := (1 : Int32)) hx hb (dt uX5_isNumber 15 rfl) (by decide) ?_
    refine lv_goto (tgt := 31) hx hb (dt uX5_isNumber 16 rfl) (by decide) ?_
    subst hf
    rw [hQ]
    exact vret_z C hP hD hS (dt uX5_isNumber 18 rfl) (Or.inr rfl)
  · have hf := vif_f c_1 hf
    refine lv_iload_n hx hb (dt uX5_isNumber 9 rfl) rfl (lv_at hl 0 rfl) ?_
    refine lv_iconst (v := (3 : Int32)) hx hb (dt uX5_isNumber 10 rfl) (by decide) ?_
    refine lv_icmp_gt (tgt := 30) hx hb (dt uX5_isNumber 11 rfl) (by decide) (fun c_2 => ?_) (fun c_2 => ?_)
    · have hf := vif_t c_2 hf
      refine lv_iconst (v := (0 : Int32)) hx hb (dt uX5_isNumber 17 rfl) (by decide) ?_
      subst hf
      rw [hQ]
      exact vret_z C hP hD hS (dt uX5_isNumber 18 rfl) (Or.inl rfl)
    · have hf := vif_f c_2 hf
      refine lv_iload_n hx hb (dt uX5_isNumber 12 rfl) rfl (lv_at hl 2 rfl) ?_
      refine lv_bipush (v := (48 : Int32)) hx hb (dt uX5_isNumber 13 rfl) (by decide) ?_
      refine lv_icmp_eq (tgt := 30) hx hb (dt uX5_isNumber 14 rfl) (by decide) (fun c_3 => ?_) (fun c_3 => ?_)
      · have hf := vif_t c_3 hf
        refine lv_iconst (v := (0 : Int32)) hx hb (dt uX5_isNumber 17 rfl) (by decide) ?_
        subst hf
        rw [hQ]
        exact vret_z C hP hD hS (dt uX5_isNumber 18 rfl) (Or.inl rfl)
      · have hf := vif_f c_3 hf
        refine lv_iconst (v := (1 : Int32)) hx hb (dt uX5_isNumber 15 rfl) (by decide) ?_
        refine lv_goto (tgt := 31) hx hb (dt uX5_isNumber 16 rfl) (by decide) ?_
        subst hf
        rw [hQ]
        exact vret_z C hP hD hS (dt uX5_isNumber 18 rfl) (Or.inr rfl)
abbrev rX5_valueOfFigures : Room := { frames := 0, cells := 0, slots := 0, locals := 0 }
abbrev wX5_valueOfFigures : List Cond := Cond.code yX5_valueOfFigures cX5_valueOfFigures 3 (some .int) :: VT
set_option maxHeartbeats 4000000 in
set_option maxRecDepth 100000 in
theorem kX5_valueOfFigures (ad0 : Nat) (ad_bytes : Nat) (v_length : Int32) (v_place : Int32) (v_token : Int32) (v_begin : Int32) (v_value : Int32) (a_bytes : Nat → Int32) (N : Nat) (q0 : Int32) (hf : fX5_valueOfFigures N a_bytes v_place v_begin = some q0) : Ki l yX5_valueOfFigures wX5_valueOfFigures rX5_valueOfFigures (dC, dI) (vTy cI cJ cB cZ) [.ref ad0] [(ad0, oX5 ad_bytes v_length v_place v_token v_begin v_value), (ad_bytes, .inl (cI, 150, .inl a_bytes))] [(ad0, oX5 ad_bytes v_length v_place v_token v_begin v_value), (ad_bytes, .inl (cI, 150, .inl a_bytes))] q0 := by
  refine Ki.mk (cc := cX5_valueOfFigures) (maxL := 3) (ret := some .int) (by decide) (Nat.le_of_ble_eq_true rfl) ?_
  intro p e s m args below meth c A Q H locs C hQ hP hD hS ls hl
  obtain ⟨hx, hb, -, hml, hts, hown, -, hK, hN, hA⟩ := id C
  have hown : s.vm.findClass RX5 = some m.cls := hown
  have hl : lv_has ls 3 [(0, .ref ad0)] := hl
  unfold fX5_valueOfFigures at hf
  refine lv_iconst (v := (0 : Int32)) hx hb (dt uX5_valueOfFigures 0 rfl) (by decide) ?_
  refine lv_istore_n (lv' := [(1, .int (0 : Int32)), (0, .ref ad0)]) hx hb (dt uX5_valueOfFigures 1 rfl) rfl hl (by decide) rfl (fun ls hl => ?_)
  refine lv_aload_n hx hb (dt uX5_valueOfFigures 2 rfl) rfl (lv_at hl 1 rfl) ?_
  refine va_get (D := (dC, dI)) (ci := 5) (v := .int v_begin) (C := RX5) (T := TX5) (N := 6) hx hb hts inU5 hown hK hP 0 rfl rfl 4 (by decide) (hts _ tw_40) (fun _ h9 => h9) rfl (dt uX5_valueOfFigures 3 rfl) ?_
  refine lv_istore_n (lv' := [(2, .int v_begin), (1, .int (0 : Int32)), (0, .ref ad0)]) hx hb (dt uX5_valueOfFigures 4 rfl) rfl hl (by decide) rfl (fun ls hl => ?_)
  have hL7 : ∀ (n7 : Nat), ∀ (x1_1 : Int32) (x2_2 : Int32) (H : Heap) (locs : List Loc) (ls : Array Slot), fX5_valueOfFigures_L7 a_bytes v_place n7 x1_1 x2_2 = some q0 → va_P (dC, dI) vwCl [(ad0, oX5 ad_bytes v_length v_place v_token v_begin v_value), (ad_bytes, .inl (cI, 150, .inl a_bytes))] H → va_D A [(ad0, oX5 ad_bytes v_length v_place v_token v_begin v_value), (ad_bytes, .inl (cI, 150, .inl a_bytes))] → va_S A s.heap H locs → lv_has ls 3 [(0, .ref ad0), (1, .int x1_1), (2, .int x2_2)] → W p l e rX5_valueOfFigures s m args below meth c H locs 0 0 Q (F0 m 7 ls []) := by
    intro n7
    induction n7 with
    | zero => intro x1_1 x2_2 H locs ls hf hP hD hS hl; cases hf
    | succ n7 ih7 =>
      intro x1_1 x2_2 H locs ls hf hP hD hS hl
      rw [fX5_valueOfFigures_L7] at hf
      refine lv_iload_n hx hb (dt uX5_valueOfFigures 5 rfl) rfl (lv_at hl 2 rfl) ?_
      refine lv_aload_n hx hb (dt uX5_valueOfFigures 6 rfl) rfl (lv_at hl 0 rfl) ?_
      refine va_get (D := (dC, dI)) (ci := 5) (v := .int v_place) (C := RX5) (T := TX5) (N := 6) hx hb hts inU5 hown hK hP 0 rfl rfl 2 (by decide) (hts _ tw_39) (fun _ h9 => h9) rfl (dt uX5_valueOfFigures 7 rfl) ?_
      refine lv_icmp_ge (tgt := 36) hx hb (dt uX5_valueOfFigures 8 rfl) (by decide) (fun c_3 => ?_) (fun c_3 => ?_)
      · have hf := vif_t c_3 hf
        refine lv_iload_n hx hb (dt uX5_valueOfFigures 22 rfl) rfl (lv_at hl 1 rfl) ?_
        have hf := Option.some.inj hf
        subst hf
        rw [hQ]
        exact vret_i C hP hD hS (dt uX5_valueOfFigures 23 rfl)
      · have hf := vif_f c_3 hf
        refine lv_bipush (v := (10 : Int32)) hx hb (dt uX5_valueOfFigures 9 rfl) (by decide) ?_
        refine lv_iload_n hx hb (dt uX5_valueOfFigures 10 rfl) rfl (lv_at hl 1 rfl) ?_
        refine lv_imul hx hb (dt uX5_valueOfFigures 11 rfl) ?_
        refine lv_aload_n hx hb (dt uX5_valueOfFigures 12 rfl) rfl (lv_at hl 0 rfl) ?_
        refine va_get (D := (dC, dI)) (ci := 5) (v := .ref ad_bytes) (C := RX5) (T := TX5) (N := 6) hx hb hts inU5 hown hK hP 0 rfl rfl 0 (by decide) (hts _ tw_38) (fun _ h9 => h9) rfl (dt uX5_valueOfFigures 13 rfl) ?_
        refine lv_iload_n hx hb (dt uX5_valueOfFigures 14 rfl) rfl (lv_at hl 2 rfl) ?_
        obtain ⟨hi_4, hf⟩ := vg_some hf
        refine va_iald hx hb hK hP 1 0 rfl rfl hi_4 (dt uX5_valueOfFigures 15 rfl) ?_
        refine lv_iadd hx hb (dt uX5_valueOfFigures 16 rfl) ?_
        refine lv_bipush (v := (48 : Int32)) hx hb (dt uX5_valueOfFigures 17 rfl) (by decide) ?_
        refine lv_isub hx hb (dt uX5_valueOfFigures 18 rfl) ?_
        refine lv_istore_n (lv' := [(1, .int ((((10 : Int32) * x1_1) + (a_bytes x2_2.toNatClampNeg)) - (48 : Int32))), (0, .ref ad0), (2, .int x2_2)]) hx hb (dt uX5_valueOfFigures 19 rfl) rfl hl (by decide) rfl (fun ls hl => ?_)
        refine lv_iinc (v := x2_2 + 1) (lv' := [(2, .int (x2_2 + 1)), (1, .int ((((10 : Int32) * x1_1) + (a_bytes x2_2.toNatClampNeg)) - (48 : Int32))), (0, .ref ad0)]) hx hb (dt uX5_valueOfFigures 20 rfl) hl (k := 2) rfl rfl (by decide) rfl (fun ls hl => ?_)
        refine lv_goto (tgt := 7) hx hb (dt uX5_valueOfFigures 21 rfl) (by decide) ?_
        exact ih7 ((((10 : Int32) * x1_1) + (a_bytes x2_2.toNatClampNeg)) - (48 : Int32)) (x2_2 + 1) _ _ _ hf hP hD hS (lv_sub hl [2, 1, 0] rfl)
  exact hL7 N (0 : Int32) v_begin _ _ _ hf hP hD hS (lv_sub hl [2, 1, 0] rfl)
abbrev rX5_step : Room := { frames := 1, cells := 0, slots := 0, locals := 22 }
abbrev wX5_step : List Cond := Cond.code yX5_step cX5_step 2 none :: VT
set_option maxHeartbeats 4000000 in
set_option maxRecDepth 100000 in
theorem kX5_step (ad0 : Nat) (ad_bytes : Nat) (v_length : Int32) (v_place : Int32) (v_token : Int32) (v_begin : Int32) (v_value : Int32) (a_bytes : Nat → Int32) (N : Nat) (q0 : (Int32 × Int32 × Int32 × Int32)) (hf : fX5_step N a_bytes v_length v_place v_token v_begin v_value = some q0) : Kv l yX5_step wX5_step rX5_step (dC, dI) (vTy cI cJ cB cZ) [.ref ad0] [(ad0, oX5 ad_bytes v_length v_place v_token v_begin v_value), (ad_bytes, .inl (cI, 150, .inl a_bytes))] [(ad0, oX5 ad_bytes v_length q0.1 q0.2.1 q0.2.2.1 q0.2.2.2), (ad_bytes, .inl (cI, 150, .inl a_bytes))] := by
  refine Kv.mk (cc := cX5_step) (maxL := 2) (ret := none) (by decide) (Nat.le_of_ble_eq_true rfl) ?_
  intro p e s m args below meth c A Q H locs C hQ hP hD hS ls hl
  obtain ⟨hx, hb, -, hml, hts, hown, -, hK, hN, hA⟩ := id C
  have hown : s.vm.findClass RX5 = some m.cls := hown
  have hl : lv_has ls 2 [(0, .ref ad0)] := hl
  unfold fX5_step at hf
  have hL0 : ∀ (n0 : Nat), ∀ (w_1 : Int32) (H : Heap) (locs : List Loc) (ls : Array Slot), fX5_step_L0 N a_bytes v_length v_value n0 w_1 = some q0 → va_P (dC, dI) vwCl [(ad0, oX5 ad_bytes v_length w_1 v_token v_begin v_value), (ad_bytes, .inl (cI, 150, .inl a_bytes))] H → va_D A [(ad0, oX5 ad_bytes v_length w_1 v_token v_begin v_value), (ad_bytes, .inl (cI, 150, .inl a_bytes))] → va_S A s.heap H locs → lv_has ls 2 [(0, .ref ad0)] → W p l e rX5_step s m args below meth c H locs 0 0 Q (F0 m 0 ls []) := by
    intro n0
    induction n0 with
    | zero => intro w_1 H locs ls hf hP hD hS hl; cases hf
    | succ n0 ih0 =>
      intro w_1 H locs ls hf hP hD hS hl
      rw [fX5_step_L0] at hf
      refine lv_aload_n hx hb (dt uX5_step_0 0 rfl) rfl (lv_at hl 0 rfl) ?_
      refine va_get (D := (dC, dI)) (ci := 5) (v := .int w_1) (C := RX5) (T := TX5) (N := 6) hx hb hts inU5 hown hK hP 0 rfl rfl 2 (by decide) (hts _ tw_39) (fun _ h9 => h9) rfl (dt uX5_step_0 1 rfl) ?_
      refine lv_aload_n hx hb (dt uX5_step_0 2 rfl) rfl (lv_at hl 0 rfl) ?_
      refine va_get (D := (dC, dI)) (ci := 5) (v := .int v_length) (C := RX5) (T := TX5) (N := 6) hx hb hts inU5 hown hK hP 0 rfl rfl 1 (by decide) (hts _ tw_37) (fun _ h9 => h9) rfl (dt uX5_step_0 3 rfl) ?_
      have hJ38 : ∀ (H : Heap) (locs : List Loc) (ls : Array Slot), fX5_step_J38 N a_bytes v_length v_value w_1 = some q0 → va_P (dC, dI) vwCl [(ad0, oX5 ad_bytes v_length w_1 v_token v_begin v_value), (ad_bytes, .inl (cI, 150, .inl a_bytes))] H → va_D A [(ad0, oX5 ad_bytes v_length w_1 v_token v_begin v_value), (ad_bytes, .inl (cI, 150, .inl a_bytes))] → va_S A s.heap H locs → lv_has ls 2 [(0, .ref ad0)] → W p l e rX5_step s m args below meth c H locs 0 0 Q (F0 m 38 ls []) := by
        intro H locs ls hf hP hD hS hl
        unfold fX5_step_J38 at hf
        refine lv_aload_n hx hb (dt uX5_step_0 19 rfl) rfl (lv_at hl 0 rfl) ?_
        refine lv_aload_n hx hb (dt uX5_step_0 20 rfl) rfl (lv_at hl 0 rfl) ?_
        refine va_get (D := (dC, dI)) (ci := 5) (v := .int w_1) (C := RX5) (T := TX5) (N := 6) hx hb hts inU5 hown hK hP 0 rfl rfl 2 (by decide) (hts _ tw_39) (fun _ h9 => h9) rfl (dt uX5_step_0 21 rfl) ?_
        refine va_put (D := (dC, dI)) (ci := 5) (v := .int w_1) (ty := .int) (C := RX5) (T := TX5) (N := 6) hx hb hts inU5 tyX5 tyX5_ok nmX5 hown hK hP hD hS 0 rfl rfl 4 (by decide) (hts _ tw_40) (fun _ h9 => h9) rfl (by decide +kernel) rfl rfl (Nat.le_of_ble_eq_true rfl) (dt uX5_step_0 22 rfl) (fun H locs hP hD hS => ?_)
        have hP : va_P (dC, dI) vwCl [(ad0, oX5 ad_bytes v_length w_1 v_token w_1 v_value), (ad_bytes, .inl (cI, 150, .inl a_bytes))] H := hP
        have hD : va_D A [(ad0, oX5 ad_bytes v_length w_1 v_token w_1 v_value), (ad_bytes, .inl (cI, 150, .inl a_bytes))] := hD
        refine lv_aload_n hx hb (dt uX5_step_0 23 rfl) rfl (lv_at hl 0 rfl) ?_
        refine va_get (D := (dC, dI)) (ci := 5) (v := .int w_1) (C := RX5) (T := TX5) (N := 6) hx hb hts inU5 hown hK hP 0 rfl rfl 2 (by decide) (hts _ tw_39) (fun _ h9 => h9) rfl (dt uX5_step_0 24 rfl) ?_
        refine lv_aload_n hx hb (dt uX5_step_0 25 rfl) rfl (lv_at hl 0 rfl) ?_
        refine va_get (D := (dC, dI)) (ci := 5) (v := .int v_length) (C := RX5) (T := TX5) (N := 6) hx hb hts inU5 hown hK hP 0 rfl rfl 1 (by decide) (hts _ tw_37) (fun _ h9 => h9) rfl (dt uX5_step_0 26 rfl) ?_
        have hJ71 : ∀ (y0_4 : Int32) (H : Heap) (locs : List Loc) (ls : Array Slot), fX5_step_J71 N a_bytes v_length v_value w_1 y0_4 = some q0 → va_P (dC, dI) vwCl [(ad0, oX5 ad_bytes v_length w_1 v_token w_1 v_value), (ad_bytes, .inl (cI, 150, .inl a_bytes))] H → va_D A [(ad0, oX5 ad_bytes v_length w_1 v_token w_1 v_value), (ad_bytes, .inl (cI, 150, .inl a_bytes))] → va_S A s.heap H locs → lv_has ls 2 [(0, .ref ad0)] → W p l e rX5_step s m args below meth c H locs 0 0 Q (F0 m 71 ls [.int y0_4]) := by
          intro y0_4 H locs ls hf hP hD hS hl
          unfold fX5_step_J71 at hf
          refine lv_istore_n (lv' := [(1, .int y0_4), (0, .ref ad0)]) hx hb (dt uX5_step_0 35 rfl) rfl hl (by decide) rfl (fun ls hl => ?_)
          refine lv_iload_n hx hb (dt uX5_step_0 36 rfl) rfl (lv_at hl 0 rfl) ?_
          refine lv_bipush (v := (-9 : Int32)) hx hb (dt uX5_step_0 37 rfl) (by decide) ?_
          refine lv_icmp_ne (tgt := 86) hx hb (dt uX5_step_0 38 rfl) (by decide) (fun c_5 => ?_) (fun c_5 => ?_)
          · have hf := vif_f c_5 hf
            refine lv_iload_n hx hb (dt uX5_step_0 43 rfl) rfl (lv_at hl 0 rfl) ?_
            refine lv_bipush (v := (97 : Int32)) hx hb (dt uX5_step_0 44 rfl) (by decide) ?_
            refine lv_bipush (v := (122 : Int32)) hx hb (dt uX5_step_0 45 rfl) (by decide) ?_
            refine vk_z0 [] (va_runSN (As := [.int y0_4, .int (97 : Int32), .int (122 : Int32)]) (rest := []) ⟨hx, hb, hml, hown, hts⟩ (kX7_within y0_4 (97 : Int32) (122 : Int32) _ rfl H.size) (vcwSN hts (nm_34 hN) tw_43 tw_41 tw_42 hd_X7_within rfl rfl ⟨Nat.le_of_ble_eq_true rfl, Nat.le_of_ble_eq_true rfl⟩) (vpreS hK hN hP hD [] rfl (by decide)) rfl rfl hl.1 rfl (lv_room (Nat.le_of_ble_eq_true rfl)) (dt uX5_step_0 46 rfl) ⟨Nat.zero_le _, Nat.zero_le _⟩) hA hP hD hS rfl (by decide) (fun hz_6 H locs hP hD hS => ?_)
            refine lv_if_eq (tgt := 136) hx hb (dt uX5_step_0 47 rfl) (by decide) (fun c_7 => ?_) (fun c_7 => ?_)
            · have hf := vif_t c_7 hf
              refine lv_iload_n hx hb (dt uX5_step_1 8 rfl) rfl (lv_at hl 0 rfl) ?_
              refine lv_bipush (v := (48 : Int32)) hx hb (dt uX5_step_1 9 rfl) (by decide) ?_
              refine lv_bipush (v := (57 : Int32)) hx hb (dt uX5_step_1 10 rfl) (by decide) ?_
              refine vk_z0 [] (va_runSN (As := [.int y0_4, .int (48 : Int32), .int (57 : Int32)]) (rest := []) ⟨hx, hb, hml, hown, hts⟩ (kX7_within y0_4 (48 : Int32) (57 : Int32) _ rfl H.size) (vcwSN hts (nm_34 hN) tw_43 tw_41 tw_42 hd_X7_within rfl rfl ⟨Nat.le_of_ble_eq_true rfl, Nat.le_of_ble_eq_true rfl⟩) (vpreS hK hN hP hD [] rfl (by decide)) rfl rfl hl.1 rfl (lv_room (Nat.le_of_ble_eq_true rfl)) (dt uX5_step_1 11 rfl) ⟨Nat.zero_le _, Nat.zero_le _⟩) hA hP hD hS rfl (by decide) (fun hz_8 H locs hP hD hS => ?_)
              refine lv_if_eq (tgt := 196) hx hb (dt uX5_step_1 12 rfl) (by decide) (fun c_9 => ?_) (fun c_9 => ?_)
              · have hf := vif_t c_9 hf
                refine lv_aload_n hx hb (dt uX5_step_1 37 rfl) rfl (lv_at hl 1 rfl) ?_
                refine lv_iload_n hx hb (dt uX5_step_1 38 rfl) rfl (lv_at hl 0 rfl) ?_
                refine lv_bipush (v := (59 : Int32)) hx hb (dt uX5_step_1 39 rfl) (by decide) ?_
                have hJ208 : ∀ (y1_10 : Int32) (H : Heap) (locs : List Loc) (ls : Array Slot), fX5_step_J208 v_value w_1 y1_10 = some q0 → va_P (dC, dI) vwCl [(ad0, oX5 ad_bytes v_length w_1 v_token w_1 v_value), (ad_bytes, .inl (cI, 150, .inl a_bytes))] H → va_D A [(ad0, oX5 ad_bytes v_length w_1 v_token w_1 v_value), (ad_bytes, .inl (cI, 150, .inl a_bytes))] → va_S A s.heap H locs → lv_has ls 2 [(0, .ref ad0)] → W p l e rX5_step s m args below meth c H locs 0 0 Q (F0 m 208 ls [.int y1_10, .ref ad0]) := by
                  intro y1_10 H locs ls hf hP hD hS hl
                  unfold fX5_step_J208 at hf
                  refine va_put (D := (dC, dI)) (ci := 5) (v := .int y1_10) (ty := .int) (C := RX5) (T := TX5) (N := 6) hx hb hts inU5 tyX5 tyX5_ok nmX5 hown hK hP hD hS 0 rfl rfl 3 (by decide) (hts _ tw_44) (fun _ h9 => h9) rfl (by decide +kernel) rfl rfl (Nat.le_of_ble_eq_true rfl) (dt uX5_step_1 44 rfl) (fun H locs hP hD hS => ?_)
                  have hP : va_P (dC, dI) vwCl [(ad0, oX5 ad_bytes v_length w_1 y1_10 w_1 v_value), (ad_bytes, .inl (cI, 150, .inl a_bytes))] H := hP
                  have hD : va_D A [(ad0, oX5 ad_bytes v_length w_1 y1_10 w_1 v_value), (ad_bytes, .inl (cI, 150, .inl a_bytes))] := hD
                  refine lv_aload_n hx hb (dt uX5_step_1 45 rfl) rfl (lv_at hl 0 rfl) ?_
                  refine lv_dup hx hb (dt uX5_step_1 46 rfl) rfl ?_
                  refine va_get (D := (dC, dI)) (ci := 5) (v := .int w_1) (C := RX5) (T := TX5) (N := 6) hx hb hts inU5 hown hK hP 0 rfl rfl 2 (by decide) (hts _ tw_39) (fun _ h9 => h9) rfl (dt uX5_step_1 47 rfl) ?_
                  refine lv_iconst (v := (1 : Int32)) hx hb (dt uX5_step_1 48 rfl) (by decide) ?_
                  refine lv_iadd hx hb (dt uX5_step_1 49 rfl) ?_
                  refine va_put (D := (dC, dI)) (ci := 5) (v := .int (w_1 + (1 : Int32))) (ty := .int) (C := RX5) (T := TX5) (N := 6) hx hb hts inU5 tyX5 tyX5_ok nmX5 hown hK hP hD hS 0 rfl rfl 2 (by decide) (hts _ tw_39) (fun _ h9 => h9) rfl (by decide +kernel) rfl rfl (Nat.le_of_ble_eq_true rfl) (dt uX5_step_1 50 rfl) (fun H locs hP hD hS => ?_)
                  have hP : va_P (dC, dI) vwCl [(ad0, oX5 ad_bytes v_length (w_1 + (1 : Int32)) y1_10 w_1 v_value), (ad_bytes, .inl (cI, 150, .inl a_bytes))] H := hP
                  have hD : va_D A [(ad0, oX5 ad_bytes v_length (w_1 + (1 : Int32)) y1_10 w_1 v_value), (ad_bytes, .inl (cI, 150, .inl a_bytes))] := hD
                  have hf := Option.some.inj hf
                  subst hf
                  rw [hQ]
                  exact vret_v C hP hD hS (dt uX5_step_1 51 rfl)
                refine lv_icmp_ne (tgt := 207) hx hb (dt uX5_step_1 40 rfl) (by decide) (fun c_11 => ?_) (fun c_11 => ?_)
                · have hf := vif_f c_11 hf
                  refine lv_iconst (v := (4 : Int32)) hx hb (dt uX5_step_1 43 rfl) (by decide) ?_
                  exact hJ208 (4 : Int32) _ _ _ hf hP hD hS (lv_sub hl [1] rfl)
                · have hf := vif_t c_11 hf
                  refine lv_iconst (v := (3 : Int32)) hx hb (dt uX5_step_1 41 rfl) (by decide) ?_
                  refine lv_goto (tgt := 208) hx hb (dt uX5_step_1 42 rfl) (by decide) ?_
                  exact hJ208 (3 : Int32) _ _ _ hf hP hD hS (lv_sub hl [1] rfl)
              · have hf := vif_f c_9 hf
                refine lv_aload_n hx hb (dt uX5_step_1 13 rfl) rfl (lv_at hl 1 rfl) ?_
                refine lv_bipush (v := (48 : Int32)) hx hb (dt uX5_step_1 14 rfl) (by decide) ?_
                refine lv_bipush (v := (57 : Int32)) hx hb (dt uX5_step_1 15 rfl) (by decide) ?_
                obtain ⟨q_12, hq_13, hf⟩ := vbd hf
                refine vk_v [0, 1] (ws2 := [(ad0, oX5 ad_bytes v_length q_12 v_token w_1 v_value), (ad_bytes, .inl (cI, 150, .inl a_bytes))]) (va_runV (As := [.int (48 : Int32), .int (57 : Int32)]) (rest := []) ⟨hx, hb, hml, hown, hts⟩ (kX5_stepOverAll ad0 ad_bytes v_length w_1 v_token w_1 v_value a_bytes (48 : Int32) (57 : Int32) N q_12 hq_13 H.size) (vcwV hts tw_47 tw_48 tw_49 tw_45 tw_46 hd_X5_stepOverAll rfl rfl ⟨Nat.le_of_ble_eq_true rfl, Nat.le_of_ble_eq_true rfl⟩) (vpreV hK hN hP hD [0, 1] rfl (by decide) (ci := 5) (q0 := 0) rfl rfl) rfl rfl hl.1 rfl (lv_room (Nat.le_of_ble_eq_true rfl)) (dt uX5_step_1 16 rfl) ⟨Nat.zero_le _, Nat.zero_le _⟩) hA hP hD hS rfl (by decide) rfl rfl (fun H locs hP hD hS => ?_)
                refine lv_aload_n hx hb (dt uX5_step_1 17 rfl) rfl (lv_at hl 1 rfl) ?_
                refine lv_aload_n hx hb (dt uX5_step_1 18 rfl) rfl (lv_at hl 1 rfl) ?_
                refine lv_iload_n hx hb (dt uX5_step_1 19 rfl) rfl (lv_at hl 0 rfl) ?_
                refine vk_z0 [0] (va_runV (As := [.int y0_4]) (rest := [.ref ad0]) ⟨hx, hb, hml, hown, hts⟩ (kX5_isNumber ad0 ad_bytes v_length q_12 v_token w_1 v_value y0_4 _ rfl H.size) (vcwV hts tw_51 tw_52 tw_53 tw_45 tw_50 hd_X5_isNumber rfl rfl ⟨Nat.le_of_ble_eq_true rfl, Nat.le_of_ble_eq_true rfl⟩) (vpreV hK hN hP hD [0] rfl (by decide) (ci := 5) (q0 := 0) rfl rfl) rfl rfl hl.1 rfl (lv_room (Nat.le_of_ble_eq_true rfl)) (dt uX5_step_1 20 rfl) ⟨Nat.zero_le _, Nat.zero_le _⟩) hA hP hD hS rfl (by decide) (fun hz_14 H locs hP hD hS => ?_)
                have hJ169 : ∀ (y1_15 : Int32) (H : Heap) (locs : List Loc) (ls : Array Slot), fX5_step_J169 N a_bytes w_1 q_12 y1_15 = some q0 → va_P (dC, dI) vwCl [(ad0, oX5 ad_bytes v_length q_12 v_token w_1 v_value), (ad_bytes, .inl (cI, 150, .inl a_bytes))] H → va_D A [(ad0, oX5 ad_bytes v_length q_12 v_token w_1 v_value), (ad_bytes, .inl (cI, 150, .inl a_bytes))] → va_S A s.heap H locs → lv_has ls 2 [(0, .ref ad0)] → W p l e rX5_step s m args below meth c H locs 0 0 Q (F0 m 169 ls [.int y1_15, .ref ad0]) := by
                  intro y1_15 H locs ls hf hP hD hS hl
                  unfold fX5_step_J169 at hf
                  refine va_put (D := (dC, dI)) (ci := 5) (v := .int y1_15) (ty := .int) (C := RX5) (T := TX5) (N := 6) hx hb hts inU5 tyX5 tyX5_ok nmX5 hown hK hP hD hS 0 rfl rfl 3 (by decide) (hts _ tw_44) (fun _ h9 => h9) rfl (by decide +kernel) rfl rfl (Nat.le_of_ble_eq_true rfl) (dt uX5_step_1 25 rfl) (fun H locs hP hD hS => ?_)
                  have hP : va_P (dC, dI) vwCl [(ad0, oX5 ad_bytes v_length q_12 y1_15 w_1 v_value), (ad_bytes, .inl (cI, 150, .inl a_bytes))] H := hP
                  have hD : va_D A [(ad0, oX5 ad_bytes v_length q_12 y1_15 w_1 v_value), (ad_bytes, .inl (cI, 150, .inl a_bytes))] := hD
                  refine lv_aload_n hx hb (dt uX5_step_1 26 rfl) rfl (lv_at hl 0 rfl) ?_
                  refine lv_aload_n hx hb (dt uX5_step_1 27 rfl) rfl (lv_at hl 0 rfl) ?_
                  refine va_get (D := (dC, dI)) (ci := 5) (v := .int y1_15) (C := RX5) (T := TX5) (N := 6) hx hb hts inU5 hown hK hP 0 rfl rfl 3 (by decide) (hts _ tw_44) (fun _ h9 => h9) rfl (dt uX5_step_1 28 rfl) ?_
                  refine lv_iconst (v := (2 : Int32)) hx hb (dt uX5_step_1 29 rfl) (by decide) ?_
                  refine lv_icmp_ne (tgt := 188) hx hb (dt uX5_step_1 30 rfl) (by decide) (fun c_16 => ?_) (fun c_16 => ?_)
                  · have hf := vif_f c_16 hf
                    refine lv_bipush (v := (-9 : Int32)) hx hb (dt uX5_step_1 34 rfl) (by decide) ?_
                    refine va_put (D := (dC, dI)) (ci := 5) (v := .int (-9 : Int32)) (ty := .int) (C := RX5) (T := TX5) (N := 6) hx hb hts inU5 tyX5 tyX5_ok nmX5 hown hK hP hD hS 0 rfl rfl 5 (by decide) (hts _ tw_54) (fun _ h9 => h9) rfl (by decide +kernel) rfl rfl (Nat.le_of_ble_eq_true rfl) (dt uX5_step_1 35 rfl) (fun H locs hP hD hS => ?_)
                    have hP : va_P (dC, dI) vwCl [(ad0, oX5 ad_bytes v_length q_12 y1_15 w_1 (-9 : Int32)), (ad_bytes, .inl (cI, 150, .inl a_bytes))] H := hP
                    have hD : va_D A [(ad0, oX5 ad_bytes v_length q_12 y1_15 w_1 (-9 : Int32)), (ad_bytes, .inl (cI, 150, .inl a_bytes))] := hD
                    refine lv_goto (tgt := 221) hx hb (dt uX5_step_1 36 rfl) (by decide) ?_
                    have hf := Option.some.inj hf
                    subst hf
                    rw [hQ]
                    exact vret_v C hP hD hS (dt uX5_step_1 51 rfl)
                  · have hf := vif_t c_16 hf
                    refine lv_aload_n hx hb (dt uX5_step_1 31 rfl) rfl (lv_at hl 0 rfl) ?_
                    obtain ⟨q_17, hq_18, hf⟩ := vbd hf
                    refine vk_i0 [0, 1] (va_runV (As := []) (rest := [.ref ad0]) ⟨hx, hb, hml, hown, hts⟩ (kX5_valueOfFigures ad0 ad_bytes v_length q_12 y1_15 w_1 v_value a_bytes N q_17 hq_18 H.size) (vcwV hts tw_56 tw_57 tw_58 tw_45 tw_55 hd_X5_valueOfFigures rfl rfl ⟨Nat.le_of_ble_eq_true rfl, Nat.le_of_ble_eq_true rfl⟩) (vpreV hK hN hP hD [0, 1] rfl (by decide) (ci := 5) (q0 := 0) rfl rfl) rfl rfl hl.1 rfl (lv_room (Nat.le_of_ble_eq_true rfl)) (dt uX5_step_1 32 rfl) ⟨Nat.zero_le _, Nat.zero_le _⟩) hA hP hD hS rfl (by decide) (fun H locs hP hD hS => ?_)
                    refine lv_goto (tgt := 190) hx hb (dt uX5_step_1 33 rfl) (by decide) ?_
                    refine va_put (D := (dC, dI)) (ci := 5) (v := .int q_17) (ty := .int) (C := RX5) (T := TX5) (N := 6) hx hb hts inU5 tyX5 tyX5_ok nmX5 hown hK hP hD hS 0 rfl rfl 5 (by decide) (hts _ tw_54) (fun _ h9 => h9) rfl (by decide +kernel) rfl rfl (Nat.le_of_ble_eq_true rfl) (dt uX5_step_1 35 rfl) (fun H locs hP hD hS => ?_)
                    have hP : va_P (dC, dI) vwCl [(ad0, oX5 ad_bytes v_length q_12 y1_15 w_1 q_17), (ad_bytes, .inl (cI, 150, .inl a_bytes))] H := hP
                    have hD : va_D A [(ad0, oX5 ad_bytes v_length q_12 y1_15 w_1 q_17), (ad_bytes, .inl (cI, 150, .inl a_bytes))] := hD
                    refine lv_goto (tgt := 221) hx hb (dt uX5_step_1 36 rfl) (by decide) ?_
                    have hf := Option.some.inj hf
                    subst hf
                    rw [hQ]
                    exact vret_v C hP hD hS (dt uX5_step_1 51 rfl)
                refine lv_if_eq (tgt := 168) hx hb (dt uX5_step_1 21 rfl) (by decide) (fun c_19 => ?_) (fun c_19 => ?_)
                · have hf := vif_t c_19 hf
                  refine lv_iconst (v := (4 : Int32)) hx hb (dt uX5_step_1 24 rfl) (by decide) ?_
                  exact hJ169 (4 : Int32) _ _ _ hf hP hD hS (lv_sub hl [1] rfl)
                · have hf := vif_f c_19 hf
                  refine lv_iconst (v := (2 : Int32)) hx hb (dt uX5_step_1 22 rfl) (by decide) ?_
                  refine lv_goto (tgt := 169) hx hb (dt uX5_step_1 23 rfl) (by decide) ?_
                  exact hJ169 (2 : Int32) _ _ _ hf hP hD hS (lv_sub hl [1] rfl)
            · have hf := vif_f c_7 hf
              refine lv_aload_n hx hb (dt uX5_step_0 48 rfl) rfl (lv_at hl 1 rfl) ?_
              refine lv_bipush (v := (97 : Int32)) hx hb (dt uX5_step_0 49 rfl) (by decide) ?_
              refine lv_bipush (v := (122 : Int32)) hx hb (dt uX5_step_0 50 rfl) (by decide) ?_
              obtain ⟨q_20, hq_21, hf⟩ := vbd hf
              refine vk_v [0, 1] (ws2 := [(ad0, oX5 ad_bytes v_length q_20 v_token w_1 v_value), (ad_bytes, .inl (cI, 150, .inl a_bytes))]) (va_runV (As := [.int (97 : Int32), .int (122 : Int32)]) (rest := []) ⟨hx, hb, hml, hown, hts⟩ (kX5_stepOverAll ad0 ad_bytes v_length w_1 v_token w_1 v_value a_bytes (97 : Int32) (122 : Int32) N q_20 hq_21 H.size) (vcwV hts tw_47 tw_48 tw_49 tw_45 tw_46 hd_X5_stepOverAll rfl rfl ⟨Nat.le_of_ble_eq_true rfl, Nat.le_of_ble_eq_true rfl⟩) (vpreV hK hN hP hD [0, 1] rfl (by decide) (ci := 5) (q0 := 0) rfl rfl) rfl rfl hl.1 rfl (lv_room (Nat.le_of_ble_eq_true rfl)) (dt uX5_step_0 51 rfl) ⟨Nat.zero_le _, Nat.zero_le _⟩) hA hP hD hS rfl (by decide) rfl rfl (fun H locs hP hD hS => ?_)
              refine lv_aload_n hx hb (dt uX5_step_0 52 rfl) rfl (lv_at hl 1 rfl) ?_
              refine lv_iconst (v := (1 : Int32)) hx hb (dt uX5_step_0 53 rfl) (by decide) ?_
              refine va_put (D := (dC, dI)) (ci := 5) (v := .int (1 : Int32)) (ty := .int) (C := RX5) (T := TX5) (N := 6) hx hb hts inU5 tyX5 tyX5_ok nmX5 hown hK hP hD hS 0 rfl rfl 3 (by decide) (hts _ tw_44) (fun _ h9 => h9) rfl (by decide +kernel) rfl rfl (Nat.le_of_ble_eq_true rfl) (dt uX5_step_0 54 rfl) (fun H locs hP hD hS => ?_)
              have hP : va_P (dC, dI) vwCl [(ad0, oX5 ad_bytes v_length q_20 (1 : Int32) w_1 v_value), (ad_bytes, .inl (cI, 150, .inl a_bytes))] H := hP
              have hD : va_D A [(ad0, oX5 ad_bytes v_length q_20 (1 : Int32) w_1 v_value), (ad_bytes, .inl (cI, 150, .inl a_bytes))] := hD
              refine lv_aload_n hx hb (dt uX5_step_0 55 rfl) rfl (lv_at hl 1 rfl) ?_
              refine lv_aload_n hx hb (dt uX5_step_0 56 rfl) rfl (lv_at hl 1 rfl) ?_
              refine va_get (D := (dC, dI)) (ci := 5) (v := .int q_20) (C := RX5) (T := TX5) (N := 6) hx hb hts inU5 hown hK hP 0 rfl rfl 2 (by decide) (hts _ tw_39) (fun _ h9 => h9) rfl (dt uX5_step_0 57 rfl) ?_
              refine lv_aload_n hx hb (dt uX5_step_0 58 rfl) rfl (lv_at hl 1 rfl) ?_
              refine va_get (D := (dC, dI)) (ci := 5) (v := .int w_1) (C := RX5) (T := TX5) (N := 6) hx hb hts inU5 hown hK hP 0 rfl rfl 4 (by decide) (hts _ tw_40) (fun _ h9 => h9) rfl (dt uX5_step_0 59 rfl) ?_
              refine lv_isub hx hb (dt uX5_step_1 0 rfl) ?_
              refine lv_iconst (v := (1 : Int32)) hx hb (dt uX5_step_1 1 rfl) (by decide) ?_
              refine lv_icmp_ne (tgt := 128) hx hb (dt uX5_step_1 2 rfl) (by decide) (fun c_22 => ?_) (fun c_22 => ?_)
              · have hf := vif_f c_22 hf
                refine lv_bipush (v := (-9 : Int32)) hx hb (dt uX5_step_1 5 rfl) (by decide) ?_
                refine va_put (D := (dC, dI)) (ci := 5) (v := .int (-9 : Int32)) (ty := .int) (C := RX5) (T := TX5) (N := 6) hx hb hts inU5 tyX5 tyX5_ok nmX5 hown hK hP hD hS 0 rfl rfl 5 (by decide) (hts _ tw_54) (fun _ h9 => h9) rfl (by decide +kernel) rfl rfl (Nat.le_of_ble_eq_true rfl) (dt uX5_step_1 6 rfl) (fun H locs hP hD hS => ?_)
                have hP : va_P (dC, dI) vwCl [(ad0, oX5 ad_bytes v_length q_20 (1 : Int32) w_1 (-9 : Int32)), (ad_bytes, .inl (cI, 150, .inl a_bytes))] H := hP
                have hD : va_D A [(ad0, oX5 ad_bytes v_length q_20 (1 : Int32) w_1 (-9 : Int32)), (ad_bytes, .inl (cI, 150, .inl a_bytes))] := hD
                refine lv_goto (tgt := 221) hx hb (dt uX5_step_1 7 rfl) (by decide) ?_
                have hf := Option.some.inj hf
                subst hf
                rw [hQ]
                exact vret_v C hP hD hS (dt uX5_step_1 51 rfl)
              · have hf := vif_t c_22 hf
                refine lv_iload_n hx hb (dt uX5_step_1 3 rfl) rfl (lv_at hl 0 rfl) ?_
                refine lv_goto (tgt := 130) hx hb (dt uX5_step_1 4 rfl) (by decide) ?_
                refine va_put (D := (dC, dI)) (ci := 5) (v := .int y0_4) (ty := .int) (C := RX5) (T := TX5) (N := 6) hx hb hts inU5 tyX5 tyX5_ok nmX5 hown hK hP hD hS 0 rfl rfl 5 (by decide) (hts _ tw_54) (fun _ h9 => h9) rfl (by decide +kernel) rfl rfl (Nat.le_of_ble_eq_true rfl) (dt uX5_step_1 6 rfl) (fun H locs hP hD hS => ?_)
                have hP : va_P (dC, dI) vwCl [(ad0, oX5 ad_bytes v_length q_20 (1 : Int32) w_1 y0_4), (ad_bytes, .inl (cI, 150, .inl a_bytes))] H := hP
                have hD : va_D A [(ad0, oX5 ad_bytes v_length q_20 (1 : Int32) w_1 y0_4), (ad_bytes, .inl (cI, 150, .inl a_bytes))] := hD
                refine lv_goto (tgt := 221) hx hb (dt uX5_step_1 7 rfl) (by decide) ?_
                have hf := Option.some.inj hf
                subst hf
                rw [hQ]
                exact vret_v C hP hD hS (dt uX5_step_1 51 rfl)
          · have hf := vif_t c_5 hf
            refine lv_aload_n hx hb (dt uX5_step_0 39 rfl) rfl (lv_at hl 1 rfl) ?_
            refine lv_iconst (v := (0 : Int32)) hx hb (dt uX5_step_0 40 rfl) (by decide) ?_
            refine va_put (D := (dC, dI)) (ci := 5) (v := .int (0 : Int32)) (ty := .int) (C := RX5) (T := TX5) (N := 6) hx hb hts inU5 tyX5 tyX5_ok nmX5 hown hK hP hD hS 0 rfl rfl 3 (by decide) (hts _ tw_44) (fun _ h9 => h9) rfl (by decide +kernel) rfl rfl (Nat.le_of_ble_eq_true rfl) (dt uX5_step_0 41 rfl) (fun H locs hP hD hS => ?_)
            have hP : va_P (dC, dI) vwCl [(ad0, oX5 ad_bytes v_length w_1 (0 : Int32) w_1 v_value), (ad_bytes, .inl (cI, 150, .inl a_bytes))] H := hP
            have hD : va_D A [(ad0, oX5 ad_bytes v_length w_1 (0 : Int32) w_1 v_value), (ad_bytes, .inl (cI, 150, .inl a_bytes))] := hD
            refine lv_goto (tgt := 221) hx hb (dt uX5_step_0 42 rfl) (by decide) ?_
            have hf := Option.some.inj hf
            subst hf
            rw [hQ]
            exact vret_v C hP hD hS (dt uX5_step_1 51 rfl)
        refine lv_icmp_ge (tgt := 69) hx hb (dt uX5_step_0 27 rfl) (by decide) (fun c_23 => ?_) (fun c_23 => ?_)
        · have hf := vif_t c_23 hf
          refine lv_bipush (v := (-9 : Int32)) hx hb (dt uX5_step_0 34 rfl) (by decide) ?_
          exact hJ71 (-9 : Int32) _ _ _ hf hP hD hS (lv_sub hl [0] rfl)
        · have hf := vif_f c_23 hf
          refine lv_aload_n hx hb (dt uX5_step_0 28 rfl) rfl (lv_at hl 0 rfl) ?_
          refine va_get (D := (dC, dI)) (ci := 5) (v := .ref ad_bytes) (C := RX5) (T := TX5) (N := 6) hx hb hts inU5 hown hK hP 0 rfl rfl 0 (by decide) (hts _ tw_38) (fun _ h9 => h9) rfl (dt uX5_step_0 29 rfl) ?_
          refine lv_aload_n hx hb (dt uX5_step_0 30 rfl) rfl (lv_at hl 0 rfl) ?_
          refine va_get (D := (dC, dI)) (ci := 5) (v := .int w_1) (C := RX5) (T := TX5) (N := 6) hx hb hts inU5 hown hK hP 0 rfl rfl 2 (by decide) (hts _ tw_39) (fun _ h9 => h9) rfl (dt uX5_step_0 31 rfl) ?_
          obtain ⟨hi_24, hf⟩ := vg_some hf
          refine va_iald hx hb hK hP 1 0 rfl rfl hi_24 (dt uX5_step_0 32 rfl) ?_
          refine lv_goto (tgt := 71) hx hb (dt uX5_step_0 33 rfl) (by decide) ?_
          exact hJ71 (a_bytes w_1.toNatClampNeg) _ _ _ hf hP hD hS (lv_sub hl [0] rfl)
      refine lv_icmp_ge (tgt := 38) hx hb (dt uX5_step_0 4 rfl) (by decide) (fun c_25 => ?_) (fun c_25 => ?_)
      · have hf := vif_t c_25 hf
        exact hJ38  _ _ _ hf hP hD hS (lv_sub hl [0] rfl)
      · have hf := vif_f c_25 hf
        refine lv_aload_n hx hb (dt uX5_step_0 5 rfl) rfl (lv_at hl 0 rfl) ?_
        refine va_get (D := (dC, dI)) (ci := 5) (v := .ref ad_bytes) (C := RX5) (T := TX5) (N := 6) hx hb hts inU5 hown hK hP 0 rfl rfl 0 (by decide) (hts _ tw_38) (fun _ h9 => h9) rfl (dt uX5_step_0 6 rfl) ?_
        refine lv_aload_n hx hb (dt uX5_step_0 7 rfl) rfl (lv_at hl 0 rfl) ?_
        refine va_get (D := (dC, dI)) (ci := 5) (v := .int w_1) (C := RX5) (T := TX5) (N := 6) hx hb hts inU5 hown hK hP 0 rfl rfl 2 (by decide) (hts _ tw_39) (fun _ h9 => h9) rfl (dt uX5_step_0 8 rfl) ?_
        obtain ⟨hi_26, hf⟩ := vg_some hf
        refine va_iald hx hb hK hP 1 0 rfl rfl hi_26 (dt uX5_step_0 9 rfl) ?_
        refine lv_bipush (v := (32 : Int32)) hx hb (dt uX5_step_0 10 rfl) (by decide) ?_
        refine lv_icmp_ne (tgt := 38) hx hb (dt uX5_step_0 11 rfl) (by decide) (fun c_27 => ?_) (fun c_27 => ?_)
        · have hf := vif_f c_27 hf
          exact hJ38  _ _ _ hf hP hD hS (lv_sub hl [0] rfl)
        · have hf := vif_t c_27 hf
          refine lv_aload_n hx hb (dt uX5_step_0 12 rfl) rfl (lv_at hl 0 rfl) ?_
          refine lv_dup hx hb (dt uX5_step_0 13 rfl) rfl ?_
          refine va_get (D := (dC, dI)) (ci := 5) (v := .int w_1) (C := RX5) (T := TX5) (N := 6) hx hb hts inU5 hown hK hP 0 rfl rfl 2 (by decide) (hts _ tw_39) (fun _ h9 => h9) rfl (dt uX5_step_0 14 rfl) ?_
          refine lv_iconst (v := (1 : Int32)) hx hb (dt uX5_step_0 15 rfl) (by decide) ?_
          refine lv_iadd hx hb (dt uX5_step_0 16 rfl) ?_
          refine va_put (D := (dC, dI)) (ci := 5) (v := .int (w_1 + (1 : Int32))) (ty := .int) (C := RX5) (T := TX5) (N := 6) hx hb hts inU5 tyX5 tyX5_ok nmX5 hown hK hP hD hS 0 rfl rfl 2 (by decide) (hts _ tw_39) (fun _ h9 => h9) rfl (by decide +kernel) rfl rfl (Nat.le_of_ble_eq_true rfl) (dt uX5_step_0 17 rfl) (fun H locs hP hD hS => ?_)
          have hP : va_P (dC, dI) vwCl [(ad0, oX5 ad_bytes v_length (w_1 + (1 : Int32)) v_token v_begin v_value), (ad_bytes, .inl (cI, 150, .inl a_bytes))] H := hP
          have hD : va_D A [(ad0, oX5 ad_bytes v_length (w_1 + (1 : Int32)) v_token v_begin v_value), (ad_bytes, .inl (cI, 150, .inl a_bytes))] := hD
          refine lv_goto (tgt := 0) hx hb (dt uX5_step_0 18 rfl) (by decide) ?_
          exact ih0 (w_1 + (1 : Int32)) _ _ _ hf hP hD hS (lv_sub hl [0] rfl)
  exact hL0 N v_place _ _ _ hf hP hD hS (lv_sub hl [0] rfl)
abbrev rX5_readNumber : Room := { frames := 2, cells := 0, slots := 0, locals := 43 }
abbrev wX5_readNumber : List Cond := Cond.code yX5_readNumber cX5_readNumber 2 (some .boolean) :: VT
set_option maxHeartbeats 4000000 in
set_option maxRecDepth 100000 in
theorem kX5_readNumber (ad0 : Nat) (ad_bytes : Nat) (v_length : Int32) (v_place : Int32) (v_token : Int32) (v_begin : Int32) (v_value : Int32) (a_bytes : Nat → Int32) (p1 : Int32) (N : Nat) (q0 : (Int32 × Int32 × Int32 × Int32 × Int32)) (hf : fX5_readNumber N a_bytes v_length v_place v_token v_begin v_value p1 = some q0) : Kz l yX5_readNumber wX5_readNumber rX5_readNumber (dC, dI) (vTy cI cJ cB cZ) [.ref ad0, .int p1] [(ad0, oX5 ad_bytes v_length v_place v_token v_begin v_value), (ad_bytes, .inl (cI, 150, .inl a_bytes))] [(ad0, oX5 ad_bytes v_length q0.2.1 q0.2.2.1 q0.2.2.2.1 q0.2.2.2.2), (ad_bytes, .inl (cI, 150, .inl a_bytes))] q0.1 := by
  refine Kz.mk (cc := cX5_readNumber) (maxL := 2) (ret := some .boolean) (by decide) (Nat.le_of_ble_eq_true rfl) ?_
  intro p e s m args below meth c A Q H locs C hQ hP hD hS ls hl
  obtain ⟨hx, hb, -, hml, hts, hown, -, hK, hN, hA⟩ := id C
  have hown : s.vm.findClass RX5 = some m.cls := hown
  have hl : lv_has ls 2 [(0, .ref ad0), (1, .int p1)] := hl
  unfold fX5_readNumber at hf
  refine lv_aload_n hx hb (dt uX5_readNumber 0 rfl) rfl (lv_at hl 0 rfl) ?_
  obtain ⟨q_1, hq_2, hf⟩ := vbd hf
  refine vk_v [0, 1] (ws2 := [(ad0, oX5 ad_bytes v_length q_1.1 q_1.2.1 q_1.2.2.1 q_1.2.2.2), (ad_bytes, .inl (cI, 150, .inl a_bytes))]) (va_runV (As := []) (rest := []) ⟨hx, hb, hml, hown, hts⟩ (kX5_step ad0 ad_bytes v_length v_place v_token v_begin v_value a_bytes N q_1 hq_2 H.size) (vcwV hts tw_60 tw_61 tw_62 tw_45 tw_59 hd_X5_step rfl rfl ⟨Nat.le_of_ble_eq_true rfl, Nat.le_of_ble_eq_true rfl⟩) (vpreV hK hN hP hD [0, 1] rfl (by decide) (ci := 5) (q0 := 0) rfl rfl) rfl rfl hl.1 rfl (lv_room (Nat.le_of_ble_eq_true rfl)) (dt uX5_readNumber 1 rfl) ⟨Nat.zero_le _, Nat.zero_le _⟩) hA hP hD hS rfl (by decide) rfl rfl (fun H locs hP hD hS => ?_)
  refine lv_aload_n hx hb (dt uX5_readNumber 2 rfl) rfl (lv_at hl 0 rfl) ?_
  refine va_get (D := (dC, dI)) (ci := 5) (v := .int q_1.2.1) (C := RX5) (T := TX5) (N := 6) hx hb hts inU5 hown hK hP 0 rfl rfl 3 (by decide) (hts _ tw_44) (fun _ h9 => h9) rfl (dt uX5_readNumber 3 rfl) ?_
  refine lv_iconst (v := (2 : Int32)) hx hb (dt uX5_readNumber 4 rfl) (by decide) ?_
  refine lv_icmp_ne (tgt := 24) hx hb (dt uX5_readNumber 5 rfl) (by decide) (fun c_3 => ?_) (fun c_3 => ?_)
  · have hf := vif_f c_3 hf
    refine lv_iconst (v := (0 : Int32)) hx hb (dt uX5_readNumber 12 rfl) (by decide) ?_
    have hf := Option.some.inj hf
    subst hf
    rw [hQ]
    exact vret_z C hP hD hS (dt uX5_readNumber 13 rfl) (Or.inl rfl)
  · have hf := vif_t c_3 hf
    refine lv_aload_n hx hb (dt uX5_readNumber 6 rfl) rfl (lv_at hl 0 rfl) ?_
    refine va_get (D := (dC, dI)) (ci := 5) (v := .int q_1.2.2.2) (C := RX5) (T := TX5) (N := 6) hx hb hts inU5 hown hK hP 0 rfl rfl 5 (by decide) (hts _ tw_54) (fun _ h9 => h9) rfl (dt uX5_readNumber 7 rfl) ?_
    refine lv_iload_n hx hb (dt uX5_readNumber 8 rfl) rfl (lv_at hl 1 rfl) ?_
    refine lv_icmp_gt (tgt := 24) hx hb (dt uX5_readNumber 9 rfl) (by decide) (fun c_4 => ?_) (fun c_4 => ?_)
    · have hf := vif_t c_4 hf
      refine lv_iconst (v := (0 : Int32)) hx hb (dt uX5_readNumber 12 rfl) (by decide) ?_
      have hf := Option.some.inj hf
      subst hf
      rw [hQ]
      exact vret_z C hP hD hS (dt uX5_readNumber 13 rfl) (Or.inl rfl)
    · have hf := vif_f c_4 hf
      refine lv_iconst (v := (1 : Int32)) hx hb (dt uX5_readNumber 10 rfl) (by decide) ?_
      refine lv_goto (tgt := 25) hx hb (dt uX5_readNumber 11 rfl) (by decide) ?_
      have hf := Option.some.inj hf
      subst hf
      rw [hQ]
      exact vret_z C hP hD hS (dt uX5_readNumber 13 rfl) (Or.inr rfl)
abbrev rX5_readSemicolon : Room := { frames := 2, cells := 0, slots := 0, locals := 43 }
abbrev wX5_readSemicolon : List Cond := Cond.code yX5_readSemicolon cX5_readSemicolon 1 (some .boolean) :: VT
set_option maxHeartbeats 4000000 in
set_option maxRecDepth 100000 in
theorem kX5_readSemicolon (ad0 : Nat) (ad_bytes : Nat) (v_length : Int32) (v_place : Int32) (v_token : Int32) (v_begin : Int32) (v_value : Int32) (a_bytes : Nat → Int32) (N : Nat) (q0 : (Int32 × Int32 × Int32 × Int32 × Int32)) (hf : fX5_readSemicolon N a_bytes v_length v_place v_token v_begin v_value = some q0) : Kz l yX5_readSemicolon wX5_readSemicolon rX5_readSemicolon (dC, dI) (vTy cI cJ cB cZ) [.ref ad0] [(ad0, oX5 ad_bytes v_length v_place v_token v_begin v_value), (ad_bytes, .inl (cI, 150, .inl a_bytes))] [(ad0, oX5 ad_bytes v_length q0.2.1 q0.2.2.1 q0.2.2.2.1 q0.2.2.2.2), (ad_bytes, .inl (cI, 150, .inl a_bytes))] q0.1 := by
  refine Kz.mk (cc := cX5_readSemicolon) (maxL := 1) (ret := some .boolean) (by decide) (Nat.le_of_ble_eq_true rfl) ?_
  intro p e s m args below meth c A Q H locs C hQ hP hD hS ls hl
  obtain ⟨hx, hb, -, hml, hts, hown, -, hK, hN, hA⟩ := id C
  have hown : s.vm.findClass RX5 = some m.cls := hown
  have hl : lv_has ls 1 [(0, .ref ad0)] := hl
  unfold fX5_readSemicolon at hf
  refine lv_aload_n hx hb (dt uX5_readSemicolon 0 rfl) rfl (lv_at hl 0 rfl) ?_
  obtain ⟨q_1, hq_2, hf⟩ := vbd hf
  refine vk_v [0, 1] (ws2 := [(ad0, oX5 ad_bytes v_length q_1.1 q_1.2.1 q_1.2.2.1 q_1.2.2.2), (ad_bytes, .inl (cI, 150, .inl a_bytes))]) (va_runV (As := []) (rest := []) ⟨hx, hb, hml, hown, hts⟩ (kX5_step ad0 ad_bytes v_length v_place v_token v_begin v_value a_bytes N q_1 hq_2 H.size) (vcwV hts tw_60 tw_61 tw_62 tw_45 tw_59 hd_X5_step rfl rfl ⟨Nat.le_of_ble_eq_true rfl, Nat.le_of_ble_eq_true rfl⟩) (vpreV hK hN hP hD [0, 1] rfl (by decide) (ci := 5) (q0 := 0) rfl rfl) rfl rfl hl.1 rfl (lv_room (Nat.le_of_ble_eq_true rfl)) (dt uX5_readSemicolon 1 rfl) ⟨Nat.zero_le _, Nat.zero_le _⟩) hA hP hD hS rfl (by decide) rfl rfl (fun H locs hP hD hS => ?_)
  refine lv_aload_n hx hb (dt uX5_readSemicolon 2 rfl) rfl (lv_at hl 0 rfl) ?_
  refine va_get (D := (dC, dI)) (ci := 5) (v := .int q_1.2.1) (C := RX5) (T := TX5) (N := 6) hx hb hts inU5 hown hK hP 0 rfl rfl 3 (by decide) (hts _ tw_44) (fun _ h9 => h9) rfl (dt uX5_readSemicolon 3 rfl) ?_
  refine lv_iconst (v := (3 : Int32)) hx hb (dt uX5_readSemicolon 4 rfl) (by decide) ?_
  refine lv_icmp_ne (tgt := 16) hx hb (dt uX5_readSemicolon 5 rfl) (by decide) (fun c_3 => ?_) (fun c_3 => ?_)
  · have hf := vif_f c_3 hf
    refine lv_iconst (v := (0 : Int32)) hx hb (dt uX5_readSemicolon 8 rfl) (by decide) ?_
    have hf := Option.some.inj hf
    subst hf
    rw [hQ]
    exact vret_z C hP hD hS (dt uX5_readSemicolon 9 rfl) (Or.inl rfl)
  · have hf := vif_t c_3 hf
    refine lv_iconst (v := (1 : Int32)) hx hb (dt uX5_readSemicolon 6 rfl) (by decide) ?_
    refine lv_goto (tgt := 17) hx hb (dt uX5_readSemicolon 7 rfl) (by decide) ?_
    have hf := Option.some.inj hf
    subst hf
    rw [hQ]
    exact vret_z C hP hD hS (dt uX5_readSemicolon 9 rfl) (Or.inr rfl)
end WALKS
