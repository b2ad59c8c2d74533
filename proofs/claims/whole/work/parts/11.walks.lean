section WALKS
variable {l : Launch} {dC : Nat → ClassId} {dI : Nat → Nat → Nat} {cI cJ cB cZ : ClassId}
abbrev rX5_readBook : Room := { frames := 3, cells := 0, slots := 0, locals := 64 }
abbrev wX5_readBook : List Cond := Cond.code yX5_readBook cX5_readBook 3 (some .boolean) :: VT
set_option maxHeartbeats 4000000 in
set_option maxRecDepth 100000 in
theorem kX5_readBook (ad0 : Nat) (ad_bytes : Nat) (ad_p1 : Nat) (ad_p1_a : Nat) (ad_p1_b : Nat) (v_length : Int32) (v_place : Int32) (v_token : Int32) (v_begin : Int32) (v_value : Int32) (a_bytes : Nat → Int32) (v_p1_size : Int32) (v_p1_touches : Int32) (v_p1_one : Int32) (a_p1_a : Nat → Int32) (a_p1_b : Nat → Int32) (N : Nat) (q0 : (Int32 × Int32 × Int32 × Int32 × Int32 × (Nat → Int32) × (Nat → Int32) × Int32)) (hf : fX5_readBook N a_bytes v_length v_place v_token v_begin v_value a_p1_a a_p1_b v_p1_size = some q0) : Kz l yX5_readBook wX5_readBook rX5_readBook (dC, dI) (vTy cI cJ cB cZ) [.ref ad0, .ref ad_p1] [(ad0, oX5 ad_bytes v_length v_place v_token v_begin v_value), (ad_bytes, .inl (cI, 150, .inl a_bytes)), (ad_p1, oX0 ad_p1_a ad_p1_b v_p1_size v_p1_touches v_p1_one), (ad_p1_a, .inl (cI, 6, .inl a_p1_a)), (ad_p1_b, .inl (cI, 6, .inl a_p1_b))] [(ad0, oX5 ad_bytes v_length q0.2.1 q0.2.2.1 q0.2.2.2.1 q0.2.2.2.2.1), (ad_bytes, .inl (cI, 150, .inl a_bytes)), (ad_p1, oX0 ad_p1_a ad_p1_b q0.2.2.2.2.2.2.2 v_p1_touches v_p1_one), (ad_p1_a, .inl (cI, 6, .inl q0.2.2.2.2.2.1)), (ad_p1_b, .inl (cI, 6, .inl q0.2.2.2.2.2.2.1))] q0.1 := by
  refine Kz.mk (cc := cX5_readBook) (maxL := 3) (ret := some .boolean) (by decide) (Nat.le_of_ble_eq_true rfl) ?_
  intro p e s m args below meth c A Q H locs C hQ hP hD hS ls hl
  obtain ⟨hx, hb, -, hml, hts, hown, -, hK, hN, hA⟩ := id C
  have hown : s.vm.findClass RX5 = some m.cls := hown
  have hl : lv_has ls 3 [(0, .ref ad0), (1, .ref ad_p1)] := hl
  unfold fX5_readBook at hf
  refine lv_aload_n hx hb (dt uX5_readBook 0 rfl) rfl (lv_at hl 1 rfl) ?_
  refine va_getN (D := (dC, dI)) (ci := 0) (v := .int v_p1_size) (C := RX0) (T := TX0) (N := 5) hx hb hts inU0 hown hK hP 2 rfl rfl 2 (by decide) (nw_6 hN) (fun _ h9 => h9) rfl (dt uX5_readBook 1 rfl) ?_
  refine lv_bipush (v := (6 : Int32)) hx hb (dt uX5_readBook 2 rfl) (by decide) ?_
  refine lv_icmp_ge (tgt := 19) hx hb (dt uX5_readBook 3 rfl) (by decide) (fun c_1 => ?_) (fun c_1 => ?_)
  · have hf := vif_t c_1 hf
    refine lv_iconst (v := (0 : Int32)) hx hb (dt uX5_readBook 8 rfl) (by decide) ?_
    have hf := Option.some.inj hf
    subst hf
    rw [hQ]
    exact vret_z C hP hD hS (dt uX5_readBook 9 rfl) (Or.inl rfl)
  · have hf := vif_f c_1 hf
    refine lv_aload_n hx hb (dt uX5_readBook 4 rfl) rfl (lv_at hl 0 rfl) ?_
    refine lv_sipush (v := (999 : Int32)) hx hb (dt uX5_readBook 5 rfl) (by decide) ?_
    obtain ⟨q_2, hq_3, hf⟩ := vbd hf
    refine vk_z [0, 1] (ws2 := [(ad0, oX5 ad_bytes v_length q_2.2.1 q_2.2.2.1 q_2.2.2.2.1 q_2.2.2.2.2), (ad_bytes, .inl (cI, 150, .inl a_bytes)), (ad_p1, oX0 ad_p1_a ad_p1_b v_p1_size v_p1_touches v_p1_one), (ad_p1_a, .inl (cI, 6, .inl a_p1_a)), (ad_p1_b, .inl (cI, 6, .inl a_p1_b))]) (va_runV (As := [.int (999 : Int32)]) (rest := []) ⟨hx, hb, hml, hown, hts⟩ (kX5_readNumber ad0 ad_bytes v_length v_place v_token v_begin v_value a_bytes (999 : Int32) N q_2 hq_3 H.size) (vcwV hts tw_64 tw_65 tw_66 tw_45 tw_63 hd_X5_readNumber rfl rfl ⟨Nat.le_of_ble_eq_true rfl, Nat.le_of_ble_eq_true rfl⟩) (vpreV hK hN hP hD [0, 1] rfl (by decide) (ci := 5) (q0 := 0) rfl rfl) rfl rfl hl.1 rfl (lv_room (Nat.le_of_ble_eq_true rfl)) (dt uX5_readBook 6 rfl) ⟨Nat.zero_le _, Nat.zero_le _⟩) hA hP hD hS rfl (by decide) rfl rfl (fun hz_4 H locs hP hD hS => ?_)
    refine lv_if_ne (tgt := 21) hx hb (dt uX5_readBook 7 rfl) (by decide) (fun c_5 => ?_) (fun c_5 => ?_)
    · have hf := vif_f c_5 hf
      refine lv_aload_n hx hb (dt uX5_readBook 10 rfl) rfl (lv_at hl 0 rfl) ?_
      refine va_get (D := (dC, dI)) (ci := 5) (v := .int q_2.2.2.2.2) (C := RX5) (T := TX5) (N := 6) hx hb hts inU5 hown hK hP 0 rfl rfl 5 (by decide) (hts _ tw_54) (fun _ h9 => h9) rfl (dt uX5_readBook 11 rfl) ?_
      refine lv_istore_n (lv' := [(2, .int q_2.2.2.2.2), (0, .ref ad0), (1, .ref ad_p1)]) hx hb (dt uX5_readBook 12 rfl) rfl hl (by decide) rfl (fun ls hl => ?_)
      refine lv_aload_n hx hb (dt uX5_readBook 13 rfl) rfl (lv_at hl 1 rfl) ?_
      refine lv_sipush (v := (999 : Int32)) hx hb (dt uX5_readBook 14 rfl) (by decide) ?_
      obtain ⟨q_6, hq_7, hf⟩ := vbd hf
      refine vk_z [0, 1] (ws2 := [(ad0, oX5 ad_bytes v_length q_6.2.1 q_6.2.2.1 q_6.2.2.2.1 q_6.2.2.2.2), (ad_bytes, .inl (cI, 150, .inl a_bytes)), (ad_p1, oX0 ad_p1_a ad_p1_b v_p1_size v_p1_touches v_p1_one), (ad_p1_a, .inl (cI, 6, .inl a_p1_a)), (ad_p1_b, .inl (cI, 6, .inl a_p1_b))]) (va_runV (As := [.int (999 : Int32)]) (rest := []) ⟨hx, hb, hml, hown, hts⟩ (kX5_readNumber ad0 ad_bytes v_length q_2.2.1 q_2.2.2.1 q_2.2.2.2.1 q_2.2.2.2.2 a_bytes (999 : Int32) N q_6 hq_7 H.size) (vcwV hts tw_64 tw_65 tw_66 tw_45 tw_63 hd_X5_readNumber rfl rfl ⟨Nat.le_of_ble_eq_true rfl, Nat.le_of_ble_eq_true rfl⟩) (vpreV hK hN hP hD [0, 1] rfl (by decide) (ci := 5) (q0 := 0) rfl rfl) rfl rfl hl.1 rfl (lv_room (Nat.le_of_ble_eq_true rfl)) (dt uX5_readBook 15 rfl) ⟨Nat.zero_le _, Nat.zero_le _⟩) hA hP hD hS rfl (by decide) rfl rfl (fun hz_8 H locs hP hD hS => ?_)
      refine lv_if_ne (tgt := 38) hx hb (dt uX5_readBook 16 rfl) (by decide) (fun c_9 => ?_) (fun c_9 => ?_)
      · have hf := vif_f c_9 hf
        refine lv_aload_n hx hb (dt uX5_readBook 19 rfl) rfl (lv_at hl 2 rfl) ?_
        refine lv_iload_n hx hb (dt uX5_readBook 20 rfl) rfl (lv_at hl 0 rfl) ?_
        refine lv_aload_n hx hb (dt uX5_readBook 21 rfl) rfl (lv_at hl 1 rfl) ?_
        refine va_get (D := (dC, dI)) (ci := 5) (v := .int q_6.2.2.2.2) (C := RX5) (T := TX5) (N := 6) hx hb hts inU5 hown hK hP 0 rfl rfl 5 (by decide) (hts _ tw_54) (fun _ h9 => h9) rfl (dt uX5_readBook 22 rfl) ?_
        obtain ⟨q_10, hq_11, hf⟩ := vbd hf
        refine vk_v [2, 3, 4] (ws2 := [(ad0, oX5 ad_bytes v_length q_6.2.1 q_6.2.2.1 q_6.2.2.2.1 q_6.2.2.2.2), (ad_bytes, .inl (cI, 150, .inl a_bytes)), (ad_p1, oX0 ad_p1_a ad_p1_b q_10.2.2 v_p1_touches v_p1_one), (ad_p1_a, .inl (cI, 6, .inl q_10.1)), (ad_p1_b, .inl (cI, 6, .inl q_10.2.1))]) (va_runVN (As := [.int q_2.2.2.2.2, .int q_6.2.2.2.2]) (rest := []) ⟨hx, hb, hml, hown, hts⟩ (kX0_append ad_p1 ad_p1_a ad_p1_b v_p1_size v_p1_touches v_p1_one a_p1_a a_p1_b q_2.2.2.2.2 q_6.2.2.2.2 q_10 hq_11 H.size) (vcwVN hts (nm_35 hN) tw_69 tw_70 tw_67 tw_68 hd_X0_append rfl rfl ⟨Nat.le_of_ble_eq_true rfl, Nat.le_of_ble_eq_true rfl⟩) (vpreV hK hN hP hD [2, 3, 4] rfl (by decide) (ci := 0) (q0 := 2) rfl rfl) rfl rfl hl.1 rfl (lv_room (Nat.le_of_ble_eq_true rfl)) (dt uX5_readBook 23 rfl) ⟨Nat.zero_le _, Nat.zero_le _⟩) hA hP hD hS rfl (by decide) rfl rfl (fun H locs hP hD hS => ?_)
        refine lv_aload_n hx hb (dt uX5_readBook 24 rfl) rfl (lv_at hl 1 rfl) ?_
        obtain ⟨q_12, hq_13, hf⟩ := vbd hf
        refine vk_z [0, 1] (ws2 := [(ad0, oX5 ad_bytes v_length q_12.2.1 q_12.2.2.1 q_12.2.2.2.1 q_12.2.2.2.2), (ad_bytes, .inl (cI, 150, .inl a_bytes)), (ad_p1, oX0 ad_p1_a ad_p1_b q_10.2.2 v_p1_touches v_p1_one), (ad_p1_a, .inl (cI, 6, .inl q_10.1)), (ad_p1_b, .inl (cI, 6, .inl q_10.2.1))]) (va_runV (As := []) (rest := []) ⟨hx, hb, hml, hown, hts⟩ (kX5_readSemicolon ad0 ad_bytes v_length q_6.2.1 q_6.2.2.1 q_6.2.2.2.1 q_6.2.2.2.2 a_bytes N q_12 hq_13 H.size) (vcwV hts tw_72 tw_73 tw_74 tw_45 tw_71 hd_X5_readSemicolon rfl rfl ⟨Nat.le_of_ble_eq_true rfl, Nat.le_of_ble_eq_true rfl⟩) (vpreV hK hN hP hD [0, 1] rfl (by decide) (ci := 5) (q0 := 0) rfl rfl) rfl rfl hl.1 rfl (lv_room (Nat.le_of_ble_eq_true rfl)) (dt uX5_readBook 25 rfl) ⟨Nat.zero_le _, Nat.zero_le _⟩) hA hP hD hS rfl (by decide) rfl rfl (fun hz_14 H locs hP hD hS => ?_)
        have hf := Option.some.inj hf
        subst hf
        rw [hQ]
        exact vret_z C hP hD hS (dt uX5_readBook 26 rfl) hz_14
      · have hf := vif_t c_9 hf
        refine lv_iconst (v := (0 : Int32)) hx hb (dt uX5_readBook 17 rfl) (by decide) ?_
        have hf := Option.some.inj hf
        subst hf
        rw [hQ]
        exact vret_z C hP hD hS (dt uX5_readBook 18 rfl) (Or.inl rfl)
    · have hf := vif_t c_5 hf
      refine lv_iconst (v := (0 : Int32)) hx hb (dt uX5_readBook 8 rfl) (by decide) ?_
      have hf := Option.some.inj hf
      subst hf
      rw [hQ]
      exact vret_z C hP hD hS (dt uX5_readBook 9 rfl) (Or.inl rfl)
abbrev rX7_touchBit : Room := { frames := 0, cells := 0, slots := 0, locals := 0 }
abbrev wX7_touchBit : List Cond := Cond.code yX7_touchBit cX7_touchBit 4 (some .int) :: VT
set_option maxHeartbeats 4000000 in
set_option maxRecDepth 100000 in
theorem kX7_touchBit (p1 : Int32) (p2 : Int32) (q0 : Int32) (hf : fX7_touchBit p1 p2 = q0) : Ki l yX7_touchBit wX7_touchBit rX7_touchBit (dC, dI) (vTy cI cJ cB cZ) [.int p1, .int p2] [] [] q0 := by
  refine Ki.mk (cc := cX7_touchBit) (maxL := 4) (ret := some .int) (by decide) (Nat.le_of_ble_eq_true rfl) ?_
  intro p e s m args below meth c A Q H locs C hQ hP hD hS ls hl
  obtain ⟨hx, hb, -, hml, hts, hown, -, hK, hN, hA⟩ := id C
  have hown : s.vm.findClass RX7 = some m.cls := hown
  have hl : lv_has ls 4 [(0, .int p1), (1, .int p2)] := hl
  unfold fX7_touchBit at hf
  refine lv_iload_n hx hb (dt uX7_touchBit 0 rfl) rfl (lv_at hl 0 rfl) ?_
  refine lv_iload_n hx hb (dt uX7_touchBit 1 rfl) rfl (lv_at hl 1 rfl) ?_
  have hJ10 : ∀ (y0_1 : Int32) (H : Heap) (locs : List Loc) (ls : Array Slot), fX7_touchBit_J10 p1 p2 y0_1 = q0 → va_P (dC, dI) vwCl [] H → va_D A [] → va_S A s.heap H locs → lv_has ls 4 [(0, .int p1), (1, .int p2)] → W p l e rX7_touchBit s m args below meth c H locs 0 0 Q (F0 m 10 ls [.int y0_1]) := by
    intro y0_1 H locs ls hf hP hD hS hl
    unfold fX7_touchBit_J10 at hf
    refine lv_istore_n (lv' := [(2, .int y0_1), (0, .int p1), (1, .int p2)]) hx hb (dt uX7_touchBit 6 rfl) rfl hl (by decide) rfl (fun ls hl => ?_)
    refine lv_iload_n hx hb (dt uX7_touchBit 7 rfl) rfl (lv_at hl 1 rfl) ?_
    refine lv_iload_n hx hb (dt uX7_touchBit 8 rfl) rfl (lv_at hl 2 rfl) ?_
    have hJ21 : ∀ (y0_2 : Int32) (H : Heap) (locs : List Loc) (ls : Array Slot), fX7_touchBit_J21 y0_1 y0_2 = q0 → va_P (dC, dI) vwCl [] H → va_D A [] → va_S A s.heap H locs → lv_has ls 4 [(2, .int y0_1)] → W p l e rX7_touchBit s m args below meth c H locs 0 0 Q (F0 m 21 ls [.int y0_2]) := by
      intro y0_2 H locs ls hf hP hD hS hl
      unfold fX7_touchBit_J21 at hf
      refine lv_istore_n (lv' := [(3, .int y0_2), (2, .int y0_1)]) hx hb (dt uX7_touchBit 13 rfl) rfl hl (by decide) rfl (fun ls hl => ?_)
      refine lv_iconst (v := (1 : Int32)) hx hb (dt uX7_touchBit 14 rfl) (by decide) ?_
      refine lv_iload_n hx hb (dt uX7_touchBit 15 rfl) rfl (lv_at hl 1 rfl) ?_
      refine lv_bipush (v := (11 : Int32)) hx hb (dt uX7_touchBit 16 rfl) (by decide) ?_
      refine lv_iload_n hx hb (dt uX7_touchBit 17 rfl) rfl (lv_at hl 1 rfl) ?_
      refine lv_isub hx hb (dt uX7_touchBit 18 rfl) ?_
      refine lv_imul hx hb (dt uX7_touchBit 19 rfl) ?_
      refine lv_iconst (v := (2 : Int32)) hx hb (dt uX7_touchBit 20 rfl) (by decide) ?_
      refine lv_idiv hx hb (dt uX7_touchBit 21 rfl) (by decide) ?_
      refine lv_iload_n hx hb (dt uX7_touchBit 22 rfl) rfl (lv_at hl 0 rfl) ?_
      refine lv_iadd hx hb (dt uX7_touchBit 23 rfl) ?_
      refine lv_iload_n hx hb (dt uX7_touchBit 24 rfl) rfl (lv_at hl 1 rfl) ?_
      refine lv_isub hx hb (dt uX7_touchBit 25 rfl) ?_
      refine lv_iconst (v := (1 : Int32)) hx hb (dt uX7_touchBit 26 rfl) (by decide) ?_
      refine lv_isub hx hb (dt uX7_touchBit 27 rfl) ?_
      refine lv_ishl hx hb (dt uX7_touchBit 28 rfl) ?_
      subst hf
      rw [hQ]
      exact vret_i C hP hD hS (dt uX7_touchBit 29 rfl)
    refine lv_icmp_ge (tgt := 20) hx hb (dt uX7_touchBit 9 rfl) (by decide) (fun c_3 => ?_) (fun c_3 => ?_)
    · have hf := vif_t c_3 hf
      refine lv_iload_n hx hb (dt uX7_touchBit 12 rfl) rfl (lv_at hl 1 rfl) ?_
      exact hJ21 p1 _ _ _ hf hP hD hS (lv_sub hl [0] rfl)
    · have hf := vif_f c_3 hf
      refine lv_iload_n hx hb (dt uX7_touchBit 10 rfl) rfl (lv_at hl 2 rfl) ?_
      refine lv_goto (tgt := 21) hx hb (dt uX7_touchBit 11 rfl) (by decide) ?_
      exact hJ21 p2 _ _ _ hf hP hD hS (lv_sub hl [0] rfl)
  refine lv_icmp_ge (tgt := 9) hx hb (dt uX7_touchBit 2 rfl) (by decide) (fun c_4 => ?_) (fun c_4 => ?_)
  · have hf := vif_t c_4 hf
    refine lv_iload_n hx hb (dt uX7_touchBit 5 rfl) rfl (lv_at hl 1 rfl) ?_
    exact hJ10 p2 _ _ _ hf hP hD hS (lv_sub hl [0, 1] rfl)
  · have hf := vif_f c_4 hf
    refine lv_iload_n hx hb (dt uX7_touchBit 3 rfl) rfl (lv_at hl 0 rfl) ?_
    refine lv_goto (tgt := 10) hx hb (dt uX7_touchBit 4 rfl) (by decide) ?_
    exact hJ10 p1 _ _ _ hf hP hD hS (lv_sub hl [0, 1] rfl)
abbrev rX5_readTouch : Room := { frames := 3, cells := 0, slots := 0, locals := 64 }
abbrev wX5_readTouch : List Cond := Cond.code yX5_readTouch cX5_readTouch 3 (some .boolean) :: VT
set_option maxHeartbeats 4000000 in
set_option maxRecDepth 100000 in
theorem kX5_readTouch (ad0 : Nat) (ad_bytes : Nat) (ad_p1 : Nat) (ad_p1_a : Nat) (ad_p1_b : Nat) (v_length : Int32) (v_place : Int32) (v_token : Int32) (v_begin : Int32) (v_value : Int32) (a_bytes : Nat → Int32) (v_p1_size : Int32) (v_p1_touches : Int32) (v_p1_one : Int32) (N : Nat) (q0 : (Int32 × Int32 × Int32 × Int32 × Int32 × Int32)) (hf : fX5_readTouch N a_bytes v_length v_place v_token v_begin v_value v_p1_size v_p1_touches = some q0) : Kz l yX5_readTouch wX5_readTouch rX5_readTouch (dC, dI) (vTy cI cJ cB cZ) [.ref ad0, .ref ad_p1] [(ad0, oX5 ad_bytes v_length v_place v_token v_begin v_value), (ad_bytes, .inl (cI, 150, .inl a_bytes)), (ad_p1, oX0 ad_p1_a ad_p1_b v_p1_size v_p1_touches v_p1_one)] [(ad0, oX5 ad_bytes v_length q0.2.1 q0.2.2.1 q0.2.2.2.1 q0.2.2.2.2.1), (ad_bytes, .inl (cI, 150, .inl a_bytes)), (ad_p1, oX0 ad_p1_a ad_p1_b v_p1_size q0.2.2.2.2.2 v_p1_one)] q0.1 := by
  refine Kz.mk (cc := cX5_readTouch) (maxL := 3) (ret := some .boolean) (by decide) (Nat.le_of_ble_eq_true rfl) ?_
  intro p e s m args below meth c A Q H locs C hQ hP hD hS ls hl
  obtain ⟨hx, hb, -, hml, hts, hown, -, hK, hN, hA⟩ := id C
  have hown : s.vm.findClass RX5 = some m.cls := hown
  have hl : lv_has ls 3 [(0, .ref ad0), (1, .ref ad_p1)] := hl
  unfold fX5_readTouch at hf
  refine lv_aload_n hx hb (dt uX5_readTouch 0 rfl) rfl (lv_at hl 0 rfl) ?_
  refine lv_aload_n hx hb (dt uX5_readTouch 1 rfl) rfl (lv_at hl 1 rfl) ?_
  refine va_getN (D := (dC, dI)) (ci := 0) (v := .int v_p1_size) (C := RX0) (T := TX0) (N := 5) hx hb hts inU0 hown hK hP 2 rfl rfl 2 (by decide) (nw_6 hN) (fun _ h9 => h9) rfl (dt uX5_readTouch 2 rfl) ?_
  refine lv_iconst (v := (1 : Int32)) hx hb (dt uX5_readTouch 3 rfl) (by decide) ?_
  refine lv_isub hx hb (dt uX5_readTouch 4 rfl) ?_
  obtain ⟨q_1, hq_2, hf⟩ := vbd hf
  refine vk_z [0, 1] (ws2 := [(ad0, oX5 ad_bytes v_length q_1.2.1 q_1.2.2.1 q_1.2.2.2.1 q_1.2.2.2.2), (ad_bytes, .inl (cI, 150, .inl a_bytes)), (ad_p1, oX0 ad_p1_a ad_p1_b v_p1_size v_p1_touches v_p1_one)]) (va_runV (As := [.int (v_p1_size - (1 : Int32))]) (rest := []) ⟨hx, hb, hml, hown, hts⟩ (kX5_readNumber ad0 ad_bytes v_length v_place v_token v_begin v_value a_bytes (v_p1_size - (1 : Int32)) N q_1 hq_2 H.size) (vcwV hts tw_64 tw_65 tw_66 tw_45 tw_63 hd_X5_readNumber rfl rfl ⟨Nat.le_of_ble_eq_true rfl, Nat.le_of_ble_eq_true rfl⟩) (vpreV hK hN hP hD [0, 1] rfl (by decide) (ci := 5) (q0 := 0) rfl rfl) rfl rfl hl.1 rfl (lv_room (Nat.le_of_ble_eq_true rfl)) (dt uX5_readTouch 5 rfl) ⟨Nat.zero_le _, Nat.zero_le _⟩) hA hP hD hS rfl (by decide) rfl rfl (fun hz_3 H locs hP hD hS => ?_)
  refine lv_if_ne (tgt := 15) hx hb (dt uX5_readTouch 6 rfl) (by decide) (fun c_4 => ?_) (fun c_4 => ?_)
  · have hf := vif_f c_4 hf
    refine lv_aload_n hx hb (dt uX5_readTouch 9 rfl) rfl (lv_at hl 0 rfl) ?_
    refine va_get (D := (dC, dI)) (ci := 5) (v := .int q_1.2.2.2.2) (C := RX5) (T := TX5) (N := 6) hx hb hts inU5 hown hK hP 0 rfl rfl 5 (by decide) (hts _ tw_54) (fun _ h9 => h9) rfl (dt uX5_readTouch 10 rfl) ?_
    refine lv_istore_n (lv' := [(2, .int q_1.2.2.2.2), (0, .ref ad0), (1, .ref ad_p1)]) hx hb (dt uX5_readTouch 11 rfl) rfl hl (by decide) rfl (fun ls hl => ?_)
    refine lv_aload_n hx hb (dt uX5_readTouch 12 rfl) rfl (lv_at hl 1 rfl) ?_
    refine lv_aload_n hx hb (dt uX5_readTouch 13 rfl) rfl (lv_at hl 2 rfl) ?_
    refine va_getN (D := (dC, dI)) (ci := 0) (v := .int v_p1_size) (C := RX0) (T := TX0) (N := 5) hx hb hts inU0 hown hK hP 2 rfl rfl 2 (by decide) (nw_6 hN) (fun _ h9 => h9) rfl (dt uX5_readTouch 14 rfl) ?_
    refine lv_iconst (v := (1 : Int32)) hx hb (dt uX5_readTouch 15 rfl) (by decide) ?_
    refine lv_isub hx hb (dt uX5_readTouch 16 rfl) ?_
    obtain ⟨q_5, hq_6, hf⟩ := vbd hf
    refine vk_z [0, 1] (ws2 := [(ad0, oX5 ad_bytes v_length q_5.2.1 q_5.2.2.1 q_5.2.2.2.1 q_5.2.2.2.2), (ad_bytes, .inl (cI, 150, .inl a_bytes)), (ad_p1, oX0 ad_p1_a ad_p1_b v_p1_size v_p1_touches v_p1_one)]) (va_runV (As := [.int (v_p1_size - (1 : Int32))]) (rest := []) ⟨hx, hb, hml, hown, hts⟩ (kX5_readNumber ad0 ad_bytes v_length q_1.2.1 q_1.2.2.1 q_1.2.2.2.1 q_1.2.2.2.2 a_bytes (v_p1_size - (1 : Int32)) N q_5 hq_6 H.size) (vcwV hts tw_64 tw_65 tw_66 tw_45 tw_63 hd_X5_readNumber rfl rfl ⟨Nat.le_of_ble_eq_true rfl, Nat.le_of_ble_eq_true rfl⟩) (vpreV hK hN hP hD [0, 1] rfl (by decide) (ci := 5) (q0 := 0) rfl rfl) rfl rfl hl.1 rfl (lv_room (Nat.le_of_ble_eq_true rfl)) (dt uX5_readTouch 17 rfl) ⟨Nat.zero_le _, Nat.zero_le _⟩) hA hP hD hS rfl (by decide) rfl rfl (fun hz_7 H locs hP hD hS => ?_)
    refine lv_if_eq (tgt := 41) hx hb (dt uX5_readTouch 18 rfl) (by decide) (fun c_8 => ?_) (fun c_8 => ?_)
    · have hf := vif_t c_8 hf
      refine lv_iconst (v := (0 : Int32)) hx hb (dt uX5_readTouch 23 rfl) (by decide) ?_
      have hf := Option.some.inj hf
      subst hf
      rw [hQ]
      exact vret_z C hP hD hS (dt uX5_readTouch 24 rfl) (Or.inl rfl)
    · have hf := vif_f c_8 hf
      refine lv_aload_n hx hb (dt uX5_readTouch 19 rfl) rfl (lv_at hl 1 rfl) ?_
      refine va_get (D := (dC, dI)) (ci := 5) (v := .int q_5.2.2.2.2) (C := RX5) (T := TX5) (N := 6) hx hb hts inU5 hown hK hP 0 rfl rfl 5 (by decide) (hts _ tw_54) (fun _ h9 => h9) rfl (dt uX5_readTouch 20 rfl) ?_
      refine lv_iload_n hx hb (dt uX5_readTouch 21 rfl) rfl (lv_at hl 0 rfl) ?_
      refine lv_icmp_ne (tgt := 43) hx hb (dt uX5_readTouch 22 rfl) (by decide) (fun c_9 => ?_) (fun c_9 => ?_)
      · have hf := vif_f c_9 hf
        refine lv_aload_n hx hb (dt uX5_readTouch 25 rfl) rfl (lv_at hl 2 rfl) ?_
        refine lv_dup hx hb (dt uX5_readTouch 26 rfl) rfl ?_
        refine va_getN (D := (dC, dI)) (ci := 0) (v := .int v_p1_touches) (C := RX0) (T := TX0) (N := 5) hx hb hts inU0 hown hK hP 2 rfl rfl 3 (by decide) (nw_9 hN) (fun _ h9 => h9) rfl (dt uX5_readTouch 27 rfl) ?_
        refine lv_iload_n hx hb (dt uX5_readTouch 28 rfl) rfl (lv_at hl 0 rfl) ?_
        refine lv_aload_n hx hb (dt uX5_readTouch 29 rfl) rfl (lv_at hl 1 rfl) ?_
        refine va_get (D := (dC, dI)) (ci := 5) (v := .int q_5.2.2.2.2) (C := RX5) (T := TX5) (N := 6) hx hb hts inU5 hown hK hP 0 rfl rfl 5 (by decide) (hts _ tw_54) (fun _ h9 => h9) rfl (dt uX5_readTouch 30 rfl) ?_
        refine vk_i0 [] (va_runSN (As := [.int q_1.2.2.2.2, .int q_5.2.2.2.2]) (rest := [.int v_p1_touches, .ref ad_p1]) ⟨hx, hb, hml, hown, hts⟩ (kX7_touchBit q_1.2.2.2.2 q_5.2.2.2.2 _ rfl H.size) (vcwSN hts (nm_36 hN) tw_76 tw_41 tw_75 hd_X7_touchBit rfl rfl ⟨Nat.le_of_ble_eq_true rfl, Nat.le_of_ble_eq_true rfl⟩) (vpreS hK hN hP hD [] rfl (by decide)) rfl rfl hl.1 rfl (lv_room (Nat.le_of_ble_eq_true rfl)) (dt uX5_readTouch 31 rfl) ⟨Nat.zero_le _, Nat.zero_le _⟩) hA hP hD hS rfl (by decide) (fun H locs hP hD hS => ?_)
        refine lv_ior hx hb (dt uX5_readTouch 32 rfl) ?_
        refine va_putN (D := (dC, dI)) (ci := 0) (v := .int (v_p1_touches ||| (fX7_touchBit q_1.2.2.2.2 q_5.2.2.2.2))) (ty := .int) (C := RX0) (T := TX0) (N := 5) hx hb hts inU0 tyX0 tyX0_ok nmX0 hown hK hP hD hS 2 rfl rfl 3 (by decide) (nw_9 hN) (fun _ h9 => h9) rfl (by decide +kernel) rfl rfl (Nat.le_of_ble_eq_true rfl) (dt uX5_readTouch 33 rfl) (fun H locs hP hD hS => ?_)
        have hP : va_P (dC, dI) vwCl [(ad0, oX5 ad_bytes v_length q_5.2.1 q_5.2.2.1 q_5.2.2.2.1 q_5.2.2.2.2), (ad_bytes, .inl (cI, 150, .inl a_bytes)), (ad_p1, oX0 ad_p1_a ad_p1_b v_p1_size (v_p1_touches ||| (fX7_touchBit q_1.2.2.2.2 q_5.2.2.2.2)) v_p1_one)] H := hP
        have hD : va_D A [(ad0, oX5 ad_bytes v_length q_5.2.1 q_5.2.2.1 q_5.2.2.2.1 q_5.2.2.2.2), (ad_bytes, .inl (cI, 150, .inl a_bytes)), (ad_p1, oX0 ad_p1_a ad_p1_b v_p1_size (v_p1_touches ||| (fX7_touchBit q_1.2.2.2.2 q_5.2.2.2.2)) v_p1_one)] := hD
        refine lv_aload_n hx hb (dt uX5_readTouch 34 rfl) rfl (lv_at hl 1 rfl) ?_
        obtain ⟨q_10, hq_11, hf⟩ := vbd hf
        refine vk_z [0, 1] (ws2 := [(ad0, oX5 ad_bytes v_length q_10.2.1 q_10.2.2.1 q_10.2.2.2.1 q_10.2.2.2.2), (ad_bytes, .inl (cI, 150, .inl a_bytes)), (ad_p1, oX0 ad_p1_a ad_p1_b v_p1_size (v_p1_touches ||| (fX7_touchBit q_1.2.2.2.2 q_5.2.2.2.2)) v_p1_one)]) (va_runV (As := []) (rest := []) ⟨hx, hb, hml, hown, hts⟩ (kX5_readSemicolon ad0 ad_bytes v_length q_5.2.1 q_5.2.2.1 q_5.2.2.2.1 q_5.2.2.2.2 a_bytes N q_10 hq_11 H.size) (vcwV hts tw_72 tw_73 tw_74 tw_45 tw_71 hd_X5_readSemicolon rfl rfl ⟨Nat.le_of_ble_eq_true rfl, Nat.le_of_ble_eq_true rfl⟩) (vpreV hK hN hP hD [0, 1] rfl (by decide) (ci := 5) (q0 := 0) rfl rfl) rfl rfl hl.1 rfl (lv_room (Nat.le_of_ble_eq_true rfl)) (dt uX5_readTouch 35 rfl) ⟨Nat.zero_le _, Nat.zero_le _⟩) hA hP hD hS rfl (by decide) rfl rfl (fun hz_12 H locs hP hD hS => ?_)
        have hf := Option.some.inj hf
        subst hf
        rw [hQ]
        exact vret_z C hP hD hS (dt uX5_readTouch 36 rfl) hz_12
      · have hf := vif_t c_9 hf
        refine lv_iconst (v := (0 : Int32)) hx hb (dt uX5_readTouch 23 rfl) (by decide) ?_
        have hf := Option.some.inj hf
        subst hf
        rw [hQ]
        exact vret_z C hP hD hS (dt uX5_readTouch 24 rfl) (Or.inl rfl)
  · have hf := vif_t c_4 hf
    refine lv_iconst (v := (0 : Int32)) hx hb (dt uX5_readTouch 7 rfl) (by decide) ?_
    have hf := Option.some.inj hf
    subst hf
    rw [hQ]
    exact vret_z C hP hD hS (dt uX5_readTouch 8 rfl) (Or.inl rfl)
abbrev rX5_readOne : Room := { frames := 3, cells := 0, slots := 0, locals := 64 }
abbrev wX5_readOne : List Cond := Cond.code yX5_readOne cX5_readOne 2 (some .boolean) :: VT
set_option maxHeartbeats 4000000 in
set_option maxRecDepth 100000 in
theorem kX5_readOne (ad0 : Nat) (ad_bytes : Nat) (ad_p1 : Nat) (ad_p1_a : Nat) (ad_p1_b : Nat) (v_length : Int32) (v_place : Int32) (v_token : Int32) (v_begin : Int32) (v_value : Int32) (a_bytes : Nat → Int32) (v_p1_size : Int32) (v_p1_touches : Int32) (v_p1_one : Int32) (N : Nat) (q0 : (Int32 × Int32 × Int32 × Int32 × Int32 × Int32)) (hf : fX5_readOne N a_bytes v_length v_place v_token v_begin v_value v_p1_size v_p1_one = some q0) : Kz l yX5_readOne wX5_readOne rX5_readOne (dC, dI) (vTy cI cJ cB cZ) [.ref ad0, .ref ad_p1] [(ad0, oX5 ad_bytes v_length v_place v_token v_begin v_value), (ad_bytes, .inl (cI, 150, .inl a_bytes)), (ad_p1, oX0 ad_p1_a ad_p1_b v_p1_size v_p1_touches v_p1_one)] [(ad0, oX5 ad_bytes v_length q0.2.1 q0.2.2.1 q0.2.2.2.1 q0.2.2.2.2.1), (ad_bytes, .inl (cI, 150, .inl a_bytes)), (ad_p1, oX0 ad_p1_a ad_p1_b v_p1_size v_p1_touches q0.2.2.2.2.2)] q0.1 := by
  refine Kz.mk (cc := cX5_readOne) (maxL := 2) (ret := some .boolean) (by decide) (Nat.le_of_ble_eq_true rfl) ?_
  intro p e s m args below meth c A Q H locs C hQ hP hD hS ls hl
  obtain ⟨hx, hb, -, hml, hts, hown, -, hK, hN, hA⟩ := id C
  have hown : s.vm.findClass RX5 = some m.cls := hown
  have hl : lv_has ls 2 [(0, .ref ad0), (1, .ref ad_p1)] := hl
  unfold fX5_readOne at hf
  refine lv_aload_n hx hb (dt uX5_readOne 0 rfl) rfl (lv_at hl 1 rfl) ?_
  refine va_getN (D := (dC, dI)) (ci := 0) (v := .int v_p1_one) (C := RX0) (T := TX0) (N := 5) hx hb hts inU0 hown hK hP 2 rfl rfl 4 (by decide) (nw_11 hN) (fun _ h9 => h9) rfl (dt uX5_readOne 1 rfl) ?_
  refine lv_bipush (v := (-9 : Int32)) hx hb (dt uX5_readOne 2 rfl) (by decide) ?_
  refine lv_icmp_ne (tgt := 22) hx hb (dt uX5_readOne 3 rfl) (by decide) (fun c_1 => ?_) (fun c_1 => ?_)
  · have hf := vif_f c_1 hf
    refine lv_iconst (v := (0 : Int32)) hx hb (dt uX5_readOne 11 rfl) (by decide) ?_
    have hf := Option.some.inj hf
    subst hf
    rw [hQ]
    exact vret_z C hP hD hS (dt uX5_readOne 12 rfl) (Or.inl rfl)
  · have hf := vif_t c_1 hf
    refine lv_aload_n hx hb (dt uX5_readOne 4 rfl) rfl (lv_at hl 0 rfl) ?_
    refine lv_aload_n hx hb (dt uX5_readOne 5 rfl) rfl (lv_at hl 1 rfl) ?_
    refine va_getN (D := (dC, dI)) (ci := 0) (v := .int v_p1_size) (C := RX0) (T := TX0) (N := 5) hx hb hts inU0 hown hK hP 2 rfl rfl 2 (by decide) (nw_6 hN) (fun _ h9 => h9) rfl (dt uX5_readOne 6 rfl) ?_
    refine lv_iconst (v := (1 : Int32)) hx hb (dt uX5_readOne 7 rfl) (by decide) ?_
    refine lv_isub hx hb (dt uX5_readOne 8 rfl) ?_
    obtain ⟨q_2, hq_3, hf⟩ := vbd hf
    refine vk_z [0, 1] (ws2 := [(ad0, oX5 ad_bytes v_length q_2.2.1 q_2.2.2.1 q_2.2.2.2.1 q_2.2.2.2.2), (ad_bytes, .inl (cI, 150, .inl a_bytes)), (ad_p1, oX0 ad_p1_a ad_p1_b v_p1_size v_p1_touches v_p1_one)]) (va_runV (As := [.int (v_p1_size - (1 : Int32))]) (rest := []) ⟨hx, hb, hml, hown, hts⟩ (kX5_readNumber ad0 ad_bytes v_length v_place v_token v_begin v_value a_bytes (v_p1_size - (1 : Int32)) N q_2 hq_3 H.size) (vcwV hts tw_64 tw_65 tw_66 tw_45 tw_63 hd_X5_readNumber rfl rfl ⟨Nat.le_of_ble_eq_true rfl, Nat.le_of_ble_eq_true rfl⟩) (vpreV hK hN hP hD [0, 1] rfl (by decide) (ci := 5) (q0 := 0) rfl rfl) rfl rfl hl.1 rfl (lv_room (Nat.le_of_ble_eq_true rfl)) (dt uX5_readOne 9 rfl) ⟨Nat.zero_le _, Nat.zero_le _⟩) hA hP hD hS rfl (by decide) rfl rfl (fun hz_4 H locs hP hD hS => ?_)
    refine lv_if_ne (tgt := 24) hx hb (dt uX5_readOne 10 rfl) (by decide) (fun c_5 => ?_) (fun c_5 => ?_)
    · have hf := vif_f c_5 hf
      refine lv_aload_n hx hb (dt uX5_readOne 13 rfl) rfl (lv_at hl 1 rfl) ?_
      refine lv_aload_n hx hb (dt uX5_readOne 14 rfl) rfl (lv_at hl 0 rfl) ?_
      refine va_get (D := (dC, dI)) (ci := 5) (v := .int q_2.2.2.2.2) (C := RX5) (T := TX5) (N := 6) hx hb hts inU5 hown hK hP 0 rfl rfl 5 (by decide) (hts _ tw_54) (fun _ h9 => h9) rfl (dt uX5_readOne 15 rfl) ?_
      refine va_putN (D := (dC, dI)) (ci := 0) (v := .int q_2.2.2.2.2) (ty := .int) (C := RX0) (T := TX0) (N := 5) hx hb hts inU0 tyX0 tyX0_ok nmX0 hown hK hP hD hS 2 rfl rfl 4 (by decide) (nw_11 hN) (fun _ h9 => h9) rfl (by decide +kernel) rfl rfl (Nat.le_of_ble_eq_true rfl) (dt uX5_readOne 16 rfl) (fun H locs hP hD hS => ?_)
      have hP : va_P (dC, dI) vwCl [(ad0, oX5 ad_bytes v_length q_2.2.1 q_2.2.2.1 q_2.2.2.2.1 q_2.2.2.2.2), (ad_bytes, .inl (cI, 150, .inl a_bytes)), (ad_p1, oX0 ad_p1_a ad_p1_b v_p1_size v_p1_touches q_2.2.2.2.2)] H := hP
      have hD : va_D A [(ad0, oX5 ad_bytes v_length q_2.2.1 q_2.2.2.1 q_2.2.2.2.1 q_2.2.2.2.2), (ad_bytes, .inl (cI, 150, .inl a_bytes)), (ad_p1, oX0 ad_p1_a ad_p1_b v_p1_size v_p1_touches q_2.2.2.2.2)] := hD
      refine lv_aload_n hx hb (dt uX5_readOne 17 rfl) rfl (lv_at hl 0 rfl) ?_
      obtain ⟨q_6, hq_7, hf⟩ := vbd hf
      refine vk_z [0, 1] (ws2 := [(ad0, oX5 ad_bytes v_length q_6.2.1 q_6.2.2.1 q_6.2.2.2.1 q_6.2.2.2.2), (ad_bytes, .inl (cI, 150, .inl a_bytes)), (ad_p1, oX0 ad_p1_a ad_p1_b v_p1_size v_p1_touches q_2.2.2.2.2)]) (va_runV (As := []) (rest := []) ⟨hx, hb, hml, hown, hts⟩ (kX5_readSemicolon ad0 ad_bytes v_length q_2.2.1 q_2.2.2.1 q_2.2.2.2.1 q_2.2.2.2.2 a_bytes N q_6 hq_7 H.size) (vcwV hts tw_72 tw_73 tw_74 tw_45 tw_71 hd_X5_readSemicolon rfl rfl ⟨Nat.le_of_ble_eq_true rfl, Nat.le_of_ble_eq_true rfl⟩) (vpreV hK hN hP hD [0, 1] rfl (by decide) (ci := 5) (q0 := 0) rfl rfl) rfl rfl hl.1 rfl (lv_room (Nat.le_of_ble_eq_true rfl)) (dt uX5_readOne 18 rfl) ⟨Nat.zero_le _, Nat.zero_le _⟩) hA hP hD hS rfl (by decide) rfl rfl (fun hz_8 H locs hP hD hS => ?_)
      have hf := Option.some.inj hf
      subst hf
      rw [hQ]
      exact vret_z C hP hD hS (dt uX5_readOne 19 rfl) hz_8
    · have hf := vif_t c_5 hf
      refine lv_iconst (v := (0 : Int32)) hx hb (dt uX5_readOne 11 rfl) (by decide) ?_
      have hf := Option.some.inj hf
      subst hf
      rw [hQ]
      exact vret_z C hP hD hS (dt uX5_readOne 12 rfl) (Or.inl rfl)
abbrev rX5_readItem : Room := { frames := 4, cells := 0, slots := 0, locals := 86 }
abbrev wX5_readItem : List Cond := Cond.code yX5_readItem cX5_readItem 2 (some .boolean) :: VT
set_option maxHeartbeats 4000000 in
set_option maxRecDepth 100000 in
theorem kX5_readItem (ad0 : Nat) (ad_bytes : Nat) (ad_p1 : Nat) (ad_p1_a : Nat) (ad_p1_b : Nat) (v_length : Int32) (v_place : Int32) (v_token : Int32) (v_begin : Int32) (v_value : Int32) (a_bytes : Nat → Int32) (v_p1_size : Int32) (v_p1_touches : Int32) (v_p1_one : Int32) (a_p1_a : Nat → Int32) (a_p1_b : Nat → Int32) (N : Nat) (q0 : (Int32 × Int32 × Int32 × Int32 × Int32 × (Nat → Int32) × (Nat → Int32) × Int32 × Int32 × Int32)) (hf : fX5_readItem N a_bytes v_length v_place v_token v_begin v_value a_p1_a a_p1_b v_p1_size v_p1_touches v_p1_one = some q0) : Kz l yX5_readItem wX5_readItem rX5_readItem (dC, dI) (vTy cI cJ cB cZ) [.ref ad0, .ref ad_p1] [(ad0, oX5 ad_bytes v_length v_place v_token v_begin v_value), (ad_bytes, .inl (cI, 150, .inl a_bytes)), (ad_p1, oX0 ad_p1_a ad_p1_b v_p1_size v_p1_touches v_p1_one), (ad_p1_a, .inl (cI, 6, .inl a_p1_a)), (ad_p1_b, .inl (cI, 6, .inl a_p1_b))] [(ad0, oX5 ad_bytes v_length q0.2.1 q0.2.2.1 q0.2.2.2.1 q0.2.2.2.2.1), (ad_bytes, .inl (cI, 150, .inl a_bytes)), (ad_p1, oX0 ad_p1_a ad_p1_b q0.2.2.2.2.2.2.2.1 q0.2.2.2.2.2.2.2.2.1 q0.2.2.2.2.2.2.2.2.2), (ad_p1_a, .inl (cI, 6, .inl q0.2.2.2.2.2.1)), (ad_p1_b, .inl (cI, 6, .inl q0.2.2.2.2.2.2.1))] q0.1 := by
  refine Kz.mk (cc := cX5_readItem) (maxL := 2) (ret := some .boolean) (by decide) (Nat.le_of_ble_eq_true rfl) ?_
  intro p e s m args below meth c A Q H locs C hQ hP hD hS ls hl
  obtain ⟨hx, hb, -, hml, hts, hown, -, hK, hN, hA⟩ := id C
  have hown : s.vm.findClass RX5 = some m.cls := hown
  have hl : lv_has ls 2 [(0, .ref ad0), (1, .ref ad_p1)] := hl
  unfold fX5_readItem at hf
  refine lv_aload_n hx hb (dt uX5_readItem 0 rfl) rfl (lv_at hl 0 rfl) ?_
  refine va_get (D := (dC, dI)) (ci := 5) (v := .int v_token) (C := RX5) (T := TX5) (N := 6) hx hb hts inU5 hown hK hP 0 rfl rfl 3 (by decide) (hts _ tw_44) (fun _ h9 => h9) rfl (dt uX5_readItem 1 rfl) ?_
  refine lv_iconst (v := (1 : Int32)) hx hb (dt uX5_readItem 2 rfl) (by decide) ?_
  refine lv_icmp_eq (tgt := 10) hx hb (dt uX5_readItem 3 rfl) (by decide) (fun c_1 => ?_) (fun c_1 => ?_)
  · have hf := vif_t c_1 hf
    refine lv_aload_n hx hb (dt uX5_readItem 6 rfl) rfl (lv_at hl 0 rfl) ?_
    refine va_get (D := (dC, dI)) (ci := 5) (v := .int v_value) (C := RX5) (T := TX5) (N := 6) hx hb hts inU5 hown hK hP 0 rfl rfl 5 (by decide) (hts _ tw_54) (fun _ h9 => h9) rfl (dt uX5_readItem 7 rfl) ?_
    by_cases c_2 : v_value = (98 : Int32)
    · have hf := vif_t c_2 hf
      refine lv_lookup (off := 34) (tgt := 48) hx hb (dt uX5_readItem 8 rfl) (by decide) (by rw [c_2]; rfl) (by decide) ?_
      refine lv_aload_n hx hb (dt uX5_readItem 9 rfl) rfl (lv_at hl 0 rfl) ?_
      refine lv_aload_n hx hb (dt uX5_readItem 10 rfl) rfl (lv_at hl 1 rfl) ?_
      obtain ⟨q_3, hq_4, hf⟩ := vbd hf
      refine vk_z [0, 1, 2, 3, 4] (ws2 := [(ad0, oX5 ad_bytes v_length q_3.2.1 q_3.2.2.1 q_3.2.2.2.1 q_3.2.2.2.2.1), (ad_bytes, .inl (cI, 150, .inl a_bytes)), (ad_p1, oX0 ad_p1_a ad_p1_b q_3.2.2.2.2.2.2.2 v_p1_touches v_p1_one), (ad_p1_a, .inl (cI, 6, .inl q_3.2.2.2.2.2.1)), (ad_p1_b, .inl (cI, 6, .inl q_3.2.2.2.2.2.2.1))]) (va_runV (As := [.ref ad_p1]) (rest := []) ⟨hx, hb, hml, hown, hts⟩ (kX5_readBook ad0 ad_bytes ad_p1 ad_p1_a ad_p1_b v_length v_place v_token v_begin v_value a_bytes v_p1_size v_p1_touches v_p1_one a_p1_a a_p1_b N q_3 hq_4 H.size) (vcwV hts tw_78 tw_79 tw_80 tw_45 tw_77 hd_X5_readBook rfl rfl ⟨Nat.le_of_ble_eq_true rfl, Nat.le_of_ble_eq_true rfl⟩) (vpreV hK hN hP hD [0, 1, 2, 3, 4] rfl (by decide) (ci := 5) (q0 := 0) rfl rfl) rfl rfl hl.1 rfl (lv_room (Nat.le_of_ble_eq_true rfl)) (dt uX5_readItem 11 rfl) ⟨Nat.zero_le _, Nat.zero_le _⟩) hA hP hD hS rfl (by decide) rfl rfl (fun hz_5 H locs hP hD hS => ?_)
      have hf := Option.some.inj hf
      subst hf
      rw [hQ]
      exact vret_z C hP hD hS (dt uX5_readItem 12 rfl) hz_5
    have hf := vif_f c_2 hf
    by_cases c_6 : v_value = (111 : Int32)
    · have hf := vif_t c_6 hf
      refine lv_lookup (off := 46) (tgt := 60) hx hb (dt uX5_readItem 8 rfl) (by decide) (by rw [c_6]; rfl) (by decide) ?_
      refine lv_aload_n hx hb (dt uX5_readItem 17 rfl) rfl (lv_at hl 0 rfl) ?_
      refine lv_aload_n hx hb (dt uX5_readItem 18 rfl) rfl (lv_at hl 1 rfl) ?_
      obtain ⟨q_7, hq_8, hf⟩ := vbd hf
      refine vk_z [0, 1, 2] (ws2 := [(ad0, oX5 ad_bytes v_length q_7.2.1 q_7.2.2.1 q_7.2.2.2.1 q_7.2.2.2.2.1), (ad_bytes, .inl (cI, 150, .inl a_bytes)), (ad_p1, oX0 ad_p1_a ad_p1_b v_p1_size v_p1_touches q_7.2.2.2.2.2), (ad_p1_a, .inl (cI, 6, .inl a_p1_a)), (ad_p1_b, .inl (cI, 6, .inl a_p1_b))]) (va_runV (As := [.ref ad_p1]) (rest := []) ⟨hx, hb, hml, hown, hts⟩ (kX5_readOne ad0 ad_bytes ad_p1 ad_p1_a ad_p1_b v_length v_place v_token v_begin v_value a_bytes v_p1_size v_p1_touches v_p1_one N q_7 hq_8 H.size) (vcwV hts tw_82 tw_83 tw_84 tw_45 tw_81 hd_X5_readOne rfl rfl ⟨Nat.le_of_ble_eq_true rfl, Nat.le_of_ble_eq_true rfl⟩) (vpreV hK hN hP hD [0, 1, 2] rfl (by decide) (ci := 5) (q0 := 0) rfl rfl) rfl rfl hl.1 rfl (lv_room (Nat.le_of_ble_eq_true rfl)) (dt uX5_readItem 19 rfl) ⟨Nat.zero_le _, Nat.zero_le _⟩) hA hP hD hS rfl (by decide) rfl rfl (fun hz_9 H locs hP hD hS => ?_)
      have hf := Option.some.inj hf
      subst hf
      rw [hQ]
      exact vret_z C hP hD hS (dt uX5_readItem 20 rfl) hz_9
    have hf := vif_f c_6 hf
    by_cases c_10 : v_value = (116 : Int32)
    · have hf := vif_t c_10 hf
      refine lv_lookup (off := 40) (tgt := 54) hx hb (dt uX5_readItem 8 rfl) (by decide) (by rw [c_10]; rfl) (by decide) ?_
      refine lv_aload_n hx hb (dt uX5_readItem 13 rfl) rfl (lv_at hl 0 rfl) ?_
      refine lv_aload_n hx hb (dt uX5_readItem 14 rfl) rfl (lv_at hl 1 rfl) ?_
      obtain ⟨q_11, hq_12, hf⟩ := vbd hf
      refine vk_z [0, 1, 2] (ws2 := [(ad0, oX5 ad_bytes v_length q_11.2.1 q_11.2.2.1 q_11.2.2.2.1 q_11.2.2.2.2.1), (ad_bytes, .inl (cI, 150, .inl a_bytes)), (ad_p1, oX0 ad_p1_a ad_p1_b v_p1_size q_11.2.2.2.2.2 v_p1_one), (ad_p1_a, .inl (cI, 6, .inl a_p1_a)), (ad_p1_b, .inl (cI, 6, .inl a_p1_b))]) (va_runV (As := [.ref ad_p1]) (rest := []) ⟨hx, hb, hml, hown, hts⟩ (kX5_readTouch ad0 ad_bytes ad_p1 ad_p1_a ad_p1_b v_length v_place v_token v_begin v_value a_bytes v_p1_size v_p1_touches v_p1_one N q_11 hq_12 H.size) (vcwV hts tw_86 tw_87 tw_88 tw_45 tw_85 hd_X5_readTouch rfl rfl ⟨Nat.le_of_ble_eq_true rfl, Nat.le_of_ble_eq_true rfl⟩) (vpreV hK hN hP hD [0, 1, 2] rfl (by decide) (ci := 5) (q0 := 0) rfl rfl) rfl rfl hl.1 rfl (lv_room (Nat.le_of_ble_eq_true rfl)) (dt uX5_readItem 15 rfl) ⟨Nat.zero_le _, Nat.zero_le _⟩) hA hP hD hS rfl (by decide) rfl rfl (fun hz_13 H locs hP hD hS => ?_)
      have hf := Option.some.inj hf
      subst hf
      rw [hQ]
      exact vret_z C hP hD hS (dt uX5_readItem 16 rfl) hz_13
    have hf := vif_f c_10 hf
    have e_14 : ∀ q ∈ ([(98, 34), (111, 46), (116, 40)] : List (Int × Int)), (v_value).toInt ≠ q.1 := by
      intro q hq
      simp only [List.mem_cons, List.not_mem_nil, or_false] at hq
      rcases hq with rfl | rfl | rfl
      · exact vne_toInt c_2
      · exact vne_toInt c_6
      · exact vne_toInt c_10
    refine lv_lookup (off := 52) (tgt := 66) hx hb (dt uX5_readItem 8 rfl) (by decide) (vlook_out e_14) (by decide) ?_
    refine lv_iconst (v := (0 : Int32)) hx hb (dt uX5_readItem 21 rfl) (by decide) ?_
    have hf := Option.some.inj hf
    subst hf
    rw [hQ]
    exact vret_z C hP hD hS (dt uX5_readItem 22 rfl) (Or.inl rfl)
  · have hf := vif_f c_1 hf
    refine lv_iconst (v := (0 : Int32)) hx hb (dt uX5_readItem 4 rfl) (by decide) ?_
    have hf := Option.some.inj hf
    subst hf
    rw [hQ]
    exact vret_z C hP hD hS (dt uX5_readItem 5 rfl) (Or.inl rfl)
abbrev rX5_readItems : Room := { frames := 5, cells := 0, slots := 0, locals := 107 }
abbrev wX5_readItems : List Cond := Cond.code yX5_readItems cX5_readItems 3 (some .int) :: VT
set_option maxHeartbeats 4000000 in
set_option maxRecDepth 100000 in
theorem kX5_readItems (ad0 : Nat) (ad_bytes : Nat) (ad_p1 : Nat) (ad_p1_a : Nat) (ad_p1_b : Nat) (v_length : Int32) (v_place : Int32) (v_token : Int32) (v_begin : Int32) (v_value : Int32) (a_bytes : Nat → Int32) (v_p1_size : Int32) (v_p1_touches : Int32) (v_p1_one : Int32) (a_p1_a : Nat → Int32) (a_p1_b : Nat → Int32) (N : Nat) (q0 : (Int32 × Int32 × Int32 × Int32 × Int32 × (Nat → Int32) × (Nat → Int32) × Int32 × Int32 × Int32)) (hf : fX5_readItems N a_bytes v_length v_place v_token v_begin v_value a_p1_a a_p1_b v_p1_size v_p1_touches v_p1_one = some q0) : Ki l yX5_readItems wX5_readItems rX5_readItems (dC, dI) (vTy cI cJ cB cZ) [.ref ad0, .ref ad_p1] [(ad0, oX5 ad_bytes v_length v_place v_token v_begin v_value), (ad_bytes, .inl (cI, 150, .inl a_bytes)), (ad_p1, oX0 ad_p1_a ad_p1_b v_p1_size v_p1_touches v_p1_one), (ad_p1_a, .inl (cI, 6, .inl a_p1_a)), (ad_p1_b, .inl (cI, 6, .inl a_p1_b))] [(ad0, oX5 ad_bytes v_length q0.2.1 q0.2.2.1 q0.2.2.2.1 q0.2.2.2.2.1), (ad_bytes, .inl (cI, 150, .inl a_bytes)), (ad_p1, oX0 ad_p1_a ad_p1_b q0.2.2.2.2.2.2.2.1 q0.2.2.2.2.2.2.2.2.1 q0.2.2.2.2.2.2.2.2.2), (ad_p1_a, .inl (cI, 6, .inl q0.2.2.2.2.2.1)), (ad_p1_b, .inl (cI, 6, .inl q0.2.2.2.2.2.2.1))] q0.1 := by
  refine Ki.mk (cc := cX5_readItems) (maxL := 3) (ret := some .int) (by decide) (Nat.le_of_ble_eq_true rfl) ?_
  intro p e s m args below meth c A Q H locs C hQ hP hD hS ls hl
  obtain ⟨hx, hb, -, hml, hts, hown, -, hK, hN, hA⟩ := id C
  have hown : s.vm.findClass RX5 = some m.cls := hown
  have hl : lv_has ls 3 [(0, .ref ad0), (1, .ref ad_p1)] := hl
  unfold fX5_readItems at hf
  refine lv_aload_n hx hb (dt uX5_readItems 0 rfl) rfl (lv_at hl 0 rfl) ?_
  refine lv_iconst (v := (0 : Int32)) hx hb (dt uX5_readItems 1 rfl) (by decide) ?_
  refine va_put (D := (dC, dI)) (ci := 5) (v := .int (0 : Int32)) (ty := .int) (C := RX5) (T := TX5) (N := 6) hx hb hts inU5 tyX5 tyX5_ok nmX5 hown hK hP hD hS 0 rfl rfl 2 (by decide) (hts _ tw_39) (fun _ h9 => h9) rfl (by decide +kernel) rfl rfl (Nat.le_of_ble_eq_true rfl) (dt uX5_readItems 2 rfl) (fun H locs hP hD hS => ?_)
  have hP : va_P (dC, dI) vwCl [(ad0, oX5 ad_bytes v_length (0 : Int32) v_token v_begin v_value), (ad_bytes, .inl (cI, 150, .inl a_bytes)), (ad_p1, oX0 ad_p1_a ad_p1_b v_p1_size v_p1_touches v_p1_one), (ad_p1_a, .inl (cI, 6, .inl a_p1_a)), (ad_p1_b, .inl (cI, 6, .inl a_p1_b))] H := hP
  have hD : va_D A [(ad0, oX5 ad_bytes v_length (0 : Int32) v_token v_begin v_value), (ad_bytes, .inl (cI, 150, .inl a_bytes)), (ad_p1, oX0 ad_p1_a ad_p1_b v_p1_size v_p1_touches v_p1_one), (ad_p1_a, .inl (cI, 6, .inl a_p1_a)), (ad_p1_b, .inl (cI, 6, .inl a_p1_b))] := hD
  refine lv_iconst (v := (0 : Int32)) hx hb (dt uX5_readItems 3 rfl) (by decide) ?_
  refine lv_istore_n (lv' := [(2, .int (0 : Int32)), (0, .ref ad0), (1, .ref ad_p1)]) hx hb (dt uX5_readItems 4 rfl) rfl hl (by decide) rfl (fun ls hl => ?_)
  have hL7 : ∀ (n7 : Nat), ∀ (x2_1 : Int32) (w_2 : Int32) (w_3 : Int32) (w_4 : Int32) (w_5 : Int32) (w_6 : Nat → Int32) (w_7 : Nat → Int32) (w_8 : Int32) (w_9 : Int32) (w_10 : Int32) (H : Heap) (locs : List Loc) (ls : Array Slot), fX5_readItems_L7 N a_bytes v_length n7 x2_1 w_2 w_3 w_4 w_5 w_6 w_7 w_8 w_9 w_10 = some q0 → va_P (dC, dI) vwCl [(ad0, oX5 ad_bytes v_length w_2 w_3 w_4 w_5), (ad_bytes, .inl (cI, 150, .inl a_bytes)), (ad_p1, oX0 ad_p1_a ad_p1_b w_8 w_9 w_10), (ad_p1_a, .inl (cI, 6, .inl w_6)), (ad_p1_b, .inl (cI, 6, .inl w_7))] H → va_D A [(ad0, oX5 ad_bytes v_length w_2 w_3 w_4 w_5), (ad_bytes, .inl (cI, 150, .inl a_bytes)), (ad_p1, oX0 ad_p1_a ad_p1_b w_8 w_9 w_10), (ad_p1_a, .inl (cI, 6, .inl w_6)), (ad_p1_b, .inl (cI, 6, .inl w_7))] → va_S A s.heap H locs → lv_has ls 3 [(0, .ref ad0), (1, .ref ad_p1), (2, .int x2_1)] → W p l e rX5_readItems s m args below meth c H locs 0 0 Q (F0 m 7 ls []) := by
    intro n7
    induction n7 with
    | zero => intro x2_1 w_2 w_3 w_4 w_5 w_6 w_7 w_8 w_9 w_10 H locs ls hf hP hD hS hl; cases hf
    | succ n7 ih7 =>
      intro x2_1 w_2 w_3 w_4 w_5 w_6 w_7 w_8 w_9 w_10 H locs ls hf hP hD hS hl
      rw [fX5_readItems_L7] at hf
      refine lv_iload_n hx hb (dt uX5_readItems 5 rfl) rfl (lv_at hl 2 rfl) ?_
      refine lv_sipush (v := (150 : Int32)) hx hb (dt uX5_readItems 6 rfl) (by decide) ?_
      refine lv_icmp_gt (tgt := 44) hx hb (dt uX5_readItems 7 rfl) (by decide) (fun c_11 => ?_) (fun c_11 => ?_)
      · have hf := vif_t c_11 hf
        refine lv_bipush (v := (-9 : Int32)) hx hb (dt uX5_readItems 23 rfl) (by decide) ?_
        have hf := Option.some.inj hf
        subst hf
        rw [hQ]
        exact vret_i C hP hD hS (dt uX5_readItems 24 rfl)
      · have hf := vif_f c_11 hf
        refine lv_aload_n hx hb (dt uX5_readItems 8 rfl) rfl (lv_at hl 0 rfl) ?_
        obtain ⟨q_12, hq_13, hf⟩ := vbd hf
        refine vk_v [0, 1] (ws2 := [(ad0, oX5 ad_bytes v_length q_12.1 q_12.2.1 q_12.2.2.1 q_12.2.2.2), (ad_bytes, .inl (cI, 150, .inl a_bytes)), (ad_p1, oX0 ad_p1_a ad_p1_b w_8 w_9 w_10), (ad_p1_a, .inl (cI, 6, .inl w_6)), (ad_p1_b, .inl (cI, 6, .inl w_7))]) (va_runV (As := []) (rest := []) ⟨hx, hb, hml, hown, hts⟩ (kX5_step ad0 ad_bytes v_length w_2 w_3 w_4 w_5 a_bytes N q_12 hq_13 H.size) (vcwV hts tw_60 tw_61 tw_62 tw_45 tw_59 hd_X5_step rfl rfl ⟨Nat.le_of_ble_eq_true rfl, Nat.le_of_ble_eq_true rfl⟩) (vpreV hK hN hP hD [0, 1] rfl (by decide) (ci := 5) (q0 := 0) rfl rfl) rfl rfl hl.1 rfl (lv_room (Nat.le_of_ble_eq_true rfl)) (dt uX5_readItems 9 rfl) ⟨Nat.zero_le _, Nat.zero_le _⟩) hA hP hD hS rfl (by decide) rfl rfl (fun H locs hP hD hS => ?_)
        refine lv_aload_n hx hb (dt uX5_readItems 10 rfl) rfl (lv_at hl 0 rfl) ?_
        refine va_get (D := (dC, dI)) (ci := 5) (v := .int q_12.2.1) (C := RX5) (T := TX5) (N := 6) hx hb hts inU5 hown hK hP 0 rfl rfl 3 (by decide) (hts _ tw_44) (fun _ h9 => h9) rfl (dt uX5_readItems 11 rfl) ?_
        refine lv_if_ne (tgt := 27) hx hb (dt uX5_readItems 12 rfl) (by decide) (fun c_14 => ?_) (fun c_14 => ?_)
        · have hf := vif_f c_14 hf
          refine lv_aload_n hx hb (dt uX5_readItems 15 rfl) rfl (lv_at hl 0 rfl) ?_
          refine lv_aload_n hx hb (dt uX5_readItems 16 rfl) rfl (lv_at hl 1 rfl) ?_
          obtain ⟨q_15, hq_16, hf⟩ := vbd hf
          refine vk_z [0, 1, 2, 3, 4] (ws2 := [(ad0, oX5 ad_bytes v_length q_15.2.1 q_15.2.2.1 q_15.2.2.2.1 q_15.2.2.2.2.1), (ad_bytes, .inl (cI, 150, .inl a_bytes)), (ad_p1, oX0 ad_p1_a ad_p1_b q_15.2.2.2.2.2.2.2.1 q_15.2.2.2.2.2.2.2.2.1 q_15.2.2.2.2.2.2.2.2.2), (ad_p1_a, .inl (cI, 6, .inl q_15.2.2.2.2.2.1)), (ad_p1_b, .inl (cI, 6, .inl q_15.2.2.2.2.2.2.1))]) (va_runV (As := [.ref ad_p1]) (rest := []) ⟨hx, hb, hml, hown, hts⟩ (kX5_readItem ad0 ad_bytes ad_p1 ad_p1_a ad_p1_b v_length q_12.1 q_12.2.1 q_12.2.2.1 q_12.2.2.2 a_bytes w_8 w_9 w_10 w_6 w_7 N q_15 hq_16 H.size) (vcwV hts tw_90 tw_91 tw_92 tw_45 tw_89 hd_X5_readItem rfl rfl ⟨Nat.le_of_ble_eq_true rfl, Nat.le_of_ble_eq_true rfl⟩) (vpreV hK hN hP hD [0, 1, 2, 3, 4] rfl (by decide) (ci := 5) (q0 := 0) rfl rfl) rfl rfl hl.1 rfl (lv_room (Nat.le_of_ble_eq_true rfl)) (dt uX5_readItems 17 rfl) ⟨Nat.zero_le _, Nat.zero_le _⟩) hA hP hD hS rfl (by decide) rfl rfl (fun hz_17 H locs hP hD hS => ?_)
          refine lv_if_ne (tgt := 38) hx hb (dt uX5_readItems 18 rfl) (by decide) (fun c_18 => ?_) (fun c_18 => ?_)
          · have hf := vif_f c_18 hf
            refine lv_iinc (v := x2_1 + 1) (lv' := [(2, .int (x2_1 + 1)), (0, .ref ad0), (1, .ref ad_p1)]) hx hb (dt uX5_readItems 21 rfl) hl (k := 2) rfl rfl (by decide) rfl (fun ls hl => ?_)
            refine lv_goto (tgt := 7) hx hb (dt uX5_readItems 22 rfl) (by decide) ?_
            exact ih7 (x2_1 + 1) q_15.2.1 q_15.2.2.1 q_15.2.2.2.1 q_15.2.2.2.2.1 q_15.2.2.2.2.2.1 q_15.2.2.2.2.2.2.1 q_15.2.2.2.2.2.2.2.1 q_15.2.2.2.2.2.2.2.2.1 q_15.2.2.2.2.2.2.2.2.2 _ _ _ hf hP hD hS (lv_sub hl [1, 2, 0] rfl)
          · have hf := vif_t c_18 hf
            refine lv_bipush (v := (-9 : Int32)) hx hb (dt uX5_readItems 19 rfl) (by decide) ?_
            have hf := Option.some.inj hf
            subst hf
            rw [hQ]
            exact vret_i C hP hD hS (dt uX5_readItems 20 rfl)
        · have hf := vif_t c_14 hf
          refine lv_iload_n hx hb (dt uX5_readItems 13 rfl) rfl (lv_at hl 2 rfl) ?_
          have hf := Option.some.inj hf
          subst hf
          rw [hQ]
          exact vret_i C hP hD hS (dt uX5_readItems 14 rfl)
  exact hL7 N (0 : Int32) (0 : Int32) v_token v_begin v_value a_p1_a a_p1_b v_p1_size v_p1_touches v_p1_one _ _ _ hf hP hD hS (lv_sub hl [1, 2, 0] rfl)
abbrev rX6_rank : Room := { frames := 0, cells := 0, slots := 0, locals := 0 }
abbrev wX6_rank : List Cond := Cond.code yX6_rank cX6_rank 4 none :: VT
set_option maxHeartbeats 4000000 in
set_option maxRecDepth 100000 in
theorem kX6_rank (ad0 : Nat) (ad_ranked : Nat) (ad_tens : Nat) (v_size : Int32) (v_trapped : Int32) (a_ranked : Nat → Int32) (a_tens : Nat → Int32) (p1 : Int32) (p2 : Int32) (N : Nat) (q0 : ((Nat → Int32) × (Nat → Int32) × Int32)) (hf : fX6_rank N a_ranked a_tens v_size p1 p2 = some q0) : Kv l yX6_rank wX6_rank rX6_rank (dC, dI) (vTy cI cJ cB cZ) [.ref ad0, .int p1, .int p2] [(ad0, oX6 ad_ranked ad_tens v_size v_trapped), (ad_ranked, .inl (cI, 6, .inl a_ranked)), (ad_tens, .inl (cI, 6, .inl a_tens))] [(ad0, oX6 ad_ranked ad_tens q0.2.2 v_trapped), (ad_ranked, .inl (cI, 6, .inl q0.1)), (ad_tens, .inl (cI, 6, .inl q0.2.1))] := by
  refine Kv.mk (cc := cX6_rank) (maxL := 4) (ret := none) (by decide) (Nat.le_of_ble_eq_true rfl) ?_
  intro p e s m args below meth c A Q H locs C hQ hP hD hS ls hl
  obtain ⟨hx, hb, -, hml, hts, hown, -, hK, hN, hA⟩ := id C
  have hown : s.vm.findClass RX6 = some m.cls := hown
  have hl : lv_has ls 4 [(0, .ref ad0), (1, .int p1), (2, .int p2)] := hl
  unfold fX6_rank at hf
  refine lv_aload_n hx hb (dt uX6_rank 0 rfl) rfl (lv_at hl 0 rfl) ?_
  refine va_get (D := (dC, dI)) (ci := 6) (v := .int v_size) (C := RX6) (T := TX6) (N := 4) hx hb hts inU6 hown hK hP 0 rfl rfl 2 (by decide) (hts _ tw_93) (fun _ h9 => h9) rfl (dt uX6_rank 1 rfl) ?_
  refine lv_bipush (v := (6 : Int32)) hx hb (dt uX6_rank 2 rfl) (by decide) ?_
  refine lv_icmp_lt (tgt := 10) hx hb (dt uX6_rank 3 rfl) (by decide) (fun c_1 => ?_) (fun c_1 => ?_)
  · have hf := vif_t c_1 hf
    refine lv_aload_n hx hb (dt uX6_rank 5 rfl) rfl (lv_at hl 0 rfl) ?_
    refine va_get (D := (dC, dI)) (ci := 6) (v := .int v_size) (C := RX6) (T := TX6) (N := 4) hx hb hts inU6 hown hK hP 0 rfl rfl 2 (by decide) (hts _ tw_93) (fun _ h9 => h9) rfl (dt uX6_rank 6 rfl) ?_
    refine lv_istore_n (lv' := [(3, .int v_size), (0, .ref ad0), (1, .int p1), (2, .int p2)]) hx hb (dt uX6_rank 7 rfl) rfl hl (by decide) rfl (fun ls hl => ?_)
    have hL15 : ∀ (n15 : Nat), ∀ (x3_2 : Int32) (w_3 : Nat → Int32) (w_4 : Nat → Int32) (H : Heap) (locs : List Loc) (ls : Array Slot), fX6_rank_L15 v_size p1 p2 n15 x3_2 w_3 w_4 = some q0 → va_P (dC, dI) vwCl [(ad0, oX6 ad_ranked ad_tens v_size v_trapped), (ad_ranked, .inl (cI, 6, .inl w_3)), (ad_tens, .inl (cI, 6, .inl w_4))] H → va_D A [(ad0, oX6 ad_ranked ad_tens v_size v_trapped), (ad_ranked, .inl (cI, 6, .inl w_3)), (ad_tens, .inl (cI, 6, .inl w_4))] → va_S A s.heap H locs → lv_has ls 4 [(0, .ref ad0), (1, .int p1), (2, .int p2), (3, .int x3_2)] → W p l e rX6_rank s m args below meth c H locs 0 0 Q (F0 m 15 ls []) := by
      intro n15
      induction n15 with
      | zero => intro x3_2 w_3 w_4 H locs ls hf hP hD hS hl; cases hf
      | succ n15 ih15 =>
        intro x3_2 w_3 w_4 H locs ls hf hP hD hS hl
        rw [fX6_rank_L15] at hf
        refine lv_iload_n hx hb (dt uX6_rank 8 rfl) rfl (lv_at hl 3 rfl) ?_
        have hJ65 : ∀ (H : Heap) (locs : List Loc) (ls : Array Slot), fX6_rank_J65 v_size p1 p2 x3_2 w_3 w_4 = some q0 → va_P (dC, dI) vwCl [(ad0, oX6 ad_ranked ad_tens v_size v_trapped), (ad_ranked, .inl (cI, 6, .inl w_3)), (ad_tens, .inl (cI, 6, .inl w_4))] H → va_D A [(ad0, oX6 ad_ranked ad_tens v_size v_trapped), (ad_ranked, .inl (cI, 6, .inl w_3)), (ad_tens, .inl (cI, 6, .inl w_4))] → va_S A s.heap H locs → lv_has ls 4 [(0, .ref ad0), (1, .int p1), (2, .int p2), (3, .int x3_2)] → W p l e rX6_rank s m args below meth c H locs 0 0 Q (F0 m 65 ls []) := by
          intro H locs ls hf hP hD hS hl
          unfold fX6_rank_J65 at hf
          refine lv_aload_n hx hb (dt uX6_rank 40 rfl) rfl (lv_at hl 0 rfl) ?_
          refine va_get (D := (dC, dI)) (ci := 6) (v := .ref ad_ranked) (C := RX6) (T := TX6) (N := 4) hx hb hts inU6 hown hK hP 0 rfl rfl 0 (by decide) (hts _ tw_95) (fun _ h9 => h9) rfl (dt uX6_rank 41 rfl) ?_
          refine lv_iload_n hx hb (dt uX6_rank 42 rfl) rfl (lv_at hl 3 rfl) ?_
          refine lv_iload_n hx hb (dt uX6_rank 43 rfl) rfl (lv_at hl 1 rfl) ?_
          obtain ⟨hi_10, hf⟩ := vg_some hf
          refine va_iast hx hb hK hP hD hS 1 0 rfl rfl hi_10 (dt uX6_rank 44 rfl) (fun H locs hP hD hS => ?_)
          have hP : va_P (dC, dI) vwCl [(ad0, oX6 ad_ranked ad_tens v_size v_trapped), (ad_ranked, .inl (cI, 6, .inl (upd w_3 x3_2.toNatClampNeg p1))), (ad_tens, .inl (cI, 6, .inl w_4))] H := hP
          have hD : va_D A [(ad0, oX6 ad_ranked ad_tens v_size v_trapped), (ad_ranked, .inl (cI, 6, .inl (upd w_3 x3_2.toNatClampNeg p1))), (ad_tens, .inl (cI, 6, .inl w_4))] := hD
          refine lv_aload_n hx hb (dt uX6_rank 45 rfl) rfl (lv_at hl 0 rfl) ?_
          refine va_get (D := (dC, dI)) (ci := 6) (v := .ref ad_tens) (C := RX6) (T := TX6) (N := 4) hx hb hts inU6 hown hK hP 0 rfl rfl 1 (by decide) (hts _ tw_94) (fun _ h9 => h9) rfl (dt uX6_rank 46 rfl) ?_
          refine lv_iload_n hx hb (dt uX6_rank 47 rfl) rfl (lv_at hl 3 rfl) ?_
          refine lv_iload_n hx hb (dt uX6_rank 48 rfl) rfl (lv_at hl 2 rfl) ?_
          obtain ⟨hi_11, hf⟩ := vg_some hf
          refine va_iast hx hb hK hP hD hS 2 0 rfl rfl hi_11 (dt uX6_rank 49 rfl) (fun H locs hP hD hS => ?_)
          have hP : va_P (dC, dI) vwCl [(ad0, oX6 ad_ranked ad_tens v_size v_trapped), (ad_ranked, .inl (cI, 6, .inl (upd w_3 x3_2.toNatClampNeg p1))), (ad_tens, .inl (cI, 6, .inl (upd w_4 x3_2.toNatClampNeg p2)))] H := hP
          have hD : va_D A [(ad0, oX6 ad_ranked ad_tens v_size v_trapped), (ad_ranked, .inl (cI, 6, .inl (upd w_3 x3_2.toNatClampNeg p1))), (ad_tens, .inl (cI, 6, .inl (upd w_4 x3_2.toNatClampNeg p2)))] := hD
          refine lv_aload_n hx hb (dt uX6_rank 50 rfl) rfl (lv_at hl 0 rfl) ?_
          refine lv_dup hx hb (dt uX6_rank 51 rfl) rfl ?_
          refine va_get (D := (dC, dI)) (ci := 6) (v := .int v_size) (C := RX6) (T := TX6) (N := 4) hx hb hts inU6 hown hK hP 0 rfl rfl 2 (by decide) (hts _ tw_93) (fun _ h9 => h9) rfl (dt uX6_rank 52 rfl) ?_
          refine lv_iconst (v := (1 : Int32)) hx hb (dt uX6_rank 53 rfl) (by decide) ?_
          refine lv_iadd hx hb (dt uX6_rank 54 rfl) ?_
          refine va_put (D := (dC, dI)) (ci := 6) (v := .int (v_size + (1 : Int32))) (ty := .int) (C := RX6) (T := TX6) (N := 4) hx hb hts inU6 tyX6 tyX6_ok nmX6 hown hK hP hD hS 0 rfl rfl 2 (by decide) (hts _ tw_93) (fun _ h9 => h9) rfl (by decide +kernel) rfl rfl (Nat.le_of_ble_eq_true rfl) (dt uX6_rank 55 rfl) (fun H locs hP hD hS => ?_)
          have hP : va_P (dC, dI) vwCl [(ad0, oX6 ad_ranked ad_tens (v_size + (1 : Int32)) v_trapped), (ad_ranked, .inl (cI, 6, .inl (upd w_3 x3_2.toNatClampNeg p1))), (ad_tens, .inl (cI, 6, .inl (upd w_4 x3_2.toNatClampNeg p2)))] H := hP
          have hD : va_D A [(ad0, oX6 ad_ranked ad_tens (v_size + (1 : Int32)) v_trapped), (ad_ranked, .inl (cI, 6, .inl (upd w_3 x3_2.toNatClampNeg p1))), (ad_tens, .inl (cI, 6, .inl (upd w_4 x3_2.toNatClampNeg p2)))] := hD
          have hf := Option.some.inj hf
          subst hf
          rw [hQ]
          exact vret_v C hP hD hS (dt uX6_rank 56 rfl)
        refine lv_if_le (tgt := 65) hx hb (dt uX6_rank 9 rfl) (by decide) (fun c_12 => ?_) (fun c_12 => ?_)
        · have hf := vif_t c_12 hf
          exact hJ65  _ _ _ hf hP hD hS (lv_sub hl [0, 1, 2, 3] rfl)
        · have hf := vif_f c_12 hf
          refine lv_aload_n hx hb (dt uX6_rank 10 rfl) rfl (lv_at hl 0 rfl) ?_
          refine va_get (D := (dC, dI)) (ci := 6) (v := .ref ad_tens) (C := RX6) (T := TX6) (N := 4) hx hb hts inU6 hown hK hP 0 rfl rfl 1 (by decide) (hts _ tw_94) (fun _ h9 => h9) rfl (dt uX6_rank 11 rfl) ?_
          refine lv_iload_n hx hb (dt uX6_rank 12 rfl) rfl (lv_at hl 3 rfl) ?_
          refine lv_iconst (v := (1 : Int32)) hx hb (dt uX6_rank 13 rfl) (by decide) ?_
          refine lv_isub hx hb (dt uX6_rank 14 rfl) ?_
          obtain ⟨hi_13, hf⟩ := vg_some hf
          refine va_iald hx hb hK hP 2 0 rfl rfl hi_13 (dt uX6_rank 15 rfl) ?_
          refine lv_iload_n hx hb (dt uX6_rank 16 rfl) rfl (lv_at hl 2 rfl) ?_
          refine lv_icmp_ge (tgt := 65) hx hb (dt uX6_rank 17 rfl) (by decide) (fun c_14 => ?_) (fun c_14 => ?_)
          · have hf := vif_t c_14 hf
            exact hJ65  _ _ _ hf hP hD hS (lv_sub hl [0, 1, 2, 3] rfl)
          · have hf := vif_f c_14 hf
            refine lv_aload_n hx hb (dt uX6_rank 18 rfl) rfl (lv_at hl 0 rfl) ?_
            refine va_get (D := (dC, dI)) (ci := 6) (v := .ref ad_ranked) (C := RX6) (T := TX6) (N := 4) hx hb hts inU6 hown hK hP 0 rfl rfl 0 (by decide) (hts _ tw_95) (fun _ h9 => h9) rfl (dt uX6_rank 19 rfl) ?_
            refine lv_iload_n hx hb (dt uX6_rank 20 rfl) rfl (lv_at hl 3 rfl) ?_
            refine lv_aload_n hx hb (dt uX6_rank 21 rfl) rfl (lv_at hl 0 rfl) ?_
            refine va_get (D := (dC, dI)) (ci := 6) (v := .ref ad_ranked) (C := RX6) (T := TX6) (N := 4) hx hb hts inU6 hown hK hP 0 rfl rfl 0 (by decide) (hts _ tw_95) (fun _ h9 => h9) rfl (dt uX6_rank 22 rfl) ?_
            refine lv_iload_n hx hb (dt uX6_rank 23 rfl) rfl (lv_at hl 3 rfl) ?_
            refine lv_iconst (v := (1 : Int32)) hx hb (dt uX6_rank 24 rfl) (by decide) ?_
            refine lv_isub hx hb (dt uX6_rank 25 rfl) ?_
            obtain ⟨hi_15, hf⟩ := vg_some hf
            refine va_iald hx hb hK hP 1 0 rfl rfl hi_15 (dt uX6_rank 26 rfl) ?_
            obtain ⟨hi_16, hf⟩ := vg_some hf
            refine va_iast hx hb hK hP hD hS 1 0 rfl rfl hi_16 (dt uX6_rank 27 rfl) (fun H locs hP hD hS => ?_)
            have hP : va_P (dC, dI) vwCl [(ad0, oX6 ad_ranked ad_tens v_size v_trapped), (ad_ranked, .inl (cI, 6, .inl (upd w_3 x3_2.toNatClampNeg (w_3 (x3_2 - (1 : Int32)).toNatClampNeg)))), (ad_tens, .inl (cI, 6, .inl w_4))] H := hP
            have hD : va_D A [(ad0, oX6 ad_ranked ad_tens v_size v_trapped), (ad_ranked, .inl (cI, 6, .inl (upd w_3 x3_2.toNatClampNeg (w_3 (x3_2 - (1 : Int32)).toNatClampNeg)))), (ad_tens, .inl (cI, 6, .inl w_4))] := hD
            refine lv_aload_n hx hb (dt uX6_rank 28 rfl) rfl (lv_at hl 0 rfl) ?_
            refine va_get (D := (dC, dI)) (ci := 6) (v := .ref ad_tens) (C := RX6) (T := TX6) (N := 4) hx hb hts inU6 hown hK hP 0 rfl rfl 1 (by decide) (hts _ tw_94) (fun _ h9 => h9) rfl (dt uX6_rank 29 rfl) ?_
            refine lv_iload_n hx hb (dt uX6_rank 30 rfl) rfl (lv_at hl 3 rfl) ?_
            refine lv_aload_n hx hb (dt uX6_rank 31 rfl) rfl (lv_at hl 0 rfl) ?_
            refine va_get (D := (dC, dI)) (ci := 6) (v := .ref ad_tens) (C := RX6) (T := TX6) (N := 4) hx hb hts inU6 hown hK hP 0 rfl rfl 1 (by decide) (hts _ tw_94) (fun _ h9 => h9) rfl (dt uX6_rank 32 rfl) ?_
            refine lv_iload_n hx hb (dt uX6_rank 33 rfl) rfl (lv_at hl 3 rfl) ?_
            refine lv_iconst (v := (1 : Int32)) hx hb (dt uX6_rank 34 rfl) (by decide) ?_
            refine lv_isub hx hb (dt uX6_rank 35 rfl) ?_
            obtain ⟨hi_17, hf⟩ := vg_some hf
            refine va_iald hx hb hK hP 2 0 rfl rfl hi_17 (dt uX6_rank 36 rfl) ?_
            obtain ⟨hi_18, hf⟩ := vg_some hf
            refine va_iast hx hb hK hP hD hS 2 0 rfl rfl hi_18 (dt uX6_rank 37 rfl) (fun H locs hP hD hS => ?_)
            have hP : va_P (dC, dI) vwCl [(ad0, oX6 ad_ranked ad_tens v_size v_trapped), (ad_ranked, .inl (cI, 6, .inl (upd w_3 x3_2.toNatClampNeg (w_3 (x3_2 - (1 : Int32)).toNatClampNeg)))), (ad_tens, .inl (cI, 6, .inl (upd w_4 x3_2.toNatClampNeg (w_4 (x3_2 - (1 : Int32)).toNatClampNeg))))] H := hP
            have hD : va_D A [(ad0, oX6 ad_ranked ad_tens v_size v_trapped), (ad_ranked, .inl (cI, 6, .inl (upd w_3 x3_2.toNatClampNeg (w_3 (x3_2 - (1 : Int32)).toNatClampNeg)))), (ad_tens, .inl (cI, 6, .inl (upd w_4 x3_2.toNatClampNeg (w_4 (x3_2 - (1 : Int32)).toNatClampNeg))))] := hD
            refine lv_iinc (v := x3_2 + (-1)) (lv' := [(3, .int (x3_2 + (-1))), (0, .ref ad0), (1, .int p1), (2, .int p2)]) hx hb (dt uX6_rank 38 rfl) hl (k := 3) rfl rfl (by decide) rfl (fun ls hl => ?_)
            refine lv_goto (tgt := 15) hx hb (dt uX6_rank 39 rfl) (by decide) ?_
            exact ih15 (x3_2 + (-1)) (upd w_3 x3_2.toNatClampNeg (w_3 (x3_2 - (1 : Int32)).toNatClampNeg)) (upd w_4 x3_2.toNatClampNeg (w_4 (x3_2 - (1 : Int32)).toNatClampNeg)) _ _ _ hf hP hD hS (lv_sub hl [1, 2, 3, 0] rfl)
    exact hL15 N v_size a_ranked a_tens _ _ _ hf hP hD hS (lv_sub hl [1, 2, 3, 0] rfl)
  · have hf := vif_f c_1 hf
    have hf := Option.some.inj hf
    subst hf
    rw [hQ]
    exact vret_v C hP hD hS (dt uX6_rank 4 rfl)
abbrev rX6_goesTo : Room := { frames := 1, cells := 0, slots := 0, locals := 23 }
abbrev wX6_goesTo : List Cond := Cond.code yX6_goesTo cX6_goesTo 5 (some .int) :: VT
set_option maxHeartbeats 4000000 in
set_option maxRecDepth 100000 in
theorem kX6_goesTo (ad0 : Nat) (ad_ranked : Nat) (ad_tens : Nat) (v_size : Int32) (v_trapped : Int32) (a_ranked : Nat → Int32) (p1 : Int32) (p2 : Int32) (N : Nat) (q0 : Int32) (hf : fX6_goesTo N a_ranked v_size v_trapped p1 p2 = some q0) : Ki l yX6_goesTo wX6_goesTo rX6_goesTo (dC, dI) (vTy cI cJ cB cZ) [.ref ad0, .int p1, .int p2] [(ad0, oX6 ad_ranked ad_tens v_size v_trapped), (ad_ranked, .inl (cI, 6, .inl a_ranked))] [(ad0, oX6 ad_ranked ad_tens v_size v_trapped), (ad_ranked, .inl (cI, 6, .inl a_ranked))] q0 := by
  refine Ki.mk (cc := cX6_goesTo) (maxL := 5) (ret := some .int) (by decide) (Nat.le_of_ble_eq_true rfl) ?_
  intro p e s m args below meth c A Q H locs C hQ hP hD hS ls hl
  obtain ⟨hx, hb, -, hml, hts, hown, -, hK, hN, hA⟩ := id C
  have hown : s.vm.findClass RX6 = some m.cls := hown
  have hl : lv_has ls 5 [(0, .ref ad0), (1, .int p1), (2, .int p2)] := hl
  unfold fX6_goesTo at hf
  refine lv_aload_n hx hb (dt uX6_goesTo 0 rfl) rfl (lv_at hl 0 rfl) ?_
  refine va_get (D := (dC, dI)) (ci := 6) (v := .int v_trapped) (C := RX6) (T := TX6) (N := 4) hx hb hts inU6 hown hK hP 0 rfl rfl 3 (by decide) (hts _ tw_96) (fun _ h9 => h9) rfl (dt uX6_goesTo 1 rfl) ?_
  refine lv_iload_n hx hb (dt uX6_goesTo 2 rfl) rfl (lv_at hl 1 rfl) ?_
  refine lv_ishr hx hb (dt uX6_goesTo 3 rfl) ?_
  refine lv_iconst (v := (1 : Int32)) hx hb (dt uX6_goesTo 4 rfl) (by decide) ?_
  refine lv_iand hx hb (dt uX6_goesTo 5 rfl) ?_
  refine lv_if_eq (tgt := 13) hx hb (dt uX6_goesTo 6 rfl) (by decide) (fun c_1 => ?_) (fun c_1 => ?_)
  · have hf := vif_t c_1 hf
    refine lv_iconst (v := (0 : Int32)) hx hb (dt uX6_goesTo 9 rfl) (by decide) ?_
    refine lv_istore_n (lv' := [(3, .int (0 : Int32)), (0, .ref ad0), (1, .int p1), (2, .int p2)]) hx hb (dt uX6_goesTo 10 rfl) rfl hl (by decide) rfl (fun ls hl => ?_)
    have hL15 : ∀ (n15 : Nat), ∀ (x3_2 : Int32) (H : Heap) (locs : List Loc) (ls : Array Slot), fX6_goesTo_L15 a_ranked v_size p1 p2 n15 x3_2 = some q0 → va_P (dC, dI) vwCl [(ad0, oX6 ad_ranked ad_tens v_size v_trapped), (ad_ranked, .inl (cI, 6, .inl a_ranked))] H → va_D A [(ad0, oX6 ad_ranked ad_tens v_size v_trapped), (ad_ranked, .inl (cI, 6, .inl a_ranked))] → va_S A s.heap H locs → lv_has ls 5 [(0, .ref ad0), (1, .int p1), (2, .int p2), (3, .int x3_2)] → W p l e rX6_goesTo s m args below meth c H locs 0 0 Q (F0 m 15 ls []) := by
      intro n15
      induction n15 with
      | zero => intro x3_2 H locs ls hf hP hD hS hl; cases hf
      | succ n15 ih15 =>
        intro x3_2 H locs ls hf hP hD hS hl
        rw [fX6_goesTo_L15] at hf
        refine lv_iload_n hx hb (dt uX6_goesTo 11 rfl) rfl (lv_at hl 3 rfl) ?_
        refine lv_aload_n hx hb (dt uX6_goesTo 12 rfl) rfl (lv_at hl 0 rfl) ?_
        refine va_get (D := (dC, dI)) (ci := 6) (v := .int v_size) (C := RX6) (T := TX6) (N := 4) hx hb hts inU6 hown hK hP 0 rfl rfl 2 (by decide) (hts _ tw_93) (fun _ h9 => h9) rfl (dt uX6_goesTo 13 rfl) ?_
        refine lv_icmp_ge (tgt := 57) hx hb (dt uX6_goesTo 14 rfl) (by decide) (fun c_3 => ?_) (fun c_3 => ?_)
        · have hf := vif_t c_3 hf
          refine lv_iload_n hx hb (dt uX6_goesTo 33 rfl) rfl (lv_at hl 1 rfl) ?_
          have hf := Option.some.inj hf
          subst hf
          rw [hQ]
          exact vret_i C hP hD hS (dt uX6_goesTo 34 rfl)
        · have hf := vif_f c_3 hf
          refine lv_aload_n hx hb (dt uX6_goesTo 15 rfl) rfl (lv_at hl 0 rfl) ?_
          refine va_get (D := (dC, dI)) (ci := 6) (v := .ref ad_ranked) (C := RX6) (T := TX6) (N := 4) hx hb hts inU6 hown hK hP 0 rfl rfl 0 (by decide) (hts _ tw_95) (fun _ h9 => h9) rfl (dt uX6_goesTo 16 rfl) ?_
          refine lv_iload_n hx hb (dt uX6_goesTo 17 rfl) rfl (lv_at hl 3 rfl) ?_
          obtain ⟨hi_4, hf⟩ := vg_some hf
          refine va_iald hx hb hK hP 1 0 rfl rfl hi_4 (dt uX6_goesTo 18 rfl) ?_
          refine lv_istore (lv' := [(4, .int (a_ranked x3_2.toNatClampNeg)), (0, .ref ad0), (1, .int p1), (2, .int p2), (3, .int x3_2)]) hx hb (dt uX6_goesTo 19 rfl) hl (by decide) rfl (fun ls hl => ?_)
          refine lv_iload hx hb (dt uX6_goesTo 20 rfl) (lv_at hl 0 rfl) ?_
          refine lv_iload_n hx hb (dt uX6_goesTo 21 rfl) rfl (lv_at hl 2 rfl) ?_
          refine lv_icmp_eq (tgt := 51) hx hb (dt uX6_goesTo 22 rfl) (by decide) (fun c_5 => ?_) (fun c_5 => ?_)
          · have hf := vif_t c_5 hf
            refine lv_iinc (v := x3_2 + 1) (lv' := [(3, .int (x3_2 + 1)), (4, .int (a_ranked x3_2.toNatClampNeg)), (0, .ref ad0), (1, .int p1), (2, .int p2)]) hx hb (dt uX6_goesTo 31 rfl) hl (k := 4) rfl rfl (by decide) rfl (fun ls hl => ?_)
            refine lv_goto (tgt := 15) hx hb (dt uX6_goesTo 32 rfl) (by decide) ?_
            exact ih15 (x3_2 + 1) _ _ _ hf hP hD hS (lv_sub hl [2, 3, 4, 0] rfl)
          · have hf := vif_f c_5 hf
            refine lv_iload_n hx hb (dt uX6_goesTo 23 rfl) rfl (lv_at hl 3 rfl) ?_
            refine lv_iload_n hx hb (dt uX6_goesTo 24 rfl) rfl (lv_at hl 2 rfl) ?_
            refine lv_iload hx hb (dt uX6_goesTo 25 rfl) (lv_at hl 0 rfl) ?_
            refine vk_i0 [] (va_runSN (As := [.int p1, .int (a_ranked x3_2.toNatClampNeg)]) (rest := [.int p2]) ⟨hx, hb, hml, hown, hts⟩ (kX7_touchBit p1 (a_ranked x3_2.toNatClampNeg) _ rfl H.size) (vcwSN hts (nm_47 hN) tw_76 tw_41 tw_75 hd_X7_touchBit rfl rfl ⟨Nat.le_of_ble_eq_true rfl, Nat.le_of_ble_eq_true rfl⟩) (vpreS hK hN hP hD [] rfl (by decide)) rfl rfl hl.1 rfl (lv_room (Nat.le_of_ble_eq_true rfl)) (dt uX6_goesTo 26 rfl) ⟨Nat.zero_le _, Nat.zero_le _⟩) hA hP hD hS rfl (by decide) (fun H locs hP hD hS => ?_)
            refine lv_iand hx hb (dt uX6_goesTo 27 rfl) ?_
            refine lv_if_eq (tgt := 51) hx hb (dt uX6_goesTo 28 rfl) (by decide) (fun c_6 => ?_) (fun c_6 => ?_)
            · have hf := vif_t c_6 hf
              refine lv_iinc (v := x3_2 + 1) (lv' := [(3, .int (x3_2 + 1)), (4, .int (a_ranked x3_2.toNatClampNeg)), (0, .ref ad0), (1, .int p1), (2, .int p2)]) hx hb (dt uX6_goesTo 31 rfl) hl (k := 4) rfl rfl (by decide) rfl (fun ls hl => ?_)
              refine lv_goto (tgt := 15) hx hb (dt uX6_goesTo 32 rfl) (by decide) ?_
              exact ih15 (x3_2 + 1) _ _ _ hf hP hD hS (lv_sub hl [2, 3, 4, 0] rfl)
            · have hf := vif_f c_6 hf
              refine lv_iload hx hb (dt uX6_goesTo 29 rfl) (lv_at hl 0 rfl) ?_
              have hf := Option.some.inj hf
              subst hf
              rw [hQ]
              exact vret_i C hP hD hS (dt uX6_goesTo 30 rfl)
    exact hL15 N (0 : Int32) _ _ _ hf hP hD hS (lv_sub hl [1, 2, 3, 0] rfl)
  · have hf := vif_f c_1 hf
    refine lv_iload_n hx hb (dt uX6_goesTo 7 rfl) rfl (lv_at hl 1 rfl) ?_
    have hf := Option.some.inj hf
    subst hf
    rw [hQ]
    exact vret_i C hP hD hS (dt uX6_goesTo 8 rfl)
abbrev rX6_walk : Room := { frames := 2, cells := 0, slots := 0, locals := 47 }
abbrev wX6_walk : List Cond := Cond.code yX6_walk cX6_walk 6 (some .int) :: VT
set_option maxHeartbeats 4000000 in
set_option maxRecDepth 100000 in
theorem kX6_walk (ad0 : Nat) (ad_ranked : Nat) (ad_tens : Nat) (v_size : Int32) (v_trapped : Int32) (a_ranked : Nat → Int32) (p1 : Int32) (p2 : Int32) (p3 : Int32) (N : Nat) (q0 : Int32) (hf : fX6_walk N a_ranked v_size v_trapped p1 p2 p3 = some q0) : Ki l yX6_walk wX6_walk rX6_walk (dC, dI) (vTy cI cJ cB cZ) [.ref ad0, .int p1, .int p2, .int p3] [(ad0, oX6 ad_ranked ad_tens v_size v_trapped), (ad_ranked, .inl (cI, 6, .inl a_ranked))] [(ad0, oX6 ad_ranked ad_tens v_size v_trapped), (ad_ranked, .inl (cI, 6, .inl a_ranked))] q0 := by
  refine Ki.mk (cc := cX6_walk) (maxL := 6) (ret := some .int) (by decide) (Nat.le_of_ble_eq_true rfl) ?_
  intro p e s m args below meth c A Q H locs C hQ hP hD hS ls hl
  obtain ⟨hx, hb, -, hml, hts, hown, -, hK, hN, hA⟩ := id C
  have hown : s.vm.findClass RX6 = some m.cls := hown
  have hl : lv_has ls 6 [(0, .ref ad0), (1, .int p1), (2, .int p2), (3, .int p3)] := hl
  unfold fX6_walk at hf
  refine lv_iload_n hx hb (dt uX6_walk 0 rfl) rfl (lv_at hl 1 rfl) ?_
  refine lv_istore (lv' := [(4, .int p1), (0, .ref ad0), (1, .int p1), (2, .int p2), (3, .int p3)]) hx hb (dt uX6_walk 1 rfl) hl (by decide) rfl (fun ls hl => ?_)
  refine lv_iconst (v := (0 : Int32)) hx hb (dt uX6_walk 2 rfl) (by decide) ?_
  refine lv_istore (lv' := [(5, .int (0 : Int32)), (4, .int p1), (0, .ref ad0), (1, .int p1), (2, .int p2), (3, .int p3)]) hx hb (dt uX6_walk 3 rfl) hl (by decide) rfl (fun ls hl => ?_)
  have hL6 : ∀ (n6 : Nat), ∀ (x4_1 : Int32) (x5_2 : Int32) (H : Heap) (locs : List Loc) (ls : Array Slot), fX6_walk_L6 N a_ranked v_size v_trapped p2 p3 n6 x4_1 x5_2 = some q0 → va_P (dC, dI) vwCl [(ad0, oX6 ad_ranked ad_tens v_size v_trapped), (ad_ranked, .inl (cI, 6, .inl a_ranked))] H → va_D A [(ad0, oX6 ad_ranked ad_tens v_size v_trapped), (ad_ranked, .inl (cI, 6, .inl a_ranked))] → va_S A s.heap H locs → lv_has ls 6 [(0, .ref ad0), (2, .int p2), (3, .int p3), (4, .int x4_1), (5, .int x5_2)] → W p l e rX6_walk s m args below meth c H locs 0 0 Q (F0 m 6 ls []) := by
    intro n6
    induction n6 with
    | zero => intro x4_1 x5_2 H locs ls hf hP hD hS hl; cases hf
    | succ n6 ih6 =>
      intro x4_1 x5_2 H locs ls hf hP hD hS hl
      rw [fX6_walk_L6] at hf
      refine lv_iload hx hb (dt uX6_walk 4 rfl) (lv_at hl 4 rfl) ?_
      refine lv_iload_n hx hb (dt uX6_walk 5 rfl) rfl (lv_at hl 1 rfl) ?_
      refine lv_icmp_ge (tgt := 27) hx hb (dt uX6_walk 6 rfl) (by decide) (fun c_3 => ?_) (fun c_3 => ?_)
      · have hf := vif_t c_3 hf
        refine lv_iload hx hb (dt uX6_walk 14 rfl) (lv_at hl 3 rfl) ?_
        have hf := Option.some.inj hf
        subst hf
        rw [hQ]
        exact vret_i C hP hD hS (dt uX6_walk 15 rfl)
      · have hf := vif_f c_3 hf
        refine lv_aload_n hx hb (dt uX6_walk 7 rfl) rfl (lv_at hl 0 rfl) ?_
        refine lv_iload hx hb (dt uX6_walk 8 rfl) (lv_at hl 3 rfl) ?_
        refine lv_iload_n hx hb (dt uX6_walk 9 rfl) rfl (lv_at hl 2 rfl) ?_
        obtain ⟨q_4, hq_5, hf⟩ := vbd hf
        refine vk_i0 [0, 1] (va_runV (As := [.int x4_1, .int p3]) (rest := []) ⟨hx, hb, hml, hown, hts⟩ (kX6_goesTo ad0 ad_ranked ad_tens v_size v_trapped a_ranked x4_1 p3 N q_4 hq_5 H.size) (vcwV hts tw_99 tw_100 tw_101 tw_97 tw_98 hd_X6_goesTo rfl rfl ⟨Nat.le_of_ble_eq_true rfl, Nat.le_of_ble_eq_true rfl⟩) (vpreV hK hN hP hD [0, 1] rfl (by decide) (ci := 6) (q0 := 0) rfl rfl) rfl rfl hl.1 rfl (lv_room (Nat.le_of_ble_eq_true rfl)) (dt uX6_walk 10 rfl) ⟨Nat.zero_le _, Nat.zero_le _⟩) hA hP hD hS rfl (by decide) (fun H locs hP hD hS => ?_)
        refine lv_istore (lv' := [(4, .int q_4), (0, .ref ad0), (2, .int p2), (3, .int p3), (5, .int x5_2)]) hx hb (dt uX6_walk 11 rfl) hl (by decide) rfl (fun ls hl => ?_)
        refine lv_iinc (v := x5_2 + 1) (lv' := [(5, .int (x5_2 + 1)), (4, .int q_4), (0, .ref ad0), (2, .int p2), (3, .int p3)]) hx hb (dt uX6_walk 12 rfl) hl (k := 4) rfl rfl (by decide) rfl (fun ls hl => ?_)
        refine lv_goto (tgt := 6) hx hb (dt uX6_walk 13 rfl) (by decide) ?_
        exact ih6 q_4 (x5_2 + 1) _ _ _ hf hP hD hS (lv_sub hl [2, 3, 4, 1, 0] rfl)
  exact hL6 N p1 (0 : Int32) _ _ _ hf hP hD hS (lv_sub hl [2, 4, 5, 1, 0] rfl)
abbrev rX6_comesTo : Room := { frames := 2, cells := 0, slots := 0, locals := 47 }
abbrev wX6_comesTo : List Cond := Cond.code yX6_comesTo cX6_comesTo 6 (some .boolean) :: VT
set_option maxHeartbeats 4000000 in
set_option maxRecDepth 100000 in
theorem kX6_comesTo (ad0 : Nat) (ad_ranked : Nat) (ad_tens : Nat) (v_size : Int32) (v_trapped : Int32) (a_ranked : Nat → Int32) (p1 : Int32) (p2 : Int32) (p3 : Int32) (N : Nat) (q0 : Int32) (hf : fX6_comesTo N a_ranked v_size v_trapped p1 p2 p3 = some q0) : Kz l yX6_comesTo wX6_comesTo rX6_comesTo (dC, dI) (vTy cI cJ cB cZ) [.ref ad0, .int p1, .int p2, .int p3] [(ad0, oX6 ad_ranked ad_tens v_size v_trapped), (ad_ranked, .inl (cI, 6, .inl a_ranked))] [(ad0, oX6 ad_ranked ad_tens v_size v_trapped), (ad_ranked, .inl (cI, 6, .inl a_ranked))] q0 := by
  refine Kz.mk (cc := cX6_comesTo) (maxL := 6) (ret := some .boolean) (by decide) (Nat.le_of_ble_eq_true rfl) ?_
  intro p e s m args below meth c A Q H locs C hQ hP hD hS ls hl
  obtain ⟨hx, hb, -, hml, hts, hown, -, hK, hN, hA⟩ := id C
  have hown : s.vm.findClass RX6 = some m.cls := hown
  have hl : lv_has ls 6 [(0, .ref ad0), (1, .int p1), (2, .int p2), (3, .int p3)] := hl
  unfold fX6_comesTo at hf
  refine lv_iload_n hx hb (dt uX6_comesTo 0 rfl) rfl (lv_at hl 2 rfl) ?_
  refine lv_istore (lv' := [(4, .int p2), (0, .ref ad0), (1, .int p1), (2, .int p2), (3, .int p3)]) hx hb (dt uX6_comesTo 1 rfl) hl (by decide) rfl (fun ls hl => ?_)
  refine lv_iconst (v := (0 : Int32)) hx hb (dt uX6_comesTo 2 rfl) (by decide) ?_
  refine lv_istore (lv' := [(5, .int (0 : Int32)), (4, .int p2), (0, .ref ad0), (1, .int p1), (2, .int p2), (3, .int p3)]) hx hb (dt uX6_comesTo 3 rfl) hl (by decide) rfl (fun ls hl => ?_)
  have hL6 : ∀ (n6 : Nat), ∀ (x4_1 : Int32) (x5_2 : Int32) (H : Heap) (locs : List Loc) (ls : Array Slot), fX6_comesTo_L6 N a_ranked v_size v_trapped p1 p3 n6 x4_1 x5_2 = some q0 → va_P (dC, dI) vwCl [(ad0, oX6 ad_ranked ad_tens v_size v_trapped), (ad_ranked, .inl (cI, 6, .inl a_ranked))] H → va_D A [(ad0, oX6 ad_ranked ad_tens v_size v_trapped), (ad_ranked, .inl (cI, 6, .inl a_ranked))] → va_S A s.heap H locs → lv_has ls 6 [(0, .ref ad0), (1, .int p1), (3, .int p3), (4, .int x4_1), (5, .int x5_2)] → W p l e rX6_comesTo s m args below meth c H locs 0 0 Q (F0 m 6 ls []) := by
    intro n6
    induction n6 with
    | zero => intro x4_1 x5_2 H locs ls hf hP hD hS hl; cases hf
    | succ n6 ih6 =>
      intro x4_1 x5_2 H locs ls hf hP hD hS hl
      rw [fX6_comesTo_L6] at hf
      refine lv_iload hx hb (dt uX6_comesTo 4 rfl) (lv_at hl 4 rfl) ?_
      refine lv_bipush (v := (6 : Int32)) hx hb (dt uX6_comesTo 5 rfl) (by decide) ?_
      have hJ34 : ∀ (H : Heap) (locs : List Loc) (ls : Array Slot), fX6_comesTo_J34 p1 x4_1 = some q0 → va_P (dC, dI) vwCl [(ad0, oX6 ad_ranked ad_tens v_size v_trapped), (ad_ranked, .inl (cI, 6, .inl a_ranked))] H → va_D A [(ad0, oX6 ad_ranked ad_tens v_size v_trapped), (ad_ranked, .inl (cI, 6, .inl a_ranked))] → va_S A s.heap H locs → lv_has ls 6 [(1, .int p1), (4, .int x4_1)] → W p l e rX6_comesTo s m args below meth c H locs 0 0 Q (F0 m 34 ls []) := by
        intro H locs ls hf hP hD hS hl
        unfold fX6_comesTo_J34 at hf
        refine lv_iload hx hb (dt uX6_comesTo 17 rfl) (lv_at hl 1 rfl) ?_
        refine lv_iload_n hx hb (dt uX6_comesTo 18 rfl) rfl (lv_at hl 0 rfl) ?_
        refine lv_icmp_ne (tgt := 44) hx hb (dt uX6_comesTo 19 rfl) (by decide) (fun c_5 => ?_) (fun c_5 => ?_)
        · have hf := vif_f c_5 hf
          refine lv_iconst (v := (0 : Int32)) hx hb (dt uX6_comesTo 22 rfl) (by decide) ?_
          have hf := Option.some.inj hf
          subst hf
          rw [hQ]
          exact vret_z C hP hD hS (dt uX6_comesTo 23 rfl) (Or.inl rfl)
        · have hf := vif_t c_5 hf
          refine lv_iconst (v := (1 : Int32)) hx hb (dt uX6_comesTo 20 rfl) (by decide) ?_
          refine lv_goto (tgt := 45) hx hb (dt uX6_comesTo 21 rfl) (by decide) ?_
          have hf := Option.some.inj hf
          subst hf
          rw [hQ]
          exact vret_z C hP hD hS (dt uX6_comesTo 23 rfl) (Or.inr rfl)
      refine lv_icmp_ge (tgt := 34) hx hb (dt uX6_comesTo 6 rfl) (by decide) (fun c_6 => ?_) (fun c_6 => ?_)
      · have hf := vif_t c_6 hf
        exact hJ34  _ _ _ hf hP hD hS (lv_sub hl [1, 3] rfl)
      · have hf := vif_f c_6 hf
        refine lv_iload hx hb (dt uX6_comesTo 7 rfl) (lv_at hl 3 rfl) ?_
        refine lv_iload_n hx hb (dt uX6_comesTo 8 rfl) rfl (lv_at hl 1 rfl) ?_
        refine lv_icmp_eq (tgt := 34) hx hb (dt uX6_comesTo 9 rfl) (by decide) (fun c_7 => ?_) (fun c_7 => ?_)
        · have hf := vif_t c_7 hf
          exact hJ34  _ _ _ hf hP hD hS (lv_sub hl [1, 3] rfl)
        · have hf := vif_f c_7 hf
          refine lv_aload_n hx hb (dt uX6_comesTo 10 rfl) rfl (lv_at hl 0 rfl) ?_
          refine lv_iload hx hb (dt uX6_comesTo 11 rfl) (lv_at hl 3 rfl) ?_
          refine lv_iload_n hx hb (dt uX6_comesTo 12 rfl) rfl (lv_at hl 2 rfl) ?_
          obtain ⟨q_8, hq_9, hf⟩ := vbd hf
          refine vk_i0 [0, 1] (va_runV (As := [.int x4_1, .int p3]) (rest := []) ⟨hx, hb, hml, hown, hts⟩ (kX6_goesTo ad0 ad_ranked ad_tens v_size v_trapped a_ranked x4_1 p3 N q_8 hq_9 H.size) (vcwV hts tw_99 tw_100 tw_101 tw_97 tw_98 hd_X6_goesTo rfl rfl ⟨Nat.le_of_ble_eq_true rfl, Nat.le_of_ble_eq_true rfl⟩) (vpreV hK hN hP hD [0, 1] rfl (by decide) (ci := 6) (q0 := 0) rfl rfl) rfl rfl hl.1 rfl (lv_room (Nat.le_of_ble_eq_true rfl)) (dt uX6_comesTo 13 rfl) ⟨Nat.zero_le _, Nat.zero_le _⟩) hA hP hD hS rfl (by decide) (fun H locs hP hD hS => ?_)
          refine lv_istore (lv' := [(4, .int q_8), (0, .ref ad0), (1, .int p1), (3, .int p3), (5, .int x5_2)]) hx hb (dt uX6_comesTo 14 rfl) hl (by decide) rfl (fun ls hl => ?_)
          refine lv_iinc (v := x5_2 + 1) (lv' := [(5, .int (x5_2 + 1)), (4, .int q_8), (0, .ref ad0), (1, .int p1), (3, .int p3)]) hx hb (dt uX6_comesTo 15 rfl) hl (k := 4) rfl rfl (by decide) rfl (fun ls hl => ?_)
          refine lv_goto (tgt := 6) hx hb (dt uX6_comesTo 16 rfl) (by decide) ?_
          exact ih6 q_8 (x5_2 + 1) _ _ _ hf hP hD hS (lv_sub hl [2, 3, 4, 1, 0] rfl)
  exact hL6 N p2 (0 : Int32) _ _ _ hf hP hD hS (lv_sub hl [2, 3, 5, 1, 0] rfl)
abbrev rX6_lengthOfRound : Room := { frames := 3, cells := 0, slots := 0, locals := 72 }
abbrev wX6_lengthOfRound : List Cond := Cond.code yX6_lengthOfRound cX6_lengthOfRound 6 (some .int) :: VT
set_option maxHeartbeats 4000000 in
set_option maxRecDepth 100000 in
theorem kX6_lengthOfRound (ad0 : Nat) (ad_ranked : Nat) (ad_tens : Nat) (v_size : Int32) (v_trapped : Int32) (a_ranked : Nat → Int32) (p1 : Int32) (p2 : Int32) (N : Nat) (q0 : Int32) (hf : fX6_lengthOfRound N a_ranked v_size v_trapped p1 p2 = some q0) : Ki l yX6_lengthOfRound wX6_lengthOfRound rX6_lengthOfRound (dC, dI) (vTy cI cJ cB cZ) [.ref ad0, .int p1, .int p2] [(ad0, oX6 ad_ranked ad_tens v_size v_trapped), (ad_ranked, .inl (cI, 6, .inl a_ranked))] [(ad0, oX6 ad_ranked ad_tens v_size v_trapped), (ad_ranked, .inl (cI, 6, .inl a_ranked))] q0 := by
  refine Ki.mk (cc := cX6_lengthOfRound) (maxL := 6) (ret := some .int) (by decide) (Nat.le_of_ble_eq_true rfl) ?_
  intro p e s m args below meth c A Q H locs C hQ hP hD hS ls hl
  obtain ⟨hx, hb, -, hml, hts, hown, -, hK, hN, hA⟩ := id C
  have hown : s.vm.findClass RX6 = some m.cls := hown
  have hl : lv_has ls 6 [(0, .ref ad0), (1, .int p1), (2, .int p2)] := hl
  unfold fX6_lengthOfRound at hf
  refine lv_aload_n hx hb (dt uX6_lengthOfRound 0 rfl) rfl (lv_at hl 0 rfl) ?_
  refine lv_iload_n hx hb (dt uX6_lengthOfRound 1 rfl) rfl (lv_at hl 1 rfl) ?_
  refine lv_bipush (v := (6 : Int32)) hx hb (dt uX6_lengthOfRound 2 rfl) (by decide) ?_
  refine lv_iload_n hx hb (dt uX6_lengthOfRound 3 rfl) rfl (lv_at hl 2 rfl) ?_
  obtain ⟨q_1, hq_2, hf⟩ := vbd hf
  refine vk_i0 [0, 1] (va_runV (As := [.int p1, .int (6 : Int32), .int p2]) (rest := []) ⟨hx, hb, hml, hown, hts⟩ (kX6_walk ad0 ad_ranked ad_tens v_size v_trapped a_ranked p1 (6 : Int32) p2 N q_1 hq_2 H.size) (vcwV hts tw_103 tw_104 tw_105 tw_97 tw_102 hd_X6_walk rfl rfl ⟨Nat.le_of_ble_eq_true rfl, Nat.le_of_ble_eq_true rfl⟩) (vpreV hK hN hP hD [0, 1] rfl (by decide) (ci := 6) (q0 := 0) rfl rfl) rfl rfl hl.1 rfl (lv_room (Nat.le_of_ble_eq_true rfl)) (dt uX6_lengthOfRound 4 rfl) ⟨Nat.zero_le _, Nat.zero_le _⟩) hA hP hD hS rfl (by decide) (fun H locs hP hD hS => ?_)
  refine lv_istore_n (lv' := [(3, .int q_1), (0, .ref ad0), (1, .int p1), (2, .int p2)]) hx hb (dt uX6_lengthOfRound 5 rfl) rfl hl (by decide) rfl (fun ls hl => ?_)
  refine lv_aload_n hx hb (dt uX6_lengthOfRound 6 rfl) rfl (lv_at hl 1 rfl) ?_
  refine lv_iload_n hx hb (dt uX6_lengthOfRound 7 rfl) rfl (lv_at hl 0 rfl) ?_
  refine lv_iload_n hx hb (dt uX6_lengthOfRound 8 rfl) rfl (lv_at hl 3 rfl) ?_
  obtain ⟨q_3, hq_4, hf⟩ := vbd hf
  refine vk_i0 [0, 1] (va_runV (As := [.int q_1, .int p2]) (rest := []) ⟨hx, hb, hml, hown, hts⟩ (kX6_goesTo ad0 ad_ranked ad_tens v_size v_trapped a_ranked q_1 p2 N q_3 hq_4 H.size) (vcwV hts tw_99 tw_100 tw_101 tw_97 tw_98 hd_X6_goesTo rfl rfl ⟨Nat.le_of_ble_eq_true rfl, Nat.le_of_ble_eq_true rfl⟩) (vpreV hK hN hP hD [0, 1] rfl (by decide) (ci := 6) (q0 := 0) rfl rfl) rfl rfl hl.1 rfl (lv_room (Nat.le_of_ble_eq_true rfl)) (dt uX6_lengthOfRound 9 rfl) ⟨Nat.zero_le _, Nat.zero_le _⟩) hA hP hD hS rfl (by decide) (fun H locs hP hD hS => ?_)
  refine lv_istore (lv' := [(4, .int q_3), (3, .int q_1), (0, .ref ad0), (1, .int p1), (2, .int p2)]) hx hb (dt uX6_lengthOfRound 10 rfl) hl (by decide) rfl (fun ls hl => ?_)
  refine lv_iconst (v := (1 : Int32)) hx hb (dt uX6_lengthOfRound 11 rfl) (by decide) ?_
  refine lv_istore (lv' := [(5, .int (1 : Int32)), (4, .int q_3), (3, .int q_1), (0, .ref ad0), (1, .int p1), (2, .int p2)]) hx hb (dt uX6_lengthOfRound 12 rfl) hl (by decide) rfl (fun ls hl => ?_)
  have hL20 : ∀ (n20 : Nat), ∀ (x4_5 : Int32) (x5_6 : Int32) (H : Heap) (locs : List Loc) (ls : Array Slot), fX6_lengthOfRound_L20 N a_ranked v_size v_trapped p2 q_1 n20 x4_5 x5_6 = some q0 → va_P (dC, dI) vwCl [(ad0, oX6 ad_ranked ad_tens v_size v_trapped), (ad_ranked, .inl (cI, 6, .inl a_ranked))] H → va_D A [(ad0, oX6 ad_ranked ad_tens v_size v_trapped), (ad_ranked, .inl (cI, 6, .inl a_ranked))] → va_S A s.heap H locs → lv_has ls 6 [(0, .ref ad0), (2, .int p2), (3, .int q_1), (4, .int x4_5), (5, .int x5_6)] → W p l e rX6_lengthOfRound s m args below meth c H locs 0 0 Q (F0 m 20 ls []) := by
    intro n20
    induction n20 with
    | zero => intro x4_5 x5_6 H locs ls hf hP hD hS hl; cases hf
    | succ n20 ih20 =>
      intro x4_5 x5_6 H locs ls hf hP hD hS hl
      rw [fX6_lengthOfRound_L20] at hf
      refine lv_iload hx hb (dt uX6_lengthOfRound 13 rfl) (lv_at hl 3 rfl) ?_
      refine lv_iload_n hx hb (dt uX6_lengthOfRound 14 rfl) rfl (lv_at hl 2 rfl) ?_
      refine lv_icmp_eq (tgt := 48) hx hb (dt uX6_lengthOfRound 15 rfl) (by decide) (fun c_7 => ?_) (fun c_7 => ?_)
      · have hf := vif_t c_7 hf
        refine lv_iload hx hb (dt uX6_lengthOfRound 26 rfl) (lv_at hl 4 rfl) ?_
        have hf := Option.some.inj hf
        subst hf
        rw [hQ]
        exact vret_i C hP hD hS (dt uX6_lengthOfRound 27 rfl)
      · have hf := vif_f c_7 hf
        refine lv_iload hx hb (dt uX6_lengthOfRound 16 rfl) (lv_at hl 4 rfl) ?_
        refine lv_bipush (v := (6 : Int32)) hx hb (dt uX6_lengthOfRound 17 rfl) (by decide) ?_
        refine lv_icmp_ge (tgt := 48) hx hb (dt uX6_lengthOfRound 18 rfl) (by decide) (fun c_8 => ?_) (fun c_8 => ?_)
        · have hf := vif_t c_8 hf
          refine lv_iload hx hb (dt uX6_lengthOfRound 26 rfl) (lv_at hl 4 rfl) ?_
          have hf := Option.some.inj hf
          subst hf
          rw [hQ]
          exact vret_i C hP hD hS (dt uX6_lengthOfRound 27 rfl)
        · have hf := vif_f c_8 hf
          refine lv_aload_n hx hb (dt uX6_lengthOfRound 19 rfl) rfl (lv_at hl 0 rfl) ?_
          refine lv_iload hx hb (dt uX6_lengthOfRound 20 rfl) (lv_at hl 3 rfl) ?_
          refine lv_iload_n hx hb (dt uX6_lengthOfRound 21 rfl) rfl (lv_at hl 1 rfl) ?_
          obtain ⟨q_9, hq_10, hf⟩ := vbd hf
          refine vk_i0 [0, 1] (va_runV (As := [.int x4_5, .int p2]) (rest := []) ⟨hx, hb, hml, hown, hts⟩ (kX6_goesTo ad0 ad_ranked ad_tens v_size v_trapped a_ranked x4_5 p2 N q_9 hq_10 H.size) (vcwV hts tw_99 tw_100 tw_101 tw_97 tw_98 hd_X6_goesTo rfl rfl ⟨Nat.le_of_ble_eq_true rfl, Nat.le_of_ble_eq_true rfl⟩) (vpreV hK hN hP hD [0, 1] rfl (by decide) (ci := 6) (q0 := 0) rfl rfl) rfl rfl hl.1 rfl (lv_room (Nat.le_of_ble_eq_true rfl)) (dt uX6_lengthOfRound 22 rfl) ⟨Nat.zero_le _, Nat.zero_le _⟩) hA hP hD hS rfl (by decide) (fun H locs hP hD hS => ?_)
          refine lv_istore (lv' := [(4, .int q_9), (0, .ref ad0), (2, .int p2), (3, .int q_1), (5, .int x5_6)]) hx hb (dt uX6_lengthOfRound 23 rfl) hl (by decide) rfl (fun ls hl => ?_)
          refine lv_iinc (v := x5_6 + 1) (lv' := [(5, .int (x5_6 + 1)), (4, .int q_9), (0, .ref ad0), (2, .int p2), (3, .int q_1)]) hx hb (dt uX6_lengthOfRound 24 rfl) hl (k := 4) rfl rfl (by decide) rfl (fun ls hl => ?_)
          refine lv_goto (tgt := 20) hx hb (dt uX6_lengthOfRound 25 rfl) (by decide) ?_
          exact ih20 q_9 (x5_6 + 1) _ _ _ hf hP hD hS (lv_sub hl [2, 3, 4, 1, 0] rfl)
  exact hL20 N q_3 (1 : Int32) _ _ _ hf hP hD hS (lv_sub hl [3, 5, 2, 1, 0] rfl)
abbrev rX6_daysToRound : Room := { frames := 3, cells := 0, slots := 0, locals := 72 }
abbrev wX6_daysToRound : List Cond := Cond.code yX6_daysToRound cX6_daysToRound 7 (some .int) :: VT
set_option maxHeartbeats 4000000 in
set_option maxRecDepth 100000 in
theorem kX6_daysToRound (ad0 : Nat) (ad_ranked : Nat) (ad_tens : Nat) (v_size : Int32) (v_trapped : Int32) (a_ranked : Nat → Int32) (p1 : Int32) (p2 : Int32) (p3 : Int32) (N : Nat) (q0 : Int32) (hf : fX6_daysToRound N a_ranked v_size v_trapped p1 p2 p3 = some q0) : Ki l yX6_daysToRound wX6_daysToRound rX6_daysToRound (dC, dI) (vTy cI cJ cB cZ) [.ref ad0, .int p1, .int p2, .int p3] [(ad0, oX6 ad_ranked ad_tens v_size v_trapped), (ad_ranked, .inl (cI, 6, .inl a_ranked))] [(ad0, oX6 ad_ranked ad_tens v_size v_trapped), (ad_ranked, .inl (cI, 6, .inl a_ranked))] q0 := by
  refine Ki.mk (cc := cX6_daysToRound) (maxL := 7) (ret := some .int) (by decide) (Nat.le_of_ble_eq_true rfl) ?_
  intro p e s m args below meth c A Q H locs C hQ hP hD hS ls hl
  obtain ⟨hx, hb, -, hml, hts, hown, -, hK, hN, hA⟩ := id C
  have hown : s.vm.findClass RX6 = some m.cls := hown
  have hl : lv_has ls 7 [(0, .ref ad0), (1, .int p1), (2, .int p2), (3, .int p3)] := hl
  unfold fX6_daysToRound at hf
  refine lv_iload_n hx hb (dt uX6_daysToRound 0 rfl) rfl (lv_at hl 1 rfl) ?_
  refine lv_istore (lv' := [(4, .int p1), (0, .ref ad0), (1, .int p1), (2, .int p2), (3, .int p3)]) hx hb (dt uX6_daysToRound 1 rfl) hl (by decide) rfl (fun ls hl => ?_)
  refine lv_aload_n hx hb (dt uX6_daysToRound 2 rfl) rfl (lv_at hl 1 rfl) ?_
  refine lv_iload_n hx hb (dt uX6_daysToRound 3 rfl) rfl (lv_at hl 2 rfl) ?_
  refine lv_iload_n hx hb (dt uX6_daysToRound 4 rfl) rfl (lv_at hl 3 rfl) ?_
  refine lv_iload_n hx hb (dt uX6_daysToRound 5 rfl) rfl (lv_at hl 4 rfl) ?_
  obtain ⟨q_1, hq_2, hf⟩ := vbd hf
  refine vk_i0 [0, 1] (va_runV (As := [.int p1, .int p2, .int p3]) (rest := []) ⟨hx, hb, hml, hown, hts⟩ (kX6_walk ad0 ad_ranked ad_tens v_size v_trapped a_ranked p1 p2 p3 N q_1 hq_2 H.size) (vcwV hts tw_103 tw_104 tw_105 tw_97 tw_102 hd_X6_walk rfl rfl ⟨Nat.le_of_ble_eq_true rfl, Nat.le_of_ble_eq_true rfl⟩) (vpreV hK hN hP hD [0, 1] rfl (by decide) (ci := 6) (q0 := 0) rfl rfl) rfl rfl hl.1 rfl (lv_room (Nat.le_of_ble_eq_true rfl)) (dt uX6_daysToRound 6 rfl) ⟨Nat.zero_le _, Nat.zero_le _⟩) hA hP hD hS rfl (by decide) (fun H locs hP hD hS => ?_)
  refine lv_istore (lv' := [(5, .int q_1), (4, .int p1), (0, .ref ad0), (1, .int p1), (2, .int p2), (3, .int p3)]) hx hb (dt uX6_daysToRound 7 rfl) hl (by decide) rfl (fun ls hl => ?_)
  refine lv_iconst (v := (0 : Int32)) hx hb (dt uX6_daysToRound 8 rfl) (by decide) ?_
  refine lv_istore (lv' := [(6, .int (0 : Int32)), (5, .int q_1), (4, .int p1), (0, .ref ad0), (1, .int p1), (2, .int p2), (3, .int p3)]) hx hb (dt uX6_daysToRound 9 rfl) hl (by decide) rfl (fun ls hl => ?_)
  have hL15 : ∀ (n15 : Nat), ∀ (x4_3 : Int32) (x5_4 : Int32) (x6_5 : Int32) (H : Heap) (locs : List Loc) (ls : Array Slot), fX6_daysToRound_L15 N a_ranked v_size v_trapped p3 n15 x4_3 x5_4 x6_5 = some q0 → va_P (dC, dI) vwCl [(ad0, oX6 ad_ranked ad_tens v_size v_trapped), (ad_ranked, .inl (cI, 6, .inl a_ranked))] H → va_D A [(ad0, oX6 ad_ranked ad_tens v_size v_trapped), (ad_ranked, .inl (cI, 6, .inl a_ranked))] → va_S A s.heap H locs → lv_has ls 7 [(0, .ref ad0), (3, .int p3), (4, .int x4_3), (5, .int x5_4), (6, .int x6_5)] → W p l e rX6_daysToRound s m args below meth c H locs 0 0 Q (F0 m 15 ls []) := by
    intro n15
    induction n15 with
    | zero => intro x4_3 x5_4 x6_5 H locs ls hf hP hD hS hl; cases hf
    | succ n15 ih15 =>
      intro x4_3 x5_4 x6_5 H locs ls hf hP hD hS hl
      rw [fX6_daysToRound_L15] at hf
      refine lv_iload hx hb (dt uX6_daysToRound 10 rfl) (lv_at hl 2 rfl) ?_
      refine lv_iload hx hb (dt uX6_daysToRound 11 rfl) (lv_at hl 3 rfl) ?_
      refine lv_icmp_eq (tgt := 53) hx hb (dt uX6_daysToRound 12 rfl) (by decide) (fun c_6 => ?_) (fun c_6 => ?_)
      · have hf := vif_t c_6 hf
        refine lv_iload hx hb (dt uX6_daysToRound 28 rfl) (lv_at hl 4 rfl) ?_
        have hf := Option.some.inj hf
        subst hf
        rw [hQ]
        exact vret_i C hP hD hS (dt uX6_daysToRound 29 rfl)
      · have hf := vif_f c_6 hf
        refine lv_iload hx hb (dt uX6_daysToRound 13 rfl) (lv_at hl 4 rfl) ?_
        refine lv_bipush (v := (6 : Int32)) hx hb (dt uX6_daysToRound 14 rfl) (by decide) ?_
        refine lv_icmp_ge (tgt := 53) hx hb (dt uX6_daysToRound 15 rfl) (by decide) (fun c_7 => ?_) (fun c_7 => ?_)
        · have hf := vif_t c_7 hf
          refine lv_iload hx hb (dt uX6_daysToRound 28 rfl) (lv_at hl 4 rfl) ?_
          have hf := Option.some.inj hf
          subst hf
          rw [hQ]
          exact vret_i C hP hD hS (dt uX6_daysToRound 29 rfl)
        · have hf := vif_f c_7 hf
          refine lv_aload_n hx hb (dt uX6_daysToRound 16 rfl) rfl (lv_at hl 0 rfl) ?_
          refine lv_iload hx hb (dt uX6_daysToRound 17 rfl) (lv_at hl 2 rfl) ?_
          refine lv_iload_n hx hb (dt uX6_daysToRound 18 rfl) rfl (lv_at hl 1 rfl) ?_
          obtain ⟨q_8, hq_9, hf⟩ := vbd hf
          refine vk_i0 [0, 1] (va_runV (As := [.int x4_3, .int p3]) (rest := []) ⟨hx, hb, hml, hown, hts⟩ (kX6_goesTo ad0 ad_ranked ad_tens v_size v_trapped a_ranked x4_3 p3 N q_8 hq_9 H.size) (vcwV hts tw_99 tw_100 tw_101 tw_97 tw_98 hd_X6_goesTo rfl rfl ⟨Nat.le_of_ble_eq_true rfl, Nat.le_of_ble_eq_true rfl⟩) (vpreV hK hN hP hD [0, 1] rfl (by decide) (ci := 6) (q0 := 0) rfl rfl) rfl rfl hl.1 rfl (lv_room (Nat.le_of_ble_eq_true rfl)) (dt uX6_daysToRound 19 rfl) ⟨Nat.zero_le _, Nat.zero_le _⟩) hA hP hD hS rfl (by decide) (fun H locs hP hD hS => ?_)
          refine lv_istore (lv' := [(4, .int q_8), (0, .ref ad0), (3, .int p3), (5, .int x5_4), (6, .int x6_5)]) hx hb (dt uX6_daysToRound 20 rfl) hl (by decide) rfl (fun ls hl => ?_)
          refine lv_aload_n hx hb (dt uX6_daysToRound 21 rfl) rfl (lv_at hl 1 rfl) ?_
          refine lv_iload hx hb (dt uX6_daysToRound 22 rfl) (lv_at hl 3 rfl) ?_
          refine lv_iload_n hx hb (dt uX6_daysToRound 23 rfl) rfl (lv_at hl 2 rfl) ?_
          obtain ⟨q_10, hq_11, hf⟩ := vbd hf
          refine vk_i0 [0, 1] (va_runV (As := [.int x5_4, .int p3]) (rest := []) ⟨hx, hb, hml, hown, hts⟩ (kX6_goesTo ad0 ad_ranked ad_tens v_size v_trapped a_ranked x5_4 p3 N q_10 hq_11 H.size) (vcwV hts tw_99 tw_100 tw_101 tw_97 tw_98 hd_X6_goesTo rfl rfl ⟨Nat.le_of_ble_eq_true rfl, Nat.le_of_ble_eq_true rfl⟩) (vpreV hK hN hP hD [0, 1] rfl (by decide) (ci := 6) (q0 := 0) rfl rfl) rfl rfl hl.1 rfl (lv_room (Nat.le_of_ble_eq_true rfl)) (dt uX6_daysToRound 24 rfl) ⟨Nat.zero_le _, Nat.zero_le _⟩) hA hP hD hS rfl (by decide) (fun H locs hP hD hS => ?_)
          refine lv_istore (lv' := [(5, .int q_10), (4, .int q_8), (0, .ref ad0), (3, .int p3), (6, .int x6_5)]) hx hb (dt uX6_daysToRound 25 rfl) hl (by decide) rfl (fun ls hl => ?_)
          refine lv_iinc (v := x6_5 + 1) (lv' := [(6, .int (x6_5 + 1)), (5, .int q_10), (4, .int q_8), (0, .ref ad0), (3, .int p3)]) hx hb (dt uX6_daysToRound 26 rfl) hl (k := 4) rfl rfl (by decide) rfl (fun ls hl => ?_)
          refine lv_goto (tgt := 15) hx hb (dt uX6_daysToRound 27 rfl) (by decide) ?_
          exact ih15 q_8 q_10 (x6_5 + 1) _ _ _ hf hP hD hS (lv_sub hl [3, 4, 2, 1, 0] rfl)
  exact hL15 N p1 q_1 (0 : Int32) _ _ _ hf hP hD hS (lv_sub hl [3, 6, 2, 1, 0] rfl)
abbrev rX7_type : Room := { frames := 1, cells := 0, slots := 0, locals := 22 }
abbrev wX7_type : List Cond := Cond.code yX7_type cX7_type 2 (some .int) :: VT
set_option maxHeartbeats 4000000 in
set_option maxRecDepth 100000 in
theorem kX7_type (ad0 : Nat) (ad_text : Nat) (ad_text_bytes : Nat) (ad_draft : Nat) (ad_told : Nat) (ad_now : Nat) (ad_history : Nat) (ad_firstImage : Nat) (ad_secondImage : Nat) (ad_seen : Nat) (ad_ways : Nat) (v_traced : Int64) (v_text_length : Int32) (v_text_place : Int32) (v_text_token : Int32) (v_text_begin : Int32) (v_text_value : Int32) (a_text_bytes : Nat → Int32) (p1 : Int32) (q0 : (Int32 × (Nat → Int32) × Int32)) (hf : fX7_type a_text_bytes v_text_length p1 = some q0) : Ki l yX7_type wX7_type rX7_type (dC, dI) (vTy cI cJ cB cZ) [.ref ad0, .int p1] [(ad0, oX7 ad_text ad_draft ad_told ad_now ad_history ad_firstImage ad_secondImage ad_seen ad_ways v_traced), (ad_text, oX5 ad_text_bytes v_text_length v_text_place v_text_token v_text_begin v_text_value), (ad_text_bytes, .inl (cI, 150, .inl a_text_bytes))] [(ad0, oX7 ad_text ad_draft ad_told ad_now ad_history ad_firstImage ad_secondImage ad_seen ad_ways v_traced), (ad_text, oX5 ad_text_bytes q0.2.2 v_text_place v_text_token v_text_begin v_text_value), (ad_text_bytes, .inl (cI, 150, .inl q0.2.1))] q0.1 := by
  refine Ki.mk (cc := cX7_type) (maxL := 2) (ret := some .int) (by decide) (Nat.le_of_ble_eq_true rfl) ?_
  intro p e s m args below meth c A Q H locs C hQ hP hD hS ls hl
  obtain ⟨hx, hb, -, hml, hts, hown, -, hK, hN, hA⟩ := id C
  have hown : s.vm.findClass RX7 = some m.cls := hown
  have hl : lv_has ls 2 [(0, .ref ad0), (1, .int p1)] := hl
  unfold fX7_type at hf
  refine lv_iload_n hx hb (dt uX7_type 0 rfl) rfl (lv_at hl 1 rfl) ?_
  refine lv_iconst (v := (0 : Int32)) hx hb (dt uX7_type 1 rfl) (by decide) ?_
  refine lv_sipush (v := (255 : Int32)) hx hb (dt uX7_type 2 rfl) (by decide) ?_
  refine vk_z0 [] (va_runS (As := [.int p1, .int (0 : Int32), .int (255 : Int32)]) (rest := []) ⟨hx, hb, hml, hown, hts⟩ (kX7_within p1 (0 : Int32) (255 : Int32) _ rfl H.size) (vcwS hts tw_106 tw_43 tw_41 tw_42 hd_X7_within rfl rfl ⟨Nat.le_of_ble_eq_true rfl, Nat.le_of_ble_eq_true rfl⟩) (vpreS hK hN hP hD [] rfl (by decide)) rfl rfl hl.1 rfl (lv_room (Nat.le_of_ble_eq_true rfl)) (dt uX7_type 3 rfl) ⟨Nat.zero_le _, Nat.zero_le _⟩) hA hP hD hS rfl (by decide) (fun hz_1 H locs hP hD hS => ?_)
  refine lv_if_ne (tgt := 13) hx hb (dt uX7_type 4 rfl) (by decide) (fun c_2 => ?_) (fun c_2 => ?_)
  · have hf := vif_f c_2 hf
    refine lv_aload_n hx hb (dt uX7_type 7 rfl) rfl (lv_at hl 0 rfl) ?_
    refine va_get (D := (dC, dI)) (ci := 7) (v := .ref ad_text) (C := RX7) (T := TX7) (N := 10) hx hb hts inU7 hown hK hP 0 rfl rfl 0 (by decide) (hts _ tw_107) (fun _ h9 => h9) rfl (dt uX7_type 8 rfl) ?_
    refine lv_iload_n hx hb (dt uX7_type 9 rfl) rfl (lv_at hl 1 rfl) ?_
    obtain ⟨q_3, hq_4, hf⟩ := vbd hf
    refine vk_z [1, 2] (ws2 := [(ad0, oX7 ad_text ad_draft ad_told ad_now ad_history ad_firstImage ad_secondImage ad_seen ad_ways v_traced), (ad_text, oX5 ad_text_bytes q_3.2.2 v_text_place v_text_token v_text_begin v_text_value), (ad_text_bytes, .inl (cI, 150, .inl q_3.2.1))]) (va_runVN (As := [.int p1]) (rest := []) ⟨hx, hb, hml, hown, hts⟩ (kX5_append ad_text ad_text_bytes v_text_length v_text_place v_text_token v_text_begin v_text_value a_text_bytes p1 q_3 hq_4 H.size) (vcwVN hts (nm_31 hN) tw_109 tw_110 tw_45 tw_108 hd_X5_append rfl rfl ⟨Nat.le_of_ble_eq_true rfl, Nat.le_of_ble_eq_true rfl⟩) (vpreV hK hN hP hD [1, 2] rfl (by decide) (ci := 5) (q0 := 1) rfl rfl) rfl rfl hl.1 rfl (lv_room (Nat.le_of_ble_eq_true rfl)) (dt uX7_type 10 rfl) ⟨Nat.zero_le _, Nat.zero_le _⟩) hA hP hD hS rfl (by decide) rfl rfl (fun hz_5 H locs hP hD hS => ?_)
    refine lv_if_eq (tgt := 34) hx hb (dt uX7_type 11 rfl) (by decide) (fun c_6 => ?_) (fun c_6 => ?_)
    · have hf := vif_t c_6 hf
      refine lv_bipush (v := (-3 : Int32)) hx hb (dt uX7_type 16 rfl) (by decide) ?_
      have hf := Option.some.inj hf
      subst hf
      rw [hQ]
      exact vret_i C hP hD hS (dt uX7_type 17 rfl)
    · have hf := vif_f c_6 hf
      refine lv_aload_n hx hb (dt uX7_type 12 rfl) rfl (lv_at hl 0 rfl) ?_
      refine va_get (D := (dC, dI)) (ci := 7) (v := .ref ad_text) (C := RX7) (T := TX7) (N := 10) hx hb hts inU7 hown hK hP 0 rfl rfl 0 (by decide) (hts _ tw_107) (fun _ h9 => h9) rfl (dt uX7_type 13 rfl) ?_
      refine va_getN (D := (dC, dI)) (ci := 5) (v := .int q_3.2.2) (C := RX5) (T := TX5) (N := 6) hx hb hts inU5 hown hK hP 1 rfl rfl 1 (by decide) (nw_1 hN) (fun _ h9 => h9) rfl (dt uX7_type 14 rfl) ?_
      refine lv_goto (tgt := 36) hx hb (dt uX7_type 15 rfl) (by decide) ?_
      have hf := Option.some.inj hf
      subst hf
      rw [hQ]
      exact vret_i C hP hD hS (dt uX7_type 17 rfl)
  · have hf := vif_t c_2 hf
    refine lv_iconst (v := (-1 : Int32)) hx hb (dt uX7_type 5 rfl) (by decide) ?_
    have hf := Option.some.inj hf
    subst hf
    rw [hQ]
    exact vret_i C hP hD hS (dt uX7_type 6 rfl)
abbrev rX7_clear : Room := { frames := 0, cells := 0, slots := 0, locals := 0 }
abbrev wX7_clear : List Cond := Cond.code yX7_clear cX7_clear 2 (some .int) :: VT
set_option maxHeartbeats 4000000 in
set_option maxRecDepth 100000 in
theorem kX7_clear (ad0 : Nat) (ad_text : Nat) (ad_text_bytes : Nat) (ad_draft : Nat) (ad_told : Nat) (ad_now : Nat) (ad_history : Nat) (ad_firstImage : Nat) (ad_secondImage : Nat) (ad_seen : Nat) (ad_ways : Nat) (v_traced : Int64) (v_text_length : Int32) (v_text_place : Int32) (v_text_token : Int32) (v_text_begin : Int32) (v_text_value : Int32) (q0 : (Int32 × Int32)) (hf : fX7_clear v_text_length = q0) : Ki l yX7_clear wX7_clear rX7_clear (dC, dI) (vTy cI cJ cB cZ) [.ref ad0] [(ad0, oX7 ad_text ad_draft ad_told ad_now ad_history ad_firstImage ad_secondImage ad_seen ad_ways v_traced), (ad_text, oX5 ad_text_bytes v_text_length v_text_place v_text_token v_text_begin v_text_value)] [(ad0, oX7 ad_text ad_draft ad_told ad_now ad_history ad_firstImage ad_secondImage ad_seen ad_ways v_traced), (ad_text, oX5 ad_text_bytes q0.2 v_text_place v_text_token v_text_begin v_text_value)] q0.1 := by
  refine Ki.mk (cc := cX7_clear) (maxL := 2) (ret := some .int) (by decide) (Nat.le_of_ble_eq_true rfl) ?_
  intro p e s m args below meth c A Q H locs C hQ hP hD hS ls hl
  obtain ⟨hx, hb, -, hml, hts, hown, -, hK, hN, hA⟩ := id C
  have hown : s.vm.findClass RX7 = some m.cls := hown
  have hl : lv_has ls 2 [(0, .ref ad0)] := hl
  unfold fX7_clear at hf
  refine lv_aload_n hx hb (dt uX7_clear 0 rfl) rfl (lv_at hl 0 rfl) ?_
  refine va_get (D := (dC, dI)) (ci := 7) (v := .ref ad_text) (C := RX7) (T := TX7) (N := 10) hx hb hts inU7 hown hK hP 0 rfl rfl 0 (by decide) (hts _ tw_107) (fun _ h9 => h9) rfl (dt uX7_clear 1 rfl) ?_
  refine va_getN (D := (dC, dI)) (ci := 5) (v := .int v_text_length) (C := RX5) (T := TX5) (N := 6) hx hb hts inU5 hown hK hP 1 rfl rfl 1 (by decide) (nw_1 hN) (fun _ h9 => h9) rfl (dt uX7_clear 2 rfl) ?_
  refine lv_istore_n (lv' := [(1, .int v_text_length), (0, .ref ad0)]) hx hb (dt uX7_clear 3 rfl) rfl hl (by decide) rfl (fun ls hl => ?_)
  refine lv_aload_n hx hb (dt uX7_clear 4 rfl) rfl (lv_at hl 1 rfl) ?_
  refine va_get (D := (dC, dI)) (ci := 7) (v := .ref ad_text) (C := RX7) (T := TX7) (N := 10) hx hb hts inU7 hown hK hP 0 rfl rfl 0 (by decide) (hts _ tw_107) (fun _ h9 => h9) rfl (dt uX7_clear 5 rfl) ?_
  refine lv_iconst (v := (0 : Int32)) hx hb (dt uX7_clear 6 rfl) (by decide) ?_
  refine va_putN (D := (dC, dI)) (ci := 5) (v := .int (0 : Int32)) (ty := .int) (C := RX5) (T := TX5) (N := 6) hx hb hts inU5 tyX5 tyX5_ok nmX5 hown hK hP hD hS 1 rfl rfl 1 (by decide) (nw_1 hN) (fun _ h9 => h9) rfl (by decide +kernel) rfl rfl (Nat.le_of_ble_eq_true rfl) (dt uX7_clear 7 rfl) (fun H locs hP hD hS => ?_)
  have hP : va_P (dC, dI) vwCl [(ad0, oX7 ad_text ad_draft ad_told ad_now ad_history ad_firstImage ad_secondImage ad_seen ad_ways v_traced), (ad_text, oX5 ad_text_bytes (0 : Int32) v_text_place v_text_token v_text_begin v_text_value)] H := hP
  have hD : va_D A [(ad0, oX7 ad_text ad_draft ad_told ad_now ad_history ad_firstImage ad_secondImage ad_seen ad_ways v_traced), (ad_text, oX5 ad_text_bytes (0 : Int32) v_text_place v_text_token v_text_begin v_text_value)] := hD
  refine lv_iload_n hx hb (dt uX7_clear 8 rfl) rfl (lv_at hl 0 rfl) ?_
  subst hf
  rw [hQ]
  exact vret_i C hP hD hS (dt uX7_clear 9 rfl)
abbrev rX7_books : Room := { frames := 6, cells := 0, slots := 0, locals := 129 }
abbrev wX7_books : List Cond := Cond.code yX7_books cX7_books 2 (some .int) :: VT
set_option maxHeartbeats 4000000 in
set_option maxRecDepth 100000 in
theorem kX7_books (ad0 : Nat) (ad_text : Nat) (ad_text_bytes : Nat) (ad_draft : Nat) (ad_draft_a : Nat) (ad_draft_b : Nat) (ad_told : Nat) (ad_told_a : Nat) (ad_told_b : Nat) (ad_now : Nat) (ad_history : Nat) (ad_history_steps : Nat) (ad_firstImage : Nat) (ad_firstImage_history : Nat) (ad_secondImage : Nat) (ad_secondImage_history : Nat) (ad_seen : Nat) (ad_seen_days : Nat) (ad_seen_books : Nat) (ad_seen_there : Nat) (ad_ways : Nat) (v_traced : Int64) (v_text_length : Int32) (v_text_place : Int32) (v_text_token : Int32) (v_text_begin : Int32) (v_text_value : Int32) (a_text_bytes : Nat → Int32) (v_draft_size : Int32) (v_draft_touches : Int32) (v_draft_one : Int32) (a_draft_a : Nat → Int32) (a_draft_b : Nat → Int32) (v_told_size : Int32) (v_told_touches : Int32) (v_told_one : Int32) (a_told_a : Nat → Int32) (a_told_b : Nat → Int32) (v_now_forgotten : Int32) (v_now_touches : Int32) (v_now_trapped : Int32) (v_now_one : Int32) (v_now_date : Int32) (v_history_known : Int32) (v_firstImage_packed : Int64) (v_firstImage_kept : Int32) (v_secondImage_packed : Int64) (v_secondImage_kept : Int32) (v_seen_size : Int32) (N : Nat) (q0 : (Int32 × Int32 × Int32 × Int32 × Int32 × Int32 × (Nat → Int32) × (Nat → Int32) × Int32 × Int32 × Int32 × (Nat → Int32) × (Nat → Int32) × Int32 × Int32 × Int32 × Int32 × Int32 × Int32 × Int32 × Int32 × Int32 × Int32 × Int32 × Int32)) (hf : fX7_books N a_text_bytes v_text_length v_text_place v_text_token v_text_begin v_text_value a_draft_a a_draft_b v_draft_size v_draft_touches v_draft_one a_told_a a_told_b v_told_size v_told_touches v_told_one v_now_forgotten v_now_touches v_now_trapped v_now_one v_now_date v_history_known v_firstImage_kept v_secondImage_kept v_seen_size = some q0) : Ki l yX7_books wX7_books rX7_books (dC, dI) (vTy cI cJ cB cZ) [.ref ad0] [(ad0, oX7 ad_text ad_draft ad_told ad_now ad_history ad_firstImage ad_secondImage ad_seen ad_ways v_traced), (ad_text, oX5 ad_text_bytes v_text_length v_text_place v_text_token v_text_begin v_text_value), (ad_text_bytes, .inl (cI, 150, .inl a_text_bytes)), (ad_draft, oX0 ad_draft_a ad_draft_b v_draft_size v_draft_touches v_draft_one), (ad_draft_a, .inl (cI, 6, .inl a_draft_a)), (ad_draft_b, .inl (cI, 6, .inl a_draft_b)), (ad_told, oX0 ad_told_a ad_told_b v_told_size v_told_touches v_told_one), (ad_told_a, .inl (cI, 6, .inl a_told_a)), (ad_told_b, .inl (cI, 6, .inl a_told_b)), (ad_now, oX3 v_now_forgotten v_now_touches v_now_trapped v_now_one v_now_date), (ad_history, oX1 ad_history_steps v_history_known), (ad_firstImage, oX2 ad_firstImage_history v_firstImage_packed v_firstImage_kept), (ad_secondImage, oX2 ad_secondImage_history v_secondImage_packed v_secondImage_kept), (ad_seen, oX4 ad_seen_days ad_seen_books ad_seen_there v_seen_size)] [(ad0, oX7 ad_text ad_draft ad_told ad_now ad_history ad_firstImage ad_secondImage ad_seen ad_ways v_traced), (ad_text, oX5 ad_text_bytes q0.2.1 q0.2.2.1 q0.2.2.2.1 q0.2.2.2.2.1 q0.2.2.2.2.2.1), (ad_text_bytes, .inl (cI, 150, .inl a_text_bytes)), (ad_draft, oX0 ad_draft_a ad_draft_b q0.2.2.2.2.2.2.2.2.1 q0.2.2.2.2.2.2.2.2.2.1 q0.2.2.2.2.2.2.2.2.2.2.1), (ad_draft_a, .inl (cI, 6, .inl q0.2.2.2.2.2.2.1)), (ad_draft_b, .inl (cI, 6, .inl q0.2.2.2.2.2.2.2.1)), (ad_told, oX0 ad_told_a ad_told_b q0.2.2.2.2.2.2.2.2.2.2.2.2.2.1 q0.2.2.2.2.2.2.2.2.2.2.2.2.2.2.1 q0.2.2.2.2.2.2.2.2.2.2.2.2.2.2.2.1), (ad_told_a, .inl (cI, 6, .inl q0.2.2.2.2.2.2.2.2.2.2.2.1)), (ad_told_b, .inl (cI, 6, .inl q0.2.2.2.2.2.2.2.2.2.2.2.2.1)), (ad_now, oX3 q0.2.2.2.2.2.2.2.2.2.2.2.2.2.2.2.2.1 q0.2.2.2.2.2.2.2.2.2.2.2.2.2.2.2.2.2.1 q0.2.2.2.2.2.2.2.2.2.2.2.2.2.2.2.2.2.2.1 q0.2.2.2.2.2.2.2.2.2.2.2.2.2.2.2.2.2.2.2.1 q0.2.2.2.2.2.2.2.2.2.2.2.2.2.2.2.2.2.2.2.2.1), (ad_history, oX1 ad_history_steps q0.2.2.2.2.2.2.2.2.2.2.2.2.2.2.2.2.2.2.2.2.2.1), (ad_firstImage, oX2 ad_firstImage_history v_firstImage_packed q0.2.2.2.2.2.2.2.2.2.2.2.2.2.2.2.2.2.2.2.2.2.2.1), (ad_secondImage, oX2 ad_secondImage_history v_secondImage_packed q0.2.2.2.2.2.2.2.2.2.2.2.2.2.2.2.2.2.2.2.2.2.2.2.1), (ad_seen, oX4 ad_seen_days ad_seen_books ad_seen_there q0.2.2.2.2.2.2.2.2.2.2.2.2.2.2.2.2.2.2.2.2.2.2.2.2)] q0.1 := by
  refine Ki.mk (cc := cX7_books) (maxL := 2) (ret := some .int) (by decide) (Nat.le_of_ble_eq_true rfl) ?_
  intro p e s m args below meth c A Q H locs C hQ hP hD hS ls hl
  obtain ⟨hx, hb, -, hml, hts, hown, -, hK, hN, hA⟩ := id C
  have hown : s.vm.findClass RX7 = some m.cls := hown
  have hl : lv_has ls 2 [(0, .ref ad0)] := hl
  unfold fX7_books at hf
  refine lv_aload_n hx hb (dt uX7_books 0 rfl) rfl (lv_at hl 0 rfl) ?_
  refine va_get (D := (dC, dI)) (ci := 7) (v := .ref ad_draft) (C := RX7) (T := TX7) (N := 10) hx hb hts inU7 hown hK hP 0 rfl rfl 1 (by decide) (hts _ tw_111) (fun _ h9 => h9) rfl (dt uX7_books 1 rfl) ?_
  refine vk_v [3] (ws2 := [(ad0, oX7 ad_text ad_draft ad_told ad_now ad_history ad_firstImage ad_secondImage ad_seen ad_ways v_traced), (ad_text, oX5 ad_text_bytes v_text_length v_text_place v_text_token v_text_begin v_text_value), (ad_text_bytes, .inl (cI, 150, .inl a_text_bytes)), (ad_draft, oX0 ad_draft_a ad_draft_b ((fX0_empty v_draft_size v_draft_touches v_draft_one).1) ((fX0_empty v_draft_size v_draft_touches v_draft_one).2.1) ((fX0_empty v_draft_size v_draft_touches v_draft_one).2.2)), (ad_draft_a, .inl (cI, 6, .inl a_draft_a)), (ad_draft_b, .inl (cI, 6, .inl a_draft_b)), (ad_told, oX0 ad_told_a ad_told_b v_told_size v_told_touches v_told_one), (ad_told_a, .inl (cI, 6, .inl a_told_a)), (ad_told_b, .inl (cI, 6, .inl a_told_b)), (ad_now, oX3 v_now_forgotten v_now_touches v_now_trapped v_now_one v_now_date), (ad_history, oX1 ad_history_steps v_history_known), (ad_firstImage, oX2 ad_firstImage_history v_firstImage_packed v_firstImage_kept), (ad_secondImage, oX2 ad_secondImage_history v_secondImage_packed v_secondImage_kept), (ad_seen, oX4 ad_seen_days ad_seen_books ad_seen_there v_seen_size)]) (va_runVN (As := []) (rest := []) ⟨hx, hb, hml, hown, hts⟩ (kX0_empty ad_draft ad_draft_a ad_draft_b v_draft_size v_draft_touches v_draft_one _ rfl H.size) (vcwVN hts (nm_32 hN) tw_113 tw_114 tw_67 tw_112 hd_X0_empty rfl rfl ⟨Nat.le_of_ble_eq_true rfl, Nat.le_of_ble_eq_true rfl⟩) (vpreV hK hN hP hD [3] rfl (by decide) (ci := 0) (q0 := 3) rfl rfl) rfl rfl hl.1 rfl (lv_room (Nat.le_of_ble_eq_true rfl)) (dt uX7_books 2 rfl) ⟨Nat.zero_le _, Nat.zero_le _⟩) hA hP hD hS rfl (by decide) rfl rfl (fun H locs hP hD hS => ?_)
  refine lv_aload_n hx hb (dt uX7_books 3 rfl) rfl (lv_at hl 0 rfl) ?_
  refine va_get (D := (dC, dI)) (ci := 7) (v := .ref ad_text) (C := RX7) (T := TX7) (N := 10) hx hb hts inU7 hown hK hP 0 rfl rfl 0 (by decide) (hts _ tw_107) (fun _ h9 => h9) rfl (dt uX7_books 4 rfl) ?_
  refine lv_aload_n hx hb (dt uX7_books 5 rfl) rfl (lv_at hl 0 rfl) ?_
  refine va_get (D := (dC, dI)) (ci := 7) (v := .ref ad_draft) (C := RX7) (T := TX7) (N := 10) hx hb hts inU7 hown hK hP 0 rfl rfl 1 (by decide) (hts _ tw_111) (fun _ h9 => h9) rfl (dt uX7_books 6 rfl) ?_
  obtain ⟨q_1, hq_2, hf⟩ := vbd hf
  refine vk_i [1, 2, 3, 4, 5] (ws2 := [(ad0, oX7 ad_text ad_draft ad_told ad_now ad_history ad_firstImage ad_secondImage ad_seen ad_ways v_traced), (ad_text, oX5 ad_text_bytes v_text_length q_1.2.1 q_1.2.2.1 q_1.2.2.2.1 q_1.2.2.2.2.1), (ad_text_bytes, .inl (cI, 150, .inl a_text_bytes)), (ad_draft, oX0 ad_draft_a ad_draft_b q_1.2.2.2.2.2.2.2.1 q_1.2.2.2.2.2.2.2.2.1 q_1.2.2.2.2.2.2.2.2.2), (ad_draft_a, .inl (cI, 6, .inl q_1.2.2.2.2.2.1)), (ad_draft_b, .inl (cI, 6, .inl q_1.2.2.2.2.2.2.1)), (ad_told, oX0 ad_told_a ad_told_b v_told_size v_told_touches v_told_one), (ad_told_a, .inl (cI, 6, .inl a_told_a)), (ad_told_b, .inl (cI, 6, .inl a_told_b)), (ad_now, oX3 v_now_forgotten v_now_touches v_now_trapped v_now_one v_now_date), (ad_history, oX1 ad_history_steps v_history_known), (ad_firstImage, oX2 ad_firstImage_history v_firstImage_packed v_firstImage_kept), (ad_secondImage, oX2 ad_secondImage_history v_secondImage_packed v_secondImage_kept), (ad_seen, oX4 ad_seen_days ad_seen_books ad_seen_there v_seen_size)]) (va_runVN (As := [.ref ad_draft]) (rest := []) ⟨hx, hb, hml, hown, hts⟩ (kX5_readItems ad_text ad_text_bytes ad_draft ad_draft_a ad_draft_b v_text_length v_text_place v_text_token v_text_begin v_text_value a_text_bytes ((fX0_empty v_draft_size v_draft_touches v_draft_one).1) ((fX0_empty v_draft_size v_draft_touches v_draft_one).2.1) ((fX0_empty v_draft_size v_draft_touches v_draft_one).2.2) a_draft_a a_draft_b N q_1 hq_2 H.size) (vcwVN hts (nm_33 hN) tw_116 tw_117 tw_45 tw_115 hd_X5_readItems rfl rfl ⟨Nat.le_of_ble_eq_true rfl, Nat.le_of_ble_eq_true rfl⟩) (vpreV hK hN hP hD [1, 2, 3, 4, 5] rfl (by decide) (ci := 5) (q0 := 1) rfl rfl) rfl rfl hl.1 rfl (lv_room (Nat.le_of_ble_eq_true rfl)) (dt uX7_books 7 rfl) ⟨Nat.zero_le _, Nat.zero_le _⟩) hA hP hD hS rfl (by decide) rfl rfl (fun H locs hP hD hS => ?_)
  refine lv_istore_n (lv' := [(1, .int q_1.1), (0, .ref ad0)]) hx hb (dt uX7_books 8 rfl) rfl hl (by decide) rfl (fun ls hl => ?_)
  refine lv_iload_n hx hb (dt uX7_books 9 rfl) rfl (lv_at hl 0 rfl) ?_
  refine lv_if_ge (tgt := 34) hx hb (dt uX7_books 10 rfl) (by decide) (fun c_3 => ?_) (fun c_3 => ?_)
  · have hf := vif_t c_3 hf
    refine lv_aload_n hx hb (dt uX7_books 17 rfl) rfl (lv_at hl 1 rfl) ?_
    refine va_get (D := (dC, dI)) (ci := 7) (v := .ref ad_told) (C := RX7) (T := TX7) (N := 10) hx hb hts inU7 hown hK hP 0 rfl rfl 2 (by decide) (hts _ tw_118) (fun _ h9 => h9) rfl (dt uX7_books 18 rfl) ?_
    refine lv_aload_n hx hb (dt uX7_books 19 rfl) rfl (lv_at hl 1 rfl) ?_
    refine va_get (D := (dC, dI)) (ci := 7) (v := .ref ad_draft) (C := RX7) (T := TX7) (N := 10) hx hb hts inU7 hown hK hP 0 rfl rfl 1 (by decide) (hts _ tw_111) (fun _ h9 => h9) rfl (dt uX7_books 20 rfl) ?_
    obtain ⟨q_4, hq_5, hf⟩ := vbd hf
    refine vk_v [6, 7, 8, 3, 4, 5] (ws2 := [(ad0, oX7 ad_text ad_draft ad_told ad_now ad_history ad_firstImage ad_secondImage ad_seen ad_ways v_traced), (ad_text, oX5 ad_text_bytes v_text_length q_1.2.1 q_1.2.2.1 q_1.2.2.2.1 q_1.2.2.2.2.1), (ad_text_bytes, .inl (cI, 150, .inl a_text_bytes)), (ad_draft, oX0 ad_draft_a ad_draft_b q_1.2.2.2.2.2.2.2.1 q_1.2.2.2.2.2.2.2.2.1 q_1.2.2.2.2.2.2.2.2.2), (ad_draft_a, .inl (cI, 6, .inl q_1.2.2.2.2.2.1)), (ad_draft_b, .inl (cI, 6, .inl q_1.2.2.2.2.2.2.1)), (ad_told, oX0 ad_told_a ad_told_b q_4.2.2.1 q_4.2.2.2.1 q_4.2.2.2.2), (ad_told_a, .inl (cI, 6, .inl q_4.1)), (ad_told_b, .inl (cI, 6, .inl q_4.2.1)), (ad_now, oX3 v_now_forgotten v_now_touches v_now_trapped v_now_one v_now_date), (ad_history, oX1 ad_history_steps v_history_known), (ad_firstImage, oX2 ad_firstImage_history v_firstImage_packed v_firstImage_kept), (ad_secondImage, oX2 ad_secondImage_history v_secondImage_packed v_secondImage_kept), (ad_seen, oX4 ad_seen_days ad_seen_books ad_seen_there v_seen_size)]) (va_runVN (As := [.ref ad_draft]) (rest := []) ⟨hx, hb, hml, hown, hts⟩ (kX0_copyFrom ad_told ad_told_a ad_told_b ad_draft ad_draft_a ad_draft_b v_told_size v_told_touches v_told_one a_told_a a_told_b q_1.2.2.2.2.2.2.2.1 q_1.2.2.2.2.2.2.2.2.1 q_1.2.2.2.2.2.2.2.2.2 q_1.2.2.2.2.2.1 q_1.2.2.2.2.2.2.1 N q_4 hq_5 H.size) (vcwVN hts (nm_37 hN) tw_120 tw_121 tw_67 tw_119 hd_X0_copyFrom rfl rfl ⟨Nat.le_of_ble_eq_true rfl, Nat.le_of_ble_eq_true rfl⟩) (vpreV hK hN hP hD [6, 7, 8, 3, 4, 5] rfl (by decide) (ci := 0) (q0 := 6) rfl rfl) rfl rfl hl.1 rfl (lv_room (Nat.le_of_ble_eq_true rfl)) (dt uX7_books 21 rfl) ⟨Nat.zero_le _, Nat.zero_le _⟩) hA hP hD hS rfl (by decide) rfl rfl (fun H locs hP hD hS => ?_)
    refine lv_aload_n hx hb (dt uX7_books 22 rfl) rfl (lv_at hl 1 rfl) ?_
    refine va_get (D := (dC, dI)) (ci := 7) (v := .ref ad_now) (C := RX7) (T := TX7) (N := 10) hx hb hts inU7 hown hK hP 0 rfl rfl 3 (by decide) (hts _ tw_122) (fun _ h9 => h9) rfl (dt uX7_books 23 rfl) ?_
    refine lv_aload_n hx hb (dt uX7_books 24 rfl) rfl (lv_at hl 1 rfl) ?_
    refine va_get (D := (dC, dI)) (ci := 7) (v := .ref ad_told) (C := RX7) (T := TX7) (N := 10) hx hb hts inU7 hown hK hP 0 rfl rfl 2 (by decide) (hts _ tw_118) (fun _ h9 => h9) rfl (dt uX7_books 25 rfl) ?_
    refine vk_v [9, 6] (ws2 := [(ad0, oX7 ad_text ad_draft ad_told ad_now ad_history ad_firstImage ad_secondImage ad_seen ad_ways v_traced), (ad_text, oX5 ad_text_bytes v_text_length q_1.2.1 q_1.2.2.1 q_1.2.2.2.1 q_1.2.2.2.2.1), (ad_text_bytes, .inl (cI, 150, .inl a_text_bytes)), (ad_draft, oX0 ad_draft_a ad_draft_b q_1.2.2.2.2.2.2.2.1 q_1.2.2.2.2.2.2.2.2.1 q_1.2.2.2.2.2.2.2.2.2), (ad_draft_a, .inl (cI, 6, .inl q_1.2.2.2.2.2.1)), (ad_draft_b, .inl (cI, 6, .inl q_1.2.2.2.2.2.2.1)), (ad_told, oX0 ad_told_a ad_told_b q_4.2.2.1 q_4.2.2.2.1 q_4.2.2.2.2), (ad_told_a, .inl (cI, 6, .inl q_4.1)), (ad_told_b, .inl (cI, 6, .inl q_4.2.1)), (ad_now, oX3 ((fX3_begin v_now_forgotten v_now_touches v_now_trapped v_now_one v_now_date q_4.2.2.2.1 q_4.2.2.2.2).1) ((fX3_begin v_now_forgotten v_now_touches v_now_trapped v_now_one v_now_date q_4.2.2.2.1 q_4.2.2.2.2).2.1) ((fX3_begin v_now_forgotten v_now_touches v_now_trapped v_now_one v_now_date q_4.2.2.2.1 q_4.2.2.2.2).2.2.1) ((fX3_begin v_now_forgotten v_now_touches v_now_trapped v_now_one v_now_date q_4.2.2.2.1 q_4.2.2.2.2).2.2.2.1) ((fX3_begin v_now_forgotten v_now_touches v_now_trapped v_now_one v_now_date q_4.2.2.2.1 q_4.2.2.2.2).2.2.2.2)), (ad_history, oX1 ad_history_steps v_history_known), (ad_firstImage, oX2 ad_firstImage_history v_firstImage_packed v_firstImage_kept), (ad_secondImage, oX2 ad_secondImage_history v_secondImage_packed v_secondImage_kept), (ad_seen, oX4 ad_seen_days ad_seen_books ad_seen_there v_seen_size)]) (va_runVN (As := [.ref ad_told]) (rest := []) ⟨hx, hb, hml, hown, hts⟩ (kX3_begin ad_now ad_told ad_told_a ad_told_b v_now_forgotten v_now_touches v_now_trapped v_now_one v_now_date q_4.2.2.1 q_4.2.2.2.1 q_4.2.2.2.2 _ rfl H.size) (vcwVN hts (nm_38 hN) tw_124 tw_125 tw_16 tw_123 hd_X3_begin rfl rfl ⟨Nat.le_of_ble_eq_true rfl, Nat.le_of_ble_eq_true rfl⟩) (vpreV hK hN hP hD [9, 6] rfl (by decide) (ci := 3) (q0 := 9) rfl rfl) rfl rfl hl.1 rfl (lv_room (Nat.le_of_ble_eq_true rfl)) (dt uX7_books 26 rfl) ⟨Nat.zero_le _, Nat.zero_le _⟩) hA hP hD hS rfl (by decide) rfl rfl (fun H locs hP hD hS => ?_)
    refine lv_aload_n hx hb (dt uX7_books 27 rfl) rfl (lv_at hl 1 rfl) ?_
    refine va_get (D := (dC, dI)) (ci := 7) (v := .ref ad_history) (C := RX7) (T := TX7) (N := 10) hx hb hts inU7 hown hK hP 0 rfl rfl 4 (by decide) (hts _ tw_126) (fun _ h9 => h9) rfl (dt uX7_books 28 rfl) ?_
    refine lv_iconst (v := (0 : Int32)) hx hb (dt uX7_books 29 rfl) (by decide) ?_
    refine va_putN (D := (dC, dI)) (ci := 1) (v := .int (0 : Int32)) (ty := .int) (C := RX1) (T := TX1) (N := 2) hx hb hts inU1 tyX1 tyX1_ok nmX1 hown hK hP hD hS 10 rfl rfl 1 (by decide) (nw_19 hN) (fun _ h9 => h9) rfl (by decide +kernel) rfl rfl (Nat.le_of_ble_eq_true rfl) (dt uX7_books 30 rfl) (fun H locs hP hD hS => ?_)
    have hP : va_P (dC, dI) vwCl [(ad0, oX7 ad_text ad_draft ad_told ad_now ad_history ad_firstImage ad_secondImage ad_seen ad_ways v_traced), (ad_text, oX5 ad_text_bytes v_text_length q_1.2.1 q_1.2.2.1 q_1.2.2.2.1 q_1.2.2.2.2.1), (ad_text_bytes, .inl (cI, 150, .inl a_text_bytes)), (ad_draft, oX0 ad_draft_a ad_draft_b q_1.2.2.2.2.2.2.2.1 q_1.2.2.2.2.2.2.2.2.1 q_1.2.2.2.2.2.2.2.2.2), (ad_draft_a, .inl (cI, 6, .inl q_1.2.2.2.2.2.1)), (ad_draft_b, .inl (cI, 6, .inl q_1.2.2.2.2.2.2.1)), (ad_told, oX0 ad_told_a ad_told_b q_4.2.2.1 q_4.2.2.2.1 q_4.2.2.2.2), (ad_told_a, .inl (cI, 6, .inl q_4.1)), (ad_told_b, .inl (cI, 6, .inl q_4.2.1)), (ad_now, oX3 ((fX3_begin v_now_forgotten v_now_touches v_now_trapped v_now_one v_now_date q_4.2.2.2.1 q_4.2.2.2.2).1) ((fX3_begin v_now_forgotten v_now_touches v_now_trapped v_now_one v_now_date q_4.2.2.2.1 q_4.2.2.2.2).2.1) ((fX3_begin v_now_forgotten v_now_touches v_now_trapped v_now_one v_now_date q_4.2.2.2.1 q_4.2.2.2.2).2.2.1) ((fX3_begin v_now_forgotten v_now_touches v_now_trapped v_now_one v_now_date q_4.2.2.2.1 q_4.2.2.2.2).2.2.2.1) ((fX3_begin v_now_forgotten v_now_touches v_now_trapped v_now_one v_now_date q_4.2.2.2.1 q_4.2.2.2.2).2.2.2.2)), (ad_history, oX1 ad_history_steps (0 : Int32)), (ad_firstImage, oX2 ad_firstImage_history v_firstImage_packed v_firstImage_kept), (ad_secondImage, oX2 ad_secondImage_history v_secondImage_packed v_secondImage_kept), (ad_seen, oX4 ad_seen_days ad_seen_books ad_seen_there v_seen_size)] H := hP
    have hD : va_D A [(ad0, oX7 ad_text ad_draft ad_told ad_now ad_history ad_firstImage ad_secondImage ad_seen ad_ways v_traced), (ad_text, oX5 ad_text_bytes v_text_length q_1.2.1 q_1.2.2.1 q_1.2.2.2.1 q_1.2.2.2.2.1), (ad_text_bytes, .inl (cI, 150, .inl a_text_bytes)), (ad_draft, oX0 ad_draft_a ad_draft_b q_1.2.2.2.2.2.2.2.1 q_1.2.2.2.2.2.2.2.2.1 q_1.2.2.2.2.2.2.2.2.2), (ad_draft_a, .inl (cI, 6, .inl q_1.2.2.2.2.2.1)), (ad_draft_b, .inl (cI, 6, .inl q_1.2.2.2.2.2.2.1)), (ad_told, oX0 ad_told_a ad_told_b q_4.2.2.1 q_4.2.2.2.1 q_4.2.2.2.2), (ad_told_a, .inl (cI, 6, .inl q_4.1)), (ad_told_b, .inl (cI, 6, .inl q_4.2.1)), (ad_now, oX3 ((fX3_begin v_now_forgotten v_now_touches v_now_trapped v_now_one v_now_date q_4.2.2.2.1 q_4.2.2.2.2).1) ((fX3_begin v_now_forgotten v_now_touches v_now_trapped v_now_one v_now_date q_4.2.2.2.1 q_4.2.2.2.2).2.1) ((fX3_begin v_now_forgotten v_now_touches v_now_trapped v_now_one v_now_date q_4.2.2.2.1 q_4.2.2.2.2).2.2.1) ((fX3_begin v_now_forgotten v_now_touches v_now_trapped v_now_one v_now_date q_4.2.2.2.1 q_4.2.2.2.2).2.2.2.1) ((fX3_begin v_now_forgotten v_now_touches v_now_trapped v_now_one v_now_date q_4.2.2.2.1 q_4.2.2.2.2).2.2.2.2)), (ad_history, oX1 ad_history_steps (0 : Int32)), (ad_firstImage, oX2 ad_firstImage_history v_firstImage_packed v_firstImage_kept), (ad_secondImage, oX2 ad_secondImage_history v_secondImage_packed v_secondImage_kept), (ad_seen, oX4 ad_seen_days ad_seen_books ad_seen_there v_seen_size)] := hD
    refine lv_aload_n hx hb (dt uX7_books 31 rfl) rfl (lv_at hl 1 rfl) ?_
    refine va_get (D := (dC, dI)) (ci := 7) (v := .ref ad_firstImage) (C := RX7) (T := TX7) (N := 10) hx hb hts inU7 hown hK hP 0 rfl rfl 5 (by decide) (hts _ tw_127) (fun _ h9 => h9) rfl (dt uX7_books 32 rfl) ?_
    refine lv_iconst (v := (0 : Int32)) hx hb (dt uX7_books 33 rfl) (by decide) ?_
    refine va_putN (D := (dC, dI)) (ci := 2) (v := .int (0 : Int32)) (ty := .boolean) (C := RX2) (T := TX2) (N := 3) hx hb hts inU2 tyX2 tyX2_ok nmX2 hown hK hP hD hS 11 rfl rfl 2 (by decide) (nw_22 hN) (fun _ h9 => h9) rfl (by decide +kernel) rfl rfl (Nat.le_of_ble_eq_true rfl) (dt uX7_books 34 rfl) (fun H locs hP hD hS => ?_)
    have hP : va_P (dC, dI) vwCl [(ad0, oX7 ad_text ad_draft ad_told ad_now ad_history ad_firstImage ad_secondImage ad_seen ad_ways v_traced), (ad_text, oX5 ad_text_bytes v_text_length q_1.2.1 q_1.2.2.1 q_1.2.2.2.1 q_1.2.2.2.2.1), (ad_text_bytes, .inl (cI, 150, .inl a_text_bytes)), (ad_draft, oX0 ad_draft_a ad_draft_b q_1.2.2.2.2.2.2.2.1 q_1.2.2.2.2.2.2.2.2.1 q_1.2.2.2.2.2.2.2.2.2), (ad_draft_a, .inl (cI, 6, .inl q_1.2.2.2.2.2.1)), (ad_draft_b, .inl (cI, 6, .inl q_1.2.2.2.2.2.2.1)), (ad_told, oX0 ad_told_a ad_told_b q_4.2.2.1 q_4.2.2.2.1 q_4.2.2.2.2), (ad_told_a, .inl (cI, 6, .inl q_4.1)), (ad_told_b, .inl (cI, 6, .inl q_4.2.1)), (ad_now, oX3 ((fX3_begin v_now_forgotten v_now_touches v_now_trapped v_now_one v_now_date q_4.2.2.2.1 q_4.2.2.2.2).1) ((fX3_begin v_now_forgotten v_now_touches v_now_trapped v_now_one v_now_date q_4.2.2.2.1 q_4.2.2.2.2).2.1) ((fX3_begin v_now_forgotten v_now_touches v_now_trapped v_now_one v_now_date q_4.2.2.2.1 q_4.2.2.2.2).2.2.1) ((fX3_begin v_now_forgotten v_now_touches v_now_trapped v_now_one v_now_date q_4.2.2.2.1 q_4.2.2.2.2).2.2.2.1) ((fX3_begin v_now_forgotten v_now_touches v_now_trapped v_now_one v_now_date q_4.2.2.2.1 q_4.2.2.2.2).2.2.2.2)), (ad_history, oX1 ad_history_steps (0 : Int32)), (ad_firstImage, oX2 ad_firstImage_history v_firstImage_packed (0 : Int32)), (ad_secondImage, oX2 ad_secondImage_history v_secondImage_packed v_secondImage_kept), (ad_seen, oX4 ad_seen_days ad_seen_books ad_seen_there v_seen_size)] H := hP
    have hD : va_D A [(ad0, oX7 ad_text ad_draft ad_told ad_now ad_history ad_firstImage ad_secondImage ad_seen ad_ways v_traced), (ad_text, oX5 ad_text_bytes v_text_length q_1.2.1 q_1.2.2.1 q_1.2.2.2.1 q_1.2.2.2.2.1), (ad_text_bytes, .inl (cI, 150, .inl a_text_bytes)), (ad_draft, oX0 ad_draft_a ad_draft_b q_1.2.2.2.2.2.2.2.1 q_1.2.2.2.2.2.2.2.2.1 q_1.2.2.2.2.2.2.2.2.2), (ad_draft_a, .inl (cI, 6, .inl q_1.2.2.2.2.2.1)), (ad_draft_b, .inl (cI, 6, .inl q_1.2.2.2.2.2.2.1)), (ad_told, oX0 ad_told_a ad_told_b q_4.2.2.1 q_4.2.2.2.1 q_4.2.2.2.2), (ad_told_a, .inl (cI, 6, .inl q_4.1)), (ad_told_b, .inl (cI, 6, .inl q_4.2.1)), (ad_now, oX3 ((fX3_begin v_now_forgotten v_now_touches v_now_trapped v_now_one v_now_date q_4.2.2.2.1 q_4.2.2.2.2).1) ((fX3_begin v_now_forgotten v_now_touches v_now_trapped v_now_one v_now_date q_4.2.2.2.1 q_4.2.2.2.2).2.1) ((fX3_begin v_now_forgotten v_now_touches v_now_trapped v_now_one v_now_date q_4.2.2.2.1 q_4.2.2.2.2).2.2.1) ((fX3_begin v_now_forgotten v_now_touches v_now_trapped v_now_one v_now_date q_4.2.2.2.1 q_4.2.2.2.2).2.2.2.1) ((fX3_begin v_now_forgotten v_now_touches v_now_trapped v_now_one v_now_date q_4.2.2.2.1 q_4.2.2.2.2).2.2.2.2)), (ad_history, oX1 ad_history_steps (0 : Int32)), (ad_firstImage, oX2 ad_firstImage_history v_firstImage_packed (0 : Int32)), (ad_secondImage, oX2 ad_secondImage_history v_secondImage_packed v_secondImage_kept), (ad_seen, oX4 ad_seen_days ad_seen_books ad_seen_there v_seen_size)] := hD
    refine lv_aload_n hx hb (dt uX7_books 35 rfl) rfl (lv_at hl 1 rfl) ?_
    refine va_get (D := (dC, dI)) (ci := 7) (v := .ref ad_secondImage) (C := RX7) (T := TX7) (N := 10) hx hb hts inU7 hown hK hP 0 rfl rfl 6 (by decide) (hts _ tw_128) (fun _ h9 => h9) rfl (dt uX7_books 36 rfl) ?_
    refine lv_iconst (v := (0 : Int32)) hx hb (dt uX7_books 37 rfl) (by decide) ?_
    refine va_putN (D := (dC, dI)) (ci := 2) (v := .int (0 : Int32)) (ty := .boolean) (C := RX2) (T := TX2) (N := 3) hx hb hts inU2 tyX2 tyX2_ok nmX2 hown hK hP hD hS 12 rfl rfl 2 (by decide) (nw_22 hN) (fun _ h9 => h9) rfl (by decide +kernel) rfl rfl (Nat.le_of_ble_eq_true rfl) (dt uX7_books 38 rfl) (fun H locs hP hD hS => ?_)
    have hP : va_P (dC, dI) vwCl [(ad0, oX7 ad_text ad_draft ad_told ad_now ad_history ad_firstImage ad_secondImage ad_seen ad_ways v_traced), (ad_text, oX5 ad_text_bytes v_text_length q_1.2.1 q_1.2.2.1 q_1.2.2.2.1 q_1.2.2.2.2.1), (ad_text_bytes, .inl (cI, 150, .inl a_text_bytes)), (ad_draft, oX0 ad_draft_a ad_draft_b q_1.2.2.2.2.2.2.2.1 q_1.2.2.2.2.2.2.2.2.1 q_1.2.2.2.2.2.2.2.2.2), (ad_draft_a, .inl (cI, 6, .inl q_1.2.2.2.2.2.1)), (ad_draft_b, .inl (cI, 6, .inl q_1.2.2.2.2.2.2.1)), (ad_told, oX0 ad_told_a ad_told_b q_4.2.2.1 q_4.2.2.2.1 q_4.2.2.2.2), (ad_told_a, .inl (cI, 6, .inl q_4.1)), (ad_told_b, .inl (cI, 6, .inl q_4.2.1)), (ad_now, oX3 ((fX3_begin v_now_forgotten v_now_touches v_now_trapped v_now_one v_now_date q_4.2.2.2.1 q_4.2.2.2.2).1) ((fX3_begin v_now_forgotten v_now_touches v_now_trapped v_now_one v_now_date q_4.2.2.2.1 q_4.2.2.2.2).2.1) ((fX3_begin v_now_forgotten v_now_touches v_now_trapped v_now_one v_now_date q_4.2.2.2.1 q_4.2.2.2.2).2.2.1) ((fX3_begin v_now_forgotten v_now_touches v_now_trapped v_now_one v_now_date q_4.2.2.2.1 q_4.2.2.2.2).2.2.2.1) ((fX3_begin v_now_forgotten v_now_touches v_now_trapped v_now_one v_now_date q_4.2.2.2.1 q_4.2.2.2.2).2.2.2.2)), (ad_history, oX1 ad_history_steps (0 : Int32)), (ad_firstImage, oX2 ad_firstImage_history v_firstImage_packed (0 : Int32)), (ad_secondImage, oX2 ad_secondImage_history v_secondImage_packed (0 : Int32)), (ad_seen, oX4 ad_seen_days ad_seen_books ad_seen_there v_seen_size)] H := hP
    have hD : va_D A [(ad0, oX7 ad_text ad_draft ad_told ad_now ad_history ad_firstImage ad_secondImage ad_seen ad_ways v_traced), (ad_text, oX5 ad_text_bytes v_text_length q_1.2.1 q_1.2.2.1 q_1.2.2.2.1 q_1.2.2.2.2.1), (ad_text_bytes, .inl (cI, 150, .inl a_text_bytes)), (ad_draft, oX0 ad_draft_a ad_draft_b q_1.2.2.2.2.2.2.2.1 q_1.2.2.2.2.2.2.2.2.1 q_1.2.2.2.2.2.2.2.2.2), (ad_draft_a, .inl (cI, 6, .inl q_1.2.2.2.2.2.1)), (ad_draft_b, .inl (cI, 6, .inl q_1.2.2.2.2.2.2.1)), (ad_told, oX0 ad_told_a ad_told_b q_4.2.2.1 q_4.2.2.2.1 q_4.2.2.2.2), (ad_told_a, .inl (cI, 6, .inl q_4.1)), (ad_told_b, .inl (cI, 6, .inl q_4.2.1)), (ad_now, oX3 ((fX3_begin v_now_forgotten v_now_touches v_now_trapped v_now_one v_now_date q_4.2.2.2.1 q_4.2.2.2.2).1) ((fX3_begin v_now_forgotten v_now_touches v_now_trapped v_now_one v_now_date q_4.2.2.2.1 q_4.2.2.2.2).2.1) ((fX3_begin v_now_forgotten v_now_touches v_now_trapped v_now_one v_now_date q_4.2.2.2.1 q_4.2.2.2.2).2.2.1) ((fX3_begin v_now_forgotten v_now_touches v_now_trapped v_now_one v_now_date q_4.2.2.2.1 q_4.2.2.2.2).2.2.2.1) ((fX3_begin v_now_forgotten v_now_touches v_now_trapped v_now_one v_now_date q_4.2.2.2.1 q_4.2.2.2.2).2.2.2.2)), (ad_history, oX1 ad_history_steps (0 : Int32)), (ad_firstImage, oX2 ad_firstImage_history v_firstImage_packed (0 : Int32)), (ad_secondImage, oX2 ad_secondImage_history v_secondImage_packed (0 : Int32)), (ad_seen, oX4 ad_seen_days ad_seen_books ad_seen_there v_seen_size)] := hD
    refine lv_aload_n hx hb (dt uX7_books 39 rfl) rfl (lv_at hl 1 rfl) ?_
    refine va_get (D := (dC, dI)) (ci := 7) (v := .ref ad_seen) (C := RX7) (T := TX7) (N := 10) hx hb hts inU7 hown hK hP 0 rfl rfl 7 (by decide) (hts _ tw_129) (fun _ h9 => h9) rfl (dt uX7_books 40 rfl) ?_
    refine lv_iconst (v := (0 : Int32)) hx hb (dt uX7_books 41 rfl) (by decide) ?_
    refine va_putN (D := (dC, dI)) (ci := 4) (v := .int (0 : Int32)) (ty := .int) (C := RX4) (T := TX4) (N := 4) hx hb hts inU4 tyX4 tyX4_ok nmX4 hown hK hP hD hS 13 rfl rfl 3 (by decide) (nw_27 hN) (fun _ h9 => h9) rfl (by decide +kernel) rfl rfl (Nat.le_of_ble_eq_true rfl) (dt uX7_books 42 rfl) (fun H locs hP hD hS => ?_)
    have hP : va_P (dC, dI) vwCl [(ad0, oX7 ad_text ad_draft ad_told ad_now ad_history ad_firstImage ad_secondImage ad_seen ad_ways v_traced), (ad_text, oX5 ad_text_bytes v_text_length q_1.2.1 q_1.2.2.1 q_1.2.2.2.1 q_1.2.2.2.2.1), (ad_text_bytes, .inl (cI, 150, .inl a_text_bytes)), (ad_draft, oX0 ad_draft_a ad_draft_b q_1.2.2.2.2.2.2.2.1 q_1.2.2.2.2.2.2.2.2.1 q_1.2.2.2.2.2.2.2.2.2), (ad_draft_a, .inl (cI, 6, .inl q_1.2.2.2.2.2.1)), (ad_draft_b, .inl (cI, 6, .inl q_1.2.2.2.2.2.2.1)), (ad_told, oX0 ad_told_a ad_told_b q_4.2.2.1 q_4.2.2.2.1 q_4.2.2.2.2), (ad_told_a, .inl (cI, 6, .inl q_4.1)), (ad_told_b, .inl (cI, 6, .inl q_4.2.1)), (ad_now, oX3 ((fX3_begin v_now_forgotten v_now_touches v_now_trapped v_now_one v_now_date q_4.2.2.2.1 q_4.2.2.2.2).1) ((fX3_begin v_now_forgotten v_now_touches v_now_trapped v_now_one v_now_date q_4.2.2.2.1 q_4.2.2.2.2).2.1) ((fX3_begin v_now_forgotten v_now_touches v_now_trapped v_now_one v_now_date q_4.2.2.2.1 q_4.2.2.2.2).2.2.1) ((fX3_begin v_now_forgotten v_now_touches v_now_trapped v_now_one v_now_date q_4.2.2.2.1 q_4.2.2.2.2).2.2.2.1) ((fX3_begin v_now_forgotten v_now_touches v_now_trapped v_now_one v_now_date q_4.2.2.2.1 q_4.2.2.2.2).2.2.2.2)), (ad_history, oX1 ad_history_steps (0 : Int32)), (ad_firstImage, oX2 ad_firstImage_history v_firstImage_packed (0 : Int32)), (ad_secondImage, oX2 ad_secondImage_history v_secondImage_packed (0 : Int32)), (ad_seen, oX4 ad_seen_days ad_seen_books ad_seen_there (0 : Int32))] H := hP
    have hD : va_D A [(ad0, oX7 ad_text ad_draft ad_told ad_now ad_history ad_firstImage ad_secondImage ad_seen ad_ways v_traced), (ad_text, oX5 ad_text_bytes v_text_length q_1.2.1 q_1.2.2.1 q_1.2.2.2.1 q_1.2.2.2.2.1), (ad_text_bytes, .inl (cI, 150, .inl a_text_bytes)), (ad_draft, oX0 ad_draft_a ad_draft_b q_1.2.2.2.2.2.2.2.1 q_1.2.2.2.2.2.2.2.2.1 q_1.2.2.2.2.2.2.2.2.2), (ad_draft_a, .inl (cI, 6, .inl q_1.2.2.2.2.2.1)), (ad_draft_b, .inl (cI, 6, .inl q_1.2.2.2.2.2.2.1)), (ad_told, oX0 ad_told_a ad_told_b q_4.2.2.1 q_4.2.2.2.1 q_4.2.2.2.2), (ad_told_a, .inl (cI, 6, .inl q_4.1)), (ad_told_b, .inl (cI, 6, .inl q_4.2.1)), (ad_now, oX3 ((fX3_begin v_now_forgotten v_now_touches v_now_trapped v_now_one v_now_date q_4.2.2.2.1 q_4.2.2.2.2).1) ((fX3_begin v_now_forgotten v_now_touches v_now_trapped v_now_one v_now_date q_4.2.2.2.1 q_4.2.2.2.2).2.1) ((fX3_begin v_now_forgotten v_now_touches v_now_trapped v_now_one v_now_date q_4.2.2.2.1 q_4.2.2.2.2).2.2.1) ((fX3_begin v_now_forgotten v_now_touches v_now_trapped v_now_one v_now_date q_4.2.2.2.1 q_4.2.2.2.2).2.2.2.1) ((fX3_begin v_now_forgotten v_now_touches v_now_trapped v_now_one v_now_date q_4.2.2.2.1 q_4.2.2.2.2).2.2.2.2)), (ad_history, oX1 ad_history_steps (0 : Int32)), (ad_firstImage, oX2 ad_firstImage_history v_firstImage_packed (0 : Int32)), (ad_secondImage, oX2 ad_secondImage_history v_secondImage_packed (0 : Int32)), (ad_seen, oX4 ad_seen_days ad_seen_books ad_seen_there (0 : Int32))] := hD
    refine lv_aload_n hx hb (dt uX7_books 43 rfl) rfl (lv_at hl 1 rfl) ?_
    refine va_get (D := (dC, dI)) (ci := 7) (v := .ref ad_text) (C := RX7) (T := TX7) (N := 10) hx hb hts inU7 hown hK hP 0 rfl rfl 0 (by decide) (hts _ tw_107) (fun _ h9 => h9) rfl (dt uX7_books 44 rfl) ?_
    refine lv_iconst (v := (0 : Int32)) hx hb (dt uX7_books 45 rfl) (by decide) ?_
    refine va_putN (D := (dC, dI)) (ci := 5) (v := .int (0 : Int32)) (ty := .int) (C := RX5) (T := TX5) (N := 6) hx hb hts inU5 tyX5 tyX5_ok nmX5 hown hK hP hD hS 1 rfl rfl 1 (by decide) (nw_1 hN) (fun _ h9 => h9) rfl (by decide +kernel) rfl rfl (Nat.le_of_ble_eq_true rfl) (dt uX7_books 46 rfl) (fun H locs hP hD hS => ?_)
    have hP : va_P (dC, dI) vwCl [(ad0, oX7 ad_text ad_draft ad_told ad_now ad_history ad_firstImage ad_secondImage ad_seen ad_ways v_traced), (ad_text, oX5 ad_text_bytes (0 : Int32) q_1.2.1 q_1.2.2.1 q_1.2.2.2.1 q_1.2.2.2.2.1), (ad_text_bytes, .inl (cI, 150, .inl a_text_bytes)), (ad_draft, oX0 ad_draft_a ad_draft_b q_1.2.2.2.2.2.2.2.1 q_1.2.2.2.2.2.2.2.2.1 q_1.2.2.2.2.2.2.2.2.2), (ad_draft_a, .inl (cI, 6, .inl q_1.2.2.2.2.2.1)), (ad_draft_b, .inl (cI, 6, .inl q_1.2.2.2.2.2.2.1)), (ad_told, oX0 ad_told_a ad_told_b q_4.2.2.1 q_4.2.2.2.1 q_4.2.2.2.2), (ad_told_a, .inl (cI, 6, .inl q_4.1)), (ad_told_b, .inl (cI, 6, .inl q_4.2.1)), (ad_now, oX3 ((fX3_begin v_now_forgotten v_now_touches v_now_trapped v_now_one v_now_date q_4.2.2.2.1 q_4.2.2.2.2).1) ((fX3_begin v_now_forgotten v_now_touches v_now_trapped v_now_one v_now_date q_4.2.2.2.1 q_4.2.2.2.2).2.1) ((fX3_begin v_now_forgotten v_now_touches v_now_trapped v_now_one v_now_date q_4.2.2.2.1 q_4.2.2.2.2).2.2.1) ((fX3_begin v_now_forgotten v_now_touches v_now_trapped v_now_one v_now_date q_4.2.2.2.1 q_4.2.2.2.2).2.2.2.1) ((fX3_begin v_now_forgotten v_now_touches v_now_trapped v_now_one v_now_date q_4.2.2.2.1 q_4.2.2.2.2).2.2.2.2)), (ad_history, oX1 ad_history_steps (0 : Int32)), (ad_firstImage, oX2 ad_firstImage_history v_firstImage_packed (0 : Int32)), (ad_secondImage, oX2 ad_secondImage_history v_secondImage_packed (0 : Int32)), (ad_seen, oX4 ad_seen_days ad_seen_books ad_seen_there (0 : Int32))] H := hP
    have hD : va_D A [(ad0, oX7 ad_text ad_draft ad_told ad_now ad_history ad_firstImage ad_secondImage ad_seen ad_ways v_traced), (ad_text, oX5 ad_text_bytes (0 : Int32) q_1.2.1 q_1.2.2.1 q_1.2.2.2.1 q_1.2.2.2.2.1), (ad_text_bytes, .inl (cI, 150, .inl a_text_bytes)), (ad_draft, oX0 ad_draft_a ad_draft_b q_1.2.2.2.2.2.2.2.1 q_1.2.2.2.2.2.2.2.2.1 q_1.2.2.2.2.2.2.2.2.2), (ad_draft_a, .inl (cI, 6, .inl q_1.2.2.2.2.2.1)), (ad_draft_b, .inl (cI, 6, .inl q_1.2.2.2.2.2.2.1)), (ad_told, oX0 ad_told_a ad_told_b q_4.2.2.1 q_4.2.2.2.1 q_4.2.2.2.2), (ad_told_a, .inl (cI, 6, .inl q_4.1)), (ad_told_b, .inl (cI, 6, .inl q_4.2.1)), (ad_now, oX3 ((fX3_begin v_now_forgotten v_now_touches v_now_trapped v_now_one v_now_date q_4.2.2.2.1 q_4.2.2.2.2).1) ((fX3_begin v_now_forgotten v_now_touches v_now_trapped v_now_one v_now_date q_4.2.2.2.1 q_4.2.2.2.2).2.1) ((fX3_begin v_now_forgotten v_now_touches v_now_trapped v_now_one v_now_date q_4.2.2.2.1 q_4.2.2.2.2).2.2.1) ((fX3_begin v_now_forgotten v_now_touches v_now_trapped v_now_one v_now_date q_4.2.2.2.1 q_4.2.2.2.2).2.2.2.1) ((fX3_begin v_now_forgotten v_now_touches v_now_trapped v_now_one v_now_date q_4.2.2.2.1 q_4.2.2.2.2).2.2.2.2)), (ad_history, oX1 ad_history_steps (0 : Int32)), (ad_firstImage, oX2 ad_firstImage_history v_firstImage_packed (0 : Int32)), (ad_secondImage, oX2 ad_secondImage_history v_secondImage_packed (0 : Int32)), (ad_seen, oX4 ad_seen_days ad_seen_books ad_seen_there (0 : Int32))] := hD
    refine lv_iload_n hx hb (dt uX7_books 47 rfl) rfl (lv_at hl 0 rfl) ?_
    have hf := Option.some.inj hf
    subst hf
    rw [hQ]
    exact vret_i C hP hD hS (dt uX7_books 48 rfl)
  · have hf := vif_f c_3 hf
    refine lv_bipush (v := (-10 : Int32)) hx hb (dt uX7_books 11 rfl) (by decide) ?_
    refine lv_aload_n hx hb (dt uX7_books 12 rfl) rfl (lv_at hl 1 rfl) ?_
    refine va_get (D := (dC, dI)) (ci := 7) (v := .ref ad_text) (C := RX7) (T := TX7) (N := 10) hx hb hts inU7 hown hK hP 0 rfl rfl 0 (by decide) (hts _ tw_107) (fun _ h9 => h9) rfl (dt uX7_books 13 rfl) ?_
    refine va_getN (D := (dC, dI)) (ci := 5) (v := .int q_1.2.2.2.1) (C := RX5) (T := TX5) (N := 6) hx hb hts inU5 hown hK hP 1 rfl rfl 4 (by decide) (nw_2 hN) (fun _ h9 => h9) rfl (dt uX7_books 14 rfl) ?_
    refine lv_isub hx hb (dt uX7_books 15 rfl) ?_
    have hf := Option.some.inj hf
    subst hf
    rw [hQ]
    exact vret_i C hP hD hS (dt uX7_books 16 rfl)
abbrev rX7_isBook : Room := { frames := 1, cells := 0, slots := 0, locals := 22 }
abbrev wX7_isBook : List Cond := Cond.code yX7_isBook cX7_isBook 2 (some .boolean) :: VT
set_option maxHeartbeats 4000000 in
set_option maxRecDepth 100000 in
theorem kX7_isBook (ad0 : Nat) (ad_text : Nat) (ad_draft : Nat) (ad_told : Nat) (ad_told_a : Nat) (ad_told_b : Nat) (ad_now : Nat) (ad_history : Nat) (ad_firstImage : Nat) (ad_secondImage : Nat) (ad_seen : Nat) (ad_ways : Nat) (v_traced : Int64) (v_told_size : Int32) (v_told_touches : Int32) (v_told_one : Int32) (p1 : Int32) (q0 : Int32) (hf : fX7_isBook v_told_size p1 = q0) : Kz l yX7_isBook wX7_isBook rX7_isBook (dC, dI) (vTy cI cJ cB cZ) [.ref ad0, .int p1] [(ad0, oX7 ad_text ad_draft ad_told ad_now ad_history ad_firstImage ad_secondImage ad_seen ad_ways v_traced), (ad_told, oX0 ad_told_a ad_told_b v_told_size v_told_touches v_told_one)] [(ad0, oX7 ad_text ad_draft ad_told ad_now ad_history ad_firstImage ad_secondImage ad_seen ad_ways v_traced), (ad_told, oX0 ad_told_a ad_told_b v_told_size v_told_touches v_told_one)] q0 := by
  refine Kz.mk (cc := cX7_isBook) (maxL := 2) (ret := some .boolean) (by decide) (Nat.le_of_ble_eq_true rfl) ?_
  intro p e s m args below meth c A Q H locs C hQ hP hD hS ls hl
  obtain ⟨hx, hb, -, hml, hts, hown, -, hK, hN, hA⟩ := id C
  have hown : s.vm.findClass RX7 = some m.cls := hown
  have hl : lv_has ls 2 [(0, .ref ad0), (1, .int p1)] := hl
  unfold fX7_isBook at hf
  refine lv_iload_n hx hb (dt uX7_isBook 0 rfl) rfl (lv_at hl 1 rfl) ?_
  refine lv_iconst (v := (0 : Int32)) hx hb (dt uX7_isBook 1 rfl) (by decide) ?_
  refine lv_aload_n hx hb (dt uX7_isBook 2 rfl) rfl (lv_at hl 0 rfl) ?_
  refine va_get (D := (dC, dI)) (ci := 7) (v := .ref ad_told) (C := RX7) (T := TX7) (N := 10) hx hb hts inU7 hown hK hP 0 rfl rfl 2 (by decide) (hts _ tw_118) (fun _ h9 => h9) rfl (dt uX7_isBook 3 rfl) ?_
  refine va_getN (D := (dC, dI)) (ci := 0) (v := .int v_told_size) (C := RX0) (T := TX0) (N := 5) hx hb hts inU0 hown hK hP 1 rfl rfl 2 (by decide) (nw_7 hN) (fun _ h9 => h9) rfl (dt uX7_isBook 4 rfl) ?_
  refine lv_iconst (v := (1 : Int32)) hx hb (dt uX7_isBook 5 rfl) (by decide) ?_
  refine lv_isub hx hb (dt uX7_isBook 6 rfl) ?_
  refine vk_z0 [] (va_runS (As := [.int p1, .int (0 : Int32), .int (v_told_size - (1 : Int32))]) (rest := []) ⟨hx, hb, hml, hown, hts⟩ (kX7_within p1 (0 : Int32) (v_told_size - (1 : Int32)) _ rfl H.size) (vcwS hts tw_106 tw_43 tw_41 tw_42 hd_X7_within rfl rfl ⟨Nat.le_of_ble_eq_true rfl, Nat.le_of_ble_eq_true rfl⟩) (vpreS hK hN hP hD [] rfl (by decide)) rfl rfl hl.1 rfl (lv_room (Nat.le_of_ble_eq_true rfl)) (dt uX7_isBook 7 rfl) ⟨Nat.zero_le _, Nat.zero_le _⟩) hA hP hD hS rfl (by decide) (fun hz_1 H locs hP hD hS => ?_)
  subst hf
  rw [hQ]
  exact vret_z C hP hD hS (dt uX7_isBook 8 rfl) hz_1
abbrev rX7_written : Room := { frames := 1, cells := 0, slots := 0, locals := 21 }
abbrev wX7_written : List Cond := Cond.code yX7_written cX7_written 3 (some .int) :: VT
set_option maxHeartbeats 4000000 in
set_option maxRecDepth 100000 in
theorem kX7_written (ad0 : Nat) (ad_text : Nat) (ad_draft : Nat) (ad_told : Nat) (ad_told_a : Nat) (ad_told_b : Nat) (ad_now : Nat) (ad_history : Nat) (ad_firstImage : Nat) (ad_secondImage : Nat) (ad_seen : Nat) (ad_ways : Nat) (v_traced : Int64) (v_told_size : Int32) (v_told_touches : Int32) (v_told_one : Int32) (a_told_a : Nat → Int32) (a_told_b : Nat → Int32) (v_now_forgotten : Int32) (v_now_touches : Int32) (v_now_trapped : Int32) (v_now_one : Int32) (v_now_date : Int32) (p1 : Int32) (q0 : Int32) (hf : fX7_written a_told_a a_told_b v_now_forgotten p1 = some q0) : Ki l yX7_written wX7_written rX7_written (dC, dI) (vTy cI cJ cB cZ) [.ref ad0, .int p1] [(ad0, oX7 ad_text ad_draft ad_told ad_now ad_history ad_firstImage ad_secondImage ad_seen ad_ways v_traced), (ad_told, oX0 ad_told_a ad_told_b v_told_size v_told_touches v_told_one), (ad_told_a, .inl (cI, 6, .inl a_told_a)), (ad_told_b, .inl (cI, 6, .inl a_told_b)), (ad_now, oX3 v_now_forgotten v_now_touches v_now_trapped v_now_one v_now_date)] [(ad0, oX7 ad_text ad_draft ad_told ad_now ad_history ad_firstImage ad_secondImage ad_seen ad_ways v_traced), (ad_told, oX0 ad_told_a ad_told_b v_told_size v_told_touches v_told_one), (ad_told_a, .inl (cI, 6, .inl a_told_a)), (ad_told_b, .inl (cI, 6, .inl a_told_b)), (ad_now, oX3 v_now_forgotten v_now_touches v_now_trapped v_now_one v_now_date)] q0 := by
  refine Ki.mk (cc := cX7_written) (maxL := 3) (ret := some .int) (by decide) (Nat.le_of_ble_eq_true rfl) ?_
  intro p e s m args below meth c A Q H locs C hQ hP hD hS ls hl
  obtain ⟨hx, hb, -, hml, hts, hown, -, hK, hN, hA⟩ := id C
  have hown : s.vm.findClass RX7 = some m.cls := hown
  have hl : lv_has ls 3 [(0, .ref ad0), (1, .int p1)] := hl
  unfold fX7_written at hf
  refine lv_aload_n hx hb (dt uX7_written 0 rfl) rfl (lv_at hl 0 rfl) ?_
  refine va_get (D := (dC, dI)) (ci := 7) (v := .ref ad_now) (C := RX7) (T := TX7) (N := 10) hx hb hts inU7 hown hK hP 0 rfl rfl 3 (by decide) (hts _ tw_122) (fun _ h9 => h9) rfl (dt uX7_written 1 rfl) ?_
  refine lv_iload_n hx hb (dt uX7_written 2 rfl) rfl (lv_at hl 1 rfl) ?_
  refine vk_i0 [4] (va_runVN (As := [.int p1]) (rest := []) ⟨hx, hb, hml, hown, hts⟩ (kX3_forgottenIn ad_now v_now_forgotten v_now_touches v_now_trapped v_now_one v_now_date p1 _ rfl H.size) (vcwVN hts (nm_39 hN) tw_131 tw_132 tw_16 tw_130 hd_X3_forgottenIn rfl rfl ⟨Nat.le_of_ble_eq_true rfl, Nat.le_of_ble_eq_true rfl⟩) (vpreV hK hN hP hD [4] rfl (by decide) (ci := 3) (q0 := 4) rfl rfl) rfl rfl hl.1 rfl (lv_room (Nat.le_of_ble_eq_true rfl)) (dt uX7_written 3 rfl) ⟨Nat.zero_le _, Nat.zero_le _⟩) hA hP hD hS rfl (by decide) (fun H locs hP hD hS => ?_)
  refine lv_istore_n (lv' := [(2, .int (fX3_forgottenIn v_now_forgotten p1)), (0, .ref ad0), (1, .int p1)]) hx hb (dt uX7_written 4 rfl) rfl hl (by decide) rfl (fun ls hl => ?_)
  refine lv_aload_n hx hb (dt uX7_written 5 rfl) rfl (lv_at hl 1 rfl) ?_
  refine va_get (D := (dC, dI)) (ci := 7) (v := .ref ad_told) (C := RX7) (T := TX7) (N := 10) hx hb hts inU7 hown hK hP 0 rfl rfl 2 (by decide) (hts _ tw_118) (fun _ h9 => h9) rfl (dt uX7_written 6 rfl) ?_
  refine lv_iload_n hx hb (dt uX7_written 7 rfl) rfl (lv_at hl 2 rfl) ?_
  obtain ⟨q_1, hq_2, hf⟩ := vbd hf
  refine vk_i0 [1, 2, 3] (va_runVN (As := [.int p1]) (rest := []) ⟨hx, hb, hml, hown, hts⟩ (kX0_sum ad_told ad_told_a ad_told_b v_told_size v_told_touches v_told_one a_told_a a_told_b p1 q_1 hq_2 H.size) (vcwVN hts (nm_40 hN) tw_134 tw_135 tw_67 tw_133 hd_X0_sum rfl rfl ⟨Nat.le_of_ble_eq_true rfl, Nat.le_of_ble_eq_true rfl⟩) (vpreV hK hN hP hD [1, 2, 3] rfl (by decide) (ci := 0) (q0 := 1) rfl rfl) rfl rfl hl.1 rfl (lv_room (Nat.le_of_ble_eq_true rfl)) (dt uX7_written 8 rfl) ⟨Nat.zero_le _, Nat.zero_le _⟩) hA hP hD hS rfl (by decide) (fun H locs hP hD hS => ?_)
  refine lv_bipush (v := (10 : Int32)) hx hb (dt uX7_written 9 rfl) (by decide) ?_
  refine lv_iload_n hx hb (dt uX7_written 10 rfl) rfl (lv_at hl 0 rfl) ?_
  refine lv_iconst (v := (1 : Int32)) hx hb (dt uX7_written 11 rfl) (by decide) ?_
  refine lv_iand hx hb (dt uX7_written 12 rfl) ?_
  refine lv_imul hx hb (dt uX7_written 13 rfl) ?_
  refine lv_isub hx hb (dt uX7_written 14 rfl) ?_
  refine lv_bipush (v := (100 : Int32)) hx hb (dt uX7_written 15 rfl) (by decide) ?_
  refine lv_iload_n hx hb (dt uX7_written 16 rfl) rfl (lv_at hl 0 rfl) ?_
  refine lv_iconst (v := (1 : Int32)) hx hb (dt uX7_written 17 rfl) (by decide) ?_
  refine lv_ishr hx hb (dt uX7_written 18 rfl) ?_
  refine lv_imul hx hb (dt uX7_written 19 rfl) ?_
  refine lv_isub hx hb (dt uX7_written 20 rfl) ?_
  have hf := Option.some.inj hf
  subst hf
  rw [hQ]
  exact vret_i C hP hD hS (dt uX7_written 21 rfl)
abbrev rX7_shown : Room := { frames := 2, cells := 0, slots := 0, locals := 43 }
abbrev wX7_shown : List Cond := Cond.code yX7_shown cX7_shown 2 (some .int) :: VT
set_option maxHeartbeats 4000000 in
set_option maxRecDepth 100000 in
theorem kX7_shown (ad0 : Nat) (ad_text : Nat) (ad_draft : Nat) (ad_told : Nat) (ad_told_a : Nat) (ad_told_b : Nat) (ad_now : Nat) (ad_history : Nat) (ad_firstImage : Nat) (ad_secondImage : Nat) (ad_seen : Nat) (ad_ways : Nat) (v_traced : Int64) (v_told_size : Int32) (v_told_touches : Int32) (v_told_one : Int32) (a_told_a : Nat → Int32) (a_told_b : Nat → Int32) (v_now_forgotten : Int32) (v_now_touches : Int32) (v_now_trapped : Int32) (v_now_one : Int32) (v_now_date : Int32) (p1 : Int32) (q0 : Int32) (hf : fX7_shown a_told_a a_told_b v_now_forgotten v_now_one p1 = some q0) : Ki l yX7_shown wX7_shown rX7_shown (dC, dI) (vTy cI cJ cB cZ) [.ref ad0, .int p1] [(ad0, oX7 ad_text ad_draft ad_told ad_now ad_history ad_firstImage ad_secondImage ad_seen ad_ways v_traced), (ad_told, oX0 ad_told_a ad_told_b v_told_size v_told_touches v_told_one), (ad_told_a, .inl (cI, 6, .inl a_told_a)), (ad_told_b, .inl (cI, 6, .inl a_told_b)), (ad_now, oX3 v_now_forgotten v_now_touches v_now_trapped v_now_one v_now_date)] [(ad0, oX7 ad_text ad_draft ad_told ad_now ad_history ad_firstImage ad_secondImage ad_seen ad_ways v_traced), (ad_told, oX0 ad_told_a ad_told_b v_told_size v_told_touches v_told_one), (ad_told_a, .inl (cI, 6, .inl a_told_a)), (ad_told_b, .inl (cI, 6, .inl a_told_b)), (ad_now, oX3 v_now_forgotten v_now_touches v_now_trapped v_now_one v_now_date)] q0 := by
  refine Ki.mk (cc := cX7_shown) (maxL := 2) (ret := some .int) (by decide) (Nat.le_of_ble_eq_true rfl) ?_
  intro p e s m args below meth c A Q H locs C hQ hP hD hS ls hl
  obtain ⟨hx, hb, -, hml, hts, hown, -, hK, hN, hA⟩ := id C
  have hown : s.vm.findClass RX7 = some m.cls := hown
  have hl : lv_has ls 2 [(0, .ref ad0), (1, .int p1)] := hl
  unfold fX7_shown at hf
  refine lv_aload_n hx hb (dt uX7_shown 0 rfl) rfl (lv_at hl 0 rfl) ?_
  refine va_get (D := (dC, dI)) (ci := 7) (v := .ref ad_now) (C := RX7) (T := TX7) (N := 10) hx hb hts inU7 hown hK hP 0 rfl rfl 3 (by decide) (hts _ tw_122) (fun _ h9 => h9) rfl (dt uX7_shown 1 rfl) ?_
  refine va_getN (D := (dC, dI)) (ci := 3) (v := .int v_now_one) (C := RX3) (T := TX3) (N := 5) hx hb hts inU3 hown hK hP 4 rfl rfl 3 (by decide) (nw_16 hN) (fun _ h9 => h9) rfl (dt uX7_shown 2 rfl) ?_
  refine lv_iload_n hx hb (dt uX7_shown 3 rfl) rfl (lv_at hl 1 rfl) ?_
  refine lv_icmp_ne (tgt := 22) hx hb (dt uX7_shown 4 rfl) (by decide) (fun c_1 => ?_) (fun c_1 => ?_)
  · have hf := vif_f c_1 hf
    refine lv_aload_n hx hb (dt uX7_shown 11 rfl) rfl (lv_at hl 0 rfl) ?_
    refine lv_iload_n hx hb (dt uX7_shown 12 rfl) rfl (lv_at hl 1 rfl) ?_
    obtain ⟨q_2, hq_3, hf⟩ := vbd hf
    refine vk_i0 [0, 1, 2, 3, 4] (va_runV (As := [.int p1]) (rest := []) ⟨hx, hb, hml, hown, hts⟩ (kX7_written ad0 ad_text ad_draft ad_told ad_told_a ad_told_b ad_now ad_history ad_firstImage ad_secondImage ad_seen ad_ways v_traced v_told_size v_told_touches v_told_one a_told_a a_told_b v_now_forgotten v_now_touches v_now_trapped v_now_one v_now_date p1 q_2 hq_3 H.size) (vcwV hts tw_137 tw_138 tw_139 tw_41 tw_136 hd_X7_written rfl rfl ⟨Nat.le_of_ble_eq_true rfl, Nat.le_of_ble_eq_true rfl⟩) (vpreV hK hN hP hD [0, 1, 2, 3, 4] rfl (by decide) (ci := 7) (q0 := 0) rfl rfl) rfl rfl hl.1 rfl (lv_room (Nat.le_of_ble_eq_true rfl)) (dt uX7_shown 13 rfl) ⟨Nat.zero_le _, Nat.zero_le _⟩) hA hP hD hS rfl (by decide) (fun H locs hP hD hS => ?_)
    have hf := Option.some.inj hf
    subst hf
    rw [hQ]
    exact vret_i C hP hD hS (dt uX7_shown 14 rfl)
  · have hf := vif_t c_1 hf
    refine lv_aload_n hx hb (dt uX7_shown 5 rfl) rfl (lv_at hl 0 rfl) ?_
    refine lv_iload_n hx hb (dt uX7_shown 6 rfl) rfl (lv_at hl 1 rfl) ?_
    obtain ⟨q_4, hq_5, hf⟩ := vbd hf
    refine vk_i0 [0, 1, 2, 3, 4] (va_runV (As := [.int p1]) (rest := []) ⟨hx, hb, hml, hown, hts⟩ (kX7_written ad0 ad_text ad_draft ad_told ad_told_a ad_told_b ad_now ad_history ad_firstImage ad_secondImage ad_seen ad_ways v_traced v_told_size v_told_touches v_told_one a_told_a a_told_b v_now_forgotten v_now_touches v_now_trapped v_now_one v_now_date p1 q_4 hq_5 H.size) (vcwV hts tw_137 tw_138 tw_139 tw_41 tw_136 hd_X7_written rfl rfl ⟨Nat.le_of_ble_eq_true rfl, Nat.le_of_ble_eq_true rfl⟩) (vpreV hK hN hP hD [0, 1, 2, 3, 4] rfl (by decide) (ci := 7) (q0 := 0) rfl rfl) rfl rfl hl.1 rfl (lv_room (Nat.le_of_ble_eq_true rfl)) (dt uX7_shown 7 rfl) ⟨Nat.zero_le _, Nat.zero_le _⟩) hA hP hD hS rfl (by decide) (fun H locs hP hD hS => ?_)
    refine lv_bipush (v := (10 : Int32)) hx hb (dt uX7_shown 8 rfl) (by decide) ?_
    refine lv_iadd hx hb (dt uX7_shown 9 rfl) ?_
    refine lv_goto (tgt := 27) hx hb (dt uX7_shown 10 rfl) (by decide) ?_
    have hf := Option.some.inj hf
    subst hf
    rw [hQ]
    exact vret_i C hP hD hS (dt uX7_shown 14 rfl)
abbrev rX7_neighbours : Room := { frames := 1, cells := 0, slots := 0, locals := 23 }
abbrev wX7_neighbours : List Cond := Cond.code yX7_neighbours cX7_neighbours 4 (some .int) :: VT
set_option maxHeartbeats 4000000 in
set_option maxRecDepth 100000 in
theorem kX7_neighbours (ad0 : Nat) (ad_text : Nat) (ad_draft : Nat) (ad_told : Nat) (ad_told_a : Nat) (ad_told_b : Nat) (ad_now : Nat) (ad_history : Nat) (ad_firstImage : Nat) (ad_secondImage : Nat) (ad_seen : Nat) (ad_ways : Nat) (v_traced : Int64) (v_told_size : Int32) (v_told_touches : Int32) (v_told_one : Int32) (v_now_forgotten : Int32) (v_now_touches : Int32) (v_now_trapped : Int32) (v_now_one : Int32) (v_now_date : Int32) (p1 : Int32) (N : Nat) (q0 : Int32) (hf : fX7_neighbours N v_told_size v_now_touches p1 = some q0) : Ki l yX7_neighbours wX7_neighbours rX7_neighbours (dC, dI) (vTy cI cJ cB cZ) [.ref ad0, .int p1] [(ad0, oX7 ad_text ad_draft ad_told ad_now ad_history ad_firstImage ad_secondImage ad_seen ad_ways v_traced), (ad_told, oX0 ad_told_a ad_told_b v_told_size v_told_touches v_told_one), (ad_now, oX3 v_now_forgotten v_now_touches v_now_trapped v_now_one v_now_date)] [(ad0, oX7 ad_text ad_draft ad_told ad_now ad_history ad_firstImage ad_secondImage ad_seen ad_ways v_traced), (ad_told, oX0 ad_told_a ad_told_b v_told_size v_told_touches v_told_one), (ad_now, oX3 v_now_forgotten v_now_touches v_now_trapped v_now_one v_now_date)] q0 := by
  refine Ki.mk (cc := cX7_neighbours) (maxL := 4) (ret := some .int) (by decide) (Nat.le_of_ble_eq_true rfl) ?_
  intro p e s m args below meth c A Q H locs C hQ hP hD hS ls hl
  obtain ⟨hx, hb, -, hml, hts, hown, -, hK, hN, hA⟩ := id C
  have hown : s.vm.findClass RX7 = some m.cls := hown
  have hl : lv_has ls 4 [(0, .ref ad0), (1, .int p1)] := hl
  unfold fX7_neighbours at hf
  refine lv_iconst (v := (0 : Int32)) hx hb (dt uX7_neighbours 0 rfl) (by decide) ?_
  refine lv_istore_n (lv' := [(2, .int (0 : Int32)), (0, .ref ad0), (1, .int p1)]) hx hb (dt uX7_neighbours 1 rfl) rfl hl (by decide) rfl (fun ls hl => ?_)
  refine lv_iconst (v := (0 : Int32)) hx hb (dt uX7_neighbours 2 rfl) (by decide) ?_
  refine lv_istore_n (lv' := [(3, .int (0 : Int32)), (2, .int (0 : Int32)), (0, .ref ad0), (1, .int p1)]) hx hb (dt uX7_neighbours 3 rfl) rfl hl (by decide) rfl (fun ls hl => ?_)
  have hL4 : ∀ (n4 : Nat), ∀ (x2_1 : Int32) (x3_2 : Int32) (H : Heap) (locs : List Loc) (ls : Array Slot), fX7_neighbours_L4 v_told_size v_now_touches p1 n4 x2_1 x3_2 = some q0 → va_P (dC, dI) vwCl [(ad0, oX7 ad_text ad_draft ad_told ad_now ad_history ad_firstImage ad_secondImage ad_seen ad_ways v_traced), (ad_told, oX0 ad_told_a ad_told_b v_told_size v_told_touches v_told_one), (ad_now, oX3 v_now_forgotten v_now_touches v_now_trapped v_now_one v_now_date)] H → va_D A [(ad0, oX7 ad_text ad_draft ad_told ad_now ad_history ad_firstImage ad_secondImage ad_seen ad_ways v_traced), (ad_told, oX0 ad_told_a ad_told_b v_told_size v_told_touches v_told_one), (ad_now, oX3 v_now_forgotten v_now_touches v_now_trapped v_now_one v_now_date)] → va_S A s.heap H locs → lv_has ls 4 [(0, .ref ad0), (1, .int p1), (2, .int x2_1), (3, .int x3_2)] → W p l e rX7_neighbours s m args below meth c H locs 0 0 Q (F0 m 4 ls []) := by
    intro n4
    induction n4 with
    | zero => intro x2_1 x3_2 H locs ls hf hP hD hS hl; cases hf
    | succ n4 ih4 =>
      intro x2_1 x3_2 H locs ls hf hP hD hS hl
      rw [fX7_neighbours_L4] at hf
      refine lv_iload_n hx hb (dt uX7_neighbours 4 rfl) rfl (lv_at hl 3 rfl) ?_
      refine lv_aload_n hx hb (dt uX7_neighbours 5 rfl) rfl (lv_at hl 0 rfl) ?_
      refine va_get (D := (dC, dI)) (ci := 7) (v := .ref ad_told) (C := RX7) (T := TX7) (N := 10) hx hb hts inU7 hown hK hP 0 rfl rfl 2 (by decide) (hts _ tw_118) (fun _ h9 => h9) rfl (dt uX7_neighbours 6 rfl) ?_
      refine va_getN (D := (dC, dI)) (ci := 0) (v := .int v_told_size) (C := RX0) (T := TX0) (N := 5) hx hb hts inU0 hown hK hP 1 rfl rfl 2 (by decide) (nw_7 hN) (fun _ h9 => h9) rfl (dt uX7_neighbours 7 rfl) ?_
      refine lv_icmp_ge (tgt := 48) hx hb (dt uX7_neighbours 8 rfl) (by decide) (fun c_3 => ?_) (fun c_3 => ?_)
      · have hf := vif_t c_3 hf
        refine lv_iload_n hx hb (dt uX7_neighbours 28 rfl) rfl (lv_at hl 2 rfl) ?_
        have hf := Option.some.inj hf
        subst hf
        rw [hQ]
        exact vret_i C hP hD hS (dt uX7_neighbours 29 rfl)
      · have hf := vif_f c_3 hf
        refine lv_iload_n hx hb (dt uX7_neighbours 9 rfl) rfl (lv_at hl 3 rfl) ?_
        refine lv_iload_n hx hb (dt uX7_neighbours 10 rfl) rfl (lv_at hl 1 rfl) ?_
        refine lv_icmp_eq (tgt := 42) hx hb (dt uX7_neighbours 11 rfl) (by decide) (fun c_4 => ?_) (fun c_4 => ?_)
        · have hf := vif_t c_4 hf
          refine lv_iinc (v := x3_2 + 1) (lv' := [(3, .int (x3_2 + 1)), (0, .ref ad0), (1, .int p1), (2, .int x2_1)]) hx hb (dt uX7_neighbours 26 rfl) hl (k := 3) rfl rfl (by decide) rfl (fun ls hl => ?_)
          refine lv_goto (tgt := 4) hx hb (dt uX7_neighbours 27 rfl) (by decide) ?_
          exact ih4 x2_1 (x3_2 + 1) _ _ _ hf hP hD hS (lv_sub hl [1, 2, 3, 0] rfl)
        · have hf := vif_f c_4 hf
          refine lv_aload_n hx hb (dt uX7_neighbours 12 rfl) rfl (lv_at hl 0 rfl) ?_
          refine va_get (D := (dC, dI)) (ci := 7) (v := .ref ad_now) (C := RX7) (T := TX7) (N := 10) hx hb hts inU7 hown hK hP 0 rfl rfl 3 (by decide) (hts _ tw_122) (fun _ h9 => h9) rfl (dt uX7_neighbours 13 rfl) ?_
          refine va_getN (D := (dC, dI)) (ci := 3) (v := .int v_now_touches) (C := RX3) (T := TX3) (N := 5) hx hb hts inU3 hown hK hP 2 rfl rfl 1 (by decide) (nw_14 hN) (fun _ h9 => h9) rfl (dt uX7_neighbours 14 rfl) ?_
          refine lv_iload_n hx hb (dt uX7_neighbours 15 rfl) rfl (lv_at hl 1 rfl) ?_
          refine lv_iload_n hx hb (dt uX7_neighbours 16 rfl) rfl (lv_at hl 3 rfl) ?_
          refine vk_i0 [] (va_runS (As := [.int p1, .int x3_2]) (rest := [.int v_now_touches]) ⟨hx, hb, hml, hown, hts⟩ (kX7_touchBit p1 x3_2 _ rfl H.size) (vcwS hts tw_140 tw_76 tw_41 tw_75 hd_X7_touchBit rfl rfl ⟨Nat.le_of_ble_eq_true rfl, Nat.le_of_ble_eq_true rfl⟩) (vpreS hK hN hP hD [] rfl (by decide)) rfl rfl hl.1 rfl (lv_room (Nat.le_of_ble_eq_true rfl)) (dt uX7_neighbours 17 rfl) ⟨Nat.zero_le _, Nat.zero_le _⟩) hA hP hD hS rfl (by decide) (fun H locs hP hD hS => ?_)
          refine lv_iand hx hb (dt uX7_neighbours 18 rfl) ?_
          refine lv_if_eq (tgt := 42) hx hb (dt uX7_neighbours 19 rfl) (by decide) (fun c_5 => ?_) (fun c_5 => ?_)
          · have hf := vif_t c_5 hf
            refine lv_iinc (v := x3_2 + 1) (lv' := [(3, .int (x3_2 + 1)), (0, .ref ad0), (1, .int p1), (2, .int x2_1)]) hx hb (dt uX7_neighbours 26 rfl) hl (k := 3) rfl rfl (by decide) rfl (fun ls hl => ?_)
            refine lv_goto (tgt := 4) hx hb (dt uX7_neighbours 27 rfl) (by decide) ?_
            exact ih4 x2_1 (x3_2 + 1) _ _ _ hf hP hD hS (lv_sub hl [1, 2, 3, 0] rfl)
          · have hf := vif_f c_5 hf
            refine lv_iload_n hx hb (dt uX7_neighbours 20 rfl) rfl (lv_at hl 2 rfl) ?_
            refine lv_iconst (v := (1 : Int32)) hx hb (dt uX7_neighbours 21 rfl) (by decide) ?_
            refine lv_iload_n hx hb (dt uX7_neighbours 22 rfl) rfl (lv_at hl 3 rfl) ?_
            refine lv_ishl hx hb (dt uX7_neighbours 23 rfl) ?_
            refine lv_ior hx hb (dt uX7_neighbours 24 rfl) ?_
            refine lv_istore_n (lv' := [(2, .int (x2_1 ||| ((1 : Int32) <<< (x3_2 &&& 31)))), (0, .ref ad0), (1, .int p1), (3, .int x3_2)]) hx hb (dt uX7_neighbours 25 rfl) rfl hl (by decide) rfl (fun ls hl => ?_)
            refine lv_iinc (v := x3_2 + 1) (lv' := [(3, .int (x3_2 + 1)), (2, .int (x2_1 ||| ((1 : Int32) <<< (x3_2 &&& 31)))), (0, .ref ad0), (1, .int p1)]) hx hb (dt uX7_neighbours 26 rfl) hl (k := 3) rfl rfl (by decide) rfl (fun ls hl => ?_)
            refine lv_goto (tgt := 4) hx hb (dt uX7_neighbours 27 rfl) (by decide) ?_
            exact ih4 (x2_1 ||| ((1 : Int32) <<< (x3_2 &&& 31))) (x3_2 + 1) _ _ _ hf hP hD hS (lv_sub hl [2, 3, 1, 0] rfl)
  exact hL4 N (0 : Int32) (0 : Int32) _ _ _ hf hP hD hS (lv_sub hl [2, 3, 1, 0] rfl)
abbrev rX7_book : Room := { frames := 3, cells := 0, slots := 0, locals := 64 }
abbrev wX7_book : List Cond := Cond.code yX7_book cX7_book 3 (some .int) :: VT
set_option maxHeartbeats 4000000 in
set_option maxRecDepth 100000 in
theorem kX7_book (ad0 : Nat) (ad_text : Nat) (ad_draft : Nat) (ad_told : Nat) (ad_told_a : Nat) (ad_told_b : Nat) (ad_now : Nat) (ad_history : Nat) (ad_firstImage : Nat) (ad_secondImage : Nat) (ad_seen : Nat) (ad_ways : Nat) (v_traced : Int64) (v_told_size : Int32) (v_told_touches : Int32) (v_told_one : Int32) (a_told_a : Nat → Int32) (a_told_b : Nat → Int32) (v_now_forgotten : Int32) (v_now_touches : Int32) (v_now_trapped : Int32) (v_now_one : Int32) (v_now_date : Int32) (p1 : Int32) (p2 : Int32) (N : Nat) (q0 : Int32) (hf : fX7_book N a_told_a a_told_b v_told_size v_now_forgotten v_now_touches v_now_trapped v_now_one p1 p2 = some q0) : Ki l yX7_book wX7_book rX7_book (dC, dI) (vTy cI cJ cB cZ) [.ref ad0, .int p1, .int p2] [(ad0, oX7 ad_text ad_draft ad_told ad_now ad_history ad_firstImage ad_secondImage ad_seen ad_ways v_traced), (ad_told, oX0 ad_told_a ad_told_b v_told_size v_told_touches v_told_one), (ad_told_a, .inl (cI, 6, .inl a_told_a)), (ad_told_b, .inl (cI, 6, .inl a_told_b)), (ad_now, oX3 v_now_forgotten v_now_touches v_now_trapped v_now_one v_now_date)] [(ad0, oX7 ad_text ad_draft ad_told ad_now ad_history ad_firstImage ad_secondImage ad_seen ad_ways v_traced), (ad_told, oX0 ad_told_a ad_told_b v_told_size v_told_touches v_told_one), (ad_told_a, .inl (cI, 6, .inl a_told_a)), (ad_told_b, .inl (cI, 6, .inl a_told_b)), (ad_now, oX3 v_now_forgotten v_now_touches v_now_trapped v_now_one v_now_date)] q0 := by
  refine Ki.mk (cc := cX7_book) (maxL := 3) (ret := some .int) (by decide) (Nat.le_of_ble_eq_true rfl) ?_
  intro p e s m args below meth c A Q H locs C hQ hP hD hS ls hl
  obtain ⟨hx, hb, -, hml, hts, hown, -, hK, hN, hA⟩ := id C
  have hown : s.vm.findClass RX7 = some m.cls := hown
  have hl : lv_has ls 3 [(0, .ref ad0), (1, .int p1), (2, .int p2)] := hl
  unfold fX7_book at hf
  refine lv_aload_n hx hb (dt uX7_book 0 rfl) rfl (lv_at hl 0 rfl) ?_
  refine lv_iload_n hx hb (dt uX7_book 1 rfl) rfl (lv_at hl 1 rfl) ?_
  refine vk_z0 [0, 1] (va_runV (As := [.int p1]) (rest := []) ⟨hx, hb, hml, hown, hts⟩ (kX7_isBook ad0 ad_text ad_draft ad_told ad_told_a ad_told_b ad_now ad_history ad_firstImage ad_secondImage ad_seen ad_ways v_traced v_told_size v_told_touches v_told_one p1 _ rfl H.size) (vcwV hts tw_142 tw_143 tw_144 tw_41 tw_141 hd_X7_isBook rfl rfl ⟨Nat.le_of_ble_eq_true rfl, Nat.le_of_ble_eq_true rfl⟩) (vpreV hK hN hP hD [0, 1] rfl (by decide) (ci := 7) (q0 := 0) rfl rfl) rfl rfl hl.1 rfl (lv_room (Nat.le_of_ble_eq_true rfl)) (dt uX7_book 2 rfl) ⟨Nat.zero_le _, Nat.zero_le _⟩) hA hP hD hS rfl (by decide) (fun hz_1 H locs hP hD hS => ?_)
  refine lv_if_ne (tgt := 10) hx hb (dt uX7_book 3 rfl) (by decide) (fun c_2 => ?_) (fun c_2 => ?_)
  · have hf := vif_f c_2 hf
    refine lv_iload_n hx hb (dt uX7_book 6 rfl) rfl (lv_at hl 2 rfl) ?_
    by_cases c_3 : p2 = (0 : Int32)
    · have hf := vif_t c_3 hf
      refine lv_tableIn (off := 45) (tgt := 56) hx hb (dt uX7_book 7 rfl) (by rw [c_3]; decide) (by rw [c_3]; decide) (by rw [c_3]; rfl) (by decide) ?_
      refine lv_aload_n hx hb (dt uX7_book 8 rfl) rfl (lv_at hl 0 rfl) ?_
      refine va_get (D := (dC, dI)) (ci := 7) (v := .ref ad_told) (C := RX7) (T := TX7) (N := 10) hx hb hts inU7 hown hK hP 0 rfl rfl 2 (by decide) (hts _ tw_118) (fun _ h9 => h9) rfl (dt uX7_book 9 rfl) ?_
      refine va_getN (D := (dC, dI)) (ci := 0) (v := .ref ad_told_a) (C := RX0) (T := TX0) (N := 5) hx hb hts inU0 hown hK hP 1 rfl rfl 0 (by decide) (nw_4 hN) (fun _ h9 => h9) rfl (dt uX7_book 10 rfl) ?_
      refine lv_iload_n hx hb (dt uX7_book 11 rfl) rfl (lv_at hl 1 rfl) ?_
      obtain ⟨hi_4, hf⟩ := vg_some hf
      refine va_iald hx hb hK hP 2 0 rfl rfl hi_4 (dt uX7_book 12 rfl) ?_
      have hf := Option.some.inj hf
      subst hf
      rw [hQ]
      exact vret_i C hP hD hS (dt uX7_book 13 rfl)
    have hf := vif_f c_3 hf
    by_cases c_5 : p2 = (1 : Int32)
    · have hf := vif_t c_5 hf
      refine lv_tableIn (off := 55) (tgt := 66) hx hb (dt uX7_book 7 rfl) (by rw [c_5]; decide) (by rw [c_5]; decide) (by rw [c_5]; rfl) (by decide) ?_
      refine lv_aload_n hx hb (dt uX7_book 14 rfl) rfl (lv_at hl 0 rfl) ?_
      refine va_get (D := (dC, dI)) (ci := 7) (v := .ref ad_told) (C := RX7) (T := TX7) (N := 10) hx hb hts inU7 hown hK hP 0 rfl rfl 2 (by decide) (hts _ tw_118) (fun _ h9 => h9) rfl (dt uX7_book 15 rfl) ?_
      refine va_getN (D := (dC, dI)) (ci := 0) (v := .ref ad_told_b) (C := RX0) (T := TX0) (N := 5) hx hb hts inU0 hown hK hP 1 rfl rfl 1 (by decide) (nw_5 hN) (fun _ h9 => h9) rfl (dt uX7_book 16 rfl) ?_
      refine lv_iload_n hx hb (dt uX7_book 17 rfl) rfl (lv_at hl 1 rfl) ?_
      obtain ⟨hi_6, hf⟩ := vg_some hf
      refine va_iald hx hb hK hP 3 0 rfl rfl hi_6 (dt uX7_book 18 rfl) ?_
      have hf := Option.some.inj hf
      subst hf
      rw [hQ]
      exact vret_i C hP hD hS (dt uX7_book 19 rfl)
    have hf := vif_f c_5 hf
    by_cases c_7 : p2 = (2 : Int32)
    · have hf := vif_t c_7 hf
      refine lv_tableIn (off := 65) (tgt := 76) hx hb (dt uX7_book 7 rfl) (by rw [c_7]; decide) (by rw [c_7]; decide) (by rw [c_7]; rfl) (by decide) ?_
      refine lv_aload_n hx hb (dt uX7_book 20 rfl) rfl (lv_at hl 0 rfl) ?_
      refine lv_iload_n hx hb (dt uX7_book 21 rfl) rfl (lv_at hl 1 rfl) ?_
      obtain ⟨q_8, hq_9, hf⟩ := vbd hf
      refine vk_i0 [0, 1, 2, 3, 4] (va_runV (As := [.int p1]) (rest := []) ⟨hx, hb, hml, hown, hts⟩ (kX7_written ad0 ad_text ad_draft ad_told ad_told_a ad_told_b ad_now ad_history ad_firstImage ad_secondImage ad_seen ad_ways v_traced v_told_size v_told_touches v_told_one a_told_a a_told_b v_now_forgotten v_now_touches v_now_trapped v_now_one v_now_date p1 q_8 hq_9 H.size) (vcwV hts tw_137 tw_138 tw_139 tw_41 tw_136 hd_X7_written rfl rfl ⟨Nat.le_of_ble_eq_true rfl, Nat.le_of_ble_eq_true rfl⟩) (vpreV hK hN hP hD [0, 1, 2, 3, 4] rfl (by decide) (ci := 7) (q0 := 0) rfl rfl) rfl rfl hl.1 rfl (lv_room (Nat.le_of_ble_eq_true rfl)) (dt uX7_book 22 rfl) ⟨Nat.zero_le _, Nat.zero_le _⟩) hA hP hD hS rfl (by decide) (fun H locs hP hD hS => ?_)
      have hf := Option.some.inj hf
      subst hf
      rw [hQ]
      exact vret_i C hP hD hS (dt uX7_book 23 rfl)
    have hf := vif_f c_7 hf
    by_cases c_10 : p2 = (3 : Int32)
    · have hf := vif_t c_10 hf
      refine lv_tableIn (off := 71) (tgt := 82) hx hb (dt uX7_book 7 rfl) (by rw [c_10]; decide) (by rw [c_10]; decide) (by rw [c_10]; rfl) (by decide) ?_
      refine lv_aload_n hx hb (dt uX7_book 24 rfl) rfl (lv_at hl 0 rfl) ?_
      refine lv_iload_n hx hb (dt uX7_book 25 rfl) rfl (lv_at hl 1 rfl) ?_
      obtain ⟨q_11, hq_12, hf⟩ := vbd hf
      refine vk_i0 [0, 1, 2, 3, 4] (va_runV (As := [.int p1]) (rest := []) ⟨hx, hb, hml, hown, hts⟩ (kX7_shown ad0 ad_text ad_draft ad_told ad_told_a ad_told_b ad_now ad_history ad_firstImage ad_secondImage ad_seen ad_ways v_traced v_told_size v_told_touches v_told_one a_told_a a_told_b v_now_forgotten v_now_touches v_now_trapped v_now_one v_now_date p1 q_11 hq_12 H.size) (vcwV hts tw_146 tw_147 tw_148 tw_41 tw_145 hd_X7_shown rfl rfl ⟨Nat.le_of_ble_eq_true rfl, Nat.le_of_ble_eq_true rfl⟩) (vpreV hK hN hP hD [0, 1, 2, 3, 4] rfl (by decide) (ci := 7) (q0 := 0) rfl rfl) rfl rfl hl.1 rfl (lv_room (Nat.le_of_ble_eq_true rfl)) (dt uX7_book 26 rfl) ⟨Nat.zero_le _, Nat.zero_le _⟩) hA hP hD hS rfl (by decide) (fun H locs hP hD hS => ?_)
      have hf := Option.some.inj hf
      subst hf
      rw [hQ]
      exact vret_i C hP hD hS (dt uX7_book 27 rfl)
    have hf := vif_f c_10 hf
    by_cases c_13 : p2 = (4 : Int32)
    · have hf := vif_t c_13 hf
      refine lv_tableIn (off := 77) (tgt := 88) hx hb (dt uX7_book 7 rfl) (by rw [c_13]; decide) (by rw [c_13]; decide) (by rw [c_13]; rfl) (by decide) ?_
      refine lv_aload_n hx hb (dt uX7_book 28 rfl) rfl (lv_at hl 0 rfl) ?_
      refine va_get (D := (dC, dI)) (ci := 7) (v := .ref ad_told) (C := RX7) (T := TX7) (N := 10) hx hb hts inU7 hown hK hP 0 rfl rfl 2 (by decide) (hts _ tw_118) (fun _ h9 => h9) rfl (dt uX7_book 29 rfl) ?_
      refine lv_iload_n hx hb (dt uX7_book 30 rfl) rfl (lv_at hl 1 rfl) ?_
      obtain ⟨q_14, hq_15, hf⟩ := vbd hf
      refine vk_i0 [1, 2, 3] (va_runVN (As := [.int p1]) (rest := []) ⟨hx, hb, hml, hown, hts⟩ (kX0_carries ad_told ad_told_a ad_told_b v_told_size v_told_touches v_told_one a_told_a a_told_b p1 q_14 hq_15 H.size) (vcwVN hts (nm_41 hN) tw_150 tw_151 tw_67 tw_149 hd_X0_carries rfl rfl ⟨Nat.le_of_ble_eq_true rfl, Nat.le_of_ble_eq_true rfl⟩) (vpreV hK hN hP hD [1, 2, 3] rfl (by decide) (ci := 0) (q0 := 1) rfl rfl) rfl rfl hl.1 rfl (lv_room (Nat.le_of_ble_eq_true rfl)) (dt uX7_book 31 rfl) ⟨Nat.zero_le _, Nat.zero_le _⟩) hA hP hD hS rfl (by decide) (fun H locs hP hD hS => ?_)
      have hf := Option.some.inj hf
      subst hf
      rw [hQ]
      exact vret_i C hP hD hS (dt uX7_book 32 rfl)
    have hf := vif_f c_13 hf
    by_cases c_16 : p2 = (5 : Int32)
    · have hf := vif_t c_16 hf
      refine lv_tableIn (off := 86) (tgt := 97) hx hb (dt uX7_book 7 rfl) (by rw [c_16]; decide) (by rw [c_16]; decide) (by rw [c_16]; rfl) (by decide) ?_
      refine lv_aload_n hx hb (dt uX7_book 33 rfl) rfl (lv_at hl 0 rfl) ?_
      refine va_get (D := (dC, dI)) (ci := 7) (v := .ref ad_now) (C := RX7) (T := TX7) (N := 10) hx hb hts inU7 hown hK hP 0 rfl rfl 3 (by decide) (hts _ tw_122) (fun _ h9 => h9) rfl (dt uX7_book 34 rfl) ?_
      refine lv_iload_n hx hb (dt uX7_book 35 rfl) rfl (lv_at hl 1 rfl) ?_
      refine vk_i0 [4] (va_runVN (As := [.int p1]) (rest := []) ⟨hx, hb, hml, hown, hts⟩ (kX3_forgottenIn ad_now v_now_forgotten v_now_touches v_now_trapped v_now_one v_now_date p1 _ rfl H.size) (vcwVN hts (nm_39 hN) tw_131 tw_132 tw_16 tw_130 hd_X3_forgottenIn rfl rfl ⟨Nat.le_of_ble_eq_true rfl, Nat.le_of_ble_eq_true rfl⟩) (vpreV hK hN hP hD [4] rfl (by decide) (ci := 3) (q0 := 4) rfl rfl) rfl rfl hl.1 rfl (lv_room (Nat.le_of_ble_eq_true rfl)) (dt uX7_book 36 rfl) ⟨Nat.zero_le _, Nat.zero_le _⟩) hA hP hD hS rfl (by decide) (fun H locs hP hD hS => ?_)
      have hf := Option.some.inj hf
      subst hf
      rw [hQ]
      exact vret_i C hP hD hS (dt uX7_book 37 rfl)
    have hf := vif_f c_16 hf
    by_cases c_17 : p2 = (6 : Int32)
    · have hf := vif_t c_17 hf
      refine lv_tableIn (off := 95) (tgt := 106) hx hb (dt uX7_book 7 rfl) (by rw [c_17]; decide) (by rw [c_17]; decide) (by rw [c_17]; rfl) (by decide) ?_
      refine lv_aload_n hx hb (dt uX7_book 38 rfl) rfl (lv_at hl 0 rfl) ?_
      refine lv_iload_n hx hb (dt uX7_book 39 rfl) rfl (lv_at hl 1 rfl) ?_
      obtain ⟨q_18, hq_19, hf⟩ := vbd hf
      refine vk_i0 [0, 1, 4] (va_runV (As := [.int p1]) (rest := []) ⟨hx, hb, hml, hown, hts⟩ (kX7_neighbours ad0 ad_text ad_draft ad_told ad_told_a ad_told_b ad_now ad_history ad_firstImage ad_secondImage ad_seen ad_ways v_traced v_told_size v_told_touches v_told_one v_now_forgotten v_now_touches v_now_trapped v_now_one v_now_date p1 N q_18 hq_19 H.size) (vcwV hts tw_153 tw_154 tw_155 tw_41 tw_152 hd_X7_neighbours rfl rfl ⟨Nat.le_of_ble_eq_true rfl, Nat.le_of_ble_eq_true rfl⟩) (vpreV hK hN hP hD [0, 1, 4] rfl (by decide) (ci := 7) (q0 := 0) rfl rfl) rfl rfl hl.1 rfl (lv_room (Nat.le_of_ble_eq_true rfl)) (dt uX7_book 40 rfl) ⟨Nat.zero_le _, Nat.zero_le _⟩) hA hP hD hS rfl (by decide) (fun H locs hP hD hS => ?_)
      have hf := Option.some.inj hf
      subst hf
      rw [hQ]
      exact vret_i C hP hD hS (dt uX7_book 41 rfl)
    have hf := vif_f c_17 hf
    by_cases c_20 : p2 = (7 : Int32)
    · have hf := vif_t c_20 hf
      refine lv_tableIn (off := 101) (tgt := 112) hx hb (dt uX7_book 7 rfl) (by rw [c_20]; decide) (by rw [c_20]; decide) (by rw [c_20]; rfl) (by decide) ?_
      refine lv_aload_n hx hb (dt uX7_book 42 rfl) rfl (lv_at hl 0 rfl) ?_
      refine va_get (D := (dC, dI)) (ci := 7) (v := .ref ad_now) (C := RX7) (T := TX7) (N := 10) hx hb hts inU7 hown hK hP 0 rfl rfl 3 (by decide) (hts _ tw_122) (fun _ h9 => h9) rfl (dt uX7_book 43 rfl) ?_
      refine lv_iload_n hx hb (dt uX7_book 44 rfl) rfl (lv_at hl 1 rfl) ?_
      refine vk_z0 [4] (va_runVN (As := [.int p1]) (rest := []) ⟨hx, hb, hml, hown, hts⟩ (kX3_isTrap ad_now v_now_forgotten v_now_touches v_now_trapped v_now_one v_now_date p1 _ rfl H.size) (vcwVN hts (nm_42 hN) tw_157 tw_158 tw_16 tw_156 hd_X3_isTrap rfl rfl ⟨Nat.le_of_ble_eq_true rfl, Nat.le_of_ble_eq_true rfl⟩) (vpreV hK hN hP hD [4] rfl (by decide) (ci := 3) (q0 := 4) rfl rfl) rfl rfl hl.1 rfl (lv_room (Nat.le_of_ble_eq_true rfl)) (dt uX7_book 45 rfl) ⟨Nat.zero_le _, Nat.zero_le _⟩) hA hP hD hS rfl (by decide) (fun hz_21 H locs hP hD hS => ?_)
      refine lv_if_eq (tgt := 127) hx hb (dt uX7_book 46 rfl) (by decide) (fun c_22 => ?_) (fun c_22 => ?_)
      · have hf := vif_t c_22 hf
        refine lv_iconst (v := (0 : Int32)) hx hb (dt uX7_book 49 rfl) (by decide) ?_
        have hf := Option.some.inj hf
        subst hf
        rw [hQ]
        exact vret_i C hP hD hS (dt uX7_book 50 rfl)
      · have hf := vif_f c_22 hf
        refine lv_iconst (v := (1 : Int32)) hx hb (dt uX7_book 47 rfl) (by decide) ?_
        refine lv_goto (tgt := 128) hx hb (dt uX7_book 48 rfl) (by decide) ?_
        have hf := Option.some.inj hf
        subst hf
        rw [hQ]
        exact vret_i C hP hD hS (dt uX7_book 50 rfl)
    have hf := vif_f c_20 hf
    have e_23 : ∀ k : Int, (0 : Int) ≤ k → k ≤ 7 → (p2).toInt ≠ k := by
      intro k h1 h2
      have e : k = 0 ∨ k = 1 ∨ k = 2 ∨ k = 3 ∨ k = 4 ∨ k = 5 ∨ k = 6 ∨ k = 7 := by omega
      rcases e with rfl | rfl | rfl | rfl | rfl | rfl | rfl | rfl
      · exact vne_toInt c_3
      · exact vne_toInt c_5
      · exact vne_toInt c_7
      · exact vne_toInt c_10
      · exact vne_toInt c_13
      · exact vne_toInt c_16
      · exact vne_toInt c_17
      · exact vne_toInt c_20
    refine lv_tableOut (tgt := 129) hx hb (dt uX7_book 7 rfl) (vtab_out e_23) (by decide) ?_
    refine lv_iconst (v := (-1 : Int32)) hx hb (dt uX7_book 51 rfl) (by decide) ?_
    have hf := Option.some.inj hf
    subst hf
    rw [hQ]
    exact vret_i C hP hD hS (dt uX7_book 52 rfl)
  · have hf := vif_t c_2 hf
    refine lv_iconst (v := (-1 : Int32)) hx hb (dt uX7_book 4 rfl) (by decide) ?_
    have hf := Option.some.inj hf
    subst hf
    rw [hQ]
    exact vret_i C hP hD hS (dt uX7_book 5 rfl)
abbrev rX7_remember : Room := { frames := 2, cells := 0, slots := 0, locals := 40 }
abbrev wX7_remember : List Cond := Cond.code yX7_remember cX7_remember 1 none :: VT
set_option maxHeartbeats 4000000 in
set_option maxRecDepth 100000 in
theorem kX7_remember (ad0 : Nat) (ad_text : Nat) (ad_draft : Nat) (ad_told : Nat) (ad_now : Nat) (ad_history : Nat) (ad_history_steps : Nat) (ad_firstImage : Nat) (ad_secondImage : Nat) (ad_seen : Nat) (ad_ways : Nat) (v_traced : Int64) (v_now_forgotten : Int32) (v_now_touches : Int32) (v_now_trapped : Int32) (v_now_one : Int32) (v_now_date : Int32) (v_history_known : Int32) (a_history_steps : Nat → Int64) (q0 : ((Nat → Int64) × Int32)) (hf : fX7_remember v_now_forgotten v_now_touches v_now_trapped v_now_one v_now_date a_history_steps v_history_known = some q0) : Kv l yX7_remember wX7_remember rX7_remember (dC, dI) (vTy cI cJ cB cZ) [.ref ad0] [(ad0, oX7 ad_text ad_draft ad_told ad_now ad_history ad_firstImage ad_secondImage ad_seen ad_ways v_traced), (ad_now, oX3 v_now_forgotten v_now_touches v_now_trapped v_now_one v_now_date), (ad_history, oX1 ad_history_steps v_history_known), (ad_history_steps, .inl (cJ, 10, .inr (.inl a_history_steps)))] [(ad0, oX7 ad_text ad_draft ad_told ad_now ad_history ad_firstImage ad_secondImage ad_seen ad_ways v_traced), (ad_now, oX3 v_now_forgotten v_now_touches v_now_trapped v_now_one v_now_date), (ad_history, oX1 ad_history_steps q0.2), (ad_history_steps, .inl (cJ, 10, .inr (.inl q0.1)))] := by
  refine Kv.mk (cc := cX7_remember) (maxL := 1) (ret := none) (by decide) (Nat.le_of_ble_eq_true rfl) ?_
  intro p e s m args below meth c A Q H locs C hQ hP hD hS ls hl
  obtain ⟨hx, hb, -, hml, hts, hown, -, hK, hN, hA⟩ := id C
  have hown : s.vm.findClass RX7 = some m.cls := hown
  have hl : lv_has ls 1 [(0, .ref ad0)] := hl
  unfold fX7_remember at hf
  refine lv_aload_n hx hb (dt uX7_remember 0 rfl) rfl (lv_at hl 0 rfl) ?_
  refine va_get (D := (dC, dI)) (ci := 7) (v := .ref ad_history) (C := RX7) (T := TX7) (N := 10) hx hb hts inU7 hown hK hP 0 rfl rfl 4 (by decide) (hts _ tw_126) (fun _ h9 => h9) rfl (dt uX7_remember 1 rfl) ?_
  refine lv_aload_n hx hb (dt uX7_remember 2 rfl) rfl (lv_at hl 0 rfl) ?_
  refine va_get (D := (dC, dI)) (ci := 7) (v := .ref ad_now) (C := RX7) (T := TX7) (N := 10) hx hb hts inU7 hown hK hP 0 rfl rfl 3 (by decide) (hts _ tw_122) (fun _ h9 => h9) rfl (dt uX7_remember 3 rfl) ?_
  refine vk_l0 [1] (va_runVN (As := []) (rest := [.ref ad_history]) ⟨hx, hb, hml, hown, hts⟩ (kX3_packed ad_now v_now_forgotten v_now_touches v_now_trapped v_now_one v_now_date _ rfl H.size) (vcwVN hts (nm_43 hN) tw_18 tw_19 tw_16 tw_17 hd_X3_packed rfl rfl ⟨Nat.le_of_ble_eq_true rfl, Nat.le_of_ble_eq_true rfl⟩) (vpreV hK hN hP hD [1] rfl (by decide) (ci := 3) (q0 := 1) rfl rfl) rfl rfl hl.1 rfl (lv_room (Nat.le_of_ble_eq_true rfl)) (dt uX7_remember 4 rfl) ⟨Nat.zero_le _, Nat.zero_le _⟩) hA hP hD hS rfl (by decide) (fun H locs hP hD hS => ?_)
  obtain ⟨q_1, hq_2, hf⟩ := vbd hf
  refine vk_v [2, 3] (ws2 := [(ad0, oX7 ad_text ad_draft ad_told ad_now ad_history ad_firstImage ad_secondImage ad_seen ad_ways v_traced), (ad_now, oX3 v_now_forgotten v_now_touches v_now_trapped v_now_one v_now_date), (ad_history, oX1 ad_history_steps q_1.2), (ad_history_steps, .inl (cJ, 10, .inr (.inl q_1.1)))]) (va_runVN (As := [.long (fX3_packed v_now_forgotten v_now_touches v_now_trapped v_now_one v_now_date)]) (rest := []) ⟨hx, hb, hml, hown, hts⟩ (kX1_append ad_history ad_history_steps v_history_known a_history_steps (fX3_packed v_now_forgotten v_now_touches v_now_trapped v_now_one v_now_date) q_1 hq_2 H.size) (vcwVN hts (nm_44 hN) tw_160 tw_161 tw_22 tw_159 hd_X1_append rfl rfl ⟨Nat.le_of_ble_eq_true rfl, Nat.le_of_ble_eq_true rfl⟩) (vpreV hK hN hP hD [2, 3] rfl (by decide) (ci := 1) (q0 := 2) rfl rfl) rfl rfl hl.1 rfl (lv_room (Nat.le_of_ble_eq_true rfl)) (dt uX7_remember 5 rfl) ⟨Nat.zero_le _, Nat.zero_le _⟩) hA hP hD hS rfl (by decide) rfl rfl (fun H locs hP hD hS => ?_)
  have hf := Option.some.inj hf
  subst hf
  rw [hQ]
  exact vret_v C hP hD hS (dt uX7_remember 6 rfl)
abbrev rX7_forgets : Room := { frames := 3, cells := 0, slots := 0, locals := 60 }
abbrev wX7_forgets : List Cond := Cond.code yX7_forgets cX7_forgets 4 (some .int) :: VT
set_option maxHeartbeats 4000000 in
set_option maxRecDepth 100000 in
theorem kX7_forgets (ad0 : Nat) (ad_text : Nat) (ad_draft : Nat) (ad_told : Nat) (ad_told_a : Nat) (ad_told_b : Nat) (ad_now : Nat) (ad_history : Nat) (ad_history_steps : Nat) (ad_firstImage : Nat) (ad_secondImage : Nat) (ad_seen : Nat) (ad_ways : Nat) (v_traced : Int64) (v_told_size : Int32) (v_told_touches : Int32) (v_told_one : Int32) (a_told_a : Nat → Int32) (a_told_b : Nat → Int32) (v_now_forgotten : Int32) (v_now_touches : Int32) (v_now_trapped : Int32) (v_now_one : Int32) (v_now_date : Int32) (v_history_known : Int32) (a_history_steps : Nat → Int64) (p1 : Int32) (p2 : Int32) (q0 : (Int32 × Int32 × (Nat → Int64) × Int32)) (hf : fX7_forgets a_told_a a_told_b v_told_size v_now_forgotten v_now_touches v_now_trapped v_now_one v_now_date a_history_steps v_history_known p1 p2 = some q0) : Ki l yX7_forgets wX7_forgets rX7_forgets (dC, dI) (vTy cI cJ cB cZ) [.ref ad0, .int p1, .int p2] [(ad0, oX7 ad_text ad_draft ad_told ad_now ad_history ad_firstImage ad_secondImage ad_seen ad_ways v_traced), (ad_told, oX0 ad_told_a ad_told_b v_told_size v_told_touches v_told_one), (ad_told_a, .inl (cI, 6, .inl a_told_a)), (ad_told_b, .inl (cI, 6, .inl a_told_b)), (ad_now, oX3 v_now_forgotten v_now_touches v_now_trapped v_now_one v_now_date), (ad_history, oX1 ad_history_steps v_history_known), (ad_history_steps, .inl (cJ, 10, .inr (.inl a_history_steps)))] [(ad0, oX7 ad_text ad_draft ad_told ad_now ad_history ad_firstImage ad_secondImage ad_seen ad_ways v_traced), (ad_told, oX0 ad_told_a ad_told_b v_told_size v_told_touches v_told_one), (ad_told_a, .inl (cI, 6, .inl a_told_a)), (ad_told_b, .inl (cI, 6, .inl a_told_b)), (ad_now, oX3 q0.2.1 v_now_touches v_now_trapped v_now_one v_now_date), (ad_history, oX1 ad_history_steps q0.2.2.2), (ad_history_steps, .inl (cJ, 10, .inr (.inl q0.2.2.1)))] q0.1 := by
  refine Ki.mk (cc := cX7_forgets) (maxL := 4) (ret := some .int) (by decide) (Nat.le_of_ble_eq_true rfl) ?_
  intro p e s m args below meth c A Q H locs C hQ hP hD hS ls hl
  obtain ⟨hx, hb, -, hml, hts, hown, -, hK, hN, hA⟩ := id C
  have hown : s.vm.findClass RX7 = some m.cls := hown
  have hl : lv_has ls 4 [(0, .ref ad0), (1, .int p1), (2, .int p2)] := hl
  unfold fX7_forgets at hf
  refine lv_aload_n hx hb (dt uX7_forgets 0 rfl) rfl (lv_at hl 0 rfl) ?_
  refine lv_iload_n hx hb (dt uX7_forgets 1 rfl) rfl (lv_at hl 1 rfl) ?_
  refine vk_z0 [0, 1] (va_runV (As := [.int p1]) (rest := []) ⟨hx, hb, hml, hown, hts⟩ (kX7_isBook ad0 ad_text ad_draft ad_told ad_told_a ad_told_b ad_now ad_history ad_firstImage ad_secondImage ad_seen ad_ways v_traced v_told_size v_told_touches v_told_one p1 _ rfl H.size) (vcwV hts tw_142 tw_143 tw_144 tw_41 tw_141 hd_X7_isBook rfl rfl ⟨Nat.le_of_ble_eq_true rfl, Nat.le_of_ble_eq_true rfl⟩) (vpreV hK hN hP hD [0, 1] rfl (by decide) (ci := 7) (q0 := 0) rfl rfl) rfl rfl hl.1 rfl (lv_room (Nat.le_of_ble_eq_true rfl)) (dt uX7_forgets 2 rfl) ⟨Nat.zero_le _, Nat.zero_le _⟩) hA hP hD hS rfl (by decide) (fun hz_1 H locs hP hD hS => ?_)
  refine lv_if_eq (tgt := 17) hx hb (dt uX7_forgets 3 rfl) (by decide) (fun c_2 => ?_) (fun c_2 => ?_)
  · have hf := vif_t c_2 hf
    refine lv_iconst (v := (-1 : Int32)) hx hb (dt uX7_forgets 9 rfl) (by decide) ?_
    have hf := Option.some.inj hf
    subst hf
    rw [hQ]
    exact vret_i C hP hD hS (dt uX7_forgets 10 rfl)
  · have hf := vif_f c_2 hf
    refine lv_iload_n hx hb (dt uX7_forgets 4 rfl) rfl (lv_at hl 2 rfl) ?_
    refine lv_iconst (v := (0 : Int32)) hx hb (dt uX7_forgets 5 rfl) (by decide) ?_
    refine lv_iconst (v := (1 : Int32)) hx hb (dt uX7_forgets 6 rfl) (by decide) ?_
    refine vk_z0 [] (va_runS (As := [.int p2, .int (0 : Int32), .int (1 : Int32)]) (rest := []) ⟨hx, hb, hml, hown, hts⟩ (kX7_within p2 (0 : Int32) (1 : Int32) _ rfl H.size) (vcwS hts tw_106 tw_43 tw_41 tw_42 hd_X7_within rfl rfl ⟨Nat.le_of_ble_eq_true rfl, Nat.le_of_ble_eq_true rfl⟩) (vpreS hK hN hP hD [] rfl (by decide)) rfl rfl hl.1 rfl (lv_room (Nat.le_of_ble_eq_true rfl)) (dt uX7_forgets 7 rfl) ⟨Nat.zero_le _, Nat.zero_le _⟩) hA hP hD hS rfl (by decide) (fun hz_3 H locs hP hD hS => ?_)
    refine lv_if_ne (tgt := 19) hx hb (dt uX7_forgets 8 rfl) (by decide) (fun c_4 => ?_) (fun c_4 => ?_)
    · have hf := vif_f c_4 hf
      refine lv_iconst (v := (1 : Int32)) hx hb (dt uX7_forgets 11 rfl) (by decide) ?_
      refine lv_iload_n hx hb (dt uX7_forgets 12 rfl) rfl (lv_at hl 2 rfl) ?_
      refine lv_ishl hx hb (dt uX7_forgets 13 rfl) ?_
      refine lv_istore_n (lv' := [(3, .int ((1 : Int32) <<< (p2 &&& 31))), (0, .ref ad0), (1, .int p1), (2, .int p2)]) hx hb (dt uX7_forgets 14 rfl) rfl hl (by decide) rfl (fun ls hl => ?_)
      refine lv_aload_n hx hb (dt uX7_forgets 15 rfl) rfl (lv_at hl 1 rfl) ?_
      refine va_get (D := (dC, dI)) (ci := 7) (v := .ref ad_told) (C := RX7) (T := TX7) (N := 10) hx hb hts inU7 hown hK hP 0 rfl rfl 2 (by decide) (hts _ tw_118) (fun _ h9 => h9) rfl (dt uX7_forgets 16 rfl) ?_
      refine lv_iload_n hx hb (dt uX7_forgets 17 rfl) rfl (lv_at hl 2 rfl) ?_
      obtain ⟨q_5, hq_6, hf⟩ := vbd hf
      refine vk_i0 [1, 2, 3] (va_runVN (As := [.int p1]) (rest := []) ⟨hx, hb, hml, hown, hts⟩ (kX0_carries ad_told ad_told_a ad_told_b v_told_size v_told_touches v_told_one a_told_a a_told_b p1 q_5 hq_6 H.size) (vcwVN hts (nm_41 hN) tw_150 tw_151 tw_67 tw_149 hd_X0_carries rfl rfl ⟨Nat.le_of_ble_eq_true rfl, Nat.le_of_ble_eq_true rfl⟩) (vpreV hK hN hP hD [1, 2, 3] rfl (by decide) (ci := 0) (q0 := 1) rfl rfl) rfl rfl hl.1 rfl (lv_room (Nat.le_of_ble_eq_true rfl)) (dt uX7_forgets 18 rfl) ⟨Nat.zero_le _, Nat.zero_le _⟩) hA hP hD hS rfl (by decide) (fun H locs hP hD hS => ?_)
      refine lv_aload_n hx hb (dt uX7_forgets 19 rfl) rfl (lv_at hl 1 rfl) ?_
      refine va_get (D := (dC, dI)) (ci := 7) (v := .ref ad_now) (C := RX7) (T := TX7) (N := 10) hx hb hts inU7 hown hK hP 0 rfl rfl 3 (by decide) (hts _ tw_122) (fun _ h9 => h9) rfl (dt uX7_forgets 20 rfl) ?_
      refine lv_iload_n hx hb (dt uX7_forgets 21 rfl) rfl (lv_at hl 2 rfl) ?_
      refine vk_i0 [4] (va_runVN (As := [.int p1]) (rest := [.int q_5]) ⟨hx, hb, hml, hown, hts⟩ (kX3_forgottenIn ad_now v_now_forgotten v_now_touches v_now_trapped v_now_one v_now_date p1 _ rfl H.size) (vcwVN hts (nm_39 hN) tw_131 tw_132 tw_16 tw_130 hd_X3_forgottenIn rfl rfl ⟨Nat.le_of_ble_eq_true rfl, Nat.le_of_ble_eq_true rfl⟩) (vpreV hK hN hP hD [4] rfl (by decide) (ci := 3) (q0 := 4) rfl rfl) rfl rfl hl.1 rfl (lv_room (Nat.le_of_ble_eq_true rfl)) (dt uX7_forgets 22 rfl) ⟨Nat.zero_le _, Nat.zero_le _⟩) hA hP hD hS rfl (by decide) (fun H locs hP hD hS => ?_)
      refine lv_iconst (v := (-1 : Int32)) hx hb (dt uX7_forgets 23 rfl) (by decide) ?_
      refine lv_ixor hx hb (dt uX7_forgets 24 rfl) ?_
      refine lv_iand hx hb (dt uX7_forgets 25 rfl) ?_
      refine lv_iload_n hx hb (dt uX7_forgets 26 rfl) rfl (lv_at hl 0 rfl) ?_
      refine lv_iand hx hb (dt uX7_forgets 27 rfl) ?_
      refine lv_if_ne (tgt := 50) hx hb (dt uX7_forgets 28 rfl) (by decide) (fun c_7 => ?_) (fun c_7 => ?_)
      · have hf := vif_f c_7 hf
        refine lv_aload_n hx hb (dt uX7_forgets 31 rfl) rfl (lv_at hl 1 rfl) ?_
        obtain ⟨q_8, hq_9, hf⟩ := vbd hf
        refine vk_v [0, 4, 5, 6] (ws2 := [(ad0, oX7 ad_text ad_draft ad_told ad_now ad_history ad_firstImage ad_secondImage ad_seen ad_ways v_traced), (ad_told, oX0 ad_told_a ad_told_b v_told_size v_told_touches v_told_one), (ad_told_a, .inl (cI, 6, .inl a_told_a)), (ad_told_b, .inl (cI, 6, .inl a_told_b)), (ad_now, oX3 v_now_forgotten v_now_touches v_now_trapped v_now_one v_now_date), (ad_history, oX1 ad_history_steps q_8.2), (ad_history_steps, .inl (cJ, 10, .inr (.inl q_8.1)))]) (va_runV (As := []) (rest := []) ⟨hx, hb, hml, hown, hts⟩ (kX7_remember ad0 ad_text ad_draft ad_told ad_now ad_history ad_history_steps ad_firstImage ad_secondImage ad_seen ad_ways v_traced v_now_forgotten v_now_touches v_now_trapped v_now_one v_now_date v_history_known a_history_steps q_8 hq_9 H.size) (vcwV hts tw_163 tw_164 tw_165 tw_41 tw_162 hd_X7_remember rfl rfl ⟨Nat.le_of_ble_eq_true rfl, Nat.le_of_ble_eq_true rfl⟩) (vpreV hK hN hP hD [0, 4, 5, 6] rfl (by decide) (ci := 7) (q0 := 0) rfl rfl) rfl rfl hl.1 rfl (lv_room (Nat.le_of_ble_eq_true rfl)) (dt uX7_forgets 32 rfl) ⟨Nat.zero_le _, Nat.zero_le _⟩) hA hP hD hS rfl (by decide) rfl rfl (fun H locs hP hD hS => ?_)
        refine lv_aload_n hx hb (dt uX7_forgets 33 rfl) rfl (lv_at hl 1 rfl) ?_
        refine va_get (D := (dC, dI)) (ci := 7) (v := .ref ad_now) (C := RX7) (T := TX7) (N := 10) hx hb hts inU7 hown hK hP 0 rfl rfl 3 (by decide) (hts _ tw_122) (fun _ h9 => h9) rfl (dt uX7_forgets 34 rfl) ?_
        refine lv_dup hx hb (dt uX7_forgets 35 rfl) rfl ?_
        refine va_getN (D := (dC, dI)) (ci := 3) (v := .int v_now_forgotten) (C := RX3) (T := TX3) (N := 5) hx hb hts inU3 hown hK hP 4 rfl rfl 0 (by decide) (nw_13 hN) (fun _ h9 => h9) rfl (dt uX7_forgets 36 rfl) ?_
        refine lv_iload_n hx hb (dt uX7_forgets 37 rfl) rfl (lv_at hl 0 rfl) ?_
        refine lv_iconst (v := (2 : Int32)) hx hb (dt uX7_forgets 38 rfl) (by decide) ?_
        refine lv_iload_n hx hb (dt uX7_forgets 39 rfl) rfl (lv_at hl 2 rfl) ?_
        refine lv_imul hx hb (dt uX7_forgets 40 rfl) ?_
        refine lv_ishl hx hb (dt uX7_forgets 41 rfl) ?_
        refine lv_ior hx hb (dt uX7_forgets 42 rfl) ?_
        refine va_putN (D := (dC, dI)) (ci := 3) (v := .int (v_now_forgotten ||| (((1 : Int32) <<< (p2 &&& 31)) <<< (((2 : Int32) * p1) &&& 31)))) (ty := .int) (C := RX3) (T := TX3) (N := 5) hx hb hts inU3 tyX3 tyX3_ok nmX3 hown hK hP hD hS 4 rfl rfl 0 (by decide) (nw_13 hN) (fun _ h9 => h9) rfl (by decide +kernel) rfl rfl (Nat.le_of_ble_eq_true rfl) (dt uX7_forgets 43 rfl) (fun H locs hP hD hS => ?_)
        have hP : va_P (dC, dI) vwCl [(ad0, oX7 ad_text ad_draft ad_told ad_now ad_history ad_firstImage ad_secondImage ad_seen ad_ways v_traced), (ad_told, oX0 ad_told_a ad_told_b v_told_size v_told_touches v_told_one), (ad_told_a, .inl (cI, 6, .inl a_told_a)), (ad_told_b, .inl (cI, 6, .inl a_told_b)), (ad_now, oX3 (v_now_forgotten ||| (((1 : Int32) <<< (p2 &&& 31)) <<< (((2 : Int32) * p1) &&& 31))) v_now_touches v_now_trapped v_now_one v_now_date), (ad_history, oX1 ad_history_steps q_8.2), (ad_history_steps, .inl (cJ, 10, .inr (.inl q_8.1)))] H := hP
        have hD : va_D A [(ad0, oX7 ad_text ad_draft ad_told ad_now ad_history ad_firstImage ad_secondImage ad_seen ad_ways v_traced), (ad_told, oX0 ad_told_a ad_told_b v_told_size v_told_touches v_told_one), (ad_told_a, .inl (cI, 6, .inl a_told_a)), (ad_told_b, .inl (cI, 6, .inl a_told_b)), (ad_now, oX3 (v_now_forgotten ||| (((1 : Int32) <<< (p2 &&& 31)) <<< (((2 : Int32) * p1) &&& 31))) v_now_touches v_now_trapped v_now_one v_now_date), (ad_history, oX1 ad_history_steps q_8.2), (ad_history_steps, .inl (cJ, 10, .inr (.inl q_8.1)))] := hD
        refine lv_aload_n hx hb (dt uX7_forgets 44 rfl) rfl (lv_at hl 1 rfl) ?_
        refine lv_iload_n hx hb (dt uX7_forgets 45 rfl) rfl (lv_at hl 2 rfl) ?_
        obtain ⟨q_10, hq_11, hf⟩ := vbd hf
        refine vk_i0 [0, 1, 2, 3, 4] (va_runV (As := [.int p1]) (rest := []) ⟨hx, hb, hml, hown, hts⟩ (kX7_written ad0 ad_text ad_draft ad_told ad_told_a ad_told_b ad_now ad_history ad_firstImage ad_secondImage ad_seen ad_ways v_traced v_told_size v_told_touches v_told_one a_told_a a_told_b (v_now_forgotten ||| (((1 : Int32) <<< (p2 &&& 31)) <<< (((2 : Int32) * p1) &&& 31))) v_now_touches v_now_trapped v_now_one v_now_date p1 q_10 hq_11 H.size) (vcwV hts tw_137 tw_138 tw_139 tw_41 tw_136 hd_X7_written rfl rfl ⟨Nat.le_of_ble_eq_true rfl, Nat.le_of_ble_eq_true rfl⟩) (vpreV hK hN hP hD [0, 1, 2, 3, 4] rfl (by decide) (ci := 7) (q0 := 0) rfl rfl) rfl rfl hl.1 rfl (lv_room (Nat.le_of_ble_eq_true rfl)) (dt uX7_forgets 46 rfl) ⟨Nat.zero_le _, Nat.zero_le _⟩) hA hP hD hS rfl (by decide) (fun H locs hP hD hS => ?_)
        have hf := Option.some.inj hf
        subst hf
        rw [hQ]
        exact vret_i C hP hD hS (dt uX7_forgets 47 rfl)
      · have hf := vif_t c_7 hf
        refine lv_bipush (v := (-2 : Int32)) hx hb (dt uX7_forgets 29 rfl) (by decide) ?_
        have hf := Option.some.inj hf
        subst hf
        rw [hQ]
        exact vret_i C hP hD hS (dt uX7_forgets 30 rfl)
    · have hf := vif_t c_4 hf
      refine lv_iconst (v := (-1 : Int32)) hx hb (dt uX7_forgets 9 rfl) (by decide) ?_
      have hf := Option.some.inj hf
      subst hf
      rw [hQ]
      exact vret_i C hP hD hS (dt uX7_forgets 10 rfl)
abbrev rJ6_bitCount_0f7a4 : Room := { frames := 0, cells := 0, slots := 0, locals := 0 }
abbrev wJ6_bitCount_0f7a4 : List Cond := Cond.code yJ6_bitCount_0f7a4 cJ6_bitCount_0f7a4 1 (some .int) :: VT
set_option maxHeartbeats 4000000 in
set_option maxRecDepth 100000 in
theorem kJ6_bitCount_0f7a4 (p1 : Int32) (q0 : Int32) (hf : fJ6_bitCount_0f7a4 p1 = q0) : Ki l yJ6_bitCount_0f7a4 wJ6_bitCount_0f7a4 rJ6_bitCount_0f7a4 (dC, dI) (vTy cI cJ cB cZ) [.int p1] [] [] q0 := by
  refine Ki.mk (cc := cJ6_bitCount_0f7a4) (maxL := 1) (ret := some .int) (by decide) (Nat.le_of_ble_eq_true rfl) ?_
  intro p e s m args below meth c A Q H locs C hQ hP hD hS ls hl
  obtain ⟨hx, hb, -, hml, hts, hown, -, hK, hN, hA⟩ := id C
  have hown : s.vm.findClass RJ6 = some m.cls := hown
  have hl : lv_has ls 1 [(0, .int p1)] := hl
  unfold fJ6_bitCount_0f7a4 at hf
  refine lv_iload_n hx hb (dt uJ6_bitCount_0f7a4 0 rfl) rfl (lv_at hl 0 rfl) ?_
  refine lv_iload_n hx hb (dt uJ6_bitCount_0f7a4 1 rfl) rfl (lv_at hl 0 rfl) ?_
  refine lv_iconst (v := (1 : Int32)) hx hb (dt uJ6_bitCount_0f7a4 2 rfl) (by decide) ?_
  refine lv_iushr (v := (p1.toUInt32 >>> ((1 : Int32).toUInt32 &&& Int32.toUInt32 31)).toInt32) hx hb (dt uJ6_bitCount_0f7a4 3 rfl) rfl ?_
  refine lv_ldcw (v := (1431655765 : Int32)) hx hb hown (hts _ tw_166) (dt uJ6_bitCount_0f7a4 4 rfl) ?_
  refine lv_iand hx hb (dt uJ6_bitCount_0f7a4 5 rfl) ?_
  refine lv_isub hx hb (dt uJ6_bitCount_0f7a4 6 rfl) ?_
  refine lv_istore_n (lv' := [(0, .int (p1 - (((p1.toUInt32 >>> ((1 : Int32).toUInt32 &&& Int32.toUInt32 31)).toInt32) &&& (1431655765 : Int32))))]) hx hb (dt uJ6_bitCount_0f7a4 7 rfl) rfl hl (by decide) rfl (fun ls hl => ?_)
  refine lv_iload_n hx hb (dt uJ6_bitCount_0f7a4 8 rfl) rfl (lv_at hl 0 rfl) ?_
  refine lv_ldcw (v := (858993459 : Int32)) hx hb hown (hts _ tw_167) (dt uJ6_bitCount_0f7a4 9 rfl) ?_
  refine lv_iand hx hb (dt uJ6_bitCount_0f7a4 10 rfl) ?_
  refine lv_iload_n hx hb (dt uJ6_bitCount_0f7a4 11 rfl) rfl (lv_at hl 0 rfl) ?_
  refine lv_iconst (v := (2 : Int32)) hx hb (dt uJ6_bitCount_0f7a4 12 rfl) (by decide) ?_
  refine lv_iushr (v := ((p1 - (((p1.toUInt32 >>> ((1 : Int32).toUInt32 &&& Int32.toUInt32 31)).toInt32) &&& (1431655765 : Int32))).toUInt32 >>> ((2 : Int32).toUInt32 &&& Int32.toUInt32 31)).toInt32) hx hb (dt uJ6_bitCount_0f7a4 13 rfl) rfl ?_
  refine lv_ldcw (v := (858993459 : Int32)) hx hb hown (hts _ tw_167) (dt uJ6_bitCount_0f7a4 14 rfl) ?_
  refine lv_iand hx hb (dt uJ6_bitCount_0f7a4 15 rfl) ?_
  refine lv_iadd hx hb (dt uJ6_bitCount_0f7a4 16 rfl) ?_
  refine lv_istore_n (lv' := [(0, .int (((p1 - (((p1.toUInt32 >>> ((1 : Int32).toUInt32 &&& Int32.toUInt32 31)).toInt32) &&& (1431655765 : Int32))) &&& (858993459 : Int32)) + ((((p1 - (((p1.toUInt32 >>> ((1 : Int32).toUInt32 &&& Int32.toUInt32 31)).toInt32) &&& (1431655765 : Int32))).toUInt32 >>> ((2 : Int32).toUInt32 &&& Int32.toUInt32 31)).toInt32) &&& (858993459 : Int32))))]) hx hb (dt uJ6_bitCount_0f7a4 17 rfl) rfl hl (by decide) rfl (fun ls hl => ?_)
  refine lv_iload_n hx hb (dt uJ6_bitCount_0f7a4 18 rfl) rfl (lv_at hl 0 rfl) ?_
  refine lv_iload_n hx hb (dt uJ6_bitCount_0f7a4 19 rfl) rfl (lv_at hl 0 rfl) ?_
  refine lv_iconst (v := (4 : Int32)) hx hb (dt uJ6_bitCount_0f7a4 20 rfl) (by decide) ?_
  refine lv_iushr (v := ((((p1 - (((p1.toUInt32 >>> ((1 : Int32).toUInt32 &&& Int32.toUInt32 31)).toInt32) &&& (1431655765 : Int32))) &&& (858993459 : Int32)) + ((((p1 - (((p1.toUInt32 >>> ((1 : Int32).toUInt32 &&& Int32.toUInt32 31)).toInt32) &&& (1431655765 : Int32))).toUInt32 >>> ((2 : Int32).toUInt32 &&& Int32.toUInt32 31)).toInt32) &&& (858993459 : Int32))).toUInt32 >>> ((4 : Int32).toUInt32 &&& Int32.toUInt32 31)).toInt32) hx hb (dt uJ6_bitCount_0f7a4 21 rfl) rfl ?_
  refine lv_iadd hx hb (dt uJ6_bitCount_0f7a4 22 rfl) ?_
  refine lv_ldcw (v := (252645135 : Int32)) hx hb hown (hts _ tw_168) (dt uJ6_bitCount_0f7a4 23 rfl) ?_
  refine lv_iand hx hb (dt uJ6_bitCount_0f7a4 24 rfl) ?_
  refine lv_istore_n (lv' := [(0, .int (((((p1 - (((p1.toUInt32 >>> ((1 : Int32).toUInt32 &&& Int32.toUInt32 31)).toInt32) &&& (1431655765 : Int32))) &&& (858993459 : Int32)) + ((((p1 - (((p1.toUInt32 >>> ((1 : Int32).toUInt32 &&& Int32.toUInt32 31)).toInt32) &&& (1431655765 : Int32))).toUInt32 >>> ((2 : Int32).toUInt32 &&& Int32.toUInt32 31)).toInt32) &&& (858993459 : Int32))) + (((((p1 - (((p1.toUInt32 >>> ((1 : Int32).toUInt32 &&& Int32.toUInt32 31)).toInt32) &&& (1431655765 : Int32))) &&& (858993459 : Int32)) + ((((p1 - (((p1.toUInt32 >>> ((1 : Int32).toUInt32 &&& Int32.toUInt32 31)).toInt32) &&& (1431655765 : Int32))).toUInt32 >>> ((2 : Int32).toUInt32 &&& Int32.toUInt32 31)).toInt32) &&& (858993459 : Int32))).toUInt32 >>> ((4 : Int32).toUInt32 &&& Int32.toUInt32 31)).toInt32)) &&& (252645135 : Int32)))]) hx hb (dt uJ6_bitCount_0f7a4 25 rfl) rfl hl (by decide) rfl (fun ls hl => ?_)
  refine lv_iload_n hx hb (dt uJ6_bitCount_0f7a4 26 rfl) rfl (lv_at hl 0 rfl) ?_
  refine lv_iload_n hx hb (dt uJ6_bitCount_0f7a4 27 rfl) rfl (lv_at hl 0 rfl) ?_
  refine lv_bipush (v := (8 : Int32)) hx hb (dt uJ6_bitCount_0f7a4 28 rfl) (by decide) ?_
  refine lv_iushr (v := ((((((p1 - (((p1.toUInt32 >>> ((1 : Int32).toUInt32 &&& Int32.toUInt32 31)).toInt32) &&& (1431655765 : Int32))) &&& (858993459 : Int32)) + ((((p1 - (((p1.toUInt32 >>> ((1 : Int32).toUInt32 &&& Int32.toUInt32 31)).toInt32) &&& (1431655765 : Int32))).toUInt32 >>> ((2 : Int32).toUInt32 &&& Int32.toUInt32 31)).toInt32) &&& (858993459 : Int32))) + (((((p1 - (((p1.toUInt32 >>> ((1 : Int32).toUInt32 &&& Int32.toUInt32 31)).toInt32) &&& (1431655765 : Int32))) &&& (858993459 : Int32)) + ((((p1 - (((p1.toUInt32 >>> ((1 : Int32).toUInt32 &&& Int32.toUInt32 31)).toInt32) &&& (1431655765 : Int32))).toUInt32 >>> ((2 : Int32).toUInt32 &&& Int32.toUInt32 31)).toInt32) &&& (858993459 : Int32))).toUInt32 >>> ((4 : Int32).toUInt32 &&& Int32.toUInt32 31)).toInt32)) &&& (252645135 : Int32)).toUInt32 >>> ((8 : Int32).toUInt32 &&& Int32.toUInt32 31)).toInt32) hx hb (dt uJ6_bitCount_0f7a4 29 rfl) rfl ?_
  refine lv_iadd hx hb (dt uJ6_bitCount_0f7a4 30 rfl) ?_
  refine lv_istore_n (lv' := [(0, .int ((((((p1 - (((p1.toUInt32 >>> ((1 : Int32).toUInt32 &&& Int32.toUInt32 31)).toInt32) &&& (1431655765 : Int32))) &&& (858993459 : Int32)) + ((((p1 - (((p1.toUInt32 >>> ((1 : Int32).toUInt32 &&& Int32.toUInt32 31)).toInt32) &&& (1431655765 : Int32))).toUInt32 >>> ((2 : Int32).toUInt32 &&& Int32.toUInt32 31)).toInt32) &&& (858993459 : Int32))) + (((((p1 - (((p1.toUInt32 >>> ((1 : Int32).toUInt32 &&& Int32.toUInt32 31)).toInt32) &&& (1431655765 : Int32))) &&& (858993459 : Int32)) + ((((p1 - (((p1.toUInt32 >>> ((1 : Int32).toUInt32 &&& Int32.toUInt32 31)).toInt32) &&& (1431655765 : Int32))).toUInt32 >>> ((2 : Int32).toUInt32 &&& Int32.toUInt32 31)).toInt32) &&& (858993459 : Int32))).toUInt32 >>> ((4 : Int32).toUInt32 &&& Int32.toUInt32 31)).toInt32)) &&& (252645135 : Int32)) + (((((((p1 - (((p1.toUInt32 >>> ((1 : Int32).toUInt32 &&& Int32.toUInt32 31)).toInt32) &&& (1431655765 : Int32))) &&& (858993459 : Int32)) + ((((p1 - (((p1.toUInt32 >>> ((1 : Int32).toUInt32 &&& Int32.toUInt32 31)).toInt32) &&& (1431655765 : Int32))).toUInt32 >>> ((2 : Int32).toUInt32 &&& Int32.toUInt32 31)).toInt32) &&& (858993459 : Int32))) + (((((p1 - (((p1.toUInt32 >>> ((1 : Int32).toUInt32 &&& Int32.toUInt32 31)).toInt32) &&& (1431655765 : Int32))) &&& (858993459 : Int32)) + ((((p1 - (((p1.toUInt32 >>> ((1 : Int32).toUInt32 &&& Int32.toUInt32 31)).toInt32) &&& (1431655765 : Int32))).toUInt32 >>> ((2 : Int32).toUInt32 &&& Int32.toUInt32 31)).toInt32) &&& (858993459 : Int32))).toUInt32 >>> ((4 : Int32).toUInt32 &&& Int32.toUInt32 31)).toInt32)) &&& (252645135 : Int32)).toUInt32 >>> ((8 : Int32).toUInt32 &&& Int32.toUInt32 31)).toInt32)))]) hx hb (dt uJ6_bitCount_0f7a4 31 rfl) rfl hl (by decide) rfl (fun ls hl => ?_)
  refine lv_iload_n hx hb (dt uJ6_bitCount_0f7a4 32 rfl) rfl (lv_at hl 0 rfl) ?_
  refine lv_iload_n hx hb (dt uJ6_bitCount_0f7a4 33 rfl) rfl (lv_at hl 0 rfl) ?_
  refine lv_bipush (v := (16 : Int32)) hx hb (dt uJ6_bitCount_0f7a4 34 rfl) (by decide) ?_
  refine lv_iushr (v := (((((((p1 - (((p1.toUInt32 >>> ((1 : Int32).toUInt32 &&& Int32.toUInt32 31)).toInt32) &&& (1431655765 : Int32))) &&& (858993459 : Int32)) + ((((p1 - (((p1.toUInt32 >>> ((1 : Int32).toUInt32 &&& Int32.toUInt32 31)).toInt32) &&& (1431655765 : Int32))).toUInt32 >>> ((2 : Int32).toUInt32 &&& Int32.toUInt32 31)).toInt32) &&& (858993459 : Int32))) + (((((p1 - (((p1.toUInt32 >>> ((1 : Int32).toUInt32 &&& Int32.toUInt32 31)).toInt32) &&& (1431655765 : Int32))) &&& (858993459 : Int32)) + ((((p1 - (((p1.toUInt32 >>> ((1 : Int32).toUInt32 &&& Int32.toUInt32 31)).toInt32) &&& (1431655765 : Int32))).toUInt32 >>> ((2 : Int32).toUInt32 &&& Int32.toUInt32 31)).toInt32) &&& (858993459 : Int32))).toUInt32 >>> ((4 : Int32).toUInt32 &&& Int32.toUInt32 31)).toInt32)) &&& (252645135 : Int32)) + (((((((p1 - (((p1.toUInt32 >>> ((1 : Int32).toUInt32 &&& Int32.toUInt32 31)).toInt32) &&& (1431655765 : Int32))) &&& (858993459 : Int32)) + ((((p1 - (((p1.toUInt32 >>> ((1 : Int32).toUInt32 &&& Int32.toUInt32 31)).toInt32) &&& (1431655765 : Int32))).toUInt32 >>> ((2 : Int32).toUInt32 &&& Int32.toUInt32 31)).toInt32) &&& (858993459 : Int32))) + (((((p1 - (((p1.toUInt32 >>> ((1 : Int32).toUInt32 &&& Int32.toUInt32 31)).toInt32) &&& (1431655765 : Int32))) &&& (858993459 : Int32)) + ((((p1 - (((p1.toUInt32 >>> ((1 : Int32).toUInt32 &&& Int32.toUInt32 31)).toInt32) &&& (1431655765 : Int32))).toUInt32 >>> ((2 : Int32).toUInt32 &&& Int32.toUInt32 31)).toInt32) &&& (858993459 : Int32))).toUInt32 >>> ((4 : Int32).toUInt32 &&& Int32.toUInt32 31)).toInt32)) &&& (252645135 : Int32)).toUInt32 >>> ((8 : Int32).toUInt32 &&& Int32.toUInt32 31)).toInt32)).toUInt32 >>> ((16 : Int32).toUInt32 &&& Int32.toUInt32 31)).toInt32) hx hb (dt uJ6_bitCount_0f7a4 35 rfl) rfl ?_
  refine lv_iadd hx hb (dt uJ6_bitCount_0f7a4 36 rfl) ?_
  refine lv_istore_n (lv' := [(0, .int (((((((p1 - (((p1.toUInt32 >>> ((1 : Int32).toUInt32 &&& Int32.toUInt32 31)).toInt32) &&& (1431655765 : Int32))) &&& (858993459 : Int32)) + ((((p1 - (((p1.toUInt32 >>> ((1 : Int32).toUInt32 &&& Int32.toUInt32 31)).toInt32) &&& (1431655765 : Int32))).toUInt32 >>> ((2 : Int32).toUInt32 &&& Int32.toUInt32 31)).toInt32) &&& (858993459 : Int32))) + (((((p1 - (((p1.toUInt32 >>> ((1 : Int32).toUInt32 &&& Int32.toUInt32 31)).toInt32) &&& (1431655765 : Int32))) &&& (858993459 : Int32)) + ((((p1 - (((p1.toUInt32 >>> ((1 : Int32).toUInt32 &&& Int32.toUInt32 31)).toInt32) &&& (1431655765 : Int32))).toUInt32 >>> ((2 : Int32).toUInt32 &&& Int32.toUInt32 31)).toInt32) &&& (858993459 : Int32))).toUInt32 >>> ((4 : Int32).toUInt32 &&& Int32.toUInt32 31)).toInt32)) &&& (252645135 : Int32)) + (((((((p1 - (((p1.toUInt32 >>> ((1 : Int32).toUInt32 &&& Int32.toUInt32 31)).toInt32) &&& (1431655765 : Int32))) &&& (858993459 : Int32)) + ((((p1 - (((p1.toUInt32 >>> ((1 : Int32).toUInt32 &&& Int32.toUInt32 31)).toInt32) &&& (1431655765 : Int32))).toUInt32 >>> ((2 : Int32).toUInt32 &&& Int32.toUInt32 31)).toInt32) &&& (858993459 : Int32))) + (((((p1 - (((p1.toUInt32 >>> ((1 : Int32).toUInt32 &&& Int32.toUInt32 31)).toInt32) &&& (1431655765 : Int32))) &&& (858993459 : Int32)) + ((((p1 - (((p1.toUInt32 >>> ((1 : Int32).toUInt32 &&& Int32.toUInt32 31)).toInt32) &&& (1431655765 : Int32))).toUInt32 >>> ((2 : Int32).toUInt32 &&& Int32.toUInt32 31)).toInt32) &&& (858993459 : Int32))).toUInt32 >>> ((4 : Int32).toUInt32 &&& Int32.toUInt32 31)).toInt32)) &&& (252645135 : Int32)).toUInt32 >>> ((8 : Int32).toUInt32 &&& Int32.toUInt32 31)).toInt32)) + ((((((((p1 - (((p1.toUInt32 >>> ((1 : Int32).toUInt32 &&& Int32.toUInt32 31)).toInt32) &&& (1431655765 : Int32))) &&& (858993459 : Int32)) + ((((p1 - (((p1.toUInt32 >>> ((1 : Int32).toUInt32 &&& Int32.toUInt32 31)).toInt32) &&& (1431655765 : Int32))).toUInt32 >>> ((2 : Int32).toUInt32 &&& Int32.toUInt32 31)).toInt32) &&& (858993459 : Int32))) + (((((p1 - (((p1.toUInt32 >>> ((1 : Int32).toUInt32 &&& Int32.toUInt32 31)).toInt32) &&& (1431655765 : Int32))) &&& (858993459 : Int32)) + ((((p1 - (((p1.toUInt32 >>> ((1 : Int32).toUInt32 &&& Int32.toUInt32 31)).toInt32) &&& (1431655765 : Int32))).toUInt32 >>> ((2 : Int32).toUInt32 &&& Int32.toUInt32 31)).toInt32) &&& (858993459 : Int32))).toUInt32 >>> ((4 : Int32).toUInt32 &&& Int32.toUInt32 31)).toInt32)) &&& (252645135 : Int32)) + (((((((p1 - (((p1.toUInt32 >>> ((1 : Int32).toUInt32 &&& Int32.toUInt32 31)).toInt32) &&& (1431655765 : Int32))) &&& (858993459 : Int32)) + ((((p1 - (((p1.toUInt32 >>> ((1 : Int32).toUInt32 &&& Int32.toUInt32 31)).toInt32) &&& (1431655765 : Int32))).toUInt32 >>> ((2 : Int32).toUInt32 &&& Int32.toUInt32 31)).toInt32) &&& (858993459 : Int32))) + (((((p1 - (((p1.toUInt32 >>> ((1 : Int32).toUInt32 &&& Int32.toUInt32 31)).toInt32) &&& (1431655765 : Int32))) &&& (858993459 : Int32)) + ((((p1 - (((p1.toUInt32 >>> ((1 : Int32).toUInt32 &&& Int32.toUInt32 31)).toInt32) &&& (1431655765 : Int32))).toUInt32 >>> ((2 : Int32).toUInt32 &&& Int32.toUInt32 31)).toInt32) &&& (858993459 : Int32))).toUInt32 >>> ((4 : Int32).toUInt32 &&& Int32.toUInt32 31)).toInt32)) &&& (252645135 : Int32)).toUInt32 >>> ((8 : Int32).toUInt32 &&& Int32.toUInt32 31)).toInt32)).toUInt32 >>> ((16 : Int32).toUInt32 &&& Int32.toUInt32 31)).toInt32)))]) hx hb (dt uJ6_bitCount_0f7a4 37 rfl) rfl hl (by decide) rfl (fun ls hl => ?_)
  refine lv_iload_n hx hb (dt uJ6_bitCount_0f7a4 38 rfl) rfl (lv_at hl 0 rfl) ?_
  refine lv_bipush (v := (63 : Int32)) hx hb (dt uJ6_bitCount_0f7a4 39 rfl) (by decide) ?_
  refine lv_iand hx hb (dt uJ6_bitCount_0f7a4 40 rfl) ?_
  subst hf
  rw [hQ]
  exact vret_i C hP hD hS (dt uJ6_bitCount_0f7a4 41 rfl)
abbrev rX7_rights : Room := { frames := 3, cells := 0, slots := 0, locals := 60 }
abbrev wX7_rights : List Cond := Cond.code yX7_rights cX7_rights 3 (some .int) :: VT
set_option maxHeartbeats 4000000 in
set_option maxRecDepth 100000 in
theorem kX7_rights (ad0 : Nat) (ad_text : Nat) (ad_draft : Nat) (ad_told : Nat) (ad_told_a : Nat) (ad_told_b : Nat) (ad_now : Nat) (ad_history : Nat) (ad_history_steps : Nat) (ad_firstImage : Nat) (ad_secondImage : Nat) (ad_seen : Nat) (ad_ways : Nat) (v_traced : Int64) (v_told_size : Int32) (v_told_touches : Int32) (v_told_one : Int32) (v_now_forgotten : Int32) (v_now_touches : Int32) (v_now_trapped : Int32) (v_now_one : Int32) (v_now_date : Int32) (v_history_known : Int32) (a_history_steps : Nat → Int64) (p1 : Int32) (q0 : (Int32 × Int32 × (Nat → Int64) × Int32)) (hf : fX7_rights v_told_size v_now_forgotten v_now_touches v_now_trapped v_now_one v_now_date a_history_steps v_history_known p1 = some q0) : Ki l yX7_rights wX7_rights rX7_rights (dC, dI) (vTy cI cJ cB cZ) [.ref ad0, .int p1] [(ad0, oX7 ad_text ad_draft ad_told ad_now ad_history ad_firstImage ad_secondImage ad_seen ad_ways v_traced), (ad_told, oX0 ad_told_a ad_told_b v_told_size v_told_touches v_told_one), (ad_now, oX3 v_now_forgotten v_now_touches v_now_trapped v_now_one v_now_date), (ad_history, oX1 ad_history_steps v_history_known), (ad_history_steps, .inl (cJ, 10, .inr (.inl a_history_steps)))] [(ad0, oX7 ad_text ad_draft ad_told ad_now ad_history ad_firstImage ad_secondImage ad_seen ad_ways v_traced), (ad_told, oX0 ad_told_a ad_told_b v_told_size v_told_touches v_told_one), (ad_now, oX3 q0.2.1 v_now_touches v_now_trapped v_now_one v_now_date), (ad_history, oX1 ad_history_steps q0.2.2.2), (ad_history_steps, .inl (cJ, 10, .inr (.inl q0.2.2.1)))] q0.1 := by
  refine Ki.mk (cc := cX7_rights) (maxL := 3) (ret := some .int) (by decide) (Nat.le_of_ble_eq_true rfl) ?_
  intro p e s m args below meth c A Q H locs C hQ hP hD hS ls hl
  obtain ⟨hx, hb, -, hml, hts, hown, -, hK, hN, hA⟩ := id C
  have hown : s.vm.findClass RX7 = some m.cls := hown
  have hl : lv_has ls 3 [(0, .ref ad0), (1, .int p1)] := hl
  unfold fX7_rights at hf
  refine lv_aload_n hx hb (dt uX7_rights 0 rfl) rfl (lv_at hl 0 rfl) ?_
  refine lv_iload_n hx hb (dt uX7_rights 1 rfl) rfl (lv_at hl 1 rfl) ?_
  refine vk_z0 [0, 1] (va_runV (As := [.int p1]) (rest := []) ⟨hx, hb, hml, hown, hts⟩ (kX7_isBook ad0 ad_text ad_draft ad_told ad_told_a ad_told_b ad_now ad_history ad_firstImage ad_secondImage ad_seen ad_ways v_traced v_told_size v_told_touches v_told_one p1 _ rfl H.size) (vcwV hts tw_142 tw_143 tw_144 tw_41 tw_141 hd_X7_isBook rfl rfl ⟨Nat.le_of_ble_eq_true rfl, Nat.le_of_ble_eq_true rfl⟩) (vpreV hK hN hP hD [0, 1] rfl (by decide) (ci := 7) (q0 := 0) rfl rfl) rfl rfl hl.1 rfl (lv_room (Nat.le_of_ble_eq_true rfl)) (dt uX7_rights 2 rfl) ⟨Nat.zero_le _, Nat.zero_le _⟩) hA hP hD hS rfl (by decide) (fun hz_1 H locs hP hD hS => ?_)
  refine lv_if_ne (tgt := 10) hx hb (dt uX7_rights 3 rfl) (by decide) (fun c_2 => ?_) (fun c_2 => ?_)
  · have hf := vif_f c_2 hf
    refine lv_aload_n hx hb (dt uX7_rights 6 rfl) rfl (lv_at hl 0 rfl) ?_
    refine va_get (D := (dC, dI)) (ci := 7) (v := .ref ad_now) (C := RX7) (T := TX7) (N := 10) hx hb hts inU7 hown hK hP 0 rfl rfl 3 (by decide) (hts _ tw_122) (fun _ h9 => h9) rfl (dt uX7_rights 7 rfl) ?_
    refine lv_iload_n hx hb (dt uX7_rights 8 rfl) rfl (lv_at hl 1 rfl) ?_
    refine vk_i0 [2] (va_runVN (As := [.int p1]) (rest := []) ⟨hx, hb, hml, hown, hts⟩ (kX3_forgottenIn ad_now v_now_forgotten v_now_touches v_now_trapped v_now_one v_now_date p1 _ rfl H.size) (vcwVN hts (nm_39 hN) tw_131 tw_132 tw_16 tw_130 hd_X3_forgottenIn rfl rfl ⟨Nat.le_of_ble_eq_true rfl, Nat.le_of_ble_eq_true rfl⟩) (vpreV hK hN hP hD [2] rfl (by decide) (ci := 3) (q0 := 2) rfl rfl) rfl rfl hl.1 rfl (lv_room (Nat.le_of_ble_eq_true rfl)) (dt uX7_rights 9 rfl) ⟨Nat.zero_le _, Nat.zero_le _⟩) hA hP hD hS rfl (by decide) (fun H locs hP hD hS => ?_)
    refine lv_istore_n (lv' := [(2, .int (fX3_forgottenIn v_now_forgotten p1)), (0, .ref ad0), (1, .int p1)]) hx hb (dt uX7_rights 10 rfl) rfl hl (by decide) rfl (fun ls hl => ?_)
    refine lv_iload_n hx hb (dt uX7_rights 11 rfl) rfl (lv_at hl 0 rfl) ?_
    refine lv_if_ne (tgt := 26) hx hb (dt uX7_rights 12 rfl) (by decide) (fun c_3 => ?_) (fun c_3 => ?_)
    · have hf := vif_f c_3 hf
      refine lv_aload_n hx hb (dt uX7_rights 15 rfl) rfl (lv_at hl 1 rfl) ?_
      obtain ⟨q_4, hq_5, hf⟩ := vbd hf
      refine vk_v [0, 2, 3, 4] (ws2 := [(ad0, oX7 ad_text ad_draft ad_told ad_now ad_history ad_firstImage ad_secondImage ad_seen ad_ways v_traced), (ad_told, oX0 ad_told_a ad_told_b v_told_size v_told_touches v_told_one), (ad_now, oX3 v_now_forgotten v_now_touches v_now_trapped v_now_one v_now_date), (ad_history, oX1 ad_history_steps q_4.2), (ad_history_steps, .inl (cJ, 10, .inr (.inl q_4.1)))]) (va_runV (As := []) (rest := []) ⟨hx, hb, hml, hown, hts⟩ (kX7_remember ad0 ad_text ad_draft ad_told ad_now ad_history ad_history_steps ad_firstImage ad_secondImage ad_seen ad_ways v_traced v_now_forgotten v_now_touches v_now_trapped v_now_one v_now_date v_history_known a_history_steps q_4 hq_5 H.size) (vcwV hts tw_163 tw_164 tw_165 tw_41 tw_162 hd_X7_remember rfl rfl ⟨Nat.le_of_ble_eq_true rfl, Nat.le_of_ble_eq_true rfl⟩) (vpreV hK hN hP hD [0, 2, 3, 4] rfl (by decide) (ci := 7) (q0 := 0) rfl rfl) rfl rfl hl.1 rfl (lv_room (Nat.le_of_ble_eq_true rfl)) (dt uX7_rights 16 rfl) ⟨Nat.zero_le _, Nat.zero_le _⟩) hA hP hD hS rfl (by decide) rfl rfl (fun H locs hP hD hS => ?_)
      refine lv_aload_n hx hb (dt uX7_rights 17 rfl) rfl (lv_at hl 1 rfl) ?_
      refine va_get (D := (dC, dI)) (ci := 7) (v := .ref ad_now) (C := RX7) (T := TX7) (N := 10) hx hb hts inU7 hown hK hP 0 rfl rfl 3 (by decide) (hts _ tw_122) (fun _ h9 => h9) rfl (dt uX7_rights 18 rfl) ?_
      refine lv_dup hx hb (dt uX7_rights 19 rfl) rfl ?_
      refine va_getN (D := (dC, dI)) (ci := 3) (v := .int v_now_forgotten) (C := RX3) (T := TX3) (N := 5) hx hb hts inU3 hown hK hP 2 rfl rfl 0 (by decide) (nw_13 hN) (fun _ h9 => h9) rfl (dt uX7_rights 20 rfl) ?_
      refine lv_iconst (v := (3 : Int32)) hx hb (dt uX7_rights 21 rfl) (by decide) ?_
      refine lv_iconst (v := (2 : Int32)) hx hb (dt uX7_rights 22 rfl) (by decide) ?_
      refine lv_iload_n hx hb (dt uX7_rights 23 rfl) rfl (lv_at hl 2 rfl) ?_
      refine lv_imul hx hb (dt uX7_rights 24 rfl) ?_
      refine lv_ishl hx hb (dt uX7_rights 25 rfl) ?_
      refine lv_iconst (v := (-1 : Int32)) hx hb (dt uX7_rights 26 rfl) (by decide) ?_
      refine lv_ixor hx hb (dt uX7_rights 27 rfl) ?_
      refine lv_iand hx hb (dt uX7_rights 28 rfl) ?_
      refine va_putN (D := (dC, dI)) (ci := 3) (v := .int (v_now_forgotten &&& (((3 : Int32) <<< (((2 : Int32) * p1) &&& 31)) ^^^ (-1 : Int32)))) (ty := .int) (C := RX3) (T := TX3) (N := 5) hx hb hts inU3 tyX3 tyX3_ok nmX3 hown hK hP hD hS 2 rfl rfl 0 (by decide) (nw_13 hN) (fun _ h9 => h9) rfl (by decide +kernel) rfl rfl (Nat.le_of_ble_eq_true rfl) (dt uX7_rights 29 rfl) (fun H locs hP hD hS => ?_)
      have hP : va_P (dC, dI) vwCl [(ad0, oX7 ad_text ad_draft ad_told ad_now ad_history ad_firstImage ad_secondImage ad_seen ad_ways v_traced), (ad_told, oX0 ad_told_a ad_told_b v_told_size v_told_touches v_told_one), (ad_now, oX3 (v_now_forgotten &&& (((3 : Int32) <<< (((2 : Int32) * p1) &&& 31)) ^^^ (-1 : Int32))) v_now_touches v_now_trapped v_now_one v_now_date), (ad_history, oX1 ad_history_steps q_4.2), (ad_history_steps, .inl (cJ, 10, .inr (.inl q_4.1)))] H := hP
      have hD : va_D A [(ad0, oX7 ad_text ad_draft ad_told ad_now ad_history ad_firstImage ad_secondImage ad_seen ad_ways v_traced), (ad_told, oX0 ad_told_a ad_told_b v_told_size v_told_touches v_told_one), (ad_now, oX3 (v_now_forgotten &&& (((3 : Int32) <<< (((2 : Int32) * p1) &&& 31)) ^^^ (-1 : Int32))) v_now_touches v_now_trapped v_now_one v_now_date), (ad_history, oX1 ad_history_steps q_4.2), (ad_history_steps, .inl (cJ, 10, .inr (.inl q_4.1)))] := hD
      refine lv_iload_n hx hb (dt uX7_rights 30 rfl) rfl (lv_at hl 0 rfl) ?_
      refine vk_i0 [] (va_runS (As := [.int (fX3_forgottenIn v_now_forgotten p1)]) (rest := []) ⟨hx, hb, hml, hown, hts⟩ (kJ6_bitCount_0f7a4 (fX3_forgottenIn v_now_forgotten p1) _ rfl H.size) (vcwS hts tw_171 tw_172 tw_169 tw_170 hd_J6_bitCount_0f7a4 rfl rfl ⟨Nat.le_of_ble_eq_true rfl, Nat.le_of_ble_eq_true rfl⟩) (vpreS hK hN hP hD [] rfl (by decide)) rfl rfl hl.1 rfl (lv_room (Nat.le_of_ble_eq_true rfl)) (dt uX7_rights 31 rfl) ⟨Nat.zero_le _, Nat.zero_le _⟩) hA hP hD hS rfl (by decide) (fun H locs hP hD hS => ?_)
      have hf := Option.some.inj hf
      subst hf
      rw [hQ]
      exact vret_i C hP hD hS (dt uX7_rights 32 rfl)
    · have hf := vif_t c_3 hf
      refine lv_bipush (v := (-2 : Int32)) hx hb (dt uX7_rights 13 rfl) (by decide) ?_
      have hf := Option.some.inj hf
      subst hf
      rw [hQ]
      exact vret_i C hP hD hS (dt uX7_rights 14 rfl)
  · have hf := vif_t c_2 hf
    refine lv_iconst (v := (-1 : Int32)) hx hb (dt uX7_rights 4 rfl) (by decide) ?_
    have hf := Option.some.inj hf
    subst hf
    rw [hQ]
    exact vret_i C hP hD hS (dt uX7_rights 5 rfl)
abbrev rX7_puts : Room := { frames := 3, cells := 0, slots := 0, locals := 60 }
abbrev wX7_puts : List Cond := Cond.code yX7_puts cX7_puts 3 (some .int) :: VT
set_option maxHeartbeats 4000000 in
set_option maxRecDepth 100000 in
theorem kX7_puts (ad0 : Nat) (ad_text : Nat) (ad_draft : Nat) (ad_told : Nat) (ad_told_a : Nat) (ad_told_b : Nat) (ad_now : Nat) (ad_history : Nat) (ad_history_steps : Nat) (ad_firstImage : Nat) (ad_secondImage : Nat) (ad_seen : Nat) (ad_ways : Nat) (v_traced : Int64) (v_told_size : Int32) (v_told_touches : Int32) (v_told_one : Int32) (v_now_forgotten : Int32) (v_now_touches : Int32) (v_now_trapped : Int32) (v_now_one : Int32) (v_now_date : Int32) (v_history_known : Int32) (a_history_steps : Nat → Int64) (p1 : Int32) (q0 : (Int32 × Int32 × (Nat → Int64) × Int32)) (hf : fX7_puts v_told_size v_now_forgotten v_now_touches v_now_trapped v_now_one v_now_date a_history_steps v_history_known p1 = some q0) : Ki l yX7_puts wX7_puts rX7_puts (dC, dI) (vTy cI cJ cB cZ) [.ref ad0, .int p1] [(ad0, oX7 ad_text ad_draft ad_told ad_now ad_history ad_firstImage ad_secondImage ad_seen ad_ways v_traced), (ad_told, oX0 ad_told_a ad_told_b v_told_size v_told_touches v_told_one), (ad_now, oX3 v_now_forgotten v_now_touches v_now_trapped v_now_one v_now_date), (ad_history, oX1 ad_history_steps v_history_known), (ad_history_steps, .inl (cJ, 10, .inr (.inl a_history_steps)))] [(ad0, oX7 ad_text ad_draft ad_told ad_now ad_history ad_firstImage ad_secondImage ad_seen ad_ways v_traced), (ad_told, oX0 ad_told_a ad_told_b v_told_size v_told_touches v_told_one), (ad_now, oX3 v_now_forgotten v_now_touches v_now_trapped q0.2.1 v_now_date), (ad_history, oX1 ad_history_steps q0.2.2.2), (ad_history_steps, .inl (cJ, 10, .inr (.inl q0.2.2.1)))] q0.1 := by
  refine Ki.mk (cc := cX7_puts) (maxL := 3) (ret := some .int) (by decide) (Nat.le_of_ble_eq_true rfl) ?_
  intro p e s m args below meth c A Q H locs C hQ hP hD hS ls hl
  obtain ⟨hx, hb, -, hml, hts, hown, -, hK, hN, hA⟩ := id C
  have hown : s.vm.findClass RX7 = some m.cls := hown
  have hl : lv_has ls 3 [(0, .ref ad0), (1, .int p1)] := hl
  unfold fX7_puts at hf
  refine lv_aload_n hx hb (dt uX7_puts 0 rfl) rfl (lv_at hl 0 rfl) ?_
  refine lv_iload_n hx hb (dt uX7_puts 1 rfl) rfl (lv_at hl 1 rfl) ?_
  refine vk_z0 [0, 1] (va_runV (As := [.int p1]) (rest := []) ⟨hx, hb, hml, hown, hts⟩ (kX7_isBook ad0 ad_text ad_draft ad_told ad_told_a ad_told_b ad_now ad_history ad_firstImage ad_secondImage ad_seen ad_ways v_traced v_told_size v_told_touches v_told_one p1 _ rfl H.size) (vcwV hts tw_142 tw_143 tw_144 tw_41 tw_141 hd_X7_isBook rfl rfl ⟨Nat.le_of_ble_eq_true rfl, Nat.le_of_ble_eq_true rfl⟩) (vpreV hK hN hP hD [0, 1] rfl (by decide) (ci := 7) (q0 := 0) rfl rfl) rfl rfl hl.1 rfl (lv_room (Nat.le_of_ble_eq_true rfl)) (dt uX7_puts 2 rfl) ⟨Nat.zero_le _, Nat.zero_le _⟩) hA hP hD hS rfl (by decide) (fun hz_1 H locs hP hD hS => ?_)
  refine lv_if_ne (tgt := 10) hx hb (dt uX7_puts 3 rfl) (by decide) (fun c_2 => ?_) (fun c_2 => ?_)
  · have hf := vif_f c_2 hf
    refine lv_aload_n hx hb (dt uX7_puts 6 rfl) rfl (lv_at hl 0 rfl) ?_
    refine va_get (D := (dC, dI)) (ci := 7) (v := .ref ad_now) (C := RX7) (T := TX7) (N := 10) hx hb hts inU7 hown hK hP 0 rfl rfl 3 (by decide) (hts _ tw_122) (fun _ h9 => h9) rfl (dt uX7_puts 7 rfl) ?_
    refine va_getN (D := (dC, dI)) (ci := 3) (v := .int v_now_one) (C := RX3) (T := TX3) (N := 5) hx hb hts inU3 hown hK hP 2 rfl rfl 3 (by decide) (nw_16 hN) (fun _ h9 => h9) rfl (dt uX7_puts 8 rfl) ?_
    refine lv_iload_n hx hb (dt uX7_puts 9 rfl) rfl (lv_at hl 1 rfl) ?_
    refine lv_icmp_ne (tgt := 24) hx hb (dt uX7_puts 10 rfl) (by decide) (fun c_3 => ?_) (fun c_3 => ?_)
    · have hf := vif_f c_3 hf
      refine lv_aload_n hx hb (dt uX7_puts 13 rfl) rfl (lv_at hl 0 rfl) ?_
      obtain ⟨q_4, hq_5, hf⟩ := vbd hf
      refine vk_v [0, 2, 3, 4] (ws2 := [(ad0, oX7 ad_text ad_draft ad_told ad_now ad_history ad_firstImage ad_secondImage ad_seen ad_ways v_traced), (ad_told, oX0 ad_told_a ad_told_b v_told_size v_told_touches v_told_one), (ad_now, oX3 v_now_forgotten v_now_touches v_now_trapped v_now_one v_now_date), (ad_history, oX1 ad_history_steps q_4.2), (ad_history_steps, .inl (cJ, 10, .inr (.inl q_4.1)))]) (va_runV (As := []) (rest := []) ⟨hx, hb, hml, hown, hts⟩ (kX7_remember ad0 ad_text ad_draft ad_told ad_now ad_history ad_history_steps ad_firstImage ad_secondImage ad_seen ad_ways v_traced v_now_forgotten v_now_touches v_now_trapped v_now_one v_now_date v_history_known a_history_steps q_4 hq_5 H.size) (vcwV hts tw_163 tw_164 tw_165 tw_41 tw_162 hd_X7_remember rfl rfl ⟨Nat.le_of_ble_eq_true rfl, Nat.le_of_ble_eq_true rfl⟩) (vpreV hK hN hP hD [0, 2, 3, 4] rfl (by decide) (ci := 7) (q0 := 0) rfl rfl) rfl rfl hl.1 rfl (lv_room (Nat.le_of_ble_eq_true rfl)) (dt uX7_puts 14 rfl) ⟨Nat.zero_le _, Nat.zero_le _⟩) hA hP hD hS rfl (by decide) rfl rfl (fun H locs hP hD hS => ?_)
      refine lv_aload_n hx hb (dt uX7_puts 15 rfl) rfl (lv_at hl 0 rfl) ?_
      refine va_get (D := (dC, dI)) (ci := 7) (v := .ref ad_now) (C := RX7) (T := TX7) (N := 10) hx hb hts inU7 hown hK hP 0 rfl rfl 3 (by decide) (hts _ tw_122) (fun _ h9 => h9) rfl (dt uX7_puts 16 rfl) ?_
      refine va_getN (D := (dC, dI)) (ci := 3) (v := .int v_now_one) (C := RX3) (T := TX3) (N := 5) hx hb hts inU3 hown hK hP 2 rfl rfl 3 (by decide) (nw_16 hN) (fun _ h9 => h9) rfl (dt uX7_puts 17 rfl) ?_
      refine lv_istore_n (lv' := [(2, .int v_now_one), (0, .ref ad0), (1, .int p1)]) hx hb (dt uX7_puts 18 rfl) rfl hl (by decide) rfl (fun ls hl => ?_)
      refine lv_aload_n hx hb (dt uX7_puts 19 rfl) rfl (lv_at hl 1 rfl) ?_
      refine va_get (D := (dC, dI)) (ci := 7) (v := .ref ad_now) (C := RX7) (T := TX7) (N := 10) hx hb hts inU7 hown hK hP 0 rfl rfl 3 (by decide) (hts _ tw_122) (fun _ h9 => h9) rfl (dt uX7_puts 20 rfl) ?_
      refine lv_iload_n hx hb (dt uX7_puts 21 rfl) rfl (lv_at hl 2 rfl) ?_
      refine va_putN (D := (dC, dI)) (ci := 3) (v := .int p1) (ty := .int) (C := RX3) (T := TX3) (N := 5) hx hb hts inU3 tyX3 tyX3_ok nmX3 hown hK hP hD hS 2 rfl rfl 3 (by decide) (nw_16 hN) (fun _ h9 => h9) rfl (by decide +kernel) rfl rfl (Nat.le_of_ble_eq_true rfl) (dt uX7_puts 22 rfl) (fun H locs hP hD hS => ?_)
      have hP : va_P (dC, dI) vwCl [(ad0, oX7 ad_text ad_draft ad_told ad_now ad_history ad_firstImage ad_secondImage ad_seen ad_ways v_traced), (ad_told, oX0 ad_told_a ad_told_b v_told_size v_told_touches v_told_one), (ad_now, oX3 v_now_forgotten v_now_touches v_now_trapped p1 v_now_date), (ad_history, oX1 ad_history_steps q_4.2), (ad_history_steps, .inl (cJ, 10, .inr (.inl q_4.1)))] H := hP
      have hD : va_D A [(ad0, oX7 ad_text ad_draft ad_told ad_now ad_history ad_firstImage ad_secondImage ad_seen ad_ways v_traced), (ad_told, oX0 ad_told_a ad_told_b v_told_size v_told_touches v_told_one), (ad_now, oX3 v_now_forgotten v_now_touches v_now_trapped p1 v_now_date), (ad_history, oX1 ad_history_steps q_4.2), (ad_history_steps, .inl (cJ, 10, .inr (.inl q_4.1)))] := hD
      refine lv_iload_n hx hb (dt uX7_puts 23 rfl) rfl (lv_at hl 0 rfl) ?_
      have hf := Option.some.inj hf
      subst hf
      rw [hQ]
      exact vret_i C hP hD hS (dt uX7_puts 24 rfl)
    · have hf := vif_t c_3 hf
      refine lv_bipush (v := (-2 : Int32)) hx hb (dt uX7_puts 11 rfl) (by decide) ?_
      have hf := Option.some.inj hf
      subst hf
      rw [hQ]
      exact vret_i C hP hD hS (dt uX7_puts 12 rfl)
  · have hf := vif_t c_2 hf
    refine lv_iconst (v := (-1 : Int32)) hx hb (dt uX7_puts 4 rfl) (by decide) ?_
    have hf := Option.some.inj hf
    subst hf
    rw [hQ]
    exact vret_i C hP hD hS (dt uX7_puts 5 rfl)
end WALKS
