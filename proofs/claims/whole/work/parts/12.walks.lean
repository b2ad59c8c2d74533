section WALKS
variable {l : Launch} {dC : Nat → ClassId} {dI : Nat → Nat → Nat} {cI cJ cB cZ : ClassId}
abbrev rX7_lays : Room := { frames := 3, cells := 0, slots := 0, locals := 60 }
abbrev wX7_lays : List Cond := Cond.code yX7_lays cX7_lays 5 (some .int) :: VT
set_option maxHeartbeats 4000000 in
set_option maxRecDepth 100000 in
theorem kX7_lays (ad0 : Nat) (ad_text : Nat) (ad_draft : Nat) (ad_told : Nat) (ad_told_a : Nat) (ad_told_b : Nat) (ad_now : Nat) (ad_history : Nat) (ad_history_steps : Nat) (ad_firstImage : Nat) (ad_secondImage : Nat) (ad_seen : Nat) (ad_ways : Nat) (v_traced : Int64) (v_told_size : Int32) (v_told_touches : Int32) (v_told_one : Int32) (v_now_forgotten : Int32) (v_now_touches : Int32) (v_now_trapped : Int32) (v_now_one : Int32) (v_now_date : Int32) (v_history_known : Int32) (a_history_steps : Nat → Int64) (p1 : Int32) (p2 : Int32) (p3 : Int32) (q0 : (Int32 × Int32 × (Nat → Int64) × Int32)) (hf : fX7_lays v_told_size v_now_forgotten v_now_touches v_now_trapped v_now_one v_now_date a_history_steps v_history_known p1 p2 p3 = some q0) : Ki l yX7_lays wX7_lays rX7_lays (dC, dI) (vTy cI cJ cB cZ) [.ref ad0, .int p1, .int p2, .int p3] [(ad0, oX7 ad_text ad_draft ad_told ad_now ad_history ad_firstImage ad_secondImage ad_seen ad_ways v_traced), (ad_told, oX0 ad_told_a ad_told_b v_told_size v_told_touches v_told_one), (ad_now, oX3 v_now_forgotten v_now_touches v_now_trapped v_now_one v_now_date), (ad_history, oX1 ad_history_steps v_history_known), (ad_history_steps, .inl (cJ, 10, .inr (.inl a_history_steps)))] [(ad0, oX7 ad_text ad_draft ad_told ad_now ad_history ad_firstImage ad_secondImage ad_seen ad_ways v_traced), (ad_told, oX0 ad_told_a ad_told_b v_told_size v_told_touches v_told_one), (ad_now, oX3 v_now_forgotten q0.2.1 v_now_trapped v_now_one v_now_date), (ad_history, oX1 ad_history_steps q0.2.2.2), (ad_history_steps, .inl (cJ, 10, .inr (.inl q0.2.2.1)))] q0.1 := by
  refine Ki.mk (cc := cX7_lays) (maxL := 5) (ret := some .int) (by decide) (Nat.le_of_ble_eq_true rfl) ?_
  intro p e s m args below meth c A Q H locs C hQ hP hD hS ls hl
  obtain ⟨hx, hb, -, hml, hts, hown, -, hK, hN, hA⟩ := id C
  have hown : s.vm.findClass RX7 = some m.cls := hown
  have hl : lv_has ls 5 [(0, .ref ad0), (1, .int p1), (2, .int p2), (3, .int p3)] := hl
  unfold fX7_lays at hf
  refine lv_aload_n hx hb (dt uX7_lays 0 rfl) rfl (lv_at hl 0 rfl) ?_
  refine lv_iload_n hx hb (dt uX7_lays 1 rfl) rfl (lv_at hl 1 rfl) ?_
  refine vk_z0 [0, 1] (va_runV (As := [.int p1]) (rest := []) ⟨hx, hb, hml, hown, hts⟩ (kX7_isBook ad0 ad_text ad_draft ad_told ad_told_a ad_told_b ad_now ad_history ad_firstImage ad_secondImage ad_seen ad_ways v_traced v_told_size v_told_touches v_told_one p1 _ rfl H.size) (vcwV hts tw_142 tw_143 tw_144 tw_41 tw_141 hd_X7_isBook rfl rfl ⟨Nat.le_of_ble_eq_true rfl, Nat.le_of_ble_eq_true rfl⟩) (vpreV hK hN hP hD [0, 1] rfl (by decide) (ci := 7) (q0 := 0) rfl rfl) rfl rfl hl.1 rfl (lv_room (Nat.le_of_ble_eq_true rfl)) (dt uX7_lays 2 rfl) ⟨Nat.zero_le _, Nat.zero_le _⟩) hA hP hD hS rfl (by decide) (fun hz_1 H locs hP hD hS => ?_)
  refine lv_if_eq (tgt := 30) hx hb (dt uX7_lays 3 rfl) (by decide) (fun c_2 => ?_) (fun c_2 => ?_)
  · have hf := vif_t c_2 hf
    refine lv_iconst (v := (-1 : Int32)) hx hb (dt uX7_lays 16 rfl) (by decide) ?_
    have hf := Option.some.inj hf
    subst hf
    rw [hQ]
    exact vret_i C hP hD hS (dt uX7_lays 17 rfl)
  · have hf := vif_f c_2 hf
    refine lv_aload_n hx hb (dt uX7_lays 4 rfl) rfl (lv_at hl 0 rfl) ?_
    refine lv_iload_n hx hb (dt uX7_lays 5 rfl) rfl (lv_at hl 2 rfl) ?_
    refine vk_z0 [0, 1] (va_runV (As := [.int p2]) (rest := []) ⟨hx, hb, hml, hown, hts⟩ (kX7_isBook ad0 ad_text ad_draft ad_told ad_told_a ad_told_b ad_now ad_history ad_firstImage ad_secondImage ad_seen ad_ways v_traced v_told_size v_told_touches v_told_one p2 _ rfl H.size) (vcwV hts tw_142 tw_143 tw_144 tw_41 tw_141 hd_X7_isBook rfl rfl ⟨Nat.le_of_ble_eq_true rfl, Nat.le_of_ble_eq_true rfl⟩) (vpreV hK hN hP hD [0, 1] rfl (by decide) (ci := 7) (q0 := 0) rfl rfl) rfl rfl hl.1 rfl (lv_room (Nat.le_of_ble_eq_true rfl)) (dt uX7_lays 6 rfl) ⟨Nat.zero_le _, Nat.zero_le _⟩) hA hP hD hS rfl (by decide) (fun hz_3 H locs hP hD hS => ?_)
    refine lv_if_eq (tgt := 30) hx hb (dt uX7_lays 7 rfl) (by decide) (fun c_4 => ?_) (fun c_4 => ?_)
    · have hf := vif_t c_4 hf
      refine lv_iconst (v := (-1 : Int32)) hx hb (dt uX7_lays 16 rfl) (by decide) ?_
      have hf := Option.some.inj hf
      subst hf
      rw [hQ]
      exact vret_i C hP hD hS (dt uX7_lays 17 rfl)
    · have hf := vif_f c_4 hf
      refine lv_iload_n hx hb (dt uX7_lays 8 rfl) rfl (lv_at hl 1 rfl) ?_
      refine lv_iload_n hx hb (dt uX7_lays 9 rfl) rfl (lv_at hl 2 rfl) ?_
      refine lv_icmp_eq (tgt := 30) hx hb (dt uX7_lays 10 rfl) (by decide) (fun c_5 => ?_) (fun c_5 => ?_)
      · have hf := vif_t c_5 hf
        refine lv_iconst (v := (-1 : Int32)) hx hb (dt uX7_lays 16 rfl) (by decide) ?_
        have hf := Option.some.inj hf
        subst hf
        rw [hQ]
        exact vret_i C hP hD hS (dt uX7_lays 17 rfl)
      · have hf := vif_f c_5 hf
        refine lv_iload_n hx hb (dt uX7_lays 11 rfl) rfl (lv_at hl 3 rfl) ?_
        refine lv_iconst (v := (0 : Int32)) hx hb (dt uX7_lays 12 rfl) (by decide) ?_
        refine lv_iconst (v := (1 : Int32)) hx hb (dt uX7_lays 13 rfl) (by decide) ?_
        refine vk_z0 [] (va_runS (As := [.int p3, .int (0 : Int32), .int (1 : Int32)]) (rest := []) ⟨hx, hb, hml, hown, hts⟩ (kX7_within p3 (0 : Int32) (1 : Int32) _ rfl H.size) (vcwS hts tw_106 tw_43 tw_41 tw_42 hd_X7_within rfl rfl ⟨Nat.le_of_ble_eq_true rfl, Nat.le_of_ble_eq_true rfl⟩) (vpreS hK hN hP hD [] rfl (by decide)) rfl rfl hl.1 rfl (lv_room (Nat.le_of_ble_eq_true rfl)) (dt uX7_lays 14 rfl) ⟨Nat.zero_le _, Nat.zero_le _⟩) hA hP hD hS rfl (by decide) (fun hz_6 H locs hP hD hS => ?_)
        refine lv_if_ne (tgt := 32) hx hb (dt uX7_lays 15 rfl) (by decide) (fun c_7 => ?_) (fun c_7 => ?_)
        · have hf := vif_f c_7 hf
          refine lv_iload_n hx hb (dt uX7_lays 18 rfl) rfl (lv_at hl 1 rfl) ?_
          refine lv_iload_n hx hb (dt uX7_lays 19 rfl) rfl (lv_at hl 2 rfl) ?_
          refine vk_i0 [] (va_runS (As := [.int p1, .int p2]) (rest := []) ⟨hx, hb, hml, hown, hts⟩ (kX7_touchBit p1 p2 _ rfl H.size) (vcwS hts tw_140 tw_76 tw_41 tw_75 hd_X7_touchBit rfl rfl ⟨Nat.le_of_ble_eq_true rfl, Nat.le_of_ble_eq_true rfl⟩) (vpreS hK hN hP hD [] rfl (by decide)) rfl rfl hl.1 rfl (lv_room (Nat.le_of_ble_eq_true rfl)) (dt uX7_lays 20 rfl) ⟨Nat.zero_le _, Nat.zero_le _⟩) hA hP hD hS rfl (by decide) (fun H locs hP hD hS => ?_)
          refine lv_istore (lv' := [(4, .int (fX7_touchBit p1 p2)), (0, .ref ad0), (1, .int p1), (2, .int p2), (3, .int p3)]) hx hb (dt uX7_lays 21 rfl) hl (by decide) rfl (fun ls hl => ?_)
          refine lv_aload_n hx hb (dt uX7_lays 22 rfl) rfl (lv_at hl 1 rfl) ?_
          refine va_get (D := (dC, dI)) (ci := 7) (v := .ref ad_now) (C := RX7) (T := TX7) (N := 10) hx hb hts inU7 hown hK hP 0 rfl rfl 3 (by decide) (hts _ tw_122) (fun _ h9 => h9) rfl (dt uX7_lays 23 rfl) ?_
          refine va_getN (D := (dC, dI)) (ci := 3) (v := .int v_now_touches) (C := RX3) (T := TX3) (N := 5) hx hb hts inU3 hown hK hP 2 rfl rfl 1 (by decide) (nw_14 hN) (fun _ h9 => h9) rfl (dt uX7_lays 24 rfl) ?_
          refine lv_iload hx hb (dt uX7_lays 25 rfl) (lv_at hl 0 rfl) ?_
          refine lv_iand hx hb (dt uX7_lays 26 rfl) ?_
          have hJ57 : ∀ (y0_8 : Int32) (H : Heap) (locs : List Loc) (ls : Array Slot), fX7_lays_J57 v_now_forgotten v_now_touches v_now_trapped v_now_one v_now_date a_history_steps v_history_known p1 p2 p3 y0_8 = some q0 → va_P (dC, dI) vwCl [(ad0, oX7 ad_text ad_draft ad_told ad_now ad_history ad_firstImage ad_secondImage ad_seen ad_ways v_traced), (ad_told, oX0 ad_told_a ad_told_b v_told_size v_told_touches v_told_one), (ad_now, oX3 v_now_forgotten v_now_touches v_now_trapped v_now_one v_now_date), (ad_history, oX1 ad_history_steps v_history_known), (ad_history_steps, .inl (cJ, 10, .inr (.inl a_history_steps)))] H → va_D A [(ad0, oX7 ad_text ad_draft ad_told ad_now ad_history ad_firstImage ad_secondImage ad_seen ad_ways v_traced), (ad_told, oX0 ad_told_a ad_told_b v_told_size v_told_touches v_told_one), (ad_now, oX3 v_now_forgotten v_now_touches v_now_trapped v_now_one v_now_date), (ad_history, oX1 ad_history_steps v_history_known), (ad_history_steps, .inl (cJ, 10, .inr (.inl a_history_steps)))] → va_S A s.heap H locs → lv_has ls 5 [(0, .ref ad0), (3, .int p3), (4, .int (fX7_touchBit p1 p2))] → W p l e rX7_lays s m args below meth c H locs 0 0 Q (F0 m 57 ls [.int y0_8]) := by
            intro y0_8 H locs ls hf hP hD hS hl
            unfold fX7_lays_J57 at hf
            refine lv_iload_n hx hb (dt uX7_lays 31 rfl) rfl (lv_at hl 1 rfl) ?_
            refine lv_iconst (v := (1 : Int32)) hx hb (dt uX7_lays 32 rfl) (by decide) ?_
            have hJ67 : ∀ (y1_9 : Int32) (H : Heap) (locs : List Loc) (ls : Array Slot), fX7_lays_J67 v_now_forgotten v_now_touches v_now_trapped v_now_one v_now_date a_history_steps v_history_known p1 p2 y0_8 y1_9 = some q0 → va_P (dC, dI) vwCl [(ad0, oX7 ad_text ad_draft ad_told ad_now ad_history ad_firstImage ad_secondImage ad_seen ad_ways v_traced), (ad_told, oX0 ad_told_a ad_told_b v_told_size v_told_touches v_told_one), (ad_now, oX3 v_now_forgotten v_now_touches v_now_trapped v_now_one v_now_date), (ad_history, oX1 ad_history_steps v_history_known), (ad_history_steps, .inl (cJ, 10, .inr (.inl a_history_steps)))] H → va_D A [(ad0, oX7 ad_text ad_draft ad_told ad_now ad_history ad_firstImage ad_secondImage ad_seen ad_ways v_traced), (ad_told, oX0 ad_told_a ad_told_b v_told_size v_told_touches v_told_one), (ad_now, oX3 v_now_forgotten v_now_touches v_now_trapped v_now_one v_now_date), (ad_history, oX1 ad_history_steps v_history_known), (ad_history_steps, .inl (cJ, 10, .inr (.inl a_history_steps)))] → va_S A s.heap H locs → lv_has ls 5 [(0, .ref ad0), (4, .int (fX7_touchBit p1 p2))] → W p l e rX7_lays s m args below meth c H locs 0 0 Q (F0 m 67 ls [.int y1_9, .int y0_8]) := by
              intro y1_9 H locs ls hf hP hD hS hl
              unfold fX7_lays_J67 at hf
              refine lv_icmp_ne (tgt := 73) hx hb (dt uX7_lays 37 rfl) (by decide) (fun c_10 => ?_) (fun c_10 => ?_)
              · have hf := vif_f c_10 hf
                refine lv_aload_n hx hb (dt uX7_lays 40 rfl) rfl (lv_at hl 0 rfl) ?_
                obtain ⟨q_11, hq_12, hf⟩ := vbd hf
                refine vk_v [0, 2, 3, 4] (ws2 := [(ad0, oX7 ad_text ad_draft ad_told ad_now ad_history ad_firstImage ad_secondImage ad_seen ad_ways v_traced), (ad_told, oX0 ad_told_a ad_told_b v_told_size v_told_touches v_told_one), (ad_now, oX3 v_now_forgotten v_now_touches v_now_trapped v_now_one v_now_date), (ad_history, oX1 ad_history_steps q_11.2), (ad_history_steps, .inl (cJ, 10, .inr (.inl q_11.1)))]) (va_runV (As := []) (rest := []) ⟨hx, hb, hml, hown, hts⟩ (kX7_remember ad0 ad_text ad_draft ad_told ad_now ad_history ad_history_steps ad_firstImage ad_secondImage ad_seen ad_ways v_traced v_now_forgotten v_now_touches v_now_trapped v_now_one v_now_date v_history_known a_history_steps q_11 hq_12 H.size) (vcwV hts tw_163 tw_164 tw_165 tw_41 tw_162 hd_X7_remember rfl rfl ⟨Nat.le_of_ble_eq_true rfl, Nat.le_of_ble_eq_true rfl⟩) (vpreV hK hN hP hD [0, 2, 3, 4] rfl (by decide) (ci := 7) (q0 := 0) rfl rfl) rfl rfl hl.1 rfl (lv_room (Nat.le_of_ble_eq_true rfl)) (dt uX7_lays 41 rfl) ⟨Nat.zero_le _, Nat.zero_le _⟩) hA hP hD hS rfl (by decide) rfl rfl (fun H locs hP hD hS => ?_)
                refine lv_aload_n hx hb (dt uX7_lays 42 rfl) rfl (lv_at hl 0 rfl) ?_
                refine va_get (D := (dC, dI)) (ci := 7) (v := .ref ad_now) (C := RX7) (T := TX7) (N := 10) hx hb hts inU7 hown hK hP 0 rfl rfl 3 (by decide) (hts _ tw_122) (fun _ h9 => h9) rfl (dt uX7_lays 43 rfl) ?_
                refine lv_dup hx hb (dt uX7_lays 44 rfl) rfl ?_
                refine va_getN (D := (dC, dI)) (ci := 3) (v := .int v_now_touches) (C := RX3) (T := TX3) (N := 5) hx hb hts inU3 hown hK hP 2 rfl rfl 1 (by decide) (nw_14 hN) (fun _ h9 => h9) rfl (dt uX7_lays 45 rfl) ?_
                refine lv_iload hx hb (dt uX7_lays 46 rfl) (lv_at hl 1 rfl) ?_
                refine lv_ixor hx hb (dt uX7_lays 47 rfl) ?_
                refine va_putN (D := (dC, dI)) (ci := 3) (v := .int (v_now_touches ^^^ (fX7_touchBit p1 p2))) (ty := .int) (C := RX3) (T := TX3) (N := 5) hx hb hts inU3 tyX3 tyX3_ok nmX3 hown hK hP hD hS 2 rfl rfl 1 (by decide) (nw_14 hN) (fun _ h9 => h9) rfl (by decide +kernel) rfl rfl (Nat.le_of_ble_eq_true rfl) (dt uX7_lays 48 rfl) (fun H locs hP hD hS => ?_)
                have hP : va_P (dC, dI) vwCl [(ad0, oX7 ad_text ad_draft ad_told ad_now ad_history ad_firstImage ad_secondImage ad_seen ad_ways v_traced), (ad_told, oX0 ad_told_a ad_told_b v_told_size v_told_touches v_told_one), (ad_now, oX3 v_now_forgotten (v_now_touches ^^^ (fX7_touchBit p1 p2)) v_now_trapped v_now_one v_now_date), (ad_history, oX1 ad_history_steps q_11.2), (ad_history_steps, .inl (cJ, 10, .inr (.inl q_11.1)))] H := hP
                have hD : va_D A [(ad0, oX7 ad_text ad_draft ad_told ad_now ad_history ad_firstImage ad_secondImage ad_seen ad_ways v_traced), (ad_told, oX0 ad_told_a ad_told_b v_told_size v_told_touches v_told_one), (ad_now, oX3 v_now_forgotten (v_now_touches ^^^ (fX7_touchBit p1 p2)) v_now_trapped v_now_one v_now_date), (ad_history, oX1 ad_history_steps q_11.2), (ad_history_steps, .inl (cJ, 10, .inr (.inl q_11.1)))] := hD
                refine lv_aload_n hx hb (dt uX7_lays 49 rfl) rfl (lv_at hl 0 rfl) ?_
                refine va_get (D := (dC, dI)) (ci := 7) (v := .ref ad_now) (C := RX7) (T := TX7) (N := 10) hx hb hts inU7 hown hK hP 0 rfl rfl 3 (by decide) (hts _ tw_122) (fun _ h9 => h9) rfl (dt uX7_lays 50 rfl) ?_
                refine va_getN (D := (dC, dI)) (ci := 3) (v := .int (v_now_touches ^^^ (fX7_touchBit p1 p2))) (C := RX3) (T := TX3) (N := 5) hx hb hts inU3 hown hK hP 2 rfl rfl 1 (by decide) (nw_14 hN) (fun _ h9 => h9) rfl (dt uX7_lays 51 rfl) ?_
                refine vk_i0 [] (va_runS (As := [.int (v_now_touches ^^^ (fX7_touchBit p1 p2))]) (rest := []) ⟨hx, hb, hml, hown, hts⟩ (kJ6_bitCount_0f7a4 (v_now_touches ^^^ (fX7_touchBit p1 p2)) _ rfl H.size) (vcwS hts tw_171 tw_172 tw_169 tw_170 hd_J6_bitCount_0f7a4 rfl rfl ⟨Nat.le_of_ble_eq_true rfl, Nat.le_of_ble_eq_true rfl⟩) (vpreS hK hN hP hD [] rfl (by decide)) rfl rfl hl.1 rfl (lv_room (Nat.le_of_ble_eq_true rfl)) (dt uX7_lays 52 rfl) ⟨Nat.zero_le _, Nat.zero_le _⟩) hA hP hD hS rfl (by decide) (fun H locs hP hD hS => ?_)
                have hf := Option.some.inj hf
                subst hf
                rw [hQ]
                exact vret_i C hP hD hS (dt uX7_lays 53 rfl)
              · have hf := vif_t c_10 hf
                refine lv_bipush (v := (-2 : Int32)) hx hb (dt uX7_lays 38 rfl) (by decide) ?_
                have hf := Option.some.inj hf
                subst hf
                rw [hQ]
                exact vret_i C hP hD hS (dt uX7_lays 39 rfl)
            refine lv_icmp_ne (tgt := 66) hx hb (dt uX7_lays 33 rfl) (by decide) (fun c_13 => ?_) (fun c_13 => ?_)
            · have hf := vif_f c_13 hf
              refine lv_iconst (v := (0 : Int32)) hx hb (dt uX7_lays 36 rfl) (by decide) ?_
              exact hJ67 (0 : Int32) _ _ _ hf hP hD hS (lv_sub hl [0, 2] rfl)
            · have hf := vif_t c_13 hf
              refine lv_iconst (v := (1 : Int32)) hx hb (dt uX7_lays 34 rfl) (by decide) ?_
              refine lv_goto (tgt := 67) hx hb (dt uX7_lays 35 rfl) (by decide) ?_
              exact hJ67 (1 : Int32) _ _ _ hf hP hD hS (lv_sub hl [0, 2] rfl)
          refine lv_if_eq (tgt := 56) hx hb (dt uX7_lays 27 rfl) (by decide) (fun c_14 => ?_) (fun c_14 => ?_)
          · have hf := vif_t c_14 hf
            refine lv_iconst (v := (0 : Int32)) hx hb (dt uX7_lays 30 rfl) (by decide) ?_
            exact hJ57 (0 : Int32) _ _ _ hf hP hD hS (lv_sub hl [1, 4, 0] rfl)
          · have hf := vif_f c_14 hf
            refine lv_iconst (v := (1 : Int32)) hx hb (dt uX7_lays 28 rfl) (by decide) ?_
            refine lv_goto (tgt := 57) hx hb (dt uX7_lays 29 rfl) (by decide) ?_
            exact hJ57 (1 : Int32) _ _ _ hf hP hD hS (lv_sub hl [1, 4, 0] rfl)
        · have hf := vif_t c_7 hf
          refine lv_iconst (v := (-1 : Int32)) hx hb (dt uX7_lays 16 rfl) (by decide) ?_
          have hf := Option.some.inj hf
          subst hf
          rw [hQ]
          exact vret_i C hP hD hS (dt uX7_lays 17 rfl)
abbrev rX7_traps : Room := { frames := 3, cells := 0, slots := 0, locals := 60 }
abbrev wX7_traps : List Cond := Cond.code yX7_traps cX7_traps 3 (some .int) :: VT
set_option maxHeartbeats 4000000 in
set_option maxRecDepth 100000 in
theorem kX7_traps (ad0 : Nat) (ad_text : Nat) (ad_draft : Nat) (ad_told : Nat) (ad_told_a : Nat) (ad_told_b : Nat) (ad_now : Nat) (ad_history : Nat) (ad_history_steps : Nat) (ad_firstImage : Nat) (ad_secondImage : Nat) (ad_seen : Nat) (ad_ways : Nat) (v_traced : Int64) (v_told_size : Int32) (v_told_touches : Int32) (v_told_one : Int32) (v_now_forgotten : Int32) (v_now_touches : Int32) (v_now_trapped : Int32) (v_now_one : Int32) (v_now_date : Int32) (v_history_known : Int32) (a_history_steps : Nat → Int64) (p1 : Int32) (p2 : Int32) (q0 : (Int32 × Int32 × (Nat → Int64) × Int32)) (hf : fX7_traps v_told_size v_now_forgotten v_now_touches v_now_trapped v_now_one v_now_date a_history_steps v_history_known p1 p2 = some q0) : Ki l yX7_traps wX7_traps rX7_traps (dC, dI) (vTy cI cJ cB cZ) [.ref ad0, .int p1, .int p2] [(ad0, oX7 ad_text ad_draft ad_told ad_now ad_history ad_firstImage ad_secondImage ad_seen ad_ways v_traced), (ad_told, oX0 ad_told_a ad_told_b v_told_size v_told_touches v_told_one), (ad_now, oX3 v_now_forgotten v_now_touches v_now_trapped v_now_one v_now_date), (ad_history, oX1 ad_history_steps v_history_known), (ad_history_steps, .inl (cJ, 10, .inr (.inl a_history_steps)))] [(ad0, oX7 ad_text ad_draft ad_told ad_now ad_history ad_firstImage ad_secondImage ad_seen ad_ways v_traced), (ad_told, oX0 ad_told_a ad_told_b v_told_size v_told_touches v_told_one), (ad_now, oX3 v_now_forgotten v_now_touches q0.2.1 v_now_one v_now_date), (ad_history, oX1 ad_history_steps q0.2.2.2), (ad_history_steps, .inl (cJ, 10, .inr (.inl q0.2.2.1)))] q0.1 := by
  refine Ki.mk (cc := cX7_traps) (maxL := 3) (ret := some .int) (by decide) (Nat.le_of_ble_eq_true rfl) ?_
  intro p e s m args below meth c A Q H locs C hQ hP hD hS ls hl
  obtain ⟨hx, hb, -, hml, hts, hown, -, hK, hN, hA⟩ := id C
  have hown : s.vm.findClass RX7 = some m.cls := hown
  have hl : lv_has ls 3 [(0, .ref ad0), (1, .int p1), (2, .int p2)] := hl
  unfold fX7_traps at hf
  refine lv_aload_n hx hb (dt uX7_traps 0 rfl) rfl (lv_at hl 0 rfl) ?_
  refine lv_iload_n hx hb (dt uX7_traps 1 rfl) rfl (lv_at hl 1 rfl) ?_
  refine vk_z0 [0, 1] (va_runV (As := [.int p1]) (rest := []) ⟨hx, hb, hml, hown, hts⟩ (kX7_isBook ad0 ad_text ad_draft ad_told ad_told_a ad_told_b ad_now ad_history ad_firstImage ad_secondImage ad_seen ad_ways v_traced v_told_size v_told_touches v_told_one p1 _ rfl H.size) (vcwV hts tw_142 tw_143 tw_144 tw_41 tw_141 hd_X7_isBook rfl rfl ⟨Nat.le_of_ble_eq_true rfl, Nat.le_of_ble_eq_true rfl⟩) (vpreV hK hN hP hD [0, 1] rfl (by decide) (ci := 7) (q0 := 0) rfl rfl) rfl rfl hl.1 rfl (lv_room (Nat.le_of_ble_eq_true rfl)) (dt uX7_traps 2 rfl) ⟨Nat.zero_le _, Nat.zero_le _⟩) hA hP hD hS rfl (by decide) (fun hz_1 H locs hP hD hS => ?_)
  refine lv_if_eq (tgt := 17) hx hb (dt uX7_traps 3 rfl) (by decide) (fun c_2 => ?_) (fun c_2 => ?_)
  · have hf := vif_t c_2 hf
    refine lv_iconst (v := (-1 : Int32)) hx hb (dt uX7_traps 9 rfl) (by decide) ?_
    have hf := Option.some.inj hf
    subst hf
    rw [hQ]
    exact vret_i C hP hD hS (dt uX7_traps 10 rfl)
  · have hf := vif_f c_2 hf
    refine lv_iload_n hx hb (dt uX7_traps 4 rfl) rfl (lv_at hl 2 rfl) ?_
    refine lv_iconst (v := (0 : Int32)) hx hb (dt uX7_traps 5 rfl) (by decide) ?_
    refine lv_iconst (v := (1 : Int32)) hx hb (dt uX7_traps 6 rfl) (by decide) ?_
    refine vk_z0 [] (va_runS (As := [.int p2, .int (0 : Int32), .int (1 : Int32)]) (rest := []) ⟨hx, hb, hml, hown, hts⟩ (kX7_within p2 (0 : Int32) (1 : Int32) _ rfl H.size) (vcwS hts tw_106 tw_43 tw_41 tw_42 hd_X7_within rfl rfl ⟨Nat.le_of_ble_eq_true rfl, Nat.le_of_ble_eq_true rfl⟩) (vpreS hK hN hP hD [] rfl (by decide)) rfl rfl hl.1 rfl (lv_room (Nat.le_of_ble_eq_true rfl)) (dt uX7_traps 7 rfl) ⟨Nat.zero_le _, Nat.zero_le _⟩) hA hP hD hS rfl (by decide) (fun hz_3 H locs hP hD hS => ?_)
    refine lv_if_ne (tgt := 19) hx hb (dt uX7_traps 8 rfl) (by decide) (fun c_4 => ?_) (fun c_4 => ?_)
    · have hf := vif_f c_4 hf
      refine lv_aload_n hx hb (dt uX7_traps 11 rfl) rfl (lv_at hl 0 rfl) ?_
      refine va_get (D := (dC, dI)) (ci := 7) (v := .ref ad_now) (C := RX7) (T := TX7) (N := 10) hx hb hts inU7 hown hK hP 0 rfl rfl 3 (by decide) (hts _ tw_122) (fun _ h9 => h9) rfl (dt uX7_traps 12 rfl) ?_
      refine lv_iload_n hx hb (dt uX7_traps 13 rfl) rfl (lv_at hl 1 rfl) ?_
      refine vk_z0 [2] (va_runVN (As := [.int p1]) (rest := []) ⟨hx, hb, hml, hown, hts⟩ (kX3_isTrap ad_now v_now_forgotten v_now_touches v_now_trapped v_now_one v_now_date p1 _ rfl H.size) (vcwVN hts (nm_42 hN) tw_157 tw_158 tw_16 tw_156 hd_X3_isTrap rfl rfl ⟨Nat.le_of_ble_eq_true rfl, Nat.le_of_ble_eq_true rfl⟩) (vpreV hK hN hP hD [2] rfl (by decide) (ci := 3) (q0 := 2) rfl rfl) rfl rfl hl.1 rfl (lv_room (Nat.le_of_ble_eq_true rfl)) (dt uX7_traps 14 rfl) ⟨Nat.zero_le _, Nat.zero_le _⟩) hA hP hD hS rfl (by decide) (fun hz_5 H locs hP hD hS => ?_)
      refine lv_iload_n hx hb (dt uX7_traps 15 rfl) rfl (lv_at hl 2 rfl) ?_
      refine lv_iconst (v := (1 : Int32)) hx hb (dt uX7_traps 16 rfl) (by decide) ?_
      have hJ37 : ∀ (y1_6 : Int32) (H : Heap) (locs : List Loc) (ls : Array Slot), fX7_traps_J37 v_now_forgotten v_now_touches v_now_trapped v_now_one v_now_date a_history_steps v_history_known p1 y1_6 = some q0 → va_P (dC, dI) vwCl [(ad0, oX7 ad_text ad_draft ad_told ad_now ad_history ad_firstImage ad_secondImage ad_seen ad_ways v_traced), (ad_told, oX0 ad_told_a ad_told_b v_told_size v_told_touches v_told_one), (ad_now, oX3 v_now_forgotten v_now_touches v_now_trapped v_now_one v_now_date), (ad_history, oX1 ad_history_steps v_history_known), (ad_history_steps, .inl (cJ, 10, .inr (.inl a_history_steps)))] H → va_D A [(ad0, oX7 ad_text ad_draft ad_told ad_now ad_history ad_firstImage ad_secondImage ad_seen ad_ways v_traced), (ad_told, oX0 ad_told_a ad_told_b v_told_size v_told_touches v_told_one), (ad_now, oX3 v_now_forgotten v_now_touches v_now_trapped v_now_one v_now_date), (ad_history, oX1 ad_history_steps v_history_known), (ad_history_steps, .inl (cJ, 10, .inr (.inl a_history_steps)))] → va_S A s.heap H locs → lv_has ls 3 [(0, .ref ad0), (1, .int p1)] → W p l e rX7_traps s m args below meth c H locs 0 0 Q (F0 m 37 ls [.int y1_6, .int (fX3_isTrap v_now_trapped p1)]) := by
        intro y1_6 H locs ls hf hP hD hS hl
        unfold fX7_traps_J37 at hf
        refine lv_icmp_ne (tgt := 43) hx hb (dt uX7_traps 21 rfl) (by decide) (fun c_7 => ?_) (fun c_7 => ?_)
        · have hf := vif_f c_7 hf
          refine lv_aload_n hx hb (dt uX7_traps 24 rfl) rfl (lv_at hl 0 rfl) ?_
          obtain ⟨q_8, hq_9, hf⟩ := vbd hf
          refine vk_v [0, 2, 3, 4] (ws2 := [(ad0, oX7 ad_text ad_draft ad_told ad_now ad_history ad_firstImage ad_secondImage ad_seen ad_ways v_traced), (ad_told, oX0 ad_told_a ad_told_b v_told_size v_told_touches v_told_one), (ad_now, oX3 v_now_forgotten v_now_touches v_now_trapped v_now_one v_now_date), (ad_history, oX1 ad_history_steps q_8.2), (ad_history_steps, .inl (cJ, 10, .inr (.inl q_8.1)))]) (va_runV (As := []) (rest := []) ⟨hx, hb, hml, hown, hts⟩ (kX7_remember ad0 ad_text ad_draft ad_told ad_now ad_history ad_history_steps ad_firstImage ad_secondImage ad_seen ad_ways v_traced v_now_forgotten v_now_touches v_now_trapped v_now_one v_now_date v_history_known a_history_steps q_8 hq_9 H.size) (vcwV hts tw_163 tw_164 tw_165 tw_41 tw_162 hd_X7_remember rfl rfl ⟨Nat.le_of_ble_eq_true rfl, Nat.le_of_ble_eq_true rfl⟩) (vpreV hK hN hP hD [0, 2, 3, 4] rfl (by decide) (ci := 7) (q0 := 0) rfl rfl) rfl rfl hl.1 rfl (lv_room (Nat.le_of_ble_eq_true rfl)) (dt uX7_traps 25 rfl) ⟨Nat.zero_le _, Nat.zero_le _⟩) hA hP hD hS rfl (by decide) rfl rfl (fun H locs hP hD hS => ?_)
          refine lv_aload_n hx hb (dt uX7_traps 26 rfl) rfl (lv_at hl 0 rfl) ?_
          refine va_get (D := (dC, dI)) (ci := 7) (v := .ref ad_now) (C := RX7) (T := TX7) (N := 10) hx hb hts inU7 hown hK hP 0 rfl rfl 3 (by decide) (hts _ tw_122) (fun _ h9 => h9) rfl (dt uX7_traps 27 rfl) ?_
          refine lv_dup hx hb (dt uX7_traps 28 rfl) rfl ?_
          refine va_getN (D := (dC, dI)) (ci := 3) (v := .int v_now_trapped) (C := RX3) (T := TX3) (N := 5) hx hb hts inU3 hown hK hP 2 rfl rfl 2 (by decide) (nw_15 hN) (fun _ h9 => h9) rfl (dt uX7_traps 29 rfl) ?_
          refine lv_iconst (v := (1 : Int32)) hx hb (dt uX7_traps 30 rfl) (by decide) ?_
          refine lv_iload_n hx hb (dt uX7_traps 31 rfl) rfl (lv_at hl 1 rfl) ?_
          refine lv_ishl hx hb (dt uX7_traps 32 rfl) ?_
          refine lv_ixor hx hb (dt uX7_traps 33 rfl) ?_
          refine va_putN (D := (dC, dI)) (ci := 3) (v := .int (v_now_trapped ^^^ ((1 : Int32) <<< (p1 &&& 31)))) (ty := .int) (C := RX3) (T := TX3) (N := 5) hx hb hts inU3 tyX3 tyX3_ok nmX3 hown hK hP hD hS 2 rfl rfl 2 (by decide) (nw_15 hN) (fun _ h9 => h9) rfl (by decide +kernel) rfl rfl (Nat.le_of_ble_eq_true rfl) (dt uX7_traps 34 rfl) (fun H locs hP hD hS => ?_)
          have hP : va_P (dC, dI) vwCl [(ad0, oX7 ad_text ad_draft ad_told ad_now ad_history ad_firstImage ad_secondImage ad_seen ad_ways v_traced), (ad_told, oX0 ad_told_a ad_told_b v_told_size v_told_touches v_told_one), (ad_now, oX3 v_now_forgotten v_now_touches (v_now_trapped ^^^ ((1 : Int32) <<< (p1 &&& 31))) v_now_one v_now_date), (ad_history, oX1 ad_history_steps q_8.2), (ad_history_steps, .inl (cJ, 10, .inr (.inl q_8.1)))] H := hP
          have hD : va_D A [(ad0, oX7 ad_text ad_draft ad_told ad_now ad_history ad_firstImage ad_secondImage ad_seen ad_ways v_traced), (ad_told, oX0 ad_told_a ad_told_b v_told_size v_told_touches v_told_one), (ad_now, oX3 v_now_forgotten v_now_touches (v_now_trapped ^^^ ((1 : Int32) <<< (p1 &&& 31))) v_now_one v_now_date), (ad_history, oX1 ad_history_steps q_8.2), (ad_history_steps, .inl (cJ, 10, .inr (.inl q_8.1)))] := hD
          refine lv_aload_n hx hb (dt uX7_traps 35 rfl) rfl (lv_at hl 0 rfl) ?_
          refine va_get (D := (dC, dI)) (ci := 7) (v := .ref ad_now) (C := RX7) (T := TX7) (N := 10) hx hb hts inU7 hown hK hP 0 rfl rfl 3 (by decide) (hts _ tw_122) (fun _ h9 => h9) rfl (dt uX7_traps 36 rfl) ?_
          refine va_getN (D := (dC, dI)) (ci := 3) (v := .int (v_now_trapped ^^^ ((1 : Int32) <<< (p1 &&& 31)))) (C := RX3) (T := TX3) (N := 5) hx hb hts inU3 hown hK hP 2 rfl rfl 2 (by decide) (nw_15 hN) (fun _ h9 => h9) rfl (dt uX7_traps 37 rfl) ?_
          refine vk_i0 [] (va_runS (As := [.int (v_now_trapped ^^^ ((1 : Int32) <<< (p1 &&& 31)))]) (rest := []) ⟨hx, hb, hml, hown, hts⟩ (kJ6_bitCount_0f7a4 (v_now_trapped ^^^ ((1 : Int32) <<< (p1 &&& 31))) _ rfl H.size) (vcwS hts tw_171 tw_172 tw_169 tw_170 hd_J6_bitCount_0f7a4 rfl rfl ⟨Nat.le_of_ble_eq_true rfl, Nat.le_of_ble_eq_true rfl⟩) (vpreS hK hN hP hD [] rfl (by decide)) rfl rfl hl.1 rfl (lv_room (Nat.le_of_ble_eq_true rfl)) (dt uX7_traps 38 rfl) ⟨Nat.zero_le _, Nat.zero_le _⟩) hA hP hD hS rfl (by decide) (fun H locs hP hD hS => ?_)
          have hf := Option.some.inj hf
          subst hf
          rw [hQ]
          exact vret_i C hP hD hS (dt uX7_traps 39 rfl)
        · have hf := vif_t c_7 hf
          refine lv_bipush (v := (-2 : Int32)) hx hb (dt uX7_traps 22 rfl) (by decide) ?_
          have hf := Option.some.inj hf
          subst hf
          rw [hQ]
          exact vret_i C hP hD hS (dt uX7_traps 23 rfl)
      refine lv_icmp_ne (tgt := 36) hx hb (dt uX7_traps 17 rfl) (by decide) (fun c_10 => ?_) (fun c_10 => ?_)
      · have hf := vif_f c_10 hf
        refine lv_iconst (v := (0 : Int32)) hx hb (dt uX7_traps 20 rfl) (by decide) ?_
        exact hJ37 (0 : Int32) _ _ _ hf hP hD hS (lv_sub hl [0, 1] rfl)
      · have hf := vif_t c_10 hf
        refine lv_iconst (v := (1 : Int32)) hx hb (dt uX7_traps 18 rfl) (by decide) ?_
        refine lv_goto (tgt := 37) hx hb (dt uX7_traps 19 rfl) (by decide) ?_
        exact hJ37 (1 : Int32) _ _ _ hf hP hD hS (lv_sub hl [0, 1] rfl)
    · have hf := vif_t c_4 hf
      refine lv_iconst (v := (-1 : Int32)) hx hb (dt uX7_traps 9 rfl) (by decide) ?_
      have hf := Option.some.inj hf
      subst hf
      rw [hQ]
      exact vret_i C hP hD hS (dt uX7_traps 10 rfl)
abbrev rX7_isSomewhere : Room := { frames := 2, cells := 0, slots := 0, locals := 43 }
abbrev wX7_isSomewhere : List Cond := Cond.code yX7_isSomewhere cX7_isSomewhere 1 (some .boolean) :: VT
set_option maxHeartbeats 4000000 in
set_option maxRecDepth 100000 in
theorem kX7_isSomewhere (ad0 : Nat) (ad_text : Nat) (ad_draft : Nat) (ad_told : Nat) (ad_told_a : Nat) (ad_told_b : Nat) (ad_now : Nat) (ad_history : Nat) (ad_firstImage : Nat) (ad_secondImage : Nat) (ad_seen : Nat) (ad_ways : Nat) (v_traced : Int64) (v_told_size : Int32) (v_told_touches : Int32) (v_told_one : Int32) (v_now_forgotten : Int32) (v_now_touches : Int32) (v_now_trapped : Int32) (v_now_one : Int32) (v_now_date : Int32) (q0 : Int32) (hf : fX7_isSomewhere v_told_size v_now_one = q0) : Kz l yX7_isSomewhere wX7_isSomewhere rX7_isSomewhere (dC, dI) (vTy cI cJ cB cZ) [.ref ad0] [(ad0, oX7 ad_text ad_draft ad_told ad_now ad_history ad_firstImage ad_secondImage ad_seen ad_ways v_traced), (ad_told, oX0 ad_told_a ad_told_b v_told_size v_told_touches v_told_one), (ad_now, oX3 v_now_forgotten v_now_touches v_now_trapped v_now_one v_now_date)] [(ad0, oX7 ad_text ad_draft ad_told ad_now ad_history ad_firstImage ad_secondImage ad_seen ad_ways v_traced), (ad_told, oX0 ad_told_a ad_told_b v_told_size v_told_touches v_told_one), (ad_now, oX3 v_now_forgotten v_now_touches v_now_trapped v_now_one v_now_date)] q0 := by
  refine Kz.mk (cc := cX7_isSomewhere) (maxL := 1) (ret := some .boolean) (by decide) (Nat.le_of_ble_eq_true rfl) ?_
  intro p e s m args below meth c A Q H locs C hQ hP hD hS ls hl
  obtain ⟨hx, hb, -, hml, hts, hown, -, hK, hN, hA⟩ := id C
  have hown : s.vm.findClass RX7 = some m.cls := hown
  have hl : lv_has ls 1 [(0, .ref ad0)] := hl
  unfold fX7_isSomewhere at hf
  refine lv_aload_n hx hb (dt uX7_isSomewhere 0 rfl) rfl (lv_at hl 0 rfl) ?_
  refine lv_aload_n hx hb (dt uX7_isSomewhere 1 rfl) rfl (lv_at hl 0 rfl) ?_
  refine va_get (D := (dC, dI)) (ci := 7) (v := .ref ad_now) (C := RX7) (T := TX7) (N := 10) hx hb hts inU7 hown hK hP 0 rfl rfl 3 (by decide) (hts _ tw_122) (fun _ h9 => h9) rfl (dt uX7_isSomewhere 2 rfl) ?_
  refine va_getN (D := (dC, dI)) (ci := 3) (v := .int v_now_one) (C := RX3) (T := TX3) (N := 5) hx hb hts inU3 hown hK hP 2 rfl rfl 3 (by decide) (nw_16 hN) (fun _ h9 => h9) rfl (dt uX7_isSomewhere 3 rfl) ?_
  refine vk_z0 [0, 1] (va_runV (As := [.int v_now_one]) (rest := []) ⟨hx, hb, hml, hown, hts⟩ (kX7_isBook ad0 ad_text ad_draft ad_told ad_told_a ad_told_b ad_now ad_history ad_firstImage ad_secondImage ad_seen ad_ways v_traced v_told_size v_told_touches v_told_one v_now_one _ rfl H.size) (vcwV hts tw_142 tw_143 tw_144 tw_41 tw_141 hd_X7_isBook rfl rfl ⟨Nat.le_of_ble_eq_true rfl, Nat.le_of_ble_eq_true rfl⟩) (vpreV hK hN hP hD [0, 1] rfl (by decide) (ci := 7) (q0 := 0) rfl rfl) rfl rfl hl.1 rfl (lv_room (Nat.le_of_ble_eq_true rfl)) (dt uX7_isSomewhere 4 rfl) ⟨Nat.zero_le _, Nat.zero_le _⟩) hA hP hD hS rfl (by decide) (fun hz_1 H locs hP hD hS => ?_)
  subst hf
  rw [hQ]
  exact vret_z C hP hD hS (dt uX7_isSomewhere 5 rfl) hz_1
abbrev rX7_tensOf : Room := { frames := 0, cells := 0, slots := 0, locals := 0 }
abbrev wX7_tensOf : List Cond := Cond.code yX7_tensOf cX7_tensOf 1 (some .int) :: VT
set_option maxHeartbeats 4000000 in
set_option maxRecDepth 100000 in
theorem kX7_tensOf (p1 : Int32) (q0 : Int32) (hf : fX7_tensOf p1 = q0) : Ki l yX7_tensOf wX7_tensOf rX7_tensOf (dC, dI) (vTy cI cJ cB cZ) [.int p1] [] [] q0 := by
  refine Ki.mk (cc := cX7_tensOf) (maxL := 1) (ret := some .int) (by decide) (Nat.le_of_ble_eq_true rfl) ?_
  intro p e s m args below meth c A Q H locs C hQ hP hD hS ls hl
  obtain ⟨hx, hb, -, hml, hts, hown, -, hK, hN, hA⟩ := id C
  have hown : s.vm.findClass RX7 = some m.cls := hown
  have hl : lv_has ls 1 [(0, .int p1)] := hl
  unfold fX7_tensOf at hf
  refine lv_iload_n hx hb (dt uX7_tensOf 0 rfl) rfl (lv_at hl 0 rfl) ?_
  refine lv_if_ge (tgt := 8) hx hb (dt uX7_tensOf 1 rfl) (by decide) (fun c_1 => ?_) (fun c_1 => ?_)
  · have hf := vif_t c_1 hf
    refine lv_iload_n hx hb (dt uX7_tensOf 4 rfl) rfl (lv_at hl 0 rfl) ?_
    refine lv_bipush (v := (10 : Int32)) hx hb (dt uX7_tensOf 5 rfl) (by decide) ?_
    refine lv_idiv hx hb (dt uX7_tensOf 6 rfl) (by decide) ?_
    refine lv_bipush (v := (10 : Int32)) hx hb (dt uX7_tensOf 7 rfl) (by decide) ?_
    refine lv_irem hx hb (dt uX7_tensOf 8 rfl) (by decide) ?_
    subst hf
    rw [hQ]
    exact vret_i C hP hD hS (dt uX7_tensOf 9 rfl)
  · have hf := vif_f c_1 hf
    refine lv_iconst (v := (0 : Int32)) hx hb (dt uX7_tensOf 2 rfl) (by decide) ?_
    refine lv_goto (tgt := 15) hx hb (dt uX7_tensOf 3 rfl) (by decide) ?_
    subst hf
    rw [hQ]
    exact vret_i C hP hD hS (dt uX7_tensOf 9 rfl)
abbrev rX7_waysNow : Room := { frames := 2, cells := 0, slots := 0, locals := 43 }
abbrev wX7_waysNow : List Cond := Cond.code yX7_waysNow cX7_waysNow 2 (some (.object "CarriedOne$Ways")) :: VT
set_option maxHeartbeats 4000000 in
set_option maxRecDepth 100000 in
theorem kX7_waysNow (ad0 : Nat) (ad_text : Nat) (ad_draft : Nat) (ad_told : Nat) (ad_told_a : Nat) (ad_told_b : Nat) (ad_now : Nat) (ad_history : Nat) (ad_firstImage : Nat) (ad_secondImage : Nat) (ad_seen : Nat) (ad_ways : Nat) (ad_ways_ranked : Nat) (ad_ways_tens : Nat) (v_traced : Int64) (v_told_size : Int32) (v_told_touches : Int32) (v_told_one : Int32) (a_told_a : Nat → Int32) (a_told_b : Nat → Int32) (v_now_forgotten : Int32) (v_now_touches : Int32) (v_now_trapped : Int32) (v_now_one : Int32) (v_now_date : Int32) (v_ways_size : Int32) (v_ways_trapped : Int32) (a_ways_ranked : Nat → Int32) (a_ways_tens : Nat → Int32) (N : Nat) (q0 : ((Nat → Int32) × (Nat → Int32) × Int32 × Int32)) (hf : fX7_waysNow N a_told_a a_told_b v_told_size v_now_forgotten v_now_trapped a_ways_ranked a_ways_tens v_ways_size v_ways_trapped = some q0) : Kr l yX7_waysNow wX7_waysNow rX7_waysNow (dC, dI) (vTy cI cJ cB cZ) [.ref ad0] [(ad0, oX7 ad_text ad_draft ad_told ad_now ad_history ad_firstImage ad_secondImage ad_seen ad_ways v_traced), (ad_told, oX0 ad_told_a ad_told_b v_told_size v_told_touches v_told_one), (ad_told_a, .inl (cI, 6, .inl a_told_a)), (ad_told_b, .inl (cI, 6, .inl a_told_b)), (ad_now, oX3 v_now_forgotten v_now_touches v_now_trapped v_now_one v_now_date), (ad_ways, oX6 ad_ways_ranked ad_ways_tens v_ways_size v_ways_trapped), (ad_ways_ranked, .inl (cI, 6, .inl a_ways_ranked)), (ad_ways_tens, .inl (cI, 6, .inl a_ways_tens))] [(ad0, oX7 ad_text ad_draft ad_told ad_now ad_history ad_firstImage ad_secondImage ad_seen ad_ways v_traced), (ad_told, oX0 ad_told_a ad_told_b v_told_size v_told_touches v_told_one), (ad_told_a, .inl (cI, 6, .inl a_told_a)), (ad_told_b, .inl (cI, 6, .inl a_told_b)), (ad_now, oX3 v_now_forgotten v_now_touches v_now_trapped v_now_one v_now_date), (ad_ways, oX6 ad_ways_ranked ad_ways_tens q0.2.2.1 q0.2.2.2), (ad_ways_ranked, .inl (cI, 6, .inl q0.1)), (ad_ways_tens, .inl (cI, 6, .inl q0.2.1))] ad_ways := by
  refine Kr.mk (cc := cX7_waysNow) (maxL := 2) (ret := some (.object "CarriedOne$Ways")) (by decide) (Nat.le_of_ble_eq_true rfl) ?_
  intro p e s m args below meth c A Q H locs C hQ hP hD hS ls hl
  obtain ⟨hx, hb, -, hml, hts, hown, -, hK, hN, hA⟩ := id C
  have hown : s.vm.findClass RX7 = some m.cls := hown
  have hl : lv_has ls 2 [(0, .ref ad0)] := hl
  unfold fX7_waysNow at hf
  refine lv_aload_n hx hb (dt uX7_waysNow 0 rfl) rfl (lv_at hl 0 rfl) ?_
  refine va_get (D := (dC, dI)) (ci := 7) (v := .ref ad_ways) (C := RX7) (T := TX7) (N := 10) hx hb hts inU7 hown hK hP 0 rfl rfl 8 (by decide) (hts _ tw_173) (fun _ h9 => h9) rfl (dt uX7_waysNow 1 rfl) ?_
  refine lv_iconst (v := (0 : Int32)) hx hb (dt uX7_waysNow 2 rfl) (by decide) ?_
  refine va_putN (D := (dC, dI)) (ci := 6) (v := .int (0 : Int32)) (ty := .int) (C := RX6) (T := TX6) (N := 4) hx hb hts inU6 tyX6 tyX6_ok nmX6 hown hK hP hD hS 5 rfl rfl 2 (by decide) (nw_29 hN) (fun _ h9 => h9) rfl (by decide +kernel) rfl rfl (Nat.le_of_ble_eq_true rfl) (dt uX7_waysNow 3 rfl) (fun H locs hP hD hS => ?_)
  have hP : va_P (dC, dI) vwCl [(ad0, oX7 ad_text ad_draft ad_told ad_now ad_history ad_firstImage ad_secondImage ad_seen ad_ways v_traced), (ad_told, oX0 ad_told_a ad_told_b v_told_size v_told_touches v_told_one), (ad_told_a, .inl (cI, 6, .inl a_told_a)), (ad_told_b, .inl (cI, 6, .inl a_told_b)), (ad_now, oX3 v_now_forgotten v_now_touches v_now_trapped v_now_one v_now_date), (ad_ways, oX6 ad_ways_ranked ad_ways_tens (0 : Int32) v_ways_trapped), (ad_ways_ranked, .inl (cI, 6, .inl a_ways_ranked)), (ad_ways_tens, .inl (cI, 6, .inl a_ways_tens))] H := hP
  have hD : va_D A [(ad0, oX7 ad_text ad_draft ad_told ad_now ad_history ad_firstImage ad_secondImage ad_seen ad_ways v_traced), (ad_told, oX0 ad_told_a ad_told_b v_told_size v_told_touches v_told_one), (ad_told_a, .inl (cI, 6, .inl a_told_a)), (ad_told_b, .inl (cI, 6, .inl a_told_b)), (ad_now, oX3 v_now_forgotten v_now_touches v_now_trapped v_now_one v_now_date), (ad_ways, oX6 ad_ways_ranked ad_ways_tens (0 : Int32) v_ways_trapped), (ad_ways_ranked, .inl (cI, 6, .inl a_ways_ranked)), (ad_ways_tens, .inl (cI, 6, .inl a_ways_tens))] := hD
  refine lv_aload_n hx hb (dt uX7_waysNow 4 rfl) rfl (lv_at hl 0 rfl) ?_
  refine va_get (D := (dC, dI)) (ci := 7) (v := .ref ad_ways) (C := RX7) (T := TX7) (N := 10) hx hb hts inU7 hown hK hP 0 rfl rfl 8 (by decide) (hts _ tw_173) (fun _ h9 => h9) rfl (dt uX7_waysNow 5 rfl) ?_
  refine lv_aload_n hx hb (dt uX7_waysNow 6 rfl) rfl (lv_at hl 0 rfl) ?_
  refine va_get (D := (dC, dI)) (ci := 7) (v := .ref ad_now) (C := RX7) (T := TX7) (N := 10) hx hb hts inU7 hown hK hP 0 rfl rfl 3 (by decide) (hts _ tw_122) (fun _ h9 => h9) rfl (dt uX7_waysNow 7 rfl) ?_
  refine va_getN (D := (dC, dI)) (ci := 3) (v := .int v_now_trapped) (C := RX3) (T := TX3) (N := 5) hx hb hts inU3 hown hK hP 4 rfl rfl 2 (by decide) (nw_15 hN) (fun _ h9 => h9) rfl (dt uX7_waysNow 8 rfl) ?_
  refine va_putN (D := (dC, dI)) (ci := 6) (v := .int v_now_trapped) (ty := .int) (C := RX6) (T := TX6) (N := 4) hx hb hts inU6 tyX6 tyX6_ok nmX6 hown hK hP hD hS 5 rfl rfl 3 (by decide) (nw_30 hN) (fun _ h9 => h9) rfl (by decide +kernel) rfl rfl (Nat.le_of_ble_eq_true rfl) (dt uX7_waysNow 9 rfl) (fun H locs hP hD hS => ?_)
  have hP : va_P (dC, dI) vwCl [(ad0, oX7 ad_text ad_draft ad_told ad_now ad_history ad_firstImage ad_secondImage ad_seen ad_ways v_traced), (ad_told, oX0 ad_told_a ad_told_b v_told_size v_told_touches v_told_one), (ad_told_a, .inl (cI, 6, .inl a_told_a)), (ad_told_b, .inl (cI, 6, .inl a_told_b)), (ad_now, oX3 v_now_forgotten v_now_touches v_now_trapped v_now_one v_now_date), (ad_ways, oX6 ad_ways_ranked ad_ways_tens (0 : Int32) v_now_trapped), (ad_ways_ranked, .inl (cI, 6, .inl a_ways_ranked)), (ad_ways_tens, .inl (cI, 6, .inl a_ways_tens))] H := hP
  have hD : va_D A [(ad0, oX7 ad_text ad_draft ad_told ad_now ad_history ad_firstImage ad_secondImage ad_seen ad_ways v_traced), (ad_told, oX0 ad_told_a ad_told_b v_told_size v_told_touches v_told_one), (ad_told_a, .inl (cI, 6, .inl a_told_a)), (ad_told_b, .inl (cI, 6, .inl a_told_b)), (ad_now, oX3 v_now_forgotten v_now_touches v_now_trapped v_now_one v_now_date), (ad_ways, oX6 ad_ways_ranked ad_ways_tens (0 : Int32) v_now_trapped), (ad_ways_ranked, .inl (cI, 6, .inl a_ways_ranked)), (ad_ways_tens, .inl (cI, 6, .inl a_ways_tens))] := hD
  refine lv_iconst (v := (0 : Int32)) hx hb (dt uX7_waysNow 10 rfl) (by decide) ?_
  refine lv_istore_n (lv' := [(1, .int (0 : Int32)), (0, .ref ad0)]) hx hb (dt uX7_waysNow 11 rfl) rfl hl (by decide) rfl (fun ls hl => ?_)
  have hL24 : ∀ (n24 : Nat), ∀ (x1_1 : Int32) (w_2 : Nat → Int32) (w_3 : Nat → Int32) (w_4 : Int32) (H : Heap) (locs : List Loc) (ls : Array Slot), fX7_waysNow_L24 N a_told_a a_told_b v_told_size v_now_forgotten v_now_trapped n24 x1_1 w_2 w_3 w_4 = some q0 → va_P (dC, dI) vwCl [(ad0, oX7 ad_text ad_draft ad_told ad_now ad_history ad_firstImage ad_secondImage ad_seen ad_ways v_traced), (ad_told, oX0 ad_told_a ad_told_b v_told_size v_told_touches v_told_one), (ad_told_a, .inl (cI, 6, .inl a_told_a)), (ad_told_b, .inl (cI, 6, .inl a_told_b)), (ad_now, oX3 v_now_forgotten v_now_touches v_now_trapped v_now_one v_now_date), (ad_ways, oX6 ad_ways_ranked ad_ways_tens w_4 v_now_trapped), (ad_ways_ranked, .inl (cI, 6, .inl w_2)), (ad_ways_tens, .inl (cI, 6, .inl w_3))] H → va_D A [(ad0, oX7 ad_text ad_draft ad_told ad_now ad_history ad_firstImage ad_secondImage ad_seen ad_ways v_traced), (ad_told, oX0 ad_told_a ad_told_b v_told_size v_told_touches v_told_one), (ad_told_a, .inl (cI, 6, .inl a_told_a)), (ad_told_b, .inl (cI, 6, .inl a_told_b)), (ad_now, oX3 v_now_forgotten v_now_touches v_now_trapped v_now_one v_now_date), (ad_ways, oX6 ad_ways_ranked ad_ways_tens w_4 v_now_trapped), (ad_ways_ranked, .inl (cI, 6, .inl w_2)), (ad_ways_tens, .inl (cI, 6, .inl w_3))] → va_S A s.heap H locs → lv_has ls 2 [(0, .ref ad0), (1, .int x1_1)] → W p l e rX7_waysNow s m args below meth c H locs 0 0 Q (F0 m 24 ls []) := by
    intro n24
    induction n24 with
    | zero => intro x1_1 w_2 w_3 w_4 H locs ls hf hP hD hS hl; cases hf
    | succ n24 ih24 =>
      intro x1_1 w_2 w_3 w_4 H locs ls hf hP hD hS hl
      rw [fX7_waysNow_L24] at hf
      refine lv_iload_n hx hb (dt uX7_waysNow 12 rfl) rfl (lv_at hl 1 rfl) ?_
      refine lv_aload_n hx hb (dt uX7_waysNow 13 rfl) rfl (lv_at hl 0 rfl) ?_
      refine va_get (D := (dC, dI)) (ci := 7) (v := .ref ad_told) (C := RX7) (T := TX7) (N := 10) hx hb hts inU7 hown hK hP 0 rfl rfl 2 (by decide) (hts _ tw_118) (fun _ h9 => h9) rfl (dt uX7_waysNow 14 rfl) ?_
      refine va_getN (D := (dC, dI)) (ci := 0) (v := .int v_told_size) (C := RX0) (T := TX0) (N := 5) hx hb hts inU0 hown hK hP 1 rfl rfl 2 (by decide) (nw_7 hN) (fun _ h9 => h9) rfl (dt uX7_waysNow 15 rfl) ?_
      refine lv_icmp_ge (tgt := 57) hx hb (dt uX7_waysNow 16 rfl) (by decide) (fun c_5 => ?_) (fun c_5 => ?_)
      · have hf := vif_t c_5 hf
        refine lv_aload_n hx hb (dt uX7_waysNow 27 rfl) rfl (lv_at hl 0 rfl) ?_
        refine va_get (D := (dC, dI)) (ci := 7) (v := .ref ad_ways) (C := RX7) (T := TX7) (N := 10) hx hb hts inU7 hown hK hP 0 rfl rfl 8 (by decide) (hts _ tw_173) (fun _ h9 => h9) rfl (dt uX7_waysNow 28 rfl) ?_
        have hf := Option.some.inj hf
        subst hf
        rw [hQ]
        exact vret_r C hP hD hS (dt uX7_waysNow 29 rfl)
      · have hf := vif_f c_5 hf
        refine lv_aload_n hx hb (dt uX7_waysNow 17 rfl) rfl (lv_at hl 0 rfl) ?_
        refine va_get (D := (dC, dI)) (ci := 7) (v := .ref ad_ways) (C := RX7) (T := TX7) (N := 10) hx hb hts inU7 hown hK hP 0 rfl rfl 8 (by decide) (hts _ tw_173) (fun _ h9 => h9) rfl (dt uX7_waysNow 18 rfl) ?_
        refine lv_iload_n hx hb (dt uX7_waysNow 19 rfl) rfl (lv_at hl 1 rfl) ?_
        refine lv_aload_n hx hb (dt uX7_waysNow 20 rfl) rfl (lv_at hl 0 rfl) ?_
        refine lv_iload_n hx hb (dt uX7_waysNow 21 rfl) rfl (lv_at hl 1 rfl) ?_
        obtain ⟨q_6, hq_7, hf⟩ := vbd hf
        refine vk_i0 [0, 1, 2, 3, 4] (va_runV (As := [.int x1_1]) (rest := [.int x1_1, .ref ad_ways]) ⟨hx, hb, hml, hown, hts⟩ (kX7_written ad0 ad_text ad_draft ad_told ad_told_a ad_told_b ad_now ad_history ad_firstImage ad_secondImage ad_seen ad_ways v_traced v_told_size v_told_touches v_told_one a_told_a a_told_b v_now_forgotten v_now_touches v_now_trapped v_now_one v_now_date x1_1 q_6 hq_7 H.size) (vcwV hts tw_137 tw_138 tw_139 tw_41 tw_136 hd_X7_written rfl rfl ⟨Nat.le_of_ble_eq_true rfl, Nat.le_of_ble_eq_true rfl⟩) (vpreV hK hN hP hD [0, 1, 2, 3, 4] rfl (by decide) (ci := 7) (q0 := 0) rfl rfl) rfl rfl hl.1 rfl (lv_room (Nat.le_of_ble_eq_true rfl)) (dt uX7_waysNow 22 rfl) ⟨Nat.zero_le _, Nat.zero_le _⟩) hA hP hD hS rfl (by decide) (fun H locs hP hD hS => ?_)
        refine vk_i0 [] (va_runS (As := [.int q_6]) (rest := [.int x1_1, .ref ad_ways]) ⟨hx, hb, hml, hown, hts⟩ (kX7_tensOf q_6 _ rfl H.size) (vcwS hts tw_175 tw_176 tw_41 tw_174 hd_X7_tensOf rfl rfl ⟨Nat.le_of_ble_eq_true rfl, Nat.le_of_ble_eq_true rfl⟩) (vpreS hK hN hP hD [] rfl (by decide)) rfl rfl hl.1 rfl (lv_room (Nat.le_of_ble_eq_true rfl)) (dt uX7_waysNow 23 rfl) ⟨Nat.zero_le _, Nat.zero_le _⟩) hA hP hD hS rfl (by decide) (fun H locs hP hD hS => ?_)
        obtain ⟨q_8, hq_9, hf⟩ := vbd hf
        refine vk_v [5, 6, 7] (ws2 := [(ad0, oX7 ad_text ad_draft ad_told ad_now ad_history ad_firstImage ad_secondImage ad_seen ad_ways v_traced), (ad_told, oX0 ad_told_a ad_told_b v_told_size v_told_touches v_told_one), (ad_told_a, .inl (cI, 6, .inl a_told_a)), (ad_told_b, .inl (cI, 6, .inl a_told_b)), (ad_now, oX3 v_now_forgotten v_now_touches v_now_trapped v_now_one v_now_date), (ad_ways, oX6 ad_ways_ranked ad_ways_tens q_8.2.2 v_now_trapped), (ad_ways_ranked, .inl (cI, 6, .inl q_8.1)), (ad_ways_tens, .inl (cI, 6, .inl q_8.2.1))]) (va_runVN (As := [.int x1_1, .int (fX7_tensOf q_6)]) (rest := []) ⟨hx, hb, hml, hown, hts⟩ (kX6_rank ad_ways ad_ways_ranked ad_ways_tens w_4 v_now_trapped w_2 w_3 x1_1 (fX7_tensOf q_6) N q_8 hq_9 H.size) (vcwVN hts (nm_45 hN) tw_178 tw_179 tw_97 tw_177 hd_X6_rank rfl rfl ⟨Nat.le_of_ble_eq_true rfl, Nat.le_of_ble_eq_true rfl⟩) (vpreV hK hN hP hD [5, 6, 7] rfl (by decide) (ci := 6) (q0 := 5) rfl rfl) rfl rfl hl.1 rfl (lv_room (Nat.le_of_ble_eq_true rfl)) (dt uX7_waysNow 24 rfl) ⟨Nat.zero_le _, Nat.zero_le _⟩) hA hP hD hS rfl (by decide) rfl rfl (fun H locs hP hD hS => ?_)
        refine lv_iinc (v := x1_1 + 1) (lv' := [(1, .int (x1_1 + 1)), (0, .ref ad0)]) hx hb (dt uX7_waysNow 25 rfl) hl (k := 1) rfl rfl (by decide) rfl (fun ls hl => ?_)
        refine lv_goto (tgt := 24) hx hb (dt uX7_waysNow 26 rfl) (by decide) ?_
        exact ih24 (x1_1 + 1) q_8.1 q_8.2.1 q_8.2.2 _ _ _ hf hP hD hS (lv_sub hl [1, 0] rfl)
  exact hL24 N (0 : Int32) a_ways_ranked a_ways_tens (0 : Int32) _ _ _ hf hP hD hS (lv_sub hl [1, 0] rfl)
abbrev rX7_day : Room := { frames := 3, cells := 0, slots := 0, locals := 64 }
abbrev wX7_day : List Cond := Cond.code yX7_day cX7_day 1 (some .int) :: VT
set_option maxHeartbeats 4000000 in
set_option maxRecDepth 100000 in
theorem kX7_day (ad0 : Nat) (ad_text : Nat) (ad_draft : Nat) (ad_told : Nat) (ad_told_a : Nat) (ad_told_b : Nat) (ad_now : Nat) (ad_history : Nat) (ad_history_steps : Nat) (ad_firstImage : Nat) (ad_secondImage : Nat) (ad_seen : Nat) (ad_ways : Nat) (ad_ways_ranked : Nat) (ad_ways_tens : Nat) (v_traced : Int64) (v_told_size : Int32) (v_told_touches : Int32) (v_told_one : Int32) (a_told_a : Nat → Int32) (a_told_b : Nat → Int32) (v_now_forgotten : Int32) (v_now_touches : Int32) (v_now_trapped : Int32) (v_now_one : Int32) (v_now_date : Int32) (v_history_known : Int32) (a_history_steps : Nat → Int64) (v_ways_size : Int32) (v_ways_trapped : Int32) (a_ways_ranked : Nat → Int32) (a_ways_tens : Nat → Int32) (N : Nat) (q0 : (Int32 × Int32 × Int32 × (Nat → Int64) × Int32 × (Nat → Int32) × (Nat → Int32) × Int32 × Int32)) (hf : fX7_day N a_told_a a_told_b v_told_size v_now_forgotten v_now_touches v_now_trapped v_now_one v_now_date a_history_steps v_history_known a_ways_ranked a_ways_tens v_ways_size v_ways_trapped = some q0) : Ki l yX7_day wX7_day rX7_day (dC, dI) (vTy cI cJ cB cZ) [.ref ad0] [(ad0, oX7 ad_text ad_draft ad_told ad_now ad_history ad_firstImage ad_secondImage ad_seen ad_ways v_traced), (ad_told, oX0 ad_told_a ad_told_b v_told_size v_told_touches v_told_one), (ad_told_a, .inl (cI, 6, .inl a_told_a)), (ad_told_b, .inl (cI, 6, .inl a_told_b)), (ad_now, oX3 v_now_forgotten v_now_touches v_now_trapped v_now_one v_now_date), (ad_history, oX1 ad_history_steps v_history_known), (ad_history_steps, .inl (cJ, 10, .inr (.inl a_history_steps))), (ad_ways, oX6 ad_ways_ranked ad_ways_tens v_ways_size v_ways_trapped), (ad_ways_ranked, .inl (cI, 6, .inl a_ways_ranked)), (ad_ways_tens, .inl (cI, 6, .inl a_ways_tens))] [(ad0, oX7 ad_text ad_draft ad_told ad_now ad_history ad_firstImage ad_secondImage ad_seen ad_ways v_traced), (ad_told, oX0 ad_told_a ad_told_b v_told_size v_told_touches v_told_one), (ad_told_a, .inl (cI, 6, .inl a_told_a)), (ad_told_b, .inl (cI, 6, .inl a_told_b)), (ad_now, oX3 v_now_forgotten v_now_touches v_now_trapped q0.2.1 q0.2.2.1), (ad_history, oX1 ad_history_steps q0.2.2.2.2.1), (ad_history_steps, .inl (cJ, 10, .inr (.inl q0.2.2.2.1))), (ad_ways, oX6 ad_ways_ranked ad_ways_tens q0.2.2.2.2.2.2.2.1 q0.2.2.2.2.2.2.2.2), (ad_ways_ranked, .inl (cI, 6, .inl q0.2.2.2.2.2.1)), (ad_ways_tens, .inl (cI, 6, .inl q0.2.2.2.2.2.2.1))] q0.1 := by
  refine Ki.mk (cc := cX7_day) (maxL := 1) (ret := some .int) (by decide) (Nat.le_of_ble_eq_true rfl) ?_
  intro p e s m args below meth c A Q H locs C hQ hP hD hS ls hl
  obtain ⟨hx, hb, -, hml, hts, hown, -, hK, hN, hA⟩ := id C
  have hown : s.vm.findClass RX7 = some m.cls := hown
  have hl : lv_has ls 1 [(0, .ref ad0)] := hl
  unfold fX7_day at hf
  refine lv_aload_n hx hb (dt uX7_day 0 rfl) rfl (lv_at hl 0 rfl) ?_
  refine va_get (D := (dC, dI)) (ci := 7) (v := .ref ad_now) (C := RX7) (T := TX7) (N := 10) hx hb hts inU7 hown hK hP 0 rfl rfl 3 (by decide) (hts _ tw_122) (fun _ h9 => h9) rfl (dt uX7_day 1 rfl) ?_
  refine va_getN (D := (dC, dI)) (ci := 3) (v := .int v_now_date) (C := RX3) (T := TX3) (N := 5) hx hb hts inU3 hown hK hP 4 rfl rfl 4 (by decide) (nw_17 hN) (fun _ h9 => h9) rfl (dt uX7_day 2 rfl) ?_
  refine lv_sipush (v := (999 : Int32)) hx hb (dt uX7_day 3 rfl) (by decide) ?_
  refine lv_icmp_lt (tgt := 16) hx hb (dt uX7_day 4 rfl) (by decide) (fun c_1 => ?_) (fun c_1 => ?_)
  · have hf := vif_t c_1 hf
    refine lv_aload_n hx hb (dt uX7_day 7 rfl) rfl (lv_at hl 0 rfl) ?_
    obtain ⟨q_2, hq_3, hf⟩ := vbd hf
    refine vk_v [0, 4, 5, 6] (ws2 := [(ad0, oX7 ad_text ad_draft ad_told ad_now ad_history ad_firstImage ad_secondImage ad_seen ad_ways v_traced), (ad_told, oX0 ad_told_a ad_told_b v_told_size v_told_touches v_told_one), (ad_told_a, .inl (cI, 6, .inl a_told_a)), (ad_told_b, .inl (cI, 6, .inl a_told_b)), (ad_now, oX3 v_now_forgotten v_now_touches v_now_trapped v_now_one v_now_date), (ad_history, oX1 ad_history_steps q_2.2), (ad_history_steps, .inl (cJ, 10, .inr (.inl q_2.1))), (ad_ways, oX6 ad_ways_ranked ad_ways_tens v_ways_size v_ways_trapped), (ad_ways_ranked, .inl (cI, 6, .inl a_ways_ranked)), (ad_ways_tens, .inl (cI, 6, .inl a_ways_tens))]) (va_runV (As := []) (rest := []) ⟨hx, hb, hml, hown, hts⟩ (kX7_remember ad0 ad_text ad_draft ad_told ad_now ad_history ad_history_steps ad_firstImage ad_secondImage ad_seen ad_ways v_traced v_now_forgotten v_now_touches v_now_trapped v_now_one v_now_date v_history_known a_history_steps q_2 hq_3 H.size) (vcwV hts tw_163 tw_164 tw_165 tw_41 tw_162 hd_X7_remember rfl rfl ⟨Nat.le_of_ble_eq_true rfl, Nat.le_of_ble_eq_true rfl⟩) (vpreV hK hN hP hD [0, 4, 5, 6] rfl (by decide) (ci := 7) (q0 := 0) rfl rfl) rfl rfl hl.1 rfl (lv_room (Nat.le_of_ble_eq_true rfl)) (dt uX7_day 8 rfl) ⟨Nat.zero_le _, Nat.zero_le _⟩) hA hP hD hS rfl (by decide) rfl rfl (fun H locs hP hD hS => ?_)
    refine lv_aload_n hx hb (dt uX7_day 9 rfl) rfl (lv_at hl 0 rfl) ?_
    refine vk_z0 [0, 1, 4] (va_runV (As := []) (rest := []) ⟨hx, hb, hml, hown, hts⟩ (kX7_isSomewhere ad0 ad_text ad_draft ad_told ad_told_a ad_told_b ad_now ad_history ad_firstImage ad_secondImage ad_seen ad_ways v_traced v_told_size v_told_touches v_told_one v_now_forgotten v_now_touches v_now_trapped v_now_one v_now_date _ rfl H.size) (vcwV hts tw_181 tw_182 tw_183 tw_41 tw_180 hd_X7_isSomewhere rfl rfl ⟨Nat.le_of_ble_eq_true rfl, Nat.le_of_ble_eq_true rfl⟩) (vpreV hK hN hP hD [0, 1, 4] rfl (by decide) (ci := 7) (q0 := 0) rfl rfl) rfl rfl hl.1 rfl (lv_room (Nat.le_of_ble_eq_true rfl)) (dt uX7_day 10 rfl) ⟨Nat.zero_le _, Nat.zero_le _⟩) hA hP hD hS rfl (by decide) (fun hz_4 H locs hP hD hS => ?_)
    have hJ55 : ∀ (w_9 : Int32) (w_10 : Nat → Int32) (w_11 : Nat → Int32) (w_12 : Int32) (w_13 : Int32) (H : Heap) (locs : List Loc) (ls : Array Slot), fX7_day_J55 v_now_date q_2 w_9 w_10 w_11 w_12 w_13 = some q0 → va_P (dC, dI) vwCl [(ad0, oX7 ad_text ad_draft ad_told ad_now ad_history ad_firstImage ad_secondImage ad_seen ad_ways v_traced), (ad_told, oX0 ad_told_a ad_told_b v_told_size v_told_touches v_told_one), (ad_told_a, .inl (cI, 6, .inl a_told_a)), (ad_told_b, .inl (cI, 6, .inl a_told_b)), (ad_now, oX3 v_now_forgotten v_now_touches v_now_trapped w_9 v_now_date), (ad_history, oX1 ad_history_steps q_2.2), (ad_history_steps, .inl (cJ, 10, .inr (.inl q_2.1))), (ad_ways, oX6 ad_ways_ranked ad_ways_tens w_12 w_13), (ad_ways_ranked, .inl (cI, 6, .inl w_10)), (ad_ways_tens, .inl (cI, 6, .inl w_11))] H → va_D A [(ad0, oX7 ad_text ad_draft ad_told ad_now ad_history ad_firstImage ad_secondImage ad_seen ad_ways v_traced), (ad_told, oX0 ad_told_a ad_told_b v_told_size v_told_touches v_told_one), (ad_told_a, .inl (cI, 6, .inl a_told_a)), (ad_told_b, .inl (cI, 6, .inl a_told_b)), (ad_now, oX3 v_now_forgotten v_now_touches v_now_trapped w_9 v_now_date), (ad_history, oX1 ad_history_steps q_2.2), (ad_history_steps, .inl (cJ, 10, .inr (.inl q_2.1))), (ad_ways, oX6 ad_ways_ranked ad_ways_tens w_12 w_13), (ad_ways_ranked, .inl (cI, 6, .inl w_10)), (ad_ways_tens, .inl (cI, 6, .inl w_11))] → va_S A s.heap H locs → lv_has ls 1 [(0, .ref ad0)] → W p l e rX7_day s m args below meth c H locs 0 0 Q (F0 m 55 ls []) := by
      intro w_9 w_10 w_11 w_12 w_13 H locs ls hf hP hD hS hl
      unfold fX7_day_J55 at hf
      refine lv_aload_n hx hb (dt uX7_day 24 rfl) rfl (lv_at hl 0 rfl) ?_
      refine va_get (D := (dC, dI)) (ci := 7) (v := .ref ad_now) (C := RX7) (T := TX7) (N := 10) hx hb hts inU7 hown hK hP 0 rfl rfl 3 (by decide) (hts _ tw_122) (fun _ h9 => h9) rfl (dt uX7_day 25 rfl) ?_
      refine lv_dup hx hb (dt uX7_day 26 rfl) rfl ?_
      refine va_getN (D := (dC, dI)) (ci := 3) (v := .int v_now_date) (C := RX3) (T := TX3) (N := 5) hx hb hts inU3 hown hK hP 4 rfl rfl 4 (by decide) (nw_17 hN) (fun _ h9 => h9) rfl (dt uX7_day 27 rfl) ?_
      refine lv_iconst (v := (1 : Int32)) hx hb (dt uX7_day 28 rfl) (by decide) ?_
      refine lv_iadd hx hb (dt uX7_day 29 rfl) ?_
      refine va_putN (D := (dC, dI)) (ci := 3) (v := .int (v_now_date + (1 : Int32))) (ty := .int) (C := RX3) (T := TX3) (N := 5) hx hb hts inU3 tyX3 tyX3_ok nmX3 hown hK hP hD hS 4 rfl rfl 4 (by decide) (nw_17 hN) (fun _ h9 => h9) rfl (by decide +kernel) rfl rfl (Nat.le_of_ble_eq_true rfl) (dt uX7_day 30 rfl) (fun H locs hP hD hS => ?_)
      have hP : va_P (dC, dI) vwCl [(ad0, oX7 ad_text ad_draft ad_told ad_now ad_history ad_firstImage ad_secondImage ad_seen ad_ways v_traced), (ad_told, oX0 ad_told_a ad_told_b v_told_size v_told_touches v_told_one), (ad_told_a, .inl (cI, 6, .inl a_told_a)), (ad_told_b, .inl (cI, 6, .inl a_told_b)), (ad_now, oX3 v_now_forgotten v_now_touches v_now_trapped w_9 (v_now_date + (1 : Int32))), (ad_history, oX1 ad_history_steps q_2.2), (ad_history_steps, .inl (cJ, 10, .inr (.inl q_2.1))), (ad_ways, oX6 ad_ways_ranked ad_ways_tens w_12 w_13), (ad_ways_ranked, .inl (cI, 6, .inl w_10)), (ad_ways_tens, .inl (cI, 6, .inl w_11))] H := hP
      have hD : va_D A [(ad0, oX7 ad_text ad_draft ad_told ad_now ad_history ad_firstImage ad_secondImage ad_seen ad_ways v_traced), (ad_told, oX0 ad_told_a ad_told_b v_told_size v_told_touches v_told_one), (ad_told_a, .inl (cI, 6, .inl a_told_a)), (ad_told_b, .inl (cI, 6, .inl a_told_b)), (ad_now, oX3 v_now_forgotten v_now_touches v_now_trapped w_9 (v_now_date + (1 : Int32))), (ad_history, oX1 ad_history_steps q_2.2), (ad_history_steps, .inl (cJ, 10, .inr (.inl q_2.1))), (ad_ways, oX6 ad_ways_ranked ad_ways_tens w_12 w_13), (ad_ways_ranked, .inl (cI, 6, .inl w_10)), (ad_ways_tens, .inl (cI, 6, .inl w_11))] := hD
      refine lv_aload_n hx hb (dt uX7_day 31 rfl) rfl (lv_at hl 0 rfl) ?_
      refine va_get (D := (dC, dI)) (ci := 7) (v := .ref ad_now) (C := RX7) (T := TX7) (N := 10) hx hb hts inU7 hown hK hP 0 rfl rfl 3 (by decide) (hts _ tw_122) (fun _ h9 => h9) rfl (dt uX7_day 32 rfl) ?_
      refine va_getN (D := (dC, dI)) (ci := 3) (v := .int w_9) (C := RX3) (T := TX3) (N := 5) hx hb hts inU3 hown hK hP 4 rfl rfl 3 (by decide) (nw_16 hN) (fun _ h9 => h9) rfl (dt uX7_day 33 rfl) ?_
      have hf := Option.some.inj hf
      subst hf
      rw [hQ]
      exact vret_i C hP hD hS (dt uX7_day 34 rfl)
    refine lv_if_eq (tgt := 55) hx hb (dt uX7_day 11 rfl) (by decide) (fun c_14 => ?_) (fun c_14 => ?_)
    · have hf := vif_t c_14 hf
      exact hJ55 v_now_one a_ways_ranked a_ways_tens v_ways_size v_ways_trapped _ _ _ hf hP hD hS (lv_sub hl [0] rfl)
    · have hf := vif_f c_14 hf
      refine lv_aload_n hx hb (dt uX7_day 12 rfl) rfl (lv_at hl 0 rfl) ?_
      refine va_get (D := (dC, dI)) (ci := 7) (v := .ref ad_now) (C := RX7) (T := TX7) (N := 10) hx hb hts inU7 hown hK hP 0 rfl rfl 3 (by decide) (hts _ tw_122) (fun _ h9 => h9) rfl (dt uX7_day 13 rfl) ?_
      refine lv_aload_n hx hb (dt uX7_day 14 rfl) rfl (lv_at hl 0 rfl) ?_
      obtain ⟨q_15, hq_16, hf⟩ := vbd hf
      refine vk_r [0, 1, 2, 3, 4, 7, 8, 9] (ws2 := [(ad0, oX7 ad_text ad_draft ad_told ad_now ad_history ad_firstImage ad_secondImage ad_seen ad_ways v_traced), (ad_told, oX0 ad_told_a ad_told_b v_told_size v_told_touches v_told_one), (ad_told_a, .inl (cI, 6, .inl a_told_a)), (ad_told_b, .inl (cI, 6, .inl a_told_b)), (ad_now, oX3 v_now_forgotten v_now_touches v_now_trapped v_now_one v_now_date), (ad_history, oX1 ad_history_steps q_2.2), (ad_history_steps, .inl (cJ, 10, .inr (.inl q_2.1))), (ad_ways, oX6 ad_ways_ranked ad_ways_tens q_15.2.2.1 q_15.2.2.2), (ad_ways_ranked, .inl (cI, 6, .inl q_15.1)), (ad_ways_tens, .inl (cI, 6, .inl q_15.2.1))]) (va_runV (As := []) (rest := [.ref ad_now]) ⟨hx, hb, hml, hown, hts⟩ (kX7_waysNow ad0 ad_text ad_draft ad_told ad_told_a ad_told_b ad_now ad_history ad_firstImage ad_secondImage ad_seen ad_ways ad_ways_ranked ad_ways_tens v_traced v_told_size v_told_touches v_told_one a_told_a a_told_b v_now_forgotten v_now_touches v_now_trapped v_now_one v_now_date v_ways_size v_ways_trapped a_ways_ranked a_ways_tens N q_15 hq_16 H.size) (vcwV hts tw_185 tw_186 tw_187 tw_41 tw_184 hd_X7_waysNow rfl rfl ⟨Nat.le_of_ble_eq_true rfl, Nat.le_of_ble_eq_true rfl⟩) (vpreV hK hN hP hD [0, 1, 2, 3, 4, 7, 8, 9] rfl (by decide) (ci := 7) (q0 := 0) rfl rfl) rfl rfl hl.1 rfl (lv_room (Nat.le_of_ble_eq_true rfl)) (dt uX7_day 15 rfl) ⟨Nat.zero_le _, Nat.zero_le _⟩) hA hP hD hS rfl (by decide) rfl rfl (fun H locs hP hD hS => ?_)
      refine lv_aload_n hx hb (dt uX7_day 16 rfl) rfl (lv_at hl 0 rfl) ?_
      refine va_get (D := (dC, dI)) (ci := 7) (v := .ref ad_now) (C := RX7) (T := TX7) (N := 10) hx hb hts inU7 hown hK hP 0 rfl rfl 3 (by decide) (hts _ tw_122) (fun _ h9 => h9) rfl (dt uX7_day 17 rfl) ?_
      refine va_getN (D := (dC, dI)) (ci := 3) (v := .int v_now_one) (C := RX3) (T := TX3) (N := 5) hx hb hts inU3 hown hK hP 4 rfl rfl 3 (by decide) (nw_16 hN) (fun _ h9 => h9) rfl (dt uX7_day 18 rfl) ?_
      refine lv_aload_n hx hb (dt uX7_day 19 rfl) rfl (lv_at hl 0 rfl) ?_
      refine va_get (D := (dC, dI)) (ci := 7) (v := .ref ad_now) (C := RX7) (T := TX7) (N := 10) hx hb hts inU7 hown hK hP 0 rfl rfl 3 (by decide) (hts _ tw_122) (fun _ h9 => h9) rfl (dt uX7_day 20 rfl) ?_
      refine va_getN (D := (dC, dI)) (ci := 3) (v := .int v_now_touches) (C := RX3) (T := TX3) (N := 5) hx hb hts inU3 hown hK hP 4 rfl rfl 1 (by decide) (nw_14 hN) (fun _ h9 => h9) rfl (dt uX7_day 21 rfl) ?_
      obtain ⟨q_17, hq_18, hf⟩ := vbd hf
      refine vk_i0 [7, 8] (va_runVN (As := [.int v_now_one, .int v_now_touches]) (rest := [.ref ad_now]) ⟨hx, hb, hml, hown, hts⟩ (kX6_goesTo ad_ways ad_ways_ranked ad_ways_tens q_15.2.2.1 q_15.2.2.2 q_15.1 v_now_one v_now_touches N q_17 hq_18 H.size) (vcwVN hts (nm_46 hN) tw_100 tw_101 tw_97 tw_98 hd_X6_goesTo rfl rfl ⟨Nat.le_of_ble_eq_true rfl, Nat.le_of_ble_eq_true rfl⟩) (vpreV hK hN hP hD [7, 8] rfl (by decide) (ci := 6) (q0 := 7) rfl rfl) rfl rfl hl.1 rfl (lv_room (Nat.le_of_ble_eq_true rfl)) (dt uX7_day 22 rfl) ⟨Nat.zero_le _, Nat.zero_le _⟩) hA hP hD hS rfl (by decide) (fun H locs hP hD hS => ?_)
      refine va_putN (D := (dC, dI)) (ci := 3) (v := .int q_17) (ty := .int) (C := RX3) (T := TX3) (N := 5) hx hb hts inU3 tyX3 tyX3_ok nmX3 hown hK hP hD hS 4 rfl rfl 3 (by decide) (nw_16 hN) (fun _ h9 => h9) rfl (by decide +kernel) rfl rfl (Nat.le_of_ble_eq_true rfl) (dt uX7_day 23 rfl) (fun H locs hP hD hS => ?_)
      have hP : va_P (dC, dI) vwCl [(ad0, oX7 ad_text ad_draft ad_told ad_now ad_history ad_firstImage ad_secondImage ad_seen ad_ways v_traced), (ad_told, oX0 ad_told_a ad_told_b v_told_size v_told_touches v_told_one), (ad_told_a, .inl (cI, 6, .inl a_told_a)), (ad_told_b, .inl (cI, 6, .inl a_told_b)), (ad_now, oX3 v_now_forgotten v_now_touches v_now_trapped q_17 v_now_date), (ad_history, oX1 ad_history_steps q_2.2), (ad_history_steps, .inl (cJ, 10, .inr (.inl q_2.1))), (ad_ways, oX6 ad_ways_ranked ad_ways_tens q_15.2.2.1 q_15.2.2.2), (ad_ways_ranked, .inl (cI, 6, .inl q_15.1)), (ad_ways_tens, .inl (cI, 6, .inl q_15.2.1))] H := hP
      have hD : va_D A [(ad0, oX7 ad_text ad_draft ad_told ad_now ad_history ad_firstImage ad_secondImage ad_seen ad_ways v_traced), (ad_told, oX0 ad_told_a ad_told_b v_told_size v_told_touches v_told_one), (ad_told_a, .inl (cI, 6, .inl a_told_a)), (ad_told_b, .inl (cI, 6, .inl a_told_b)), (ad_now, oX3 v_now_forgotten v_now_touches v_now_trapped q_17 v_now_date), (ad_history, oX1 ad_history_steps q_2.2), (ad_history_steps, .inl (cJ, 10, .inr (.inl q_2.1))), (ad_ways, oX6 ad_ways_ranked ad_ways_tens q_15.2.2.1 q_15.2.2.2), (ad_ways_ranked, .inl (cI, 6, .inl q_15.1)), (ad_ways_tens, .inl (cI, 6, .inl q_15.2.1))] := hD
      exact hJ55 q_17 q_15.1 q_15.2.1 q_15.2.2.1 q_15.2.2.2 _ _ _ hf hP hD hS (lv_sub hl [0] rfl)
  · have hf := vif_f c_1 hf
    refine lv_bipush (v := (-2 : Int32)) hx hb (dt uX7_day 5 rfl) (by decide) ?_
    have hf := Option.some.inj hf
    subst hf
    rw [hQ]
    exact vret_i C hP hD hS (dt uX7_day 6 rfl)
abbrev rX7_undo : Room := { frames := 2, cells := 0, slots := 0, locals := 46 }
abbrev wX7_undo : List Cond := Cond.code yX7_undo cX7_undo 1 (some .int) :: VT
set_option maxHeartbeats 4000000 in
set_option maxRecDepth 100000 in
theorem kX7_undo (ad0 : Nat) (ad_text : Nat) (ad_draft : Nat) (ad_told : Nat) (ad_now : Nat) (ad_history : Nat) (ad_history_steps : Nat) (ad_firstImage : Nat) (ad_secondImage : Nat) (ad_seen : Nat) (ad_ways : Nat) (v_traced : Int64) (v_now_forgotten : Int32) (v_now_touches : Int32) (v_now_trapped : Int32) (v_now_one : Int32) (v_now_date : Int32) (v_history_known : Int32) (a_history_steps : Nat → Int64) (q0 : (Int32 × Int32 × Int32 × Int32 × Int32 × Int32 × Int32)) (hf : fX7_undo v_now_forgotten v_now_touches v_now_trapped v_now_one v_now_date a_history_steps v_history_known = some q0) : Ki l yX7_undo wX7_undo rX7_undo (dC, dI) (vTy cI cJ cB cZ) [.ref ad0] [(ad0, oX7 ad_text ad_draft ad_told ad_now ad_history ad_firstImage ad_secondImage ad_seen ad_ways v_traced), (ad_now, oX3 v_now_forgotten v_now_touches v_now_trapped v_now_one v_now_date), (ad_history, oX1 ad_history_steps v_history_known), (ad_history_steps, .inl (cJ, 10, .inr (.inl a_history_steps)))] [(ad0, oX7 ad_text ad_draft ad_told ad_now ad_history ad_firstImage ad_secondImage ad_seen ad_ways v_traced), (ad_now, oX3 q0.2.1 q0.2.2.1 q0.2.2.2.1 q0.2.2.2.2.1 q0.2.2.2.2.2.1), (ad_history, oX1 ad_history_steps q0.2.2.2.2.2.2), (ad_history_steps, .inl (cJ, 10, .inr (.inl a_history_steps)))] q0.1 := by
  refine Ki.mk (cc := cX7_undo) (maxL := 1) (ret := some .int) (by decide) (Nat.le_of_ble_eq_true rfl) ?_
  intro p e s m args below meth c A Q H locs C hQ hP hD hS ls hl
  obtain ⟨hx, hb, -, hml, hts, hown, -, hK, hN, hA⟩ := id C
  have hown : s.vm.findClass RX7 = some m.cls := hown
  have hl : lv_has ls 1 [(0, .ref ad0)] := hl
  unfold fX7_undo at hf
  refine lv_aload_n hx hb (dt uX7_undo 0 rfl) rfl (lv_at hl 0 rfl) ?_
  refine va_get (D := (dC, dI)) (ci := 7) (v := .ref ad_history) (C := RX7) (T := TX7) (N := 10) hx hb hts inU7 hown hK hP 0 rfl rfl 4 (by decide) (hts _ tw_126) (fun _ h9 => h9) rfl (dt uX7_undo 1 rfl) ?_
  refine va_getN (D := (dC, dI)) (ci := 1) (v := .int v_history_known) (C := RX1) (T := TX1) (N := 2) hx hb hts inU1 hown hK hP 2 rfl rfl 1 (by decide) (nw_19 hN) (fun _ h9 => h9) rfl (dt uX7_undo 2 rfl) ?_
  refine lv_if_ne (tgt := 13) hx hb (dt uX7_undo 3 rfl) (by decide) (fun c_1 => ?_) (fun c_1 => ?_)
  · have hf := vif_f c_1 hf
    refine lv_aload_n hx hb (dt uX7_undo 6 rfl) rfl (lv_at hl 0 rfl) ?_
    refine va_get (D := (dC, dI)) (ci := 7) (v := .ref ad_now) (C := RX7) (T := TX7) (N := 10) hx hb hts inU7 hown hK hP 0 rfl rfl 3 (by decide) (hts _ tw_122) (fun _ h9 => h9) rfl (dt uX7_undo 7 rfl) ?_
    refine lv_aload_n hx hb (dt uX7_undo 8 rfl) rfl (lv_at hl 0 rfl) ?_
    refine va_get (D := (dC, dI)) (ci := 7) (v := .ref ad_history) (C := RX7) (T := TX7) (N := 10) hx hb hts inU7 hown hK hP 0 rfl rfl 4 (by decide) (hts _ tw_126) (fun _ h9 => h9) rfl (dt uX7_undo 9 rfl) ?_
    obtain ⟨q_2, hq_3, hf⟩ := vbd hf
    refine vk_l [2, 3] (ws2 := [(ad0, oX7 ad_text ad_draft ad_told ad_now ad_history ad_firstImage ad_secondImage ad_seen ad_ways v_traced), (ad_now, oX3 v_now_forgotten v_now_touches v_now_trapped v_now_one v_now_date), (ad_history, oX1 ad_history_steps q_2.2), (ad_history_steps, .inl (cJ, 10, .inr (.inl a_history_steps)))]) (va_runVN (As := []) (rest := [.ref ad_now]) ⟨hx, hb, hml, hown, hts⟩ (kX1_takeLatest ad_history ad_history_steps v_history_known a_history_steps q_2 hq_3 H.size) (vcwVN hts (nm_48 hN) tw_189 tw_190 tw_22 tw_188 hd_X1_takeLatest rfl rfl ⟨Nat.le_of_ble_eq_true rfl, Nat.le_of_ble_eq_true rfl⟩) (vpreV hK hN hP hD [2, 3] rfl (by decide) (ci := 1) (q0 := 2) rfl rfl) rfl rfl hl.1 rfl (lv_room (Nat.le_of_ble_eq_true rfl)) (dt uX7_undo 10 rfl) ⟨Nat.zero_le _, Nat.zero_le _⟩) hA hP hD hS rfl (by decide) rfl rfl (fun H locs hP hD hS => ?_)
    refine vk_v [1] (ws2 := [(ad0, oX7 ad_text ad_draft ad_told ad_now ad_history ad_firstImage ad_secondImage ad_seen ad_ways v_traced), (ad_now, oX3 ((fX3_unpack v_now_forgotten v_now_touches v_now_trapped v_now_one v_now_date q_2.1).1) ((fX3_unpack v_now_forgotten v_now_touches v_now_trapped v_now_one v_now_date q_2.1).2.1) ((fX3_unpack v_now_forgotten v_now_touches v_now_trapped v_now_one v_now_date q_2.1).2.2.1) ((fX3_unpack v_now_forgotten v_now_touches v_now_trapped v_now_one v_now_date q_2.1).2.2.2.1) ((fX3_unpack v_now_forgotten v_now_touches v_now_trapped v_now_one v_now_date q_2.1).2.2.2.2)), (ad_history, oX1 ad_history_steps q_2.2), (ad_history_steps, .inl (cJ, 10, .inr (.inl a_history_steps)))]) (va_runVN (As := [.long q_2.1]) (rest := []) ⟨hx, hb, hml, hown, hts⟩ (kX3_unpack ad_now v_now_forgotten v_now_touches v_now_trapped v_now_one v_now_date q_2.1 _ rfl H.size) (vcwVN hts (nm_49 hN) tw_31 tw_32 tw_16 tw_30 hd_X3_unpack rfl rfl ⟨Nat.le_of_ble_eq_true rfl, Nat.le_of_ble_eq_true rfl⟩) (vpreV hK hN hP hD [1] rfl (by decide) (ci := 3) (q0 := 1) rfl rfl) rfl rfl hl.1 rfl (lv_room (Nat.le_of_ble_eq_true rfl)) (dt uX7_undo 11 rfl) ⟨Nat.zero_le _, Nat.zero_le _⟩) hA hP hD hS rfl (by decide) rfl rfl (fun H locs hP hD hS => ?_)
    refine lv_aload_n hx hb (dt uX7_undo 12 rfl) rfl (lv_at hl 0 rfl) ?_
    refine va_get (D := (dC, dI)) (ci := 7) (v := .ref ad_history) (C := RX7) (T := TX7) (N := 10) hx hb hts inU7 hown hK hP 0 rfl rfl 4 (by decide) (hts _ tw_126) (fun _ h9 => h9) rfl (dt uX7_undo 13 rfl) ?_
    refine va_getN (D := (dC, dI)) (ci := 1) (v := .int q_2.2) (C := RX1) (T := TX1) (N := 2) hx hb hts inU1 hown hK hP 2 rfl rfl 1 (by decide) (nw_19 hN) (fun _ h9 => h9) rfl (dt uX7_undo 14 rfl) ?_
    have hf := Option.some.inj hf
    subst hf
    rw [hQ]
    exact vret_i C hP hD hS (dt uX7_undo 15 rfl)
  · have hf := vif_t c_1 hf
    refine lv_bipush (v := (-2 : Int32)) hx hb (dt uX7_undo 4 rfl) (by decide) ?_
    have hf := Option.some.inj hf
    subst hf
    rw [hQ]
    exact vret_i C hP hD hS (dt uX7_undo 5 rfl)
abbrev rX7_shownTogether : Room := { frames := 3, cells := 0, slots := 0, locals := 64 }
abbrev wX7_shownTogether : List Cond := Cond.code yX7_shownTogether cX7_shownTogether 3 (some .int) :: VT
set_option maxHeartbeats 4000000 in
set_option maxRecDepth 100000 in
theorem kX7_shownTogether (ad0 : Nat) (ad_text : Nat) (ad_draft : Nat) (ad_told : Nat) (ad_told_a : Nat) (ad_told_b : Nat) (ad_now : Nat) (ad_history : Nat) (ad_firstImage : Nat) (ad_secondImage : Nat) (ad_seen : Nat) (ad_ways : Nat) (v_traced : Int64) (v_told_size : Int32) (v_told_touches : Int32) (v_told_one : Int32) (a_told_a : Nat → Int32) (a_told_b : Nat → Int32) (v_now_forgotten : Int32) (v_now_touches : Int32) (v_now_trapped : Int32) (v_now_one : Int32) (v_now_date : Int32) (N : Nat) (q0 : Int32) (hf : fX7_shownTogether N a_told_a a_told_b v_told_size v_now_forgotten v_now_one = some q0) : Ki l yX7_shownTogether wX7_shownTogether rX7_shownTogether (dC, dI) (vTy cI cJ cB cZ) [.ref ad0] [(ad0, oX7 ad_text ad_draft ad_told ad_now ad_history ad_firstImage ad_secondImage ad_seen ad_ways v_traced), (ad_told, oX0 ad_told_a ad_told_b v_told_size v_told_touches v_told_one), (ad_told_a, .inl (cI, 6, .inl a_told_a)), (ad_told_b, .inl (cI, 6, .inl a_told_b)), (ad_now, oX3 v_now_forgotten v_now_touches v_now_trapped v_now_one v_now_date)] [(ad0, oX7 ad_text ad_draft ad_told ad_now ad_history ad_firstImage ad_secondImage ad_seen ad_ways v_traced), (ad_told, oX0 ad_told_a ad_told_b v_told_size v_told_touches v_told_one), (ad_told_a, .inl (cI, 6, .inl a_told_a)), (ad_told_b, .inl (cI, 6, .inl a_told_b)), (ad_now, oX3 v_now_forgotten v_now_touches v_now_trapped v_now_one v_now_date)] q0 := by
  refine Ki.mk (cc := cX7_shownTogether) (maxL := 3) (ret := some .int) (by decide) (Nat.le_of_ble_eq_true rfl) ?_
  intro p e s m args below meth c A Q H locs C hQ hP hD hS ls hl
  obtain ⟨hx, hb, -, hml, hts, hown, -, hK, hN, hA⟩ := id C
  have hown : s.vm.findClass RX7 = some m.cls := hown
  have hl : lv_has ls 3 [(0, .ref ad0)] := hl
  unfold fX7_shownTogether at hf
  refine lv_iconst (v := (0 : Int32)) hx hb (dt uX7_shownTogether 0 rfl) (by decide) ?_
  refine lv_istore_n (lv' := [(1, .int (0 : Int32)), (0, .ref ad0)]) hx hb (dt uX7_shownTogether 1 rfl) rfl hl (by decide) rfl (fun ls hl => ?_)
  refine lv_iconst (v := (0 : Int32)) hx hb (dt uX7_shownTogether 2 rfl) (by decide) ?_
  refine lv_istore_n (lv' := [(2, .int (0 : Int32)), (1, .int (0 : Int32)), (0, .ref ad0)]) hx hb (dt uX7_shownTogether 3 rfl) rfl hl (by decide) rfl (fun ls hl => ?_)
  have hL4 : ∀ (n4 : Nat), ∀ (x1_1 : Int32) (x2_2 : Int32) (H : Heap) (locs : List Loc) (ls : Array Slot), fX7_shownTogether_L4 a_told_a a_told_b v_told_size v_now_forgotten v_now_one n4 x1_1 x2_2 = some q0 → va_P (dC, dI) vwCl [(ad0, oX7 ad_text ad_draft ad_told ad_now ad_history ad_firstImage ad_secondImage ad_seen ad_ways v_traced), (ad_told, oX0 ad_told_a ad_told_b v_told_size v_told_touches v_told_one), (ad_told_a, .inl (cI, 6, .inl a_told_a)), (ad_told_b, .inl (cI, 6, .inl a_told_b)), (ad_now, oX3 v_now_forgotten v_now_touches v_now_trapped v_now_one v_now_date)] H → va_D A [(ad0, oX7 ad_text ad_draft ad_told ad_now ad_history ad_firstImage ad_secondImage ad_seen ad_ways v_traced), (ad_told, oX0 ad_told_a ad_told_b v_told_size v_told_touches v_told_one), (ad_told_a, .inl (cI, 6, .inl a_told_a)), (ad_told_b, .inl (cI, 6, .inl a_told_b)), (ad_now, oX3 v_now_forgotten v_now_touches v_now_trapped v_now_one v_now_date)] → va_S A s.heap H locs → lv_has ls 3 [(0, .ref ad0), (1, .int x1_1), (2, .int x2_2)] → W p l e rX7_shownTogether s m args below meth c H locs 0 0 Q (F0 m 4 ls []) := by
    intro n4
    induction n4 with
    | zero => intro x1_1 x2_2 H locs ls hf hP hD hS hl; cases hf
    | succ n4 ih4 =>
      intro x1_1 x2_2 H locs ls hf hP hD hS hl
      rw [fX7_shownTogether_L4] at hf
      refine lv_iload_n hx hb (dt uX7_shownTogether 4 rfl) rfl (lv_at hl 2 rfl) ?_
      refine lv_aload_n hx hb (dt uX7_shownTogether 5 rfl) rfl (lv_at hl 0 rfl) ?_
      refine va_get (D := (dC, dI)) (ci := 7) (v := .ref ad_told) (C := RX7) (T := TX7) (N := 10) hx hb hts inU7 hown hK hP 0 rfl rfl 2 (by decide) (hts _ tw_118) (fun _ h9 => h9) rfl (dt uX7_shownTogether 6 rfl) ?_
      refine va_getN (D := (dC, dI)) (ci := 0) (v := .int v_told_size) (C := RX0) (T := TX0) (N := 5) hx hb hts inU0 hown hK hP 1 rfl rfl 2 (by decide) (nw_7 hN) (fun _ h9 => h9) rfl (dt uX7_shownTogether 7 rfl) ?_
      refine lv_icmp_ge (tgt := 29) hx hb (dt uX7_shownTogether 8 rfl) (by decide) (fun c_3 => ?_) (fun c_3 => ?_)
      · have hf := vif_t c_3 hf
        refine lv_iload_n hx hb (dt uX7_shownTogether 17 rfl) rfl (lv_at hl 1 rfl) ?_
        have hf := Option.some.inj hf
        subst hf
        rw [hQ]
        exact vret_i C hP hD hS (dt uX7_shownTogether 18 rfl)
      · have hf := vif_f c_3 hf
        refine lv_iload_n hx hb (dt uX7_shownTogether 9 rfl) rfl (lv_at hl 1 rfl) ?_
        refine lv_aload_n hx hb (dt uX7_shownTogether 10 rfl) rfl (lv_at hl 0 rfl) ?_
        refine lv_iload_n hx hb (dt uX7_shownTogether 11 rfl) rfl (lv_at hl 2 rfl) ?_
        obtain ⟨q_4, hq_5, hf⟩ := vbd hf
        refine vk_i0 [0, 1, 2, 3, 4] (va_runV (As := [.int x2_2]) (rest := [.int x1_1]) ⟨hx, hb, hml, hown, hts⟩ (kX7_shown ad0 ad_text ad_draft ad_told ad_told_a ad_told_b ad_now ad_history ad_firstImage ad_secondImage ad_seen ad_ways v_traced v_told_size v_told_touches v_told_one a_told_a a_told_b v_now_forgotten v_now_touches v_now_trapped v_now_one v_now_date x2_2 q_4 hq_5 H.size) (vcwV hts tw_146 tw_147 tw_148 tw_41 tw_145 hd_X7_shown rfl rfl ⟨Nat.le_of_ble_eq_true rfl, Nat.le_of_ble_eq_true rfl⟩) (vpreV hK hN hP hD [0, 1, 2, 3, 4] rfl (by decide) (ci := 7) (q0 := 0) rfl rfl) rfl rfl hl.1 rfl (lv_room (Nat.le_of_ble_eq_true rfl)) (dt uX7_shownTogether 12 rfl) ⟨Nat.zero_le _, Nat.zero_le _⟩) hA hP hD hS rfl (by decide) (fun H locs hP hD hS => ?_)
        refine lv_iadd hx hb (dt uX7_shownTogether 13 rfl) ?_
        refine lv_istore_n (lv' := [(1, .int (x1_1 + q_4)), (0, .ref ad0), (2, .int x2_2)]) hx hb (dt uX7_shownTogether 14 rfl) rfl hl (by decide) rfl (fun ls hl => ?_)
        refine lv_iinc (v := x2_2 + 1) (lv' := [(2, .int (x2_2 + 1)), (1, .int (x1_1 + q_4)), (0, .ref ad0)]) hx hb (dt uX7_shownTogether 15 rfl) hl (k := 2) rfl rfl (by decide) rfl (fun ls hl => ?_)
        refine lv_goto (tgt := 4) hx hb (dt uX7_shownTogether 16 rfl) (by decide) ?_
        exact ih4 (x1_1 + q_4) (x2_2 + 1) _ _ _ hf hP hD hS (lv_sub hl [2, 1, 0] rfl)
  exact hL4 N (0 : Int32) (0 : Int32) _ _ _ hf hP hD hS (lv_sub hl [2, 1, 0] rfl)
abbrev rX7_summedTogether : Room := { frames := 1, cells := 0, slots := 0, locals := 21 }
abbrev wX7_summedTogether : List Cond := Cond.code yX7_summedTogether cX7_summedTogether 3 (some .int) :: VT
set_option maxHeartbeats 4000000 in
set_option maxRecDepth 100000 in
theorem kX7_summedTogether (ad0 : Nat) (ad_text : Nat) (ad_draft : Nat) (ad_told : Nat) (ad_told_a : Nat) (ad_told_b : Nat) (ad_now : Nat) (ad_history : Nat) (ad_firstImage : Nat) (ad_secondImage : Nat) (ad_seen : Nat) (ad_ways : Nat) (v_traced : Int64) (v_told_size : Int32) (v_told_touches : Int32) (v_told_one : Int32) (a_told_a : Nat → Int32) (a_told_b : Nat → Int32) (N : Nat) (q0 : Int32) (hf : fX7_summedTogether N a_told_a a_told_b v_told_size = some q0) : Ki l yX7_summedTogether wX7_summedTogether rX7_summedTogether (dC, dI) (vTy cI cJ cB cZ) [.ref ad0] [(ad0, oX7 ad_text ad_draft ad_told ad_now ad_history ad_firstImage ad_secondImage ad_seen ad_ways v_traced), (ad_told, oX0 ad_told_a ad_told_b v_told_size v_told_touches v_told_one), (ad_told_a, .inl (cI, 6, .inl a_told_a)), (ad_told_b, .inl (cI, 6, .inl a_told_b))] [(ad0, oX7 ad_text ad_draft ad_told ad_now ad_history ad_firstImage ad_secondImage ad_seen ad_ways v_traced), (ad_told, oX0 ad_told_a ad_told_b v_told_size v_told_touches v_told_one), (ad_told_a, .inl (cI, 6, .inl a_told_a)), (ad_told_b, .inl (cI, 6, .inl a_told_b))] q0 := by
  refine Ki.mk (cc := cX7_summedTogether) (maxL := 3) (ret := some .int) (by decide) (Nat.le_of_ble_eq_true rfl) ?_
  intro p e s m args below meth c A Q H locs C hQ hP hD hS ls hl
  obtain ⟨hx, hb, -, hml, hts, hown, -, hK, hN, hA⟩ := id C
  have hown : s.vm.findClass RX7 = some m.cls := hown
  have hl : lv_has ls 3 [(0, .ref ad0)] := hl
  unfold fX7_summedTogether at hf
  refine lv_iconst (v := (0 : Int32)) hx hb (dt uX7_summedTogether 0 rfl) (by decide) ?_
  refine lv_istore_n (lv' := [(1, .int (0 : Int32)), (0, .ref ad0)]) hx hb (dt uX7_summedTogether 1 rfl) rfl hl (by decide) rfl (fun ls hl => ?_)
  refine lv_iconst (v := (0 : Int32)) hx hb (dt uX7_summedTogether 2 rfl) (by decide) ?_
  refine lv_istore_n (lv' := [(2, .int (0 : Int32)), (1, .int (0 : Int32)), (0, .ref ad0)]) hx hb (dt uX7_summedTogether 3 rfl) rfl hl (by decide) rfl (fun ls hl => ?_)
  have hL4 : ∀ (n4 : Nat), ∀ (x1_1 : Int32) (x2_2 : Int32) (H : Heap) (locs : List Loc) (ls : Array Slot), fX7_summedTogether_L4 a_told_a a_told_b v_told_size n4 x1_1 x2_2 = some q0 → va_P (dC, dI) vwCl [(ad0, oX7 ad_text ad_draft ad_told ad_now ad_history ad_firstImage ad_secondImage ad_seen ad_ways v_traced), (ad_told, oX0 ad_told_a ad_told_b v_told_size v_told_touches v_told_one), (ad_told_a, .inl (cI, 6, .inl a_told_a)), (ad_told_b, .inl (cI, 6, .inl a_told_b))] H → va_D A [(ad0, oX7 ad_text ad_draft ad_told ad_now ad_history ad_firstImage ad_secondImage ad_seen ad_ways v_traced), (ad_told, oX0 ad_told_a ad_told_b v_told_size v_told_touches v_told_one), (ad_told_a, .inl (cI, 6, .inl a_told_a)), (ad_told_b, .inl (cI, 6, .inl a_told_b))] → va_S A s.heap H locs → lv_has ls 3 [(0, .ref ad0), (1, .int x1_1), (2, .int x2_2)] → W p l e rX7_summedTogether s m args below meth c H locs 0 0 Q (F0 m 4 ls []) := by
    intro n4
    induction n4 with
    | zero => intro x1_1 x2_2 H locs ls hf hP hD hS hl; cases hf
    | succ n4 ih4 =>
      intro x1_1 x2_2 H locs ls hf hP hD hS hl
      rw [fX7_summedTogether_L4] at hf
      refine lv_iload_n hx hb (dt uX7_summedTogether 4 rfl) rfl (lv_at hl 2 rfl) ?_
      refine lv_aload_n hx hb (dt uX7_summedTogether 5 rfl) rfl (lv_at hl 0 rfl) ?_
      refine va_get (D := (dC, dI)) (ci := 7) (v := .ref ad_told) (C := RX7) (T := TX7) (N := 10) hx hb hts inU7 hown hK hP 0 rfl rfl 2 (by decide) (hts _ tw_118) (fun _ h9 => h9) rfl (dt uX7_summedTogether 6 rfl) ?_
      refine va_getN (D := (dC, dI)) (ci := 0) (v := .int v_told_size) (C := RX0) (T := TX0) (N := 5) hx hb hts inU0 hown hK hP 1 rfl rfl 2 (by decide) (nw_7 hN) (fun _ h9 => h9) rfl (dt uX7_summedTogether 7 rfl) ?_
      refine lv_icmp_ge (tgt := 32) hx hb (dt uX7_summedTogether 8 rfl) (by decide) (fun c_3 => ?_) (fun c_3 => ?_)
      · have hf := vif_t c_3 hf
        refine lv_iload_n hx hb (dt uX7_summedTogether 18 rfl) rfl (lv_at hl 1 rfl) ?_
        have hf := Option.some.inj hf
        subst hf
        rw [hQ]
        exact vret_i C hP hD hS (dt uX7_summedTogether 19 rfl)
      · have hf := vif_f c_3 hf
        refine lv_iload_n hx hb (dt uX7_summedTogether 9 rfl) rfl (lv_at hl 1 rfl) ?_
        refine lv_aload_n hx hb (dt uX7_summedTogether 10 rfl) rfl (lv_at hl 0 rfl) ?_
        refine va_get (D := (dC, dI)) (ci := 7) (v := .ref ad_told) (C := RX7) (T := TX7) (N := 10) hx hb hts inU7 hown hK hP 0 rfl rfl 2 (by decide) (hts _ tw_118) (fun _ h9 => h9) rfl (dt uX7_summedTogether 11 rfl) ?_
        refine lv_iload_n hx hb (dt uX7_summedTogether 12 rfl) rfl (lv_at hl 2 rfl) ?_
        obtain ⟨q_4, hq_5, hf⟩ := vbd hf
        refine vk_i0 [1, 2, 3] (va_runVN (As := [.int x2_2]) (rest := [.int x1_1]) ⟨hx, hb, hml, hown, hts⟩ (kX0_sum ad_told ad_told_a ad_told_b v_told_size v_told_touches v_told_one a_told_a a_told_b x2_2 q_4 hq_5 H.size) (vcwVN hts (nm_40 hN) tw_134 tw_135 tw_67 tw_133 hd_X0_sum rfl rfl ⟨Nat.le_of_ble_eq_true rfl, Nat.le_of_ble_eq_true rfl⟩) (vpreV hK hN hP hD [1, 2, 3] rfl (by decide) (ci := 0) (q0 := 1) rfl rfl) rfl rfl hl.1 rfl (lv_room (Nat.le_of_ble_eq_true rfl)) (dt uX7_summedTogether 13 rfl) ⟨Nat.zero_le _, Nat.zero_le _⟩) hA hP hD hS rfl (by decide) (fun H locs hP hD hS => ?_)
        refine lv_iadd hx hb (dt uX7_summedTogether 14 rfl) ?_
        refine lv_istore_n (lv' := [(1, .int (x1_1 + q_4)), (0, .ref ad0), (2, .int x2_2)]) hx hb (dt uX7_summedTogether 15 rfl) rfl hl (by decide) rfl (fun ls hl => ?_)
        refine lv_iinc (v := x2_2 + 1) (lv' := [(2, .int (x2_2 + 1)), (1, .int (x1_1 + q_4)), (0, .ref ad0)]) hx hb (dt uX7_summedTogether 16 rfl) hl (k := 2) rfl rfl (by decide) rfl (fun ls hl => ?_)
        refine lv_goto (tgt := 4) hx hb (dt uX7_summedTogether 17 rfl) (by decide) ?_
        exact ih4 (x1_1 + q_4) (x2_2 + 1) _ _ _ hf hP hD hS (lv_sub hl [2, 1, 0] rfl)
  exact hL4 N (0 : Int32) (0 : Int32) _ _ _ hf hP hD hS (lv_sub hl [2, 1, 0] rfl)
abbrev rX7_divides : Room := { frames := 0, cells := 0, slots := 0, locals := 0 }
abbrev wX7_divides : List Cond := Cond.code yX7_divides cX7_divides 2 (some .boolean) :: VT
set_option maxHeartbeats 4000000 in
set_option maxRecDepth 100000 in
theorem kX7_divides (p1 : Int32) (p2 : Int32) (q0 : Int32) (hf : fX7_divides p1 p2 = some q0) : Kz l yX7_divides wX7_divides rX7_divides (dC, dI) (vTy cI cJ cB cZ) [.int p1, .int p2] [] [] q0 := by
  refine Kz.mk (cc := cX7_divides) (maxL := 2) (ret := some .boolean) (by decide) (Nat.le_of_ble_eq_true rfl) ?_
  intro p e s m args below meth c A Q H locs C hQ hP hD hS ls hl
  obtain ⟨hx, hb, -, hml, hts, hown, -, hK, hN, hA⟩ := id C
  have hown : s.vm.findClass RX7 = some m.cls := hown
  have hl : lv_has ls 2 [(0, .int p1), (1, .int p2)] := hl
  unfold fX7_divides at hf
  refine lv_iload_n hx hb (dt uX7_divides 0 rfl) rfl (lv_at hl 0 rfl) ?_
  refine lv_if_eq (tgt := 14) hx hb (dt uX7_divides 1 rfl) (by decide) (fun c_1 => ?_) (fun c_1 => ?_)
  · have hf := vif_t c_1 hf
    refine lv_iconst (v := (0 : Int32)) hx hb (dt uX7_divides 8 rfl) (by decide) ?_
    have hf := Option.some.inj hf
    subst hf
    rw [hQ]
    exact vret_z C hP hD hS (dt uX7_divides 9 rfl) (Or.inl rfl)
  · have hf := vif_f c_1 hf
    refine lv_iload_n hx hb (dt uX7_divides 2 rfl) rfl (lv_at hl 1 rfl) ?_
    refine lv_iload_n hx hb (dt uX7_divides 3 rfl) rfl (lv_at hl 0 rfl) ?_
    obtain ⟨hz_2, hf⟩ := vz_some hf
    refine lv_irem hx hb (dt uX7_divides 4 rfl) hz_2 ?_
    refine lv_if_ne (tgt := 14) hx hb (dt uX7_divides 5 rfl) (by decide) (fun c_3 => ?_) (fun c_3 => ?_)
    · have hf := vif_f c_3 hf
      refine lv_iconst (v := (0 : Int32)) hx hb (dt uX7_divides 8 rfl) (by decide) ?_
      have hf := Option.some.inj hf
      subst hf
      rw [hQ]
      exact vret_z C hP hD hS (dt uX7_divides 9 rfl) (Or.inl rfl)
    · have hf := vif_t c_3 hf
      refine lv_iconst (v := (1 : Int32)) hx hb (dt uX7_divides 6 rfl) (by decide) ?_
      refine lv_goto (tgt := 15) hx hb (dt uX7_divides 7 rfl) (by decide) ?_
      have hf := Option.some.inj hf
      subst hf
      rw [hQ]
      exact vret_z C hP hD hS (dt uX7_divides 9 rfl) (Or.inr rfl)
abbrev rX7_notDividedBy : Room := { frames := 3, cells := 0, slots := 0, locals := 64 }
abbrev wX7_notDividedBy : List Cond := Cond.code yX7_notDividedBy cX7_notDividedBy 4 (some .int) :: VT
set_option maxHeartbeats 4000000 in
set_option maxRecDepth 100000 in
theorem kX7_notDividedBy (ad0 : Nat) (ad_text : Nat) (ad_draft : Nat) (ad_told : Nat) (ad_told_a : Nat) (ad_told_b : Nat) (ad_now : Nat) (ad_history : Nat) (ad_firstImage : Nat) (ad_secondImage : Nat) (ad_seen : Nat) (ad_ways : Nat) (v_traced : Int64) (v_told_size : Int32) (v_told_touches : Int32) (v_told_one : Int32) (a_told_a : Nat → Int32) (a_told_b : Nat → Int32) (v_now_forgotten : Int32) (v_now_touches : Int32) (v_now_trapped : Int32) (v_now_one : Int32) (v_now_date : Int32) (p1 : Int32) (N : Nat) (q0 : Int32) (hf : fX7_notDividedBy N a_told_a a_told_b v_told_size v_now_forgotten v_now_one p1 = some q0) : Ki l yX7_notDividedBy wX7_notDividedBy rX7_notDividedBy (dC, dI) (vTy cI cJ cB cZ) [.ref ad0, .int p1] [(ad0, oX7 ad_text ad_draft ad_told ad_now ad_history ad_firstImage ad_secondImage ad_seen ad_ways v_traced), (ad_told, oX0 ad_told_a ad_told_b v_told_size v_told_touches v_told_one), (ad_told_a, .inl (cI, 6, .inl a_told_a)), (ad_told_b, .inl (cI, 6, .inl a_told_b)), (ad_now, oX3 v_now_forgotten v_now_touches v_now_trapped v_now_one v_now_date)] [(ad0, oX7 ad_text ad_draft ad_told ad_now ad_history ad_firstImage ad_secondImage ad_seen ad_ways v_traced), (ad_told, oX0 ad_told_a ad_told_b v_told_size v_told_touches v_told_one), (ad_told_a, .inl (cI, 6, .inl a_told_a)), (ad_told_b, .inl (cI, 6, .inl a_told_b)), (ad_now, oX3 v_now_forgotten v_now_touches v_now_trapped v_now_one v_now_date)] q0 := by
  refine Ki.mk (cc := cX7_notDividedBy) (maxL := 4) (ret := some .int) (by decide) (Nat.le_of_ble_eq_true rfl) ?_
  intro p e s m args below meth c A Q H locs C hQ hP hD hS ls hl
  obtain ⟨hx, hb, -, hml, hts, hown, -, hK, hN, hA⟩ := id C
  have hown : s.vm.findClass RX7 = some m.cls := hown
  have hl : lv_has ls 4 [(0, .ref ad0), (1, .int p1)] := hl
  unfold fX7_notDividedBy at hf
  refine lv_iconst (v := (0 : Int32)) hx hb (dt uX7_notDividedBy 0 rfl) (by decide) ?_
  refine lv_istore_n (lv' := [(2, .int (0 : Int32)), (0, .ref ad0), (1, .int p1)]) hx hb (dt uX7_notDividedBy 1 rfl) rfl hl (by decide) rfl (fun ls hl => ?_)
  refine lv_iconst (v := (0 : Int32)) hx hb (dt uX7_notDividedBy 2 rfl) (by decide) ?_
  refine lv_istore_n (lv' := [(3, .int (0 : Int32)), (2, .int (0 : Int32)), (0, .ref ad0), (1, .int p1)]) hx hb (dt uX7_notDividedBy 3 rfl) rfl hl (by decide) rfl (fun ls hl => ?_)
  have hL4 : ∀ (n4 : Nat), ∀ (x2_1 : Int32) (x3_2 : Int32) (H : Heap) (locs : List Loc) (ls : Array Slot), fX7_notDividedBy_L4 a_told_a a_told_b v_told_size v_now_forgotten v_now_one p1 n4 x2_1 x3_2 = some q0 → va_P (dC, dI) vwCl [(ad0, oX7 ad_text ad_draft ad_told ad_now ad_history ad_firstImage ad_secondImage ad_seen ad_ways v_traced), (ad_told, oX0 ad_told_a ad_told_b v_told_size v_told_touches v_told_one), (ad_told_a, .inl (cI, 6, .inl a_told_a)), (ad_told_b, .inl (cI, 6, .inl a_told_b)), (ad_now, oX3 v_now_forgotten v_now_touches v_now_trapped v_now_one v_now_date)] H → va_D A [(ad0, oX7 ad_text ad_draft ad_told ad_now ad_history ad_firstImage ad_secondImage ad_seen ad_ways v_traced), (ad_told, oX0 ad_told_a ad_told_b v_told_size v_told_touches v_told_one), (ad_told_a, .inl (cI, 6, .inl a_told_a)), (ad_told_b, .inl (cI, 6, .inl a_told_b)), (ad_now, oX3 v_now_forgotten v_now_touches v_now_trapped v_now_one v_now_date)] → va_S A s.heap H locs → lv_has ls 4 [(0, .ref ad0), (1, .int p1), (2, .int x2_1), (3, .int x3_2)] → W p l e rX7_notDividedBy s m args below meth c H locs 0 0 Q (F0 m 4 ls []) := by
    intro n4
    induction n4 with
    | zero => intro x2_1 x3_2 H locs ls hf hP hD hS hl; cases hf
    | succ n4 ih4 =>
      intro x2_1 x3_2 H locs ls hf hP hD hS hl
      rw [fX7_notDividedBy_L4] at hf
      refine lv_iload_n hx hb (dt uX7_notDividedBy 4 rfl) rfl (lv_at hl 3 rfl) ?_
      refine lv_aload_n hx hb (dt uX7_notDividedBy 5 rfl) rfl (lv_at hl 0 rfl) ?_
      refine va_get (D := (dC, dI)) (ci := 7) (v := .ref ad_told) (C := RX7) (T := TX7) (N := 10) hx hb hts inU7 hown hK hP 0 rfl rfl 2 (by decide) (hts _ tw_118) (fun _ h9 => h9) rfl (dt uX7_notDividedBy 6 rfl) ?_
      refine va_getN (D := (dC, dI)) (ci := 0) (v := .int v_told_size) (C := RX0) (T := TX0) (N := 5) hx hb hts inU0 hown hK hP 1 rfl rfl 2 (by decide) (nw_7 hN) (fun _ h9 => h9) rfl (dt uX7_notDividedBy 7 rfl) ?_
      refine lv_icmp_ge (tgt := 48) hx hb (dt uX7_notDividedBy 8 rfl) (by decide) (fun c_3 => ?_) (fun c_3 => ?_)
      · have hf := vif_t c_3 hf
        refine lv_iload_n hx hb (dt uX7_notDividedBy 28 rfl) rfl (lv_at hl 2 rfl) ?_
        have hf := Option.some.inj hf
        subst hf
        rw [hQ]
        exact vret_i C hP hD hS (dt uX7_notDividedBy 29 rfl)
      · have hf := vif_f c_3 hf
        refine lv_iload_n hx hb (dt uX7_notDividedBy 9 rfl) rfl (lv_at hl 1 rfl) ?_
        refine lv_aload_n hx hb (dt uX7_notDividedBy 10 rfl) rfl (lv_at hl 0 rfl) ?_
        refine lv_iload_n hx hb (dt uX7_notDividedBy 11 rfl) rfl (lv_at hl 3 rfl) ?_
        obtain ⟨q_4, hq_5, hf⟩ := vbd hf
        refine vk_i0 [0, 1, 2, 3, 4] (va_runV (As := [.int x3_2]) (rest := [.int p1]) ⟨hx, hb, hml, hown, hts⟩ (kX7_shown ad0 ad_text ad_draft ad_told ad_told_a ad_told_b ad_now ad_history ad_firstImage ad_secondImage ad_seen ad_ways v_traced v_told_size v_told_touches v_told_one a_told_a a_told_b v_now_forgotten v_now_touches v_now_trapped v_now_one v_now_date x3_2 q_4 hq_5 H.size) (vcwV hts tw_146 tw_147 tw_148 tw_41 tw_145 hd_X7_shown rfl rfl ⟨Nat.le_of_ble_eq_true rfl, Nat.le_of_ble_eq_true rfl⟩) (vpreV hK hN hP hD [0, 1, 2, 3, 4] rfl (by decide) (ci := 7) (q0 := 0) rfl rfl) rfl rfl hl.1 rfl (lv_room (Nat.le_of_ble_eq_true rfl)) (dt uX7_notDividedBy 12 rfl) ⟨Nat.zero_le _, Nat.zero_le _⟩) hA hP hD hS rfl (by decide) (fun H locs hP hD hS => ?_)
        refine lv_aload_n hx hb (dt uX7_notDividedBy 13 rfl) rfl (lv_at hl 0 rfl) ?_
        refine va_get (D := (dC, dI)) (ci := 7) (v := .ref ad_told) (C := RX7) (T := TX7) (N := 10) hx hb hts inU7 hown hK hP 0 rfl rfl 2 (by decide) (hts _ tw_118) (fun _ h9 => h9) rfl (dt uX7_notDividedBy 14 rfl) ?_
        refine lv_iload_n hx hb (dt uX7_notDividedBy 15 rfl) rfl (lv_at hl 3 rfl) ?_
        obtain ⟨q_6, hq_7, hf⟩ := vbd hf
        refine vk_i0 [1, 2, 3] (va_runVN (As := [.int x3_2]) (rest := [.int q_4, .int p1]) ⟨hx, hb, hml, hown, hts⟩ (kX0_sum ad_told ad_told_a ad_told_b v_told_size v_told_touches v_told_one a_told_a a_told_b x3_2 q_6 hq_7 H.size) (vcwVN hts (nm_40 hN) tw_134 tw_135 tw_67 tw_133 hd_X0_sum rfl rfl ⟨Nat.le_of_ble_eq_true rfl, Nat.le_of_ble_eq_true rfl⟩) (vpreV hK hN hP hD [1, 2, 3] rfl (by decide) (ci := 0) (q0 := 1) rfl rfl) rfl rfl hl.1 rfl (lv_room (Nat.le_of_ble_eq_true rfl)) (dt uX7_notDividedBy 16 rfl) ⟨Nat.zero_le _, Nat.zero_le _⟩) hA hP hD hS rfl (by decide) (fun H locs hP hD hS => ?_)
        refine lv_isub hx hb (dt uX7_notDividedBy 17 rfl) ?_
        obtain ⟨q_8, hq_9, hf⟩ := vbd hf
        refine vk_z0 [] (va_runS (As := [.int p1, .int (q_4 - q_6)]) (rest := []) ⟨hx, hb, hml, hown, hts⟩ (kX7_divides p1 (q_4 - q_6) q_8 hq_9 H.size) (vcwS hts tw_192 tw_193 tw_41 tw_191 hd_X7_divides rfl rfl ⟨Nat.le_of_ble_eq_true rfl, Nat.le_of_ble_eq_true rfl⟩) (vpreS hK hN hP hD [] rfl (by decide)) rfl rfl hl.1 rfl (lv_room (Nat.le_of_ble_eq_true rfl)) (dt uX7_notDividedBy 18 rfl) ⟨Nat.zero_le _, Nat.zero_le _⟩) hA hP hD hS rfl (by decide) (fun hz_10 H locs hP hD hS => ?_)
        refine lv_if_ne (tgt := 42) hx hb (dt uX7_notDividedBy 19 rfl) (by decide) (fun c_11 => ?_) (fun c_11 => ?_)
        · have hf := vif_f c_11 hf
          refine lv_iinc (v := x3_2 + 1) (lv' := [(3, .int (x3_2 + 1)), (0, .ref ad0), (1, .int p1), (2, .int x2_1)]) hx hb (dt uX7_notDividedBy 26 rfl) hl (k := 3) rfl rfl (by decide) rfl (fun ls hl => ?_)
          refine lv_goto (tgt := 4) hx hb (dt uX7_notDividedBy 27 rfl) (by decide) ?_
          exact ih4 x2_1 (x3_2 + 1) _ _ _ hf hP hD hS (lv_sub hl [1, 2, 3, 0] rfl)
        · have hf := vif_t c_11 hf
          refine lv_iload_n hx hb (dt uX7_notDividedBy 20 rfl) rfl (lv_at hl 2 rfl) ?_
          refine lv_iconst (v := (1 : Int32)) hx hb (dt uX7_notDividedBy 21 rfl) (by decide) ?_
          refine lv_iload_n hx hb (dt uX7_notDividedBy 22 rfl) rfl (lv_at hl 3 rfl) ?_
          refine lv_ishl hx hb (dt uX7_notDividedBy 23 rfl) ?_
          refine lv_ior hx hb (dt uX7_notDividedBy 24 rfl) ?_
          refine lv_istore_n (lv' := [(2, .int (x2_1 ||| ((1 : Int32) <<< (x3_2 &&& 31)))), (0, .ref ad0), (1, .int p1), (3, .int x3_2)]) hx hb (dt uX7_notDividedBy 25 rfl) rfl hl (by decide) rfl (fun ls hl => ?_)
          refine lv_iinc (v := x3_2 + 1) (lv' := [(3, .int (x3_2 + 1)), (2, .int (x2_1 ||| ((1 : Int32) <<< (x3_2 &&& 31)))), (0, .ref ad0), (1, .int p1)]) hx hb (dt uX7_notDividedBy 26 rfl) hl (k := 3) rfl rfl (by decide) rfl (fun ls hl => ?_)
          refine lv_goto (tgt := 4) hx hb (dt uX7_notDividedBy 27 rfl) (by decide) ?_
          exact ih4 (x2_1 ||| ((1 : Int32) <<< (x3_2 &&& 31))) (x3_2 + 1) _ _ _ hf hP hD hS (lv_sub hl [2, 3, 1, 0] rfl)
  exact hL4 N (0 : Int32) (0 : Int32) _ _ _ hf hP hD hS (lv_sub hl [2, 3, 1, 0] rfl)
abbrev rX7_now : Room := { frames := 4, cells := 0, slots := 0, locals := 87 }
abbrev wX7_now : List Cond := Cond.code yX7_now cX7_now 2 (some .int) :: VT
set_option maxHeartbeats 4000000 in
set_option maxRecDepth 100000 in
theorem kX7_now (ad0 : Nat) (ad_text : Nat) (ad_draft : Nat) (ad_told : Nat) (ad_told_a : Nat) (ad_told_b : Nat) (ad_now : Nat) (ad_history : Nat) (ad_firstImage : Nat) (ad_secondImage : Nat) (ad_seen : Nat) (ad_ways : Nat) (v_traced : Int64) (v_told_size : Int32) (v_told_touches : Int32) (v_told_one : Int32) (a_told_a : Nat → Int32) (a_told_b : Nat → Int32) (v_now_forgotten : Int32) (v_now_touches : Int32) (v_now_trapped : Int32) (v_now_one : Int32) (v_now_date : Int32) (p1 : Int32) (N : Nat) (q0 : Int32) (hf : fX7_now N a_told_a a_told_b v_told_size v_now_forgotten v_now_touches v_now_one v_now_date p1 = some q0) : Ki l yX7_now wX7_now rX7_now (dC, dI) (vTy cI cJ cB cZ) [.ref ad0, .int p1] [(ad0, oX7 ad_text ad_draft ad_told ad_now ad_history ad_firstImage ad_secondImage ad_seen ad_ways v_traced), (ad_told, oX0 ad_told_a ad_told_b v_told_size v_told_touches v_told_one), (ad_told_a, .inl (cI, 6, .inl a_told_a)), (ad_told_b, .inl (cI, 6, .inl a_told_b)), (ad_now, oX3 v_now_forgotten v_now_touches v_now_trapped v_now_one v_now_date)] [(ad0, oX7 ad_text ad_draft ad_told ad_now ad_history ad_firstImage ad_secondImage ad_seen ad_ways v_traced), (ad_told, oX0 ad_told_a ad_told_b v_told_size v_told_touches v_told_one), (ad_told_a, .inl (cI, 6, .inl a_told_a)), (ad_told_b, .inl (cI, 6, .inl a_told_b)), (ad_now, oX3 v_now_forgotten v_now_touches v_now_trapped v_now_one v_now_date)] q0 := by
  refine Ki.mk (cc := cX7_now) (maxL := 2) (ret := some .int) (by decide) (Nat.le_of_ble_eq_true rfl) ?_
  intro p e s m args below meth c A Q H locs C hQ hP hD hS ls hl
  obtain ⟨hx, hb, -, hml, hts, hown, -, hK, hN, hA⟩ := id C
  have hown : s.vm.findClass RX7 = some m.cls := hown
  have hl : lv_has ls 2 [(0, .ref ad0), (1, .int p1)] := hl
  unfold fX7_now at hf
  refine lv_iload_n hx hb (dt uX7_now 0 rfl) rfl (lv_at hl 1 rfl) ?_
  by_cases c_1 : p1 = (0 : Int32)
  · have hf := vif_t c_1 hf
    refine lv_tableIn (off := 43) (tgt := 44) hx hb (dt uX7_now 1 rfl) (by rw [c_1]; decide) (by rw [c_1]; decide) (by rw [c_1]; rfl) (by decide) ?_
    refine lv_aload_n hx hb (dt uX7_now 2 rfl) rfl (lv_at hl 0 rfl) ?_
    refine va_get (D := (dC, dI)) (ci := 7) (v := .ref ad_now) (C := RX7) (T := TX7) (N := 10) hx hb hts inU7 hown hK hP 0 rfl rfl 3 (by decide) (hts _ tw_122) (fun _ h9 => h9) rfl (dt uX7_now 3 rfl) ?_
    refine va_getN (D := (dC, dI)) (ci := 3) (v := .int v_now_date) (C := RX3) (T := TX3) (N := 5) hx hb hts inU3 hown hK hP 4 rfl rfl 4 (by decide) (nw_17 hN) (fun _ h9 => h9) rfl (dt uX7_now 4 rfl) ?_
    have hf := Option.some.inj hf
    subst hf
    rw [hQ]
    exact vret_i C hP hD hS (dt uX7_now 5 rfl)
  have hf := vif_f c_1 hf
  by_cases c_2 : p1 = (1 : Int32)
  · have hf := vif_t c_2 hf
    refine lv_tableIn (off := 51) (tgt := 52) hx hb (dt uX7_now 1 rfl) (by rw [c_2]; decide) (by rw [c_2]; decide) (by rw [c_2]; rfl) (by decide) ?_
    refine lv_aload_n hx hb (dt uX7_now 6 rfl) rfl (lv_at hl 0 rfl) ?_
    refine va_get (D := (dC, dI)) (ci := 7) (v := .ref ad_now) (C := RX7) (T := TX7) (N := 10) hx hb hts inU7 hown hK hP 0 rfl rfl 3 (by decide) (hts _ tw_122) (fun _ h9 => h9) rfl (dt uX7_now 7 rfl) ?_
    refine va_getN (D := (dC, dI)) (ci := 3) (v := .int v_now_one) (C := RX3) (T := TX3) (N := 5) hx hb hts inU3 hown hK hP 4 rfl rfl 3 (by decide) (nw_16 hN) (fun _ h9 => h9) rfl (dt uX7_now 8 rfl) ?_
    have hf := Option.some.inj hf
    subst hf
    rw [hQ]
    exact vret_i C hP hD hS (dt uX7_now 9 rfl)
  have hf := vif_f c_2 hf
  by_cases c_3 : p1 = (2 : Int32)
  · have hf := vif_t c_3 hf
    refine lv_tableIn (off := 59) (tgt := 60) hx hb (dt uX7_now 1 rfl) (by rw [c_3]; decide) (by rw [c_3]; decide) (by rw [c_3]; rfl) (by decide) ?_
    refine lv_aload_n hx hb (dt uX7_now 10 rfl) rfl (lv_at hl 0 rfl) ?_
    obtain ⟨q_4, hq_5, hf⟩ := vbd hf
    refine vk_i0 [0, 1, 2, 3, 4] (va_runV (As := []) (rest := []) ⟨hx, hb, hml, hown, hts⟩ (kX7_shownTogether ad0 ad_text ad_draft ad_told ad_told_a ad_told_b ad_now ad_history ad_firstImage ad_secondImage ad_seen ad_ways v_traced v_told_size v_told_touches v_told_one a_told_a a_told_b v_now_forgotten v_now_touches v_now_trapped v_now_one v_now_date N q_4 hq_5 H.size) (vcwV hts tw_195 tw_196 tw_197 tw_41 tw_194 hd_X7_shownTogether rfl rfl ⟨Nat.le_of_ble_eq_true rfl, Nat.le_of_ble_eq_true rfl⟩) (vpreV hK hN hP hD [0, 1, 2, 3, 4] rfl (by decide) (ci := 7) (q0 := 0) rfl rfl) rfl rfl hl.1 rfl (lv_room (Nat.le_of_ble_eq_true rfl)) (dt uX7_now 11 rfl) ⟨Nat.zero_le _, Nat.zero_le _⟩) hA hP hD hS rfl (by decide) (fun H locs hP hD hS => ?_)
    have hf := Option.some.inj hf
    subst hf
    rw [hQ]
    exact vret_i C hP hD hS (dt uX7_now 12 rfl)
  have hf := vif_f c_3 hf
  by_cases c_6 : p1 = (3 : Int32)
  · have hf := vif_t c_6 hf
    refine lv_tableIn (off := 64) (tgt := 65) hx hb (dt uX7_now 1 rfl) (by rw [c_6]; decide) (by rw [c_6]; decide) (by rw [c_6]; rfl) (by decide) ?_
    refine lv_aload_n hx hb (dt uX7_now 13 rfl) rfl (lv_at hl 0 rfl) ?_
    obtain ⟨q_7, hq_8, hf⟩ := vbd hf
    refine vk_i0 [0, 1, 2, 3] (va_runV (As := []) (rest := []) ⟨hx, hb, hml, hown, hts⟩ (kX7_summedTogether ad0 ad_text ad_draft ad_told ad_told_a ad_told_b ad_now ad_history ad_firstImage ad_secondImage ad_seen ad_ways v_traced v_told_size v_told_touches v_told_one a_told_a a_told_b N q_7 hq_8 H.size) (vcwV hts tw_199 tw_200 tw_201 tw_41 tw_198 hd_X7_summedTogether rfl rfl ⟨Nat.le_of_ble_eq_true rfl, Nat.le_of_ble_eq_true rfl⟩) (vpreV hK hN hP hD [0, 1, 2, 3] rfl (by decide) (ci := 7) (q0 := 0) rfl rfl) rfl rfl hl.1 rfl (lv_room (Nat.le_of_ble_eq_true rfl)) (dt uX7_now 14 rfl) ⟨Nat.zero_le _, Nat.zero_le _⟩) hA hP hD hS rfl (by decide) (fun H locs hP hD hS => ?_)
    have hf := Option.some.inj hf
    subst hf
    rw [hQ]
    exact vret_i C hP hD hS (dt uX7_now 15 rfl)
  have hf := vif_f c_6 hf
  by_cases c_9 : p1 = (4 : Int32)
  · have hf := vif_t c_9 hf
    refine lv_tableIn (off := 69) (tgt := 70) hx hb (dt uX7_now 1 rfl) (by rw [c_9]; decide) (by rw [c_9]; decide) (by rw [c_9]; rfl) (by decide) ?_
    refine lv_aload_n hx hb (dt uX7_now 16 rfl) rfl (lv_at hl 0 rfl) ?_
    refine lv_bipush (v := (9 : Int32)) hx hb (dt uX7_now 17 rfl) (by decide) ?_
    obtain ⟨q_10, hq_11, hf⟩ := vbd hf
    refine vk_i0 [0, 1, 2, 3, 4] (va_runV (As := [.int (9 : Int32)]) (rest := []) ⟨hx, hb, hml, hown, hts⟩ (kX7_notDividedBy ad0 ad_text ad_draft ad_told ad_told_a ad_told_b ad_now ad_history ad_firstImage ad_secondImage ad_seen ad_ways v_traced v_told_size v_told_touches v_told_one a_told_a a_told_b v_now_forgotten v_now_touches v_now_trapped v_now_one v_now_date (9 : Int32) N q_10 hq_11 H.size) (vcwV hts tw_203 tw_204 tw_205 tw_41 tw_202 hd_X7_notDividedBy rfl rfl ⟨Nat.le_of_ble_eq_true rfl, Nat.le_of_ble_eq_true rfl⟩) (vpreV hK hN hP hD [0, 1, 2, 3, 4] rfl (by decide) (ci := 7) (q0 := 0) rfl rfl) rfl rfl hl.1 rfl (lv_room (Nat.le_of_ble_eq_true rfl)) (dt uX7_now 18 rfl) ⟨Nat.zero_le _, Nat.zero_le _⟩) hA hP hD hS rfl (by decide) (fun H locs hP hD hS => ?_)
    have hf := Option.some.inj hf
    subst hf
    rw [hQ]
    exact vret_i C hP hD hS (dt uX7_now 19 rfl)
  have hf := vif_f c_9 hf
  by_cases c_12 : p1 = (5 : Int32)
  · have hf := vif_t c_12 hf
    refine lv_tableIn (off := 76) (tgt := 77) hx hb (dt uX7_now 1 rfl) (by rw [c_12]; decide) (by rw [c_12]; decide) (by rw [c_12]; rfl) (by decide) ?_
    refine lv_aload_n hx hb (dt uX7_now 20 rfl) rfl (lv_at hl 0 rfl) ?_
    refine lv_bipush (v := (11 : Int32)) hx hb (dt uX7_now 21 rfl) (by decide) ?_
    obtain ⟨q_13, hq_14, hf⟩ := vbd hf
    refine vk_i0 [0, 1, 2, 3, 4] (va_runV (As := [.int (11 : Int32)]) (rest := []) ⟨hx, hb, hml, hown, hts⟩ (kX7_notDividedBy ad0 ad_text ad_draft ad_told ad_told_a ad_told_b ad_now ad_history ad_firstImage ad_secondImage ad_seen ad_ways v_traced v_told_size v_told_touches v_told_one a_told_a a_told_b v_now_forgotten v_now_touches v_now_trapped v_now_one v_now_date (11 : Int32) N q_13 hq_14 H.size) (vcwV hts tw_203 tw_204 tw_205 tw_41 tw_202 hd_X7_notDividedBy rfl rfl ⟨Nat.le_of_ble_eq_true rfl, Nat.le_of_ble_eq_true rfl⟩) (vpreV hK hN hP hD [0, 1, 2, 3, 4] rfl (by decide) (ci := 7) (q0 := 0) rfl rfl) rfl rfl hl.1 rfl (lv_room (Nat.le_of_ble_eq_true rfl)) (dt uX7_now 22 rfl) ⟨Nat.zero_le _, Nat.zero_le _⟩) hA hP hD hS rfl (by decide) (fun H locs hP hD hS => ?_)
    have hf := Option.some.inj hf
    subst hf
    rw [hQ]
    exact vret_i C hP hD hS (dt uX7_now 23 rfl)
  have hf := vif_f c_12 hf
  by_cases c_15 : p1 = (6 : Int32)
  · have hf := vif_t c_15 hf
    refine lv_tableIn (off := 83) (tgt := 84) hx hb (dt uX7_now 1 rfl) (by rw [c_15]; decide) (by rw [c_15]; decide) (by rw [c_15]; rfl) (by decide) ?_
    refine lv_aload_n hx hb (dt uX7_now 24 rfl) rfl (lv_at hl 0 rfl) ?_
    refine va_get (D := (dC, dI)) (ci := 7) (v := .ref ad_now) (C := RX7) (T := TX7) (N := 10) hx hb hts inU7 hown hK hP 0 rfl rfl 3 (by decide) (hts _ tw_122) (fun _ h9 => h9) rfl (dt uX7_now 25 rfl) ?_
    refine va_getN (D := (dC, dI)) (ci := 3) (v := .int v_now_touches) (C := RX3) (T := TX3) (N := 5) hx hb hts inU3 hown hK hP 4 rfl rfl 1 (by decide) (nw_14 hN) (fun _ h9 => h9) rfl (dt uX7_now 26 rfl) ?_
    refine vk_i0 [] (va_runS (As := [.int v_now_touches]) (rest := []) ⟨hx, hb, hml, hown, hts⟩ (kJ6_bitCount_0f7a4 v_now_touches _ rfl H.size) (vcwS hts tw_171 tw_172 tw_169 tw_170 hd_J6_bitCount_0f7a4 rfl rfl ⟨Nat.le_of_ble_eq_true rfl, Nat.le_of_ble_eq_true rfl⟩) (vpreS hK hN hP hD [] rfl (by decide)) rfl rfl hl.1 rfl (lv_room (Nat.le_of_ble_eq_true rfl)) (dt uX7_now 27 rfl) ⟨Nat.zero_le _, Nat.zero_le _⟩) hA hP hD hS rfl (by decide) (fun H locs hP hD hS => ?_)
    have hf := Option.some.inj hf
    subst hf
    rw [hQ]
    exact vret_i C hP hD hS (dt uX7_now 28 rfl)
  have hf := vif_f c_15 hf
  have e_16 : ∀ k : Int, (0 : Int) ≤ k → k ≤ 6 → (p1).toInt ≠ k := by
    intro k h1 h2
    have e : k = 0 ∨ k = 1 ∨ k = 2 ∨ k = 3 ∨ k = 4 ∨ k = 5 ∨ k = 6 := by omega
    rcases e with rfl | rfl | rfl | rfl | rfl | rfl | rfl
    · exact vne_toInt c_1
    · exact vne_toInt c_2
    · exact vne_toInt c_3
    · exact vne_toInt c_6
    · exact vne_toInt c_9
    · exact vne_toInt c_12
    · exact vne_toInt c_15
  refine lv_tableOut (tgt := 95) hx hb (dt uX7_now 1 rfl) (vtab_out e_16) (by decide) ?_
  refine lv_iconst (v := (-1 : Int32)) hx hb (dt uX7_now 29 rfl) (by decide) ?_
  have hf := Option.some.inj hf
  subst hf
  rw [hQ]
  exact vret_i C hP hD hS (dt uX7_now 30 rfl)
abbrev rX7_inDays : Room := { frames := 3, cells := 0, slots := 0, locals := 72 }
abbrev wX7_inDays : List Cond := Cond.code yX7_inDays cX7_inDays 2 (some .int) :: VT
set_option maxHeartbeats 4000000 in
set_option maxRecDepth 100000 in
theorem kX7_inDays (ad0 : Nat) (ad_text : Nat) (ad_draft : Nat) (ad_told : Nat) (ad_told_a : Nat) (ad_told_b : Nat) (ad_now : Nat) (ad_history : Nat) (ad_firstImage : Nat) (ad_secondImage : Nat) (ad_seen : Nat) (ad_ways : Nat) (ad_ways_ranked : Nat) (ad_ways_tens : Nat) (v_traced : Int64) (v_told_size : Int32) (v_told_touches : Int32) (v_told_one : Int32) (a_told_a : Nat → Int32) (a_told_b : Nat → Int32) (v_now_forgotten : Int32) (v_now_touches : Int32) (v_now_trapped : Int32) (v_now_one : Int32) (v_now_date : Int32) (v_ways_size : Int32) (v_ways_trapped : Int32) (a_ways_ranked : Nat → Int32) (a_ways_tens : Nat → Int32) (p1 : Int32) (N : Nat) (q0 : (Int32 × (Nat → Int32) × (Nat → Int32) × Int32 × Int32)) (hf : fX7_inDays N a_told_a a_told_b v_told_size v_now_forgotten v_now_touches v_now_trapped v_now_one a_ways_ranked a_ways_tens v_ways_size v_ways_trapped p1 = some q0) : Ki l yX7_inDays wX7_inDays rX7_inDays (dC, dI) (vTy cI cJ cB cZ) [.ref ad0, .int p1] [(ad0, oX7 ad_text ad_draft ad_told ad_now ad_history ad_firstImage ad_secondImage ad_seen ad_ways v_traced), (ad_told, oX0 ad_told_a ad_told_b v_told_size v_told_touches v_told_one), (ad_told_a, .inl (cI, 6, .inl a_told_a)), (ad_told_b, .inl (cI, 6, .inl a_told_b)), (ad_now, oX3 v_now_forgotten v_now_touches v_now_trapped v_now_one v_now_date), (ad_ways, oX6 ad_ways_ranked ad_ways_tens v_ways_size v_ways_trapped), (ad_ways_ranked, .inl (cI, 6, .inl a_ways_ranked)), (ad_ways_tens, .inl (cI, 6, .inl a_ways_tens))] [(ad0, oX7 ad_text ad_draft ad_told ad_now ad_history ad_firstImage ad_secondImage ad_seen ad_ways v_traced), (ad_told, oX0 ad_told_a ad_told_b v_told_size v_told_touches v_told_one), (ad_told_a, .inl (cI, 6, .inl a_told_a)), (ad_told_b, .inl (cI, 6, .inl a_told_b)), (ad_now, oX3 v_now_forgotten v_now_touches v_now_trapped v_now_one v_now_date), (ad_ways, oX6 ad_ways_ranked ad_ways_tens q0.2.2.2.1 q0.2.2.2.2), (ad_ways_ranked, .inl (cI, 6, .inl q0.2.1)), (ad_ways_tens, .inl (cI, 6, .inl q0.2.2.1))] q0.1 := by
  refine Ki.mk (cc := cX7_inDays) (maxL := 2) (ret := some .int) (by decide) (Nat.le_of_ble_eq_true rfl) ?_
  intro p e s m args below meth c A Q H locs C hQ hP hD hS ls hl
  obtain ⟨hx, hb, -, hml, hts, hown, -, hK, hN, hA⟩ := id C
  have hown : s.vm.findClass RX7 = some m.cls := hown
  have hl : lv_has ls 2 [(0, .ref ad0), (1, .int p1)] := hl
  unfold fX7_inDays at hf
  refine lv_iload_n hx hb (dt uX7_inDays 0 rfl) rfl (lv_at hl 1 rfl) ?_
  refine lv_iconst (v := (0 : Int32)) hx hb (dt uX7_inDays 1 rfl) (by decide) ?_
  refine lv_bipush (v := (99 : Int32)) hx hb (dt uX7_inDays 2 rfl) (by decide) ?_
  refine vk_z0 [] (va_runS (As := [.int p1, .int (0 : Int32), .int (99 : Int32)]) (rest := []) ⟨hx, hb, hml, hown, hts⟩ (kX7_within p1 (0 : Int32) (99 : Int32) _ rfl H.size) (vcwS hts tw_106 tw_43 tw_41 tw_42 hd_X7_within rfl rfl ⟨Nat.le_of_ble_eq_true rfl, Nat.le_of_ble_eq_true rfl⟩) (vpreS hK hN hP hD [] rfl (by decide)) rfl rfl hl.1 rfl (lv_room (Nat.le_of_ble_eq_true rfl)) (dt uX7_inDays 3 rfl) ⟨Nat.zero_le _, Nat.zero_le _⟩) hA hP hD hS rfl (by decide) (fun hz_1 H locs hP hD hS => ?_)
  refine lv_if_ne (tgt := 12) hx hb (dt uX7_inDays 4 rfl) (by decide) (fun c_2 => ?_) (fun c_2 => ?_)
  · have hf := vif_f c_2 hf
    refine lv_aload_n hx hb (dt uX7_inDays 7 rfl) rfl (lv_at hl 0 rfl) ?_
    refine vk_z0 [0, 1, 4] (va_runV (As := []) (rest := []) ⟨hx, hb, hml, hown, hts⟩ (kX7_isSomewhere ad0 ad_text ad_draft ad_told ad_told_a ad_told_b ad_now ad_history ad_firstImage ad_secondImage ad_seen ad_ways v_traced v_told_size v_told_touches v_told_one v_now_forgotten v_now_touches v_now_trapped v_now_one v_now_date _ rfl H.size) (vcwV hts tw_181 tw_182 tw_183 tw_41 tw_180 hd_X7_isSomewhere rfl rfl ⟨Nat.le_of_ble_eq_true rfl, Nat.le_of_ble_eq_true rfl⟩) (vpreV hK hN hP hD [0, 1, 4] rfl (by decide) (ci := 7) (q0 := 0) rfl rfl) rfl rfl hl.1 rfl (lv_room (Nat.le_of_ble_eq_true rfl)) (dt uX7_inDays 8 rfl) ⟨Nat.zero_le _, Nat.zero_le _⟩) hA hP hD hS rfl (by decide) (fun hz_3 H locs hP hD hS => ?_)
    refine lv_if_eq (tgt := 44) hx hb (dt uX7_inDays 9 rfl) (by decide) (fun c_4 => ?_) (fun c_4 => ?_)
    · have hf := vif_t c_4 hf
      refine lv_bipush (v := (-9 : Int32)) hx hb (dt uX7_inDays 21 rfl) (by decide) ?_
      have hf := Option.some.inj hf
      subst hf
      rw [hQ]
      exact vret_i C hP hD hS (dt uX7_inDays 22 rfl)
    · have hf := vif_f c_4 hf
      refine lv_aload_n hx hb (dt uX7_inDays 10 rfl) rfl (lv_at hl 0 rfl) ?_
      obtain ⟨q_5, hq_6, hf⟩ := vbd hf
      refine vk_r [0, 1, 2, 3, 4, 5, 6, 7] (ws2 := [(ad0, oX7 ad_text ad_draft ad_told ad_now ad_history ad_firstImage ad_secondImage ad_seen ad_ways v_traced), (ad_told, oX0 ad_told_a ad_told_b v_told_size v_told_touches v_told_one), (ad_told_a, .inl (cI, 6, .inl a_told_a)), (ad_told_b, .inl (cI, 6, .inl a_told_b)), (ad_now, oX3 v_now_forgotten v_now_touches v_now_trapped v_now_one v_now_date), (ad_ways, oX6 ad_ways_ranked ad_ways_tens q_5.2.2.1 q_5.2.2.2), (ad_ways_ranked, .inl (cI, 6, .inl q_5.1)), (ad_ways_tens, .inl (cI, 6, .inl q_5.2.1))]) (va_runV (As := []) (rest := []) ⟨hx, hb, hml, hown, hts⟩ (kX7_waysNow ad0 ad_text ad_draft ad_told ad_told_a ad_told_b ad_now ad_history ad_firstImage ad_secondImage ad_seen ad_ways ad_ways_ranked ad_ways_tens v_traced v_told_size v_told_touches v_told_one a_told_a a_told_b v_now_forgotten v_now_touches v_now_trapped v_now_one v_now_date v_ways_size v_ways_trapped a_ways_ranked a_ways_tens N q_5 hq_6 H.size) (vcwV hts tw_185 tw_186 tw_187 tw_41 tw_184 hd_X7_waysNow rfl rfl ⟨Nat.le_of_ble_eq_true rfl, Nat.le_of_ble_eq_true rfl⟩) (vpreV hK hN hP hD [0, 1, 2, 3, 4, 5, 6, 7] rfl (by decide) (ci := 7) (q0 := 0) rfl rfl) rfl rfl hl.1 rfl (lv_room (Nat.le_of_ble_eq_true rfl)) (dt uX7_inDays 11 rfl) ⟨Nat.zero_le _, Nat.zero_le _⟩) hA hP hD hS rfl (by decide) rfl rfl (fun H locs hP hD hS => ?_)
      refine lv_aload_n hx hb (dt uX7_inDays 12 rfl) rfl (lv_at hl 0 rfl) ?_
      refine va_get (D := (dC, dI)) (ci := 7) (v := .ref ad_now) (C := RX7) (T := TX7) (N := 10) hx hb hts inU7 hown hK hP 0 rfl rfl 3 (by decide) (hts _ tw_122) (fun _ h9 => h9) rfl (dt uX7_inDays 13 rfl) ?_
      refine va_getN (D := (dC, dI)) (ci := 3) (v := .int v_now_one) (C := RX3) (T := TX3) (N := 5) hx hb hts inU3 hown hK hP 4 rfl rfl 3 (by decide) (nw_16 hN) (fun _ h9 => h9) rfl (dt uX7_inDays 14 rfl) ?_
      refine lv_iload_n hx hb (dt uX7_inDays 15 rfl) rfl (lv_at hl 1 rfl) ?_
      refine lv_aload_n hx hb (dt uX7_inDays 16 rfl) rfl (lv_at hl 0 rfl) ?_
      refine va_get (D := (dC, dI)) (ci := 7) (v := .ref ad_now) (C := RX7) (T := TX7) (N := 10) hx hb hts inU7 hown hK hP 0 rfl rfl 3 (by decide) (hts _ tw_122) (fun _ h9 => h9) rfl (dt uX7_inDays 17 rfl) ?_
      refine va_getN (D := (dC, dI)) (ci := 3) (v := .int v_now_touches) (C := RX3) (T := TX3) (N := 5) hx hb hts inU3 hown hK hP 4 rfl rfl 1 (by decide) (nw_14 hN) (fun _ h9 => h9) rfl (dt uX7_inDays 18 rfl) ?_
      obtain ⟨q_7, hq_8, hf⟩ := vbd hf
      refine vk_i0 [5, 6] (va_runVN (As := [.int v_now_one, .int p1, .int v_now_touches]) (rest := []) ⟨hx, hb, hml, hown, hts⟩ (kX6_walk ad_ways ad_ways_ranked ad_ways_tens q_5.2.2.1 q_5.2.2.2 q_5.1 v_now_one p1 v_now_touches N q_7 hq_8 H.size) (vcwVN hts (nm_50 hN) tw_104 tw_105 tw_97 tw_102 hd_X6_walk rfl rfl ⟨Nat.le_of_ble_eq_true rfl, Nat.le_of_ble_eq_true rfl⟩) (vpreV hK hN hP hD [5, 6] rfl (by decide) (ci := 6) (q0 := 5) rfl rfl) rfl rfl hl.1 rfl (lv_room (Nat.le_of_ble_eq_true rfl)) (dt uX7_inDays 19 rfl) ⟨Nat.zero_le _, Nat.zero_le _⟩) hA hP hD hS rfl (by decide) (fun H locs hP hD hS => ?_)
      refine lv_goto (tgt := 46) hx hb (dt uX7_inDays 20 rfl) (by decide) ?_
      have hf := Option.some.inj hf
      subst hf
      rw [hQ]
      exact vret_i C hP hD hS (dt uX7_inDays 22 rfl)
  · have hf := vif_t c_2 hf
    refine lv_iconst (v := (-1 : Int32)) hx hb (dt uX7_inDays 5 rfl) (by decide) ?_
    have hf := Option.some.inj hf
    subst hf
    rw [hQ]
    exact vret_i C hP hD hS (dt uX7_inDays 6 rfl)
abbrev rX7_round : Room := { frames := 4, cells := 0, slots := 0, locals := 98 }
abbrev wX7_round : List Cond := Cond.code yX7_round cX7_round 3 (some .int) :: VT
set_option maxHeartbeats 4000000 in
set_option maxRecDepth 100000 in
theorem kX7_round (ad0 : Nat) (ad_text : Nat) (ad_draft : Nat) (ad_told : Nat) (ad_told_a : Nat) (ad_told_b : Nat) (ad_now : Nat) (ad_history : Nat) (ad_firstImage : Nat) (ad_secondImage : Nat) (ad_seen : Nat) (ad_ways : Nat) (ad_ways_ranked : Nat) (ad_ways_tens : Nat) (v_traced : Int64) (v_told_size : Int32) (v_told_touches : Int32) (v_told_one : Int32) (a_told_a : Nat → Int32) (a_told_b : Nat → Int32) (v_now_forgotten : Int32) (v_now_touches : Int32) (v_now_trapped : Int32) (v_now_one : Int32) (v_now_date : Int32) (v_ways_size : Int32) (v_ways_trapped : Int32) (a_ways_ranked : Nat → Int32) (a_ways_tens : Nat → Int32) (p1 : Int32) (N : Nat) (q0 : (Int32 × (Nat → Int32) × (Nat → Int32) × Int32 × Int32)) (hf : fX7_round N a_told_a a_told_b v_told_size v_now_forgotten v_now_touches v_now_trapped v_now_one a_ways_ranked a_ways_tens v_ways_size v_ways_trapped p1 = some q0) : Ki l yX7_round wX7_round rX7_round (dC, dI) (vTy cI cJ cB cZ) [.ref ad0, .int p1] [(ad0, oX7 ad_text ad_draft ad_told ad_now ad_history ad_firstImage ad_secondImage ad_seen ad_ways v_traced), (ad_told, oX0 ad_told_a ad_told_b v_told_size v_told_touches v_told_one), (ad_told_a, .inl (cI, 6, .inl a_told_a)), (ad_told_b, .inl (cI, 6, .inl a_told_b)), (ad_now, oX3 v_now_forgotten v_now_touches v_now_trapped v_now_one v_now_date), (ad_ways, oX6 ad_ways_ranked ad_ways_tens v_ways_size v_ways_trapped), (ad_ways_ranked, .inl (cI, 6, .inl a_ways_ranked)), (ad_ways_tens, .inl (cI, 6, .inl a_ways_tens))] [(ad0, oX7 ad_text ad_draft ad_told ad_now ad_history ad_firstImage ad_secondImage ad_seen ad_ways v_traced), (ad_told, oX0 ad_told_a ad_told_b v_told_size v_told_touches v_told_one), (ad_told_a, .inl (cI, 6, .inl a_told_a)), (ad_told_b, .inl (cI, 6, .inl a_told_b)), (ad_now, oX3 v_now_forgotten v_now_touches v_now_trapped v_now_one v_now_date), (ad_ways, oX6 ad_ways_ranked ad_ways_tens q0.2.2.2.1 q0.2.2.2.2), (ad_ways_ranked, .inl (cI, 6, .inl q0.2.1)), (ad_ways_tens, .inl (cI, 6, .inl q0.2.2.1))] q0.1 := by
  refine Ki.mk (cc := cX7_round) (maxL := 3) (ret := some .int) (by decide) (Nat.le_of_ble_eq_true rfl) ?_
  intro p e s m args below meth c A Q H locs C hQ hP hD hS ls hl
  obtain ⟨hx, hb, -, hml, hts, hown, -, hK, hN, hA⟩ := id C
  have hown : s.vm.findClass RX7 = some m.cls := hown
  have hl : lv_has ls 3 [(0, .ref ad0), (1, .int p1)] := hl
  unfold fX7_round at hf
  refine lv_iload_n hx hb (dt uX7_round 0 rfl) rfl (lv_at hl 1 rfl) ?_
  refine lv_iconst (v := (0 : Int32)) hx hb (dt uX7_round 1 rfl) (by decide) ?_
  refine lv_iconst (v := (1 : Int32)) hx hb (dt uX7_round 2 rfl) (by decide) ?_
  refine vk_z0 [] (va_runS (As := [.int p1, .int (0 : Int32), .int (1 : Int32)]) (rest := []) ⟨hx, hb, hml, hown, hts⟩ (kX7_within p1 (0 : Int32) (1 : Int32) _ rfl H.size) (vcwS hts tw_106 tw_43 tw_41 tw_42 hd_X7_within rfl rfl ⟨Nat.le_of_ble_eq_true rfl, Nat.le_of_ble_eq_true rfl⟩) (vpreS hK hN hP hD [] rfl (by decide)) rfl rfl hl.1 rfl (lv_room (Nat.le_of_ble_eq_true rfl)) (dt uX7_round 3 rfl) ⟨Nat.zero_le _, Nat.zero_le _⟩) hA hP hD hS rfl (by decide) (fun hz_1 H locs hP hD hS => ?_)
  refine lv_if_ne (tgt := 11) hx hb (dt uX7_round 4 rfl) (by decide) (fun c_2 => ?_) (fun c_2 => ?_)
  · have hf := vif_f c_2 hf
    refine lv_aload_n hx hb (dt uX7_round 7 rfl) rfl (lv_at hl 0 rfl) ?_
    refine vk_z0 [0, 1, 4] (va_runV (As := []) (rest := []) ⟨hx, hb, hml, hown, hts⟩ (kX7_isSomewhere ad0 ad_text ad_draft ad_told ad_told_a ad_told_b ad_now ad_history ad_firstImage ad_secondImage ad_seen ad_ways v_traced v_told_size v_told_touches v_told_one v_now_forgotten v_now_touches v_now_trapped v_now_one v_now_date _ rfl H.size) (vcwV hts tw_181 tw_182 tw_183 tw_41 tw_180 hd_X7_isSomewhere rfl rfl ⟨Nat.le_of_ble_eq_true rfl, Nat.le_of_ble_eq_true rfl⟩) (vpreV hK hN hP hD [0, 1, 4] rfl (by decide) (ci := 7) (q0 := 0) rfl rfl) rfl rfl hl.1 rfl (lv_room (Nat.le_of_ble_eq_true rfl)) (dt uX7_round 8 rfl) ⟨Nat.zero_le _, Nat.zero_le _⟩) hA hP hD hS rfl (by decide) (fun hz_3 H locs hP hD hS => ?_)
    refine lv_if_ne (tgt := 21) hx hb (dt uX7_round 9 rfl) (by decide) (fun c_4 => ?_) (fun c_4 => ?_)
    · have hf := vif_f c_4 hf
      refine lv_aload_n hx hb (dt uX7_round 12 rfl) rfl (lv_at hl 0 rfl) ?_
      obtain ⟨q_5, hq_6, hf⟩ := vbd hf
      refine vk_r [0, 1, 2, 3, 4, 5, 6, 7] (ws2 := [(ad0, oX7 ad_text ad_draft ad_told ad_now ad_history ad_firstImage ad_secondImage ad_seen ad_ways v_traced), (ad_told, oX0 ad_told_a ad_told_b v_told_size v_told_touches v_told_one), (ad_told_a, .inl (cI, 6, .inl a_told_a)), (ad_told_b, .inl (cI, 6, .inl a_told_b)), (ad_now, oX3 v_now_forgotten v_now_touches v_now_trapped v_now_one v_now_date), (ad_ways, oX6 ad_ways_ranked ad_ways_tens q_5.2.2.1 q_5.2.2.2), (ad_ways_ranked, .inl (cI, 6, .inl q_5.1)), (ad_ways_tens, .inl (cI, 6, .inl q_5.2.1))]) (va_runV (As := []) (rest := []) ⟨hx, hb, hml, hown, hts⟩ (kX7_waysNow ad0 ad_text ad_draft ad_told ad_told_a ad_told_b ad_now ad_history ad_firstImage ad_secondImage ad_seen ad_ways ad_ways_ranked ad_ways_tens v_traced v_told_size v_told_touches v_told_one a_told_a a_told_b v_now_forgotten v_now_touches v_now_trapped v_now_one v_now_date v_ways_size v_ways_trapped a_ways_ranked a_ways_tens N q_5 hq_6 H.size) (vcwV hts tw_185 tw_186 tw_187 tw_41 tw_184 hd_X7_waysNow rfl rfl ⟨Nat.le_of_ble_eq_true rfl, Nat.le_of_ble_eq_true rfl⟩) (vpreV hK hN hP hD [0, 1, 2, 3, 4, 5, 6, 7] rfl (by decide) (ci := 7) (q0 := 0) rfl rfl) rfl rfl hl.1 rfl (lv_room (Nat.le_of_ble_eq_true rfl)) (dt uX7_round 13 rfl) ⟨Nat.zero_le _, Nat.zero_le _⟩) hA hP hD hS rfl (by decide) rfl rfl (fun H locs hP hD hS => ?_)
      refine lv_aload_n hx hb (dt uX7_round 14 rfl) rfl (lv_at hl 0 rfl) ?_
      refine va_get (D := (dC, dI)) (ci := 7) (v := .ref ad_now) (C := RX7) (T := TX7) (N := 10) hx hb hts inU7 hown hK hP 0 rfl rfl 3 (by decide) (hts _ tw_122) (fun _ h9 => h9) rfl (dt uX7_round 15 rfl) ?_
      refine va_getN (D := (dC, dI)) (ci := 3) (v := .int v_now_one) (C := RX3) (T := TX3) (N := 5) hx hb hts inU3 hown hK hP 4 rfl rfl 3 (by decide) (nw_16 hN) (fun _ h9 => h9) rfl (dt uX7_round 16 rfl) ?_
      refine lv_aload_n hx hb (dt uX7_round 17 rfl) rfl (lv_at hl 0 rfl) ?_
      refine va_get (D := (dC, dI)) (ci := 7) (v := .ref ad_now) (C := RX7) (T := TX7) (N := 10) hx hb hts inU7 hown hK hP 0 rfl rfl 3 (by decide) (hts _ tw_122) (fun _ h9 => h9) rfl (dt uX7_round 18 rfl) ?_
      refine va_getN (D := (dC, dI)) (ci := 3) (v := .int v_now_touches) (C := RX3) (T := TX3) (N := 5) hx hb hts inU3 hown hK hP 4 rfl rfl 1 (by decide) (nw_14 hN) (fun _ h9 => h9) rfl (dt uX7_round 19 rfl) ?_
      obtain ⟨q_7, hq_8, hf⟩ := vbd hf
      refine vk_i0 [5, 6] (va_runVN (As := [.int v_now_one, .int v_now_touches]) (rest := []) ⟨hx, hb, hml, hown, hts⟩ (kX6_lengthOfRound ad_ways ad_ways_ranked ad_ways_tens q_5.2.2.1 q_5.2.2.2 q_5.1 v_now_one v_now_touches N q_7 hq_8 H.size) (vcwVN hts (nm_51 hN) tw_207 tw_208 tw_97 tw_206 hd_X6_lengthOfRound rfl rfl ⟨Nat.le_of_ble_eq_true rfl, Nat.le_of_ble_eq_true rfl⟩) (vpreV hK hN hP hD [5, 6] rfl (by decide) (ci := 6) (q0 := 5) rfl rfl) rfl rfl hl.1 rfl (lv_room (Nat.le_of_ble_eq_true rfl)) (dt uX7_round 20 rfl) ⟨Nat.zero_le _, Nat.zero_le _⟩) hA hP hD hS rfl (by decide) (fun H locs hP hD hS => ?_)
      refine lv_istore_n (lv' := [(2, .int q_7), (0, .ref ad0), (1, .int p1)]) hx hb (dt uX7_round 21 rfl) rfl hl (by decide) rfl (fun ls hl => ?_)
      refine lv_iload_n hx hb (dt uX7_round 22 rfl) rfl (lv_at hl 2 rfl) ?_
      refine lv_iconst (v := (1 : Int32)) hx hb (dt uX7_round 23 rfl) (by decide) ?_
      refine lv_icmp_ne (tgt := 52) hx hb (dt uX7_round 24 rfl) (by decide) (fun c_9 => ?_) (fun c_9 => ?_)
      · have hf := vif_f c_9 hf
        refine lv_aload_n hx hb (dt uX7_round 27 rfl) rfl (lv_at hl 1 rfl) ?_
        refine va_get (D := (dC, dI)) (ci := 7) (v := .ref ad_ways) (C := RX7) (T := TX7) (N := 10) hx hb hts inU7 hown hK hP 0 rfl rfl 8 (by decide) (hts _ tw_173) (fun _ h9 => h9) rfl (dt uX7_round 28 rfl) ?_
        refine lv_aload_n hx hb (dt uX7_round 29 rfl) rfl (lv_at hl 1 rfl) ?_
        refine va_get (D := (dC, dI)) (ci := 7) (v := .ref ad_now) (C := RX7) (T := TX7) (N := 10) hx hb hts inU7 hown hK hP 0 rfl rfl 3 (by decide) (hts _ tw_122) (fun _ h9 => h9) rfl (dt uX7_round 30 rfl) ?_
        refine va_getN (D := (dC, dI)) (ci := 3) (v := .int v_now_one) (C := RX3) (T := TX3) (N := 5) hx hb hts inU3 hown hK hP 4 rfl rfl 3 (by decide) (nw_16 hN) (fun _ h9 => h9) rfl (dt uX7_round 31 rfl) ?_
        refine lv_iload_n hx hb (dt uX7_round 32 rfl) rfl (lv_at hl 0 rfl) ?_
        refine lv_aload_n hx hb (dt uX7_round 33 rfl) rfl (lv_at hl 1 rfl) ?_
        refine va_get (D := (dC, dI)) (ci := 7) (v := .ref ad_now) (C := RX7) (T := TX7) (N := 10) hx hb hts inU7 hown hK hP 0 rfl rfl 3 (by decide) (hts _ tw_122) (fun _ h9 => h9) rfl (dt uX7_round 34 rfl) ?_
        refine va_getN (D := (dC, dI)) (ci := 3) (v := .int v_now_touches) (C := RX3) (T := TX3) (N := 5) hx hb hts inU3 hown hK hP 4 rfl rfl 1 (by decide) (nw_14 hN) (fun _ h9 => h9) rfl (dt uX7_round 35 rfl) ?_
        obtain ⟨q_10, hq_11, hf⟩ := vbd hf
        refine vk_i0 [5, 6] (va_runVN (As := [.int v_now_one, .int q_7, .int v_now_touches]) (rest := []) ⟨hx, hb, hml, hown, hts⟩ (kX6_daysToRound ad_ways ad_ways_ranked ad_ways_tens q_5.2.2.1 q_5.2.2.2 q_5.1 v_now_one q_7 v_now_touches N q_10 hq_11 H.size) (vcwVN hts (nm_52 hN) tw_210 tw_211 tw_97 tw_209 hd_X6_daysToRound rfl rfl ⟨Nat.le_of_ble_eq_true rfl, Nat.le_of_ble_eq_true rfl⟩) (vpreV hK hN hP hD [5, 6] rfl (by decide) (ci := 6) (q0 := 5) rfl rfl) rfl rfl hl.1 rfl (lv_room (Nat.le_of_ble_eq_true rfl)) (dt uX7_round 36 rfl) ⟨Nat.zero_le _, Nat.zero_le _⟩) hA hP hD hS rfl (by decide) (fun H locs hP hD hS => ?_)
        have hf := Option.some.inj hf
        subst hf
        rw [hQ]
        exact vret_i C hP hD hS (dt uX7_round 37 rfl)
      · have hf := vif_t c_9 hf
        refine lv_iload_n hx hb (dt uX7_round 25 rfl) rfl (lv_at hl 0 rfl) ?_
        refine lv_goto (tgt := 74) hx hb (dt uX7_round 26 rfl) (by decide) ?_
        have hf := Option.some.inj hf
        subst hf
        rw [hQ]
        exact vret_i C hP hD hS (dt uX7_round 37 rfl)
    · have hf := vif_t c_4 hf
      refine lv_bipush (v := (-9 : Int32)) hx hb (dt uX7_round 10 rfl) (by decide) ?_
      have hf := Option.some.inj hf
      subst hf
      rw [hQ]
      exact vret_i C hP hD hS (dt uX7_round 11 rfl)
  · have hf := vif_t c_2 hf
    refine lv_iconst (v := (-1 : Int32)) hx hb (dt uX7_round 5 rfl) (by decide) ?_
    have hf := Option.some.inj hf
    subst hf
    rw [hQ]
    exact vret_i C hP hD hS (dt uX7_round 6 rfl)
abbrev rX7_from : Room := { frames := 3, cells := 0, slots := 0, locals := 72 }
abbrev wX7_from : List Cond := Cond.code yX7_from cX7_from 5 (some .int) :: VT
set_option maxHeartbeats 4000000 in
set_option maxRecDepth 100000 in
theorem kX7_from (ad0 : Nat) (ad_text : Nat) (ad_draft : Nat) (ad_told : Nat) (ad_told_a : Nat) (ad_told_b : Nat) (ad_now : Nat) (ad_history : Nat) (ad_firstImage : Nat) (ad_secondImage : Nat) (ad_seen : Nat) (ad_ways : Nat) (ad_ways_ranked : Nat) (ad_ways_tens : Nat) (v_traced : Int64) (v_told_size : Int32) (v_told_touches : Int32) (v_told_one : Int32) (a_told_a : Nat → Int32) (a_told_b : Nat → Int32) (v_now_forgotten : Int32) (v_now_touches : Int32) (v_now_trapped : Int32) (v_now_one : Int32) (v_now_date : Int32) (v_ways_size : Int32) (v_ways_trapped : Int32) (a_ways_ranked : Nat → Int32) (a_ways_tens : Nat → Int32) (p1 : Int32) (p2 : Int32) (N : Nat) (q0 : (Int32 × (Nat → Int32) × (Nat → Int32) × Int32 × Int32)) (hf : fX7_from N a_told_a a_told_b v_told_size v_now_forgotten v_now_touches v_now_trapped a_ways_ranked a_ways_tens v_ways_size v_ways_trapped p1 p2 = some q0) : Ki l yX7_from wX7_from rX7_from (dC, dI) (vTy cI cJ cB cZ) [.ref ad0, .int p1, .int p2] [(ad0, oX7 ad_text ad_draft ad_told ad_now ad_history ad_firstImage ad_secondImage ad_seen ad_ways v_traced), (ad_told, oX0 ad_told_a ad_told_b v_told_size v_told_touches v_told_one), (ad_told_a, .inl (cI, 6, .inl a_told_a)), (ad_told_b, .inl (cI, 6, .inl a_told_b)), (ad_now, oX3 v_now_forgotten v_now_touches v_now_trapped v_now_one v_now_date), (ad_ways, oX6 ad_ways_ranked ad_ways_tens v_ways_size v_ways_trapped), (ad_ways_ranked, .inl (cI, 6, .inl a_ways_ranked)), (ad_ways_tens, .inl (cI, 6, .inl a_ways_tens))] [(ad0, oX7 ad_text ad_draft ad_told ad_now ad_history ad_firstImage ad_secondImage ad_seen ad_ways v_traced), (ad_told, oX0 ad_told_a ad_told_b v_told_size v_told_touches v_told_one), (ad_told_a, .inl (cI, 6, .inl a_told_a)), (ad_told_b, .inl (cI, 6, .inl a_told_b)), (ad_now, oX3 v_now_forgotten v_now_touches v_now_trapped v_now_one v_now_date), (ad_ways, oX6 ad_ways_ranked ad_ways_tens q0.2.2.2.1 q0.2.2.2.2), (ad_ways_ranked, .inl (cI, 6, .inl q0.2.1)), (ad_ways_tens, .inl (cI, 6, .inl q0.2.2.1))] q0.1 := by
  refine Ki.mk (cc := cX7_from) (maxL := 5) (ret := some .int) (by decide) (Nat.le_of_ble_eq_true rfl) ?_
  intro p e s m args below meth c A Q H locs C hQ hP hD hS ls hl
  obtain ⟨hx, hb, -, hml, hts, hown, -, hK, hN, hA⟩ := id C
  have hown : s.vm.findClass RX7 = some m.cls := hown
  have hl : lv_has ls 5 [(0, .ref ad0), (1, .int p1), (2, .int p2)] := hl
  unfold fX7_from at hf
  refine lv_aload_n hx hb (dt uX7_from 0 rfl) rfl (lv_at hl 0 rfl) ?_
  refine lv_iload_n hx hb (dt uX7_from 1 rfl) rfl (lv_at hl 1 rfl) ?_
  refine vk_z0 [0, 1] (va_runV (As := [.int p1]) (rest := []) ⟨hx, hb, hml, hown, hts⟩ (kX7_isBook ad0 ad_text ad_draft ad_told ad_told_a ad_told_b ad_now ad_history ad_firstImage ad_secondImage ad_seen ad_ways v_traced v_told_size v_told_touches v_told_one p1 _ rfl H.size) (vcwV hts tw_142 tw_143 tw_144 tw_41 tw_141 hd_X7_isBook rfl rfl ⟨Nat.le_of_ble_eq_true rfl, Nat.le_of_ble_eq_true rfl⟩) (vpreV hK hN hP hD [0, 1] rfl (by decide) (ci := 7) (q0 := 0) rfl rfl) rfl rfl hl.1 rfl (lv_room (Nat.le_of_ble_eq_true rfl)) (dt uX7_from 2 rfl) ⟨Nat.zero_le _, Nat.zero_le _⟩) hA hP hD hS rfl (by decide) (fun hz_1 H locs hP hD hS => ?_)
  refine lv_if_eq (tgt := 18) hx hb (dt uX7_from 3 rfl) (by decide) (fun c_2 => ?_) (fun c_2 => ?_)
  · have hf := vif_t c_2 hf
    refine lv_iconst (v := (-1 : Int32)) hx hb (dt uX7_from 9 rfl) (by decide) ?_
    have hf := Option.some.inj hf
    subst hf
    rw [hQ]
    exact vret_i C hP hD hS (dt uX7_from 10 rfl)
  · have hf := vif_f c_2 hf
    refine lv_iload_n hx hb (dt uX7_from 4 rfl) rfl (lv_at hl 2 rfl) ?_
    refine lv_iconst (v := (0 : Int32)) hx hb (dt uX7_from 5 rfl) (by decide) ?_
    refine lv_bipush (v := (20 : Int32)) hx hb (dt uX7_from 6 rfl) (by decide) ?_
    refine vk_z0 [] (va_runS (As := [.int p2, .int (0 : Int32), .int (20 : Int32)]) (rest := []) ⟨hx, hb, hml, hown, hts⟩ (kX7_within p2 (0 : Int32) (20 : Int32) _ rfl H.size) (vcwS hts tw_106 tw_43 tw_41 tw_42 hd_X7_within rfl rfl ⟨Nat.le_of_ble_eq_true rfl, Nat.le_of_ble_eq_true rfl⟩) (vpreS hK hN hP hD [] rfl (by decide)) rfl rfl hl.1 rfl (lv_room (Nat.le_of_ble_eq_true rfl)) (dt uX7_from 7 rfl) ⟨Nat.zero_le _, Nat.zero_le _⟩) hA hP hD hS rfl (by decide) (fun hz_3 H locs hP hD hS => ?_)
    refine lv_if_ne (tgt := 20) hx hb (dt uX7_from 8 rfl) (by decide) (fun c_4 => ?_) (fun c_4 => ?_)
    · have hf := vif_f c_4 hf
      refine lv_aload_n hx hb (dt uX7_from 11 rfl) rfl (lv_at hl 0 rfl) ?_
      obtain ⟨q_5, hq_6, hf⟩ := vbd hf
      refine vk_r [0, 1, 2, 3, 4, 5, 6, 7] (ws2 := [(ad0, oX7 ad_text ad_draft ad_told ad_now ad_history ad_firstImage ad_secondImage ad_seen ad_ways v_traced), (ad_told, oX0 ad_told_a ad_told_b v_told_size v_told_touches v_told_one), (ad_told_a, .inl (cI, 6, .inl a_told_a)), (ad_told_b, .inl (cI, 6, .inl a_told_b)), (ad_now, oX3 v_now_forgotten v_now_touches v_now_trapped v_now_one v_now_date), (ad_ways, oX6 ad_ways_ranked ad_ways_tens q_5.2.2.1 q_5.2.2.2), (ad_ways_ranked, .inl (cI, 6, .inl q_5.1)), (ad_ways_tens, .inl (cI, 6, .inl q_5.2.1))]) (va_runV (As := []) (rest := []) ⟨hx, hb, hml, hown, hts⟩ (kX7_waysNow ad0 ad_text ad_draft ad_told ad_told_a ad_told_b ad_now ad_history ad_firstImage ad_secondImage ad_seen ad_ways ad_ways_ranked ad_ways_tens v_traced v_told_size v_told_touches v_told_one a_told_a a_told_b v_now_forgotten v_now_touches v_now_trapped v_now_one v_now_date v_ways_size v_ways_trapped a_ways_ranked a_ways_tens N q_5 hq_6 H.size) (vcwV hts tw_185 tw_186 tw_187 tw_41 tw_184 hd_X7_waysNow rfl rfl ⟨Nat.le_of_ble_eq_true rfl, Nat.le_of_ble_eq_true rfl⟩) (vpreV hK hN hP hD [0, 1, 2, 3, 4, 5, 6, 7] rfl (by decide) (ci := 7) (q0 := 0) rfl rfl) rfl rfl hl.1 rfl (lv_room (Nat.le_of_ble_eq_true rfl)) (dt uX7_from 12 rfl) ⟨Nat.zero_le _, Nat.zero_le _⟩) hA hP hD hS rfl (by decide) rfl rfl (fun H locs hP hD hS => ?_)
      refine lv_pop hx hb (dt uX7_from 13 rfl) rfl ?_
      refine lv_iconst (v := (0 : Int32)) hx hb (dt uX7_from 14 rfl) (by decide) ?_
      refine lv_istore_n (lv' := [(3, .int (0 : Int32)), (0, .ref ad0), (1, .int p1), (2, .int p2)]) hx hb (dt uX7_from 15 rfl) rfl hl (by decide) rfl (fun ls hl => ?_)
      refine lv_iconst (v := (0 : Int32)) hx hb (dt uX7_from 16 rfl) (by decide) ?_
      refine lv_istore (lv' := [(4, .int (0 : Int32)), (3, .int (0 : Int32)), (0, .ref ad0), (1, .int p1), (2, .int p2)]) hx hb (dt uX7_from 17 rfl) hl (by decide) rfl (fun ls hl => ?_)
      have hL30 : ∀ (n30 : Nat), ∀ (x3_7 : Int32) (x4_8 : Int32) (H : Heap) (locs : List Loc) (ls : Array Slot), fX7_from_L30 N v_told_size v_now_touches p1 p2 q_5 n30 x3_7 x4_8 = some q0 → va_P (dC, dI) vwCl [(ad0, oX7 ad_text ad_draft ad_told ad_now ad_history ad_firstImage ad_secondImage ad_seen ad_ways v_traced), (ad_told, oX0 ad_told_a ad_told_b v_told_size v_told_touches v_told_one), (ad_told_a, .inl (cI, 6, .inl a_told_a)), (ad_told_b, .inl (cI, 6, .inl a_told_b)), (ad_now, oX3 v_now_forgotten v_now_touches v_now_trapped v_now_one v_now_date), (ad_ways, oX6 ad_ways_ranked ad_ways_tens q_5.2.2.1 q_5.2.2.2), (ad_ways_ranked, .inl (cI, 6, .inl q_5.1)), (ad_ways_tens, .inl (cI, 6, .inl q_5.2.1))] H → va_D A [(ad0, oX7 ad_text ad_draft ad_told ad_now ad_history ad_firstImage ad_secondImage ad_seen ad_ways v_traced), (ad_told, oX0 ad_told_a ad_told_b v_told_size v_told_touches v_told_one), (ad_told_a, .inl (cI, 6, .inl a_told_a)), (ad_told_b, .inl (cI, 6, .inl a_told_b)), (ad_now, oX3 v_now_forgotten v_now_touches v_now_trapped v_now_one v_now_date), (ad_ways, oX6 ad_ways_ranked ad_ways_tens q_5.2.2.1 q_5.2.2.2), (ad_ways_ranked, .inl (cI, 6, .inl q_5.1)), (ad_ways_tens, .inl (cI, 6, .inl q_5.2.1))] → va_S A s.heap H locs → lv_has ls 5 [(0, .ref ad0), (1, .int p1), (2, .int p2), (3, .int x3_7), (4, .int x4_8)] → W p l e rX7_from s m args below meth c H locs 0 0 Q (F0 m 30 ls []) := by
        intro n30
        induction n30 with
        | zero => intro x3_7 x4_8 H locs ls hf hP hD hS hl; cases hf
        | succ n30 ih30 =>
          intro x3_7 x4_8 H locs ls hf hP hD hS hl
          rw [fX7_from_L30] at hf
          refine lv_iload hx hb (dt uX7_from 18 rfl) (lv_at hl 4 rfl) ?_
          refine lv_aload_n hx hb (dt uX7_from 19 rfl) rfl (lv_at hl 0 rfl) ?_
          refine va_get (D := (dC, dI)) (ci := 7) (v := .ref ad_told) (C := RX7) (T := TX7) (N := 10) hx hb hts inU7 hown hK hP 0 rfl rfl 2 (by decide) (hts _ tw_118) (fun _ h9 => h9) rfl (dt uX7_from 20 rfl) ?_
          refine va_getN (D := (dC, dI)) (ci := 0) (v := .int v_told_size) (C := RX0) (T := TX0) (N := 5) hx hb hts inU0 hown hK hP 1 rfl rfl 2 (by decide) (nw_7 hN) (fun _ h9 => h9) rfl (dt uX7_from 21 rfl) ?_
          refine lv_icmp_ge (tgt := 76) hx hb (dt uX7_from 22 rfl) (by decide) (fun c_9 => ?_) (fun c_9 => ?_)
          · have hf := vif_t c_9 hf
            refine lv_iload_n hx hb (dt uX7_from 41 rfl) rfl (lv_at hl 3 rfl) ?_
            have hf := Option.some.inj hf
            subst hf
            rw [hQ]
            exact vret_i C hP hD hS (dt uX7_from 42 rfl)
          · have hf := vif_f c_9 hf
            refine lv_aload_n hx hb (dt uX7_from 23 rfl) rfl (lv_at hl 0 rfl) ?_
            refine va_get (D := (dC, dI)) (ci := 7) (v := .ref ad_ways) (C := RX7) (T := TX7) (N := 10) hx hb hts inU7 hown hK hP 0 rfl rfl 8 (by decide) (hts _ tw_173) (fun _ h9 => h9) rfl (dt uX7_from 24 rfl) ?_
            refine lv_iload hx hb (dt uX7_from 25 rfl) (lv_at hl 4 rfl) ?_
            refine lv_iload_n hx hb (dt uX7_from 26 rfl) rfl (lv_at hl 2 rfl) ?_
            refine lv_aload_n hx hb (dt uX7_from 27 rfl) rfl (lv_at hl 0 rfl) ?_
            refine va_get (D := (dC, dI)) (ci := 7) (v := .ref ad_now) (C := RX7) (T := TX7) (N := 10) hx hb hts inU7 hown hK hP 0 rfl rfl 3 (by decide) (hts _ tw_122) (fun _ h9 => h9) rfl (dt uX7_from 28 rfl) ?_
            refine va_getN (D := (dC, dI)) (ci := 3) (v := .int v_now_touches) (C := RX3) (T := TX3) (N := 5) hx hb hts inU3 hown hK hP 4 rfl rfl 1 (by decide) (nw_14 hN) (fun _ h9 => h9) rfl (dt uX7_from 29 rfl) ?_
            obtain ⟨q_10, hq_11, hf⟩ := vbd hf
            refine vk_i0 [5, 6] (va_runVN (As := [.int x4_8, .int p2, .int v_now_touches]) (rest := []) ⟨hx, hb, hml, hown, hts⟩ (kX6_walk ad_ways ad_ways_ranked ad_ways_tens q_5.2.2.1 q_5.2.2.2 q_5.1 x4_8 p2 v_now_touches N q_10 hq_11 H.size) (vcwVN hts (nm_50 hN) tw_104 tw_105 tw_97 tw_102 hd_X6_walk rfl rfl ⟨Nat.le_of_ble_eq_true rfl, Nat.le_of_ble_eq_true rfl⟩) (vpreV hK hN hP hD [5, 6] rfl (by decide) (ci := 6) (q0 := 5) rfl rfl) rfl rfl hl.1 rfl (lv_room (Nat.le_of_ble_eq_true rfl)) (dt uX7_from 30 rfl) ⟨Nat.zero_le _, Nat.zero_le _⟩) hA hP hD hS rfl (by decide) (fun H locs hP hD hS => ?_)
            refine lv_iload_n hx hb (dt uX7_from 31 rfl) rfl (lv_at hl 1 rfl) ?_
            refine lv_icmp_ne (tgt := 70) hx hb (dt uX7_from 32 rfl) (by decide) (fun c_12 => ?_) (fun c_12 => ?_)
            · have hf := vif_f c_12 hf
              refine lv_iinc (v := x4_8 + 1) (lv' := [(4, .int (x4_8 + 1)), (0, .ref ad0), (1, .int p1), (2, .int p2), (3, .int x3_7)]) hx hb (dt uX7_from 39 rfl) hl (k := 4) rfl rfl (by decide) rfl (fun ls hl => ?_)
              refine lv_goto (tgt := 30) hx hb (dt uX7_from 40 rfl) (by decide) ?_
              exact ih30 x3_7 (x4_8 + 1) _ _ _ hf hP hD hS (lv_sub hl [1, 2, 3, 4, 0] rfl)
            · have hf := vif_t c_12 hf
              refine lv_iload_n hx hb (dt uX7_from 33 rfl) rfl (lv_at hl 3 rfl) ?_
              refine lv_iconst (v := (1 : Int32)) hx hb (dt uX7_from 34 rfl) (by decide) ?_
              refine lv_iload hx hb (dt uX7_from 35 rfl) (lv_at hl 4 rfl) ?_
              refine lv_ishl hx hb (dt uX7_from 36 rfl) ?_
              refine lv_ior hx hb (dt uX7_from 37 rfl) ?_
              refine lv_istore_n (lv' := [(3, .int (x3_7 ||| ((1 : Int32) <<< (x4_8 &&& 31)))), (0, .ref ad0), (1, .int p1), (2, .int p2), (4, .int x4_8)]) hx hb (dt uX7_from 38 rfl) rfl hl (by decide) rfl (fun ls hl => ?_)
              refine lv_iinc (v := x4_8 + 1) (lv' := [(4, .int (x4_8 + 1)), (3, .int (x3_7 ||| ((1 : Int32) <<< (x4_8 &&& 31)))), (0, .ref ad0), (1, .int p1), (2, .int p2)]) hx hb (dt uX7_from 39 rfl) hl (k := 4) rfl rfl (by decide) rfl (fun ls hl => ?_)
              refine lv_goto (tgt := 30) hx hb (dt uX7_from 40 rfl) (by decide) ?_
              exact ih30 (x3_7 ||| ((1 : Int32) <<< (x4_8 &&& 31))) (x4_8 + 1) _ _ _ hf hP hD hS (lv_sub hl [2, 3, 4, 1, 0] rfl)
      exact hL30 N (0 : Int32) (0 : Int32) _ _ _ hf hP hD hS (lv_sub hl [2, 3, 4, 1, 0] rfl)
    · have hf := vif_t c_4 hf
      refine lv_iconst (v := (-1 : Int32)) hx hb (dt uX7_from 9 rfl) (by decide) ?_
      have hf := Option.some.inj hf
      subst hf
      rw [hQ]
      exact vret_i C hP hD hS (dt uX7_from 10 rfl)
abbrev rX7_lures : Room := { frames := 3, cells := 0, slots := 0, locals := 72 }
abbrev wX7_lures : List Cond := Cond.code yX7_lures cX7_lures 4 (some .boolean) :: VT
set_option maxHeartbeats 4000000 in
set_option maxRecDepth 100000 in
theorem kX7_lures (ad0 : Nat) (ad_text : Nat) (ad_draft : Nat) (ad_told : Nat) (ad_now : Nat) (ad_history : Nat) (ad_firstImage : Nat) (ad_secondImage : Nat) (ad_seen : Nat) (ad_ways : Nat) (ad_ways_ranked : Nat) (ad_ways_tens : Nat) (v_traced : Int64) (v_now_forgotten : Int32) (v_now_touches : Int32) (v_now_trapped : Int32) (v_now_one : Int32) (v_now_date : Int32) (v_ways_size : Int32) (v_ways_trapped : Int32) (a_ways_ranked : Nat → Int32) (p1 : Int32) (p2 : Int32) (p3 : Int32) (N : Nat) (q0 : Int32) (hf : fX7_lures N v_now_touches v_now_one a_ways_ranked v_ways_size v_ways_trapped p1 p2 p3 = some q0) : Kz l yX7_lures wX7_lures rX7_lures (dC, dI) (vTy cI cJ cB cZ) [.ref ad0, .int p1, .int p2, .int p3] [(ad0, oX7 ad_text ad_draft ad_told ad_now ad_history ad_firstImage ad_secondImage ad_seen ad_ways v_traced), (ad_now, oX3 v_now_forgotten v_now_touches v_now_trapped v_now_one v_now_date), (ad_ways, oX6 ad_ways_ranked ad_ways_tens v_ways_size v_ways_trapped), (ad_ways_ranked, .inl (cI, 6, .inl a_ways_ranked))] [(ad0, oX7 ad_text ad_draft ad_told ad_now ad_history ad_firstImage ad_secondImage ad_seen ad_ways v_traced), (ad_now, oX3 v_now_forgotten v_now_touches v_now_trapped v_now_one v_now_date), (ad_ways, oX6 ad_ways_ranked ad_ways_tens v_ways_size v_ways_trapped), (ad_ways_ranked, .inl (cI, 6, .inl a_ways_ranked))] q0 := by
  refine Kz.mk (cc := cX7_lures) (maxL := 4) (ret := some .boolean) (by decide) (Nat.le_of_ble_eq_true rfl) ?_
  intro p e s m args below meth c A Q H locs C hQ hP hD hS ls hl
  obtain ⟨hx, hb, -, hml, hts, hown, -, hK, hN, hA⟩ := id C
  have hown : s.vm.findClass RX7 = some m.cls := hown
  have hl : lv_has ls 4 [(0, .ref ad0), (1, .int p1), (2, .int p2), (3, .int p3)] := hl
  unfold fX7_lures at hf
  refine lv_aload_n hx hb (dt uX7_lures 0 rfl) rfl (lv_at hl 0 rfl) ?_
  refine va_get (D := (dC, dI)) (ci := 7) (v := .ref ad_ways) (C := RX7) (T := TX7) (N := 10) hx hb hts inU7 hown hK hP 0 rfl rfl 8 (by decide) (hts _ tw_173) (fun _ h9 => h9) rfl (dt uX7_lures 1 rfl) ?_
  refine lv_aload_n hx hb (dt uX7_lures 2 rfl) rfl (lv_at hl 0 rfl) ?_
  refine va_get (D := (dC, dI)) (ci := 7) (v := .ref ad_now) (C := RX7) (T := TX7) (N := 10) hx hb hts inU7 hown hK hP 0 rfl rfl 3 (by decide) (hts _ tw_122) (fun _ h9 => h9) rfl (dt uX7_lures 3 rfl) ?_
  refine va_getN (D := (dC, dI)) (ci := 3) (v := .int v_now_one) (C := RX3) (T := TX3) (N := 5) hx hb hts inU3 hown hK hP 1 rfl rfl 3 (by decide) (nw_16 hN) (fun _ h9 => h9) rfl (dt uX7_lures 4 rfl) ?_
  refine lv_iload_n hx hb (dt uX7_lures 5 rfl) rfl (lv_at hl 3 rfl) ?_
  refine lv_aload_n hx hb (dt uX7_lures 6 rfl) rfl (lv_at hl 0 rfl) ?_
  refine va_get (D := (dC, dI)) (ci := 7) (v := .ref ad_now) (C := RX7) (T := TX7) (N := 10) hx hb hts inU7 hown hK hP 0 rfl rfl 3 (by decide) (hts _ tw_122) (fun _ h9 => h9) rfl (dt uX7_lures 7 rfl) ?_
  refine va_getN (D := (dC, dI)) (ci := 3) (v := .int v_now_touches) (C := RX3) (T := TX3) (N := 5) hx hb hts inU3 hown hK hP 1 rfl rfl 1 (by decide) (nw_14 hN) (fun _ h9 => h9) rfl (dt uX7_lures 8 rfl) ?_
  refine lv_iload_n hx hb (dt uX7_lures 9 rfl) rfl (lv_at hl 1 rfl) ?_
  refine lv_ior hx hb (dt uX7_lures 10 rfl) ?_
  obtain ⟨q_1, hq_2, hf⟩ := vbd hf
  refine vk_i0 [2, 3] (va_runVN (As := [.int v_now_one, .int p3, .int (v_now_touches ||| p1)]) (rest := []) ⟨hx, hb, hml, hown, hts⟩ (kX6_walk ad_ways ad_ways_ranked ad_ways_tens v_ways_size v_ways_trapped a_ways_ranked v_now_one p3 (v_now_touches ||| p1) N q_1 hq_2 H.size) (vcwVN hts (nm_50 hN) tw_104 tw_105 tw_97 tw_102 hd_X6_walk rfl rfl ⟨Nat.le_of_ble_eq_true rfl, Nat.le_of_ble_eq_true rfl⟩) (vpreV hK hN hP hD [2, 3] rfl (by decide) (ci := 6) (q0 := 2) rfl rfl) rfl rfl hl.1 rfl (lv_room (Nat.le_of_ble_eq_true rfl)) (dt uX7_lures 11 rfl) ⟨Nat.zero_le _, Nat.zero_le _⟩) hA hP hD hS rfl (by decide) (fun H locs hP hD hS => ?_)
  refine lv_iload_n hx hb (dt uX7_lures 12 rfl) rfl (lv_at hl 2 rfl) ?_
  refine lv_icmp_ne (tgt := 32) hx hb (dt uX7_lures 13 rfl) (by decide) (fun c_3 => ?_) (fun c_3 => ?_)
  · have hf := vif_f c_3 hf
    refine lv_iconst (v := (0 : Int32)) hx hb (dt uX7_lures 16 rfl) (by decide) ?_
    have hf := Option.some.inj hf
    subst hf
    rw [hQ]
    exact vret_z C hP hD hS (dt uX7_lures 17 rfl) (Or.inl rfl)
  · have hf := vif_t c_3 hf
    refine lv_iconst (v := (1 : Int32)) hx hb (dt uX7_lures 14 rfl) (by decide) ?_
    refine lv_goto (tgt := 33) hx hb (dt uX7_lures 15 rfl) (by decide) ?_
    have hf := Option.some.inj hf
    subst hf
    rw [hQ]
    exact vret_z C hP hD hS (dt uX7_lures 17 rfl) (Or.inr rfl)
abbrev rX7_firstSingleLure : Room := { frames := 4, cells := 0, slots := 0, locals := 95 }
abbrev wX7_firstSingleLure : List Cond := Cond.code yX7_firstSingleLure cX7_firstSingleLure 4 (some .int) :: VT
set_option maxHeartbeats 4000000 in
set_option maxRecDepth 100000 in
theorem kX7_firstSingleLure (ad0 : Nat) (ad_text : Nat) (ad_draft : Nat) (ad_told : Nat) (ad_now : Nat) (ad_history : Nat) (ad_firstImage : Nat) (ad_secondImage : Nat) (ad_seen : Nat) (ad_ways : Nat) (ad_ways_ranked : Nat) (ad_ways_tens : Nat) (v_traced : Int64) (v_now_forgotten : Int32) (v_now_touches : Int32) (v_now_trapped : Int32) (v_now_one : Int32) (v_now_date : Int32) (v_ways_size : Int32) (v_ways_trapped : Int32) (a_ways_ranked : Nat → Int32) (p1 : Int32) (p2 : Int32) (N : Nat) (q0 : Int32) (hf : fX7_firstSingleLure N v_now_touches v_now_one a_ways_ranked v_ways_size v_ways_trapped p1 p2 = some q0) : Ki l yX7_firstSingleLure wX7_firstSingleLure rX7_firstSingleLure (dC, dI) (vTy cI cJ cB cZ) [.ref ad0, .int p1, .int p2] [(ad0, oX7 ad_text ad_draft ad_told ad_now ad_history ad_firstImage ad_secondImage ad_seen ad_ways v_traced), (ad_now, oX3 v_now_forgotten v_now_touches v_now_trapped v_now_one v_now_date), (ad_ways, oX6 ad_ways_ranked ad_ways_tens v_ways_size v_ways_trapped), (ad_ways_ranked, .inl (cI, 6, .inl a_ways_ranked))] [(ad0, oX7 ad_text ad_draft ad_told ad_now ad_history ad_firstImage ad_secondImage ad_seen ad_ways v_traced), (ad_now, oX3 v_now_forgotten v_now_touches v_now_trapped v_now_one v_now_date), (ad_ways, oX6 ad_ways_ranked ad_ways_tens v_ways_size v_ways_trapped), (ad_ways_ranked, .inl (cI, 6, .inl a_ways_ranked))] q0 := by
  refine Ki.mk (cc := cX7_firstSingleLure) (maxL := 4) (ret := some .int) (by decide) (Nat.le_of_ble_eq_true rfl) ?_
  intro p e s m args below meth c A Q H locs C hQ hP hD hS ls hl
  obtain ⟨hx, hb, -, hml, hts, hown, -, hK, hN, hA⟩ := id C
  have hown : s.vm.findClass RX7 = some m.cls := hown
  have hl : lv_has ls 4 [(0, .ref ad0), (1, .int p1), (2, .int p2)] := hl
  unfold fX7_firstSingleLure at hf
  refine lv_iconst (v := (0 : Int32)) hx hb (dt uX7_firstSingleLure 0 rfl) (by decide) ?_
  refine lv_istore_n (lv' := [(3, .int (0 : Int32)), (0, .ref ad0), (1, .int p1), (2, .int p2)]) hx hb (dt uX7_firstSingleLure 1 rfl) rfl hl (by decide) rfl (fun ls hl => ?_)
  have hL2 : ∀ (n2 : Nat), ∀ (x3_1 : Int32) (H : Heap) (locs : List Loc) (ls : Array Slot), fX7_firstSingleLure_L2 N v_now_touches v_now_one a_ways_ranked v_ways_size v_ways_trapped p1 p2 n2 x3_1 = some q0 → va_P (dC, dI) vwCl [(ad0, oX7 ad_text ad_draft ad_told ad_now ad_history ad_firstImage ad_secondImage ad_seen ad_ways v_traced), (ad_now, oX3 v_now_forgotten v_now_touches v_now_trapped v_now_one v_now_date), (ad_ways, oX6 ad_ways_ranked ad_ways_tens v_ways_size v_ways_trapped), (ad_ways_ranked, .inl (cI, 6, .inl a_ways_ranked))] H → va_D A [(ad0, oX7 ad_text ad_draft ad_told ad_now ad_history ad_firstImage ad_secondImage ad_seen ad_ways v_traced), (ad_now, oX3 v_now_forgotten v_now_touches v_now_trapped v_now_one v_now_date), (ad_ways, oX6 ad_ways_ranked ad_ways_tens v_ways_size v_ways_trapped), (ad_ways_ranked, .inl (cI, 6, .inl a_ways_ranked))] → va_S A s.heap H locs → lv_has ls 4 [(0, .ref ad0), (1, .int p1), (2, .int p2), (3, .int x3_1)] → W p l e rX7_firstSingleLure s m args below meth c H locs 0 0 Q (F0 m 2 ls []) := by
    intro n2
    induction n2 with
    | zero => intro x3_1 H locs ls hf hP hD hS hl; cases hf
    | succ n2 ih2 =>
      intro x3_1 H locs ls hf hP hD hS hl
      rw [fX7_firstSingleLure_L2] at hf
      refine lv_iload_n hx hb (dt uX7_firstSingleLure 2 rfl) rfl (lv_at hl 3 rfl) ?_
      refine lv_bipush (v := (15 : Int32)) hx hb (dt uX7_firstSingleLure 3 rfl) (by decide) ?_
      refine lv_icmp_ge (tgt := 30) hx hb (dt uX7_firstSingleLure 4 rfl) (by decide) (fun c_2 => ?_) (fun c_2 => ?_)
      · have hf := vif_t c_2 hf
        refine lv_bipush (v := (-9 : Int32)) hx hb (dt uX7_firstSingleLure 19 rfl) (by decide) ?_
        have hf := Option.some.inj hf
        subst hf
        rw [hQ]
        exact vret_i C hP hD hS (dt uX7_firstSingleLure 20 rfl)
      · have hf := vif_f c_2 hf
        refine lv_aload_n hx hb (dt uX7_firstSingleLure 5 rfl) rfl (lv_at hl 0 rfl) ?_
        refine lv_iconst (v := (1 : Int32)) hx hb (dt uX7_firstSingleLure 6 rfl) (by decide) ?_
        refine lv_iload_n hx hb (dt uX7_firstSingleLure 7 rfl) rfl (lv_at hl 3 rfl) ?_
        refine lv_ishl hx hb (dt uX7_firstSingleLure 8 rfl) ?_
        refine lv_iload_n hx hb (dt uX7_firstSingleLure 9 rfl) rfl (lv_at hl 1 rfl) ?_
        refine lv_iload_n hx hb (dt uX7_firstSingleLure 10 rfl) rfl (lv_at hl 2 rfl) ?_
        obtain ⟨q_3, hq_4, hf⟩ := vbd hf
        refine vk_z0 [0, 1, 2, 3] (va_runV (As := [.int ((1 : Int32) <<< (x3_1 &&& 31)), .int p1, .int p2]) (rest := []) ⟨hx, hb, hml, hown, hts⟩ (kX7_lures ad0 ad_text ad_draft ad_told ad_now ad_history ad_firstImage ad_secondImage ad_seen ad_ways ad_ways_ranked ad_ways_tens v_traced v_now_forgotten v_now_touches v_now_trapped v_now_one v_now_date v_ways_size v_ways_trapped a_ways_ranked ((1 : Int32) <<< (x3_1 &&& 31)) p1 p2 N q_3 hq_4 H.size) (vcwV hts tw_213 tw_214 tw_215 tw_41 tw_212 hd_X7_lures rfl rfl ⟨Nat.le_of_ble_eq_true rfl, Nat.le_of_ble_eq_true rfl⟩) (vpreV hK hN hP hD [0, 1, 2, 3] rfl (by decide) (ci := 7) (q0 := 0) rfl rfl) rfl rfl hl.1 rfl (lv_room (Nat.le_of_ble_eq_true rfl)) (dt uX7_firstSingleLure 11 rfl) ⟨Nat.zero_le _, Nat.zero_le _⟩) hA hP hD hS rfl (by decide) (fun hz_5 H locs hP hD hS => ?_)
        refine lv_if_eq (tgt := 24) hx hb (dt uX7_firstSingleLure 12 rfl) (by decide) (fun c_6 => ?_) (fun c_6 => ?_)
        · have hf := vif_t c_6 hf
          refine lv_iinc (v := x3_1 + 1) (lv' := [(3, .int (x3_1 + 1)), (0, .ref ad0), (1, .int p1), (2, .int p2)]) hx hb (dt uX7_firstSingleLure 17 rfl) hl (k := 3) rfl rfl (by decide) rfl (fun ls hl => ?_)
          refine lv_goto (tgt := 2) hx hb (dt uX7_firstSingleLure 18 rfl) (by decide) ?_
          exact ih2 (x3_1 + 1) _ _ _ hf hP hD hS (lv_sub hl [1, 2, 3, 0] rfl)
        · have hf := vif_f c_6 hf
          refine lv_iconst (v := (1 : Int32)) hx hb (dt uX7_firstSingleLure 13 rfl) (by decide) ?_
          refine lv_iload_n hx hb (dt uX7_firstSingleLure 14 rfl) rfl (lv_at hl 3 rfl) ?_
          refine lv_ishl hx hb (dt uX7_firstSingleLure 15 rfl) ?_
          have hf := Option.some.inj hf
          subst hf
          rw [hQ]
          exact vret_i C hP hD hS (dt uX7_firstSingleLure 16 rfl)
  exact hL2 N (0 : Int32) _ _ _ hf hP hD hS (lv_sub hl [1, 2, 3, 0] rfl)
abbrev rX7_firstDoubleLure : Room := { frames := 4, cells := 0, slots := 0, locals := 95 }
abbrev wX7_firstDoubleLure : List Cond := Cond.code yX7_firstDoubleLure cX7_firstDoubleLure 6 (some .int) :: VT
set_option maxHeartbeats 4000000 in
set_option maxRecDepth 100000 in
theorem kX7_firstDoubleLure (ad0 : Nat) (ad_text : Nat) (ad_draft : Nat) (ad_told : Nat) (ad_now : Nat) (ad_history : Nat) (ad_firstImage : Nat) (ad_secondImage : Nat) (ad_seen : Nat) (ad_ways : Nat) (ad_ways_ranked : Nat) (ad_ways_tens : Nat) (v_traced : Int64) (v_now_forgotten : Int32) (v_now_touches : Int32) (v_now_trapped : Int32) (v_now_one : Int32) (v_now_date : Int32) (v_ways_size : Int32) (v_ways_trapped : Int32) (a_ways_ranked : Nat → Int32) (p1 : Int32) (p2 : Int32) (N : Nat) (q0 : Int32) (hf : fX7_firstDoubleLure N v_now_touches v_now_one a_ways_ranked v_ways_size v_ways_trapped p1 p2 = some q0) : Ki l yX7_firstDoubleLure wX7_firstDoubleLure rX7_firstDoubleLure (dC, dI) (vTy cI cJ cB cZ) [.ref ad0, .int p1, .int p2] [(ad0, oX7 ad_text ad_draft ad_told ad_now ad_history ad_firstImage ad_secondImage ad_seen ad_ways v_traced), (ad_now, oX3 v_now_forgotten v_now_touches v_now_trapped v_now_one v_now_date), (ad_ways, oX6 ad_ways_ranked ad_ways_tens v_ways_size v_ways_trapped), (ad_ways_ranked, .inl (cI, 6, .inl a_ways_ranked))] [(ad0, oX7 ad_text ad_draft ad_told ad_now ad_history ad_firstImage ad_secondImage ad_seen ad_ways v_traced), (ad_now, oX3 v_now_forgotten v_now_touches v_now_trapped v_now_one v_now_date), (ad_ways, oX6 ad_ways_ranked ad_ways_tens v_ways_size v_ways_trapped), (ad_ways_ranked, .inl (cI, 6, .inl a_ways_ranked))] q0 := by
  refine Ki.mk (cc := cX7_firstDoubleLure) (maxL := 6) (ret := some .int) (by decide) (Nat.le_of_ble_eq_true rfl) ?_
  intro p e s m args below meth c A Q H locs C hQ hP hD hS ls hl
  obtain ⟨hx, hb, -, hml, hts, hown, -, hK, hN, hA⟩ := id C
  have hown : s.vm.findClass RX7 = some m.cls := hown
  have hl : lv_has ls 6 [(0, .ref ad0), (1, .int p1), (2, .int p2)] := hl
  unfold fX7_firstDoubleLure at hf
  refine lv_iconst (v := (0 : Int32)) hx hb (dt uX7_firstDoubleLure 0 rfl) (by decide) ?_
  refine lv_istore_n (lv' := [(3, .int (0 : Int32)), (0, .ref ad0), (1, .int p1), (2, .int p2)]) hx hb (dt uX7_firstDoubleLure 1 rfl) rfl hl (by decide) rfl (fun ls hl => ?_)
  have hL2 : ∀ (n2 : Nat), ∀ (x3_1 : Int32) (H : Heap) (locs : List Loc) (ls : Array Slot), fX7_firstDoubleLure_L2 N v_now_touches v_now_one a_ways_ranked v_ways_size v_ways_trapped p1 p2 n2 x3_1 = some q0 → va_P (dC, dI) vwCl [(ad0, oX7 ad_text ad_draft ad_told ad_now ad_history ad_firstImage ad_secondImage ad_seen ad_ways v_traced), (ad_now, oX3 v_now_forgotten v_now_touches v_now_trapped v_now_one v_now_date), (ad_ways, oX6 ad_ways_ranked ad_ways_tens v_ways_size v_ways_trapped), (ad_ways_ranked, .inl (cI, 6, .inl a_ways_ranked))] H → va_D A [(ad0, oX7 ad_text ad_draft ad_told ad_now ad_history ad_firstImage ad_secondImage ad_seen ad_ways v_traced), (ad_now, oX3 v_now_forgotten v_now_touches v_now_trapped v_now_one v_now_date), (ad_ways, oX6 ad_ways_ranked ad_ways_tens v_ways_size v_ways_trapped), (ad_ways_ranked, .inl (cI, 6, .inl a_ways_ranked))] → va_S A s.heap H locs → lv_has ls 6 [(0, .ref ad0), (1, .int p1), (2, .int p2), (3, .int x3_1)] → W p l e rX7_firstDoubleLure s m args below meth c H locs 0 0 Q (F0 m 2 ls []) := by
    intro n2
    induction n2 with
    | zero => intro x3_1 H locs ls hf hP hD hS hl; cases hf
    | succ n2 ih2 =>
      intro x3_1 H locs ls hf hP hD hS hl
      rw [fX7_firstDoubleLure_L2] at hf
      refine lv_iload_n hx hb (dt uX7_firstDoubleLure 2 rfl) rfl (lv_at hl 3 rfl) ?_
      refine lv_bipush (v := (15 : Int32)) hx hb (dt uX7_firstDoubleLure 3 rfl) (by decide) ?_
      refine lv_icmp_ge (tgt := 56) hx hb (dt uX7_firstDoubleLure 4 rfl) (by decide) (fun c_2 => ?_) (fun c_2 => ?_)
      · have hf := vif_t c_2 hf
        refine lv_bipush (v := (-9 : Int32)) hx hb (dt uX7_firstDoubleLure 32 rfl) (by decide) ?_
        have hf := Option.some.inj hf
        subst hf
        rw [hQ]
        exact vret_i C hP hD hS (dt uX7_firstDoubleLure 33 rfl)
      · have hf := vif_f c_2 hf
        refine lv_iload_n hx hb (dt uX7_firstDoubleLure 5 rfl) rfl (lv_at hl 3 rfl) ?_
        refine lv_iconst (v := (1 : Int32)) hx hb (dt uX7_firstDoubleLure 6 rfl) (by decide) ?_
        refine lv_iadd hx hb (dt uX7_firstDoubleLure 7 rfl) ?_
        refine lv_istore (lv' := [(4, .int (x3_1 + (1 : Int32))), (0, .ref ad0), (1, .int p1), (2, .int p2), (3, .int x3_1)]) hx hb (dt uX7_firstDoubleLure 8 rfl) hl (by decide) rfl (fun ls hl => ?_)
        have hL13 : ∀ (n13 : Nat), ∀ (x4_3 : Int32) (H : Heap) (locs : List Loc) (ls : Array Slot), fX7_firstDoubleLure_L13 N v_now_touches v_now_one a_ways_ranked v_ways_size v_ways_trapped p1 p2 x3_1 (fun z2_0 => fX7_firstDoubleLure_L2 N v_now_touches v_now_one a_ways_ranked v_ways_size v_ways_trapped p1 p2 n2 z2_0) n13 x4_3 = some q0 → va_P (dC, dI) vwCl [(ad0, oX7 ad_text ad_draft ad_told ad_now ad_history ad_firstImage ad_secondImage ad_seen ad_ways v_traced), (ad_now, oX3 v_now_forgotten v_now_touches v_now_trapped v_now_one v_now_date), (ad_ways, oX6 ad_ways_ranked ad_ways_tens v_ways_size v_ways_trapped), (ad_ways_ranked, .inl (cI, 6, .inl a_ways_ranked))] H → va_D A [(ad0, oX7 ad_text ad_draft ad_told ad_now ad_history ad_firstImage ad_secondImage ad_seen ad_ways v_traced), (ad_now, oX3 v_now_forgotten v_now_touches v_now_trapped v_now_one v_now_date), (ad_ways, oX6 ad_ways_ranked ad_ways_tens v_ways_size v_ways_trapped), (ad_ways_ranked, .inl (cI, 6, .inl a_ways_ranked))] → va_S A s.heap H locs → lv_has ls 6 [(0, .ref ad0), (1, .int p1), (2, .int p2), (3, .int x3_1), (4, .int x4_3)] → W p l e rX7_firstDoubleLure s m args below meth c H locs 0 0 Q (F0 m 13 ls []) := by
          intro n13
          induction n13 with
          | zero => intro x4_3 H locs ls hf hP hD hS hl; cases hf
          | succ n13 ih13 =>
            intro x4_3 H locs ls hf hP hD hS hl
            rw [fX7_firstDoubleLure_L13] at hf
            refine lv_iload hx hb (dt uX7_firstDoubleLure 9 rfl) (lv_at hl 4 rfl) ?_
            refine lv_bipush (v := (15 : Int32)) hx hb (dt uX7_firstDoubleLure 10 rfl) (by decide) ?_
            refine lv_icmp_ge (tgt := 50) hx hb (dt uX7_firstDoubleLure 11 rfl) (by decide) (fun c_4 => ?_) (fun c_4 => ?_)
            · have hf := vif_t c_4 hf
              refine lv_iinc (v := x3_1 + 1) (lv' := [(3, .int (x3_1 + 1)), (0, .ref ad0), (1, .int p1), (2, .int p2), (4, .int x4_3)]) hx hb (dt uX7_firstDoubleLure 30 rfl) hl (k := 3) rfl rfl (by decide) rfl (fun ls hl => ?_)
              refine lv_goto (tgt := 2) hx hb (dt uX7_firstDoubleLure 31 rfl) (by decide) ?_
              exact ih2 (x3_1 + 1) _ _ _ hf hP hD hS (lv_sub hl [1, 2, 3, 0] rfl)
            · have hf := vif_f c_4 hf
              refine lv_iconst (v := (1 : Int32)) hx hb (dt uX7_firstDoubleLure 12 rfl) (by decide) ?_
              refine lv_iload_n hx hb (dt uX7_firstDoubleLure 13 rfl) rfl (lv_at hl 3 rfl) ?_
              refine lv_ishl hx hb (dt uX7_firstDoubleLure 14 rfl) ?_
              refine lv_iconst (v := (1 : Int32)) hx hb (dt uX7_firstDoubleLure 15 rfl) (by decide) ?_
              refine lv_iload hx hb (dt uX7_firstDoubleLure 16 rfl) (lv_at hl 4 rfl) ?_
              refine lv_ishl hx hb (dt uX7_firstDoubleLure 17 rfl) ?_
              refine lv_ior hx hb (dt uX7_firstDoubleLure 18 rfl) ?_
              refine lv_istore (lv' := [(5, .int (((1 : Int32) <<< (x3_1 &&& 31)) ||| ((1 : Int32) <<< (x4_3 &&& 31)))), (0, .ref ad0), (1, .int p1), (2, .int p2), (3, .int x3_1), (4, .int x4_3)]) hx hb (dt uX7_firstDoubleLure 19 rfl) hl (by decide) rfl (fun ls hl => ?_)
              refine lv_aload_n hx hb (dt uX7_firstDoubleLure 20 rfl) rfl (lv_at hl 1 rfl) ?_
              refine lv_iload hx hb (dt uX7_firstDoubleLure 21 rfl) (lv_at hl 0 rfl) ?_
              refine lv_iload_n hx hb (dt uX7_firstDoubleLure 22 rfl) rfl (lv_at hl 2 rfl) ?_
              refine lv_iload_n hx hb (dt uX7_firstDoubleLure 23 rfl) rfl (lv_at hl 3 rfl) ?_
              obtain ⟨q_5, hq_6, hf⟩ := vbd hf
              refine vk_z0 [0, 1, 2, 3] (va_runV (As := [.int (((1 : Int32) <<< (x3_1 &&& 31)) ||| ((1 : Int32) <<< (x4_3 &&& 31))), .int p1, .int p2]) (rest := []) ⟨hx, hb, hml, hown, hts⟩ (kX7_lures ad0 ad_text ad_draft ad_told ad_now ad_history ad_firstImage ad_secondImage ad_seen ad_ways ad_ways_ranked ad_ways_tens v_traced v_now_forgotten v_now_touches v_now_trapped v_now_one v_now_date v_ways_size v_ways_trapped a_ways_ranked (((1 : Int32) <<< (x3_1 &&& 31)) ||| ((1 : Int32) <<< (x4_3 &&& 31))) p1 p2 N q_5 hq_6 H.size) (vcwV hts tw_213 tw_214 tw_215 tw_41 tw_212 hd_X7_lures rfl rfl ⟨Nat.le_of_ble_eq_true rfl, Nat.le_of_ble_eq_true rfl⟩) (vpreV hK hN hP hD [0, 1, 2, 3] rfl (by decide) (ci := 7) (q0 := 0) rfl rfl) rfl rfl hl.1 rfl (lv_room (Nat.le_of_ble_eq_true rfl)) (dt uX7_firstDoubleLure 24 rfl) ⟨Nat.zero_le _, Nat.zero_le _⟩) hA hP hD hS rfl (by decide) (fun hz_7 H locs hP hD hS => ?_)
              refine lv_if_eq (tgt := 44) hx hb (dt uX7_firstDoubleLure 25 rfl) (by decide) (fun c_8 => ?_) (fun c_8 => ?_)
              · have hf := vif_t c_8 hf
                refine lv_iinc (v := x4_3 + 1) (lv' := [(4, .int (x4_3 + 1)), (5, .int (((1 : Int32) <<< (x3_1 &&& 31)) ||| ((1 : Int32) <<< (x4_3 &&& 31)))), (0, .ref ad0), (1, .int p1), (2, .int p2), (3, .int x3_1)]) hx hb (dt uX7_firstDoubleLure 28 rfl) hl (k := 5) rfl rfl (by decide) rfl (fun ls hl => ?_)
                refine lv_goto (tgt := 13) hx hb (dt uX7_firstDoubleLure 29 rfl) (by decide) ?_
                exact ih13 (x4_3 + 1) _ _ _ hf hP hD hS (lv_sub hl [2, 3, 4, 5, 0] rfl)
              · have hf := vif_f c_8 hf
                refine lv_iload hx hb (dt uX7_firstDoubleLure 26 rfl) (lv_at hl 0 rfl) ?_
                have hf := Option.some.inj hf
                subst hf
                rw [hQ]
                exact vret_i C hP hD hS (dt uX7_firstDoubleLure 27 rfl)
        exact hL13 N (x3_1 + (1 : Int32)) _ _ _ hf hP hD hS (lv_sub hl [1, 2, 3, 4, 0] rfl)
  exact hL2 N (0 : Int32) _ _ _ hf hP hD hS (lv_sub hl [1, 2, 3, 0] rfl)
abbrev rX7_fewestMoreTouches : Room := { frames := 5, cells := 0, slots := 0, locals := 120 }
abbrev wX7_fewestMoreTouches : List Cond := Cond.code yX7_fewestMoreTouches cX7_fewestMoreTouches 4 (some .int) :: VT
set_option maxHeartbeats 4000000 in
set_option maxRecDepth 100000 in
theorem kX7_fewestMoreTouches (ad0 : Nat) (ad_text : Nat) (ad_draft : Nat) (ad_told : Nat) (ad_told_a : Nat) (ad_told_b : Nat) (ad_now : Nat) (ad_history : Nat) (ad_firstImage : Nat) (ad_secondImage : Nat) (ad_seen : Nat) (ad_ways : Nat) (ad_ways_ranked : Nat) (ad_ways_tens : Nat) (v_traced : Int64) (v_told_size : Int32) (v_told_touches : Int32) (v_told_one : Int32) (a_told_a : Nat → Int32) (a_told_b : Nat → Int32) (v_now_forgotten : Int32) (v_now_touches : Int32) (v_now_trapped : Int32) (v_now_one : Int32) (v_now_date : Int32) (v_ways_size : Int32) (v_ways_trapped : Int32) (a_ways_ranked : Nat → Int32) (a_ways_tens : Nat → Int32) (p1 : Int32) (p2 : Int32) (N : Nat) (q0 : (Int32 × (Nat → Int32) × (Nat → Int32) × Int32 × Int32)) (hf : fX7_fewestMoreTouches N a_told_a a_told_b v_told_size v_now_forgotten v_now_touches v_now_trapped v_now_one a_ways_ranked a_ways_tens v_ways_size v_ways_trapped p1 p2 = some q0) : Ki l yX7_fewestMoreTouches wX7_fewestMoreTouches rX7_fewestMoreTouches (dC, dI) (vTy cI cJ cB cZ) [.ref ad0, .int p1, .int p2] [(ad0, oX7 ad_text ad_draft ad_told ad_now ad_history ad_firstImage ad_secondImage ad_seen ad_ways v_traced), (ad_told, oX0 ad_told_a ad_told_b v_told_size v_told_touches v_told_one), (ad_told_a, .inl (cI, 6, .inl a_told_a)), (ad_told_b, .inl (cI, 6, .inl a_told_b)), (ad_now, oX3 v_now_forgotten v_now_touches v_now_trapped v_now_one v_now_date), (ad_ways, oX6 ad_ways_ranked ad_ways_tens v_ways_size v_ways_trapped), (ad_ways_ranked, .inl (cI, 6, .inl a_ways_ranked)), (ad_ways_tens, .inl (cI, 6, .inl a_ways_tens))] [(ad0, oX7 ad_text ad_draft ad_told ad_now ad_history ad_firstImage ad_secondImage ad_seen ad_ways v_traced), (ad_told, oX0 ad_told_a ad_told_b v_told_size v_told_touches v_told_one), (ad_told_a, .inl (cI, 6, .inl a_told_a)), (ad_told_b, .inl (cI, 6, .inl a_told_b)), (ad_now, oX3 v_now_forgotten v_now_touches v_now_trapped v_now_one v_now_date), (ad_ways, oX6 ad_ways_ranked ad_ways_tens q0.2.2.2.1 q0.2.2.2.2), (ad_ways_ranked, .inl (cI, 6, .inl q0.2.1)), (ad_ways_tens, .inl (cI, 6, .inl q0.2.2.1))] q0.1 := by
  refine Ki.mk (cc := cX7_fewestMoreTouches) (maxL := 4) (ret := some .int) (by decide) (Nat.le_of_ble_eq_true rfl) ?_
  intro p e s m args below meth c A Q H locs C hQ hP hD hS ls hl
  obtain ⟨hx, hb, -, hml, hts, hown, -, hK, hN, hA⟩ := id C
  have hown : s.vm.findClass RX7 = some m.cls := hown
  have hl : lv_has ls 4 [(0, .ref ad0), (1, .int p1), (2, .int p2)] := hl
  unfold fX7_fewestMoreTouches at hf
  refine lv_aload_n hx hb (dt uX7_fewestMoreTouches 0 rfl) rfl (lv_at hl 0 rfl) ?_
  obtain ⟨q_1, hq_2, hf⟩ := vbd hf
  refine vk_r [0, 1, 2, 3, 4, 5, 6, 7] (ws2 := [(ad0, oX7 ad_text ad_draft ad_told ad_now ad_history ad_firstImage ad_secondImage ad_seen ad_ways v_traced), (ad_told, oX0 ad_told_a ad_told_b v_told_size v_told_touches v_told_one), (ad_told_a, .inl (cI, 6, .inl a_told_a)), (ad_told_b, .inl (cI, 6, .inl a_told_b)), (ad_now, oX3 v_now_forgotten v_now_touches v_now_trapped v_now_one v_now_date), (ad_ways, oX6 ad_ways_ranked ad_ways_tens q_1.2.2.1 q_1.2.2.2), (ad_ways_ranked, .inl (cI, 6, .inl q_1.1)), (ad_ways_tens, .inl (cI, 6, .inl q_1.2.1))]) (va_runV (As := []) (rest := []) ⟨hx, hb, hml, hown, hts⟩ (kX7_waysNow ad0 ad_text ad_draft ad_told ad_told_a ad_told_b ad_now ad_history ad_firstImage ad_secondImage ad_seen ad_ways ad_ways_ranked ad_ways_tens v_traced v_told_size v_told_touches v_told_one a_told_a a_told_b v_now_forgotten v_now_touches v_now_trapped v_now_one v_now_date v_ways_size v_ways_trapped a_ways_ranked a_ways_tens N q_1 hq_2 H.size) (vcwV hts tw_185 tw_186 tw_187 tw_41 tw_184 hd_X7_waysNow rfl rfl ⟨Nat.le_of_ble_eq_true rfl, Nat.le_of_ble_eq_true rfl⟩) (vpreV hK hN hP hD [0, 1, 2, 3, 4, 5, 6, 7] rfl (by decide) (ci := 7) (q0 := 0) rfl rfl) rfl rfl hl.1 rfl (lv_room (Nat.le_of_ble_eq_true rfl)) (dt uX7_fewestMoreTouches 1 rfl) ⟨Nat.zero_le _, Nat.zero_le _⟩) hA hP hD hS rfl (by decide) rfl rfl (fun H locs hP hD hS => ?_)
  refine lv_pop hx hb (dt uX7_fewestMoreTouches 2 rfl) rfl ?_
  refine lv_aload_n hx hb (dt uX7_fewestMoreTouches 3 rfl) rfl (lv_at hl 0 rfl) ?_
  refine lv_iconst (v := (0 : Int32)) hx hb (dt uX7_fewestMoreTouches 4 rfl) (by decide) ?_
  refine lv_iload_n hx hb (dt uX7_fewestMoreTouches 5 rfl) rfl (lv_at hl 1 rfl) ?_
  refine lv_iload_n hx hb (dt uX7_fewestMoreTouches 6 rfl) rfl (lv_at hl 2 rfl) ?_
  obtain ⟨q_3, hq_4, hf⟩ := vbd hf
  refine vk_z0 [0, 4, 5, 6] (va_runV (As := [.int (0 : Int32), .int p1, .int p2]) (rest := []) ⟨hx, hb, hml, hown, hts⟩ (kX7_lures ad0 ad_text ad_draft ad_told ad_now ad_history ad_firstImage ad_secondImage ad_seen ad_ways ad_ways_ranked ad_ways_tens v_traced v_now_forgotten v_now_touches v_now_trapped v_now_one v_now_date q_1.2.2.1 q_1.2.2.2 q_1.1 (0 : Int32) p1 p2 N q_3 hq_4 H.size) (vcwV hts tw_213 tw_214 tw_215 tw_41 tw_212 hd_X7_lures rfl rfl ⟨Nat.le_of_ble_eq_true rfl, Nat.le_of_ble_eq_true rfl⟩) (vpreV hK hN hP hD [0, 4, 5, 6] rfl (by decide) (ci := 7) (q0 := 0) rfl rfl) rfl rfl hl.1 rfl (lv_room (Nat.le_of_ble_eq_true rfl)) (dt uX7_fewestMoreTouches 7 rfl) ⟨Nat.zero_le _, Nat.zero_le _⟩) hA hP hD hS rfl (by decide) (fun hz_5 H locs hP hD hS => ?_)
  refine lv_if_eq (tgt := 17) hx hb (dt uX7_fewestMoreTouches 8 rfl) (by decide) (fun c_6 => ?_) (fun c_6 => ?_)
  · have hf := vif_t c_6 hf
    refine lv_aload_n hx hb (dt uX7_fewestMoreTouches 11 rfl) rfl (lv_at hl 0 rfl) ?_
    refine lv_iload_n hx hb (dt uX7_fewestMoreTouches 12 rfl) rfl (lv_at hl 1 rfl) ?_
    refine lv_iload_n hx hb (dt uX7_fewestMoreTouches 13 rfl) rfl (lv_at hl 2 rfl) ?_
    obtain ⟨q_7, hq_8, hf⟩ := vbd hf
    refine vk_i0 [0, 4, 5, 6] (va_runV (As := [.int p1, .int p2]) (rest := []) ⟨hx, hb, hml, hown, hts⟩ (kX7_firstSingleLure ad0 ad_text ad_draft ad_told ad_now ad_history ad_firstImage ad_secondImage ad_seen ad_ways ad_ways_ranked ad_ways_tens v_traced v_now_forgotten v_now_touches v_now_trapped v_now_one v_now_date q_1.2.2.1 q_1.2.2.2 q_1.1 p1 p2 N q_7 hq_8 H.size) (vcwV hts tw_217 tw_218 tw_219 tw_41 tw_216 hd_X7_firstSingleLure rfl rfl ⟨Nat.le_of_ble_eq_true rfl, Nat.le_of_ble_eq_true rfl⟩) (vpreV hK hN hP hD [0, 4, 5, 6] rfl (by decide) (ci := 7) (q0 := 0) rfl rfl) rfl rfl hl.1 rfl (lv_room (Nat.le_of_ble_eq_true rfl)) (dt uX7_fewestMoreTouches 14 rfl) ⟨Nat.zero_le _, Nat.zero_le _⟩) hA hP hD hS rfl (by decide) (fun H locs hP hD hS => ?_)
    refine lv_istore_n (lv' := [(3, .int q_7), (0, .ref ad0), (1, .int p1), (2, .int p2)]) hx hb (dt uX7_fewestMoreTouches 15 rfl) rfl hl (by decide) rfl (fun ls hl => ?_)
    refine lv_iload_n hx hb (dt uX7_fewestMoreTouches 16 rfl) rfl (lv_at hl 0 rfl) ?_
    refine lv_bipush (v := (-9 : Int32)) hx hb (dt uX7_fewestMoreTouches 17 rfl) (by decide) ?_
    refine lv_icmp_eq (tgt := 34) hx hb (dt uX7_fewestMoreTouches 18 rfl) (by decide) (fun c_9 => ?_) (fun c_9 => ?_)
    · have hf := vif_t c_9 hf
      refine lv_aload_n hx hb (dt uX7_fewestMoreTouches 21 rfl) rfl (lv_at hl 1 rfl) ?_
      refine lv_iload_n hx hb (dt uX7_fewestMoreTouches 22 rfl) rfl (lv_at hl 2 rfl) ?_
      refine lv_iload_n hx hb (dt uX7_fewestMoreTouches 23 rfl) rfl (lv_at hl 3 rfl) ?_
      obtain ⟨q_10, hq_11, hf⟩ := vbd hf
      refine vk_i0 [0, 4, 5, 6] (va_runV (As := [.int p1, .int p2]) (rest := []) ⟨hx, hb, hml, hown, hts⟩ (kX7_firstDoubleLure ad0 ad_text ad_draft ad_told ad_now ad_history ad_firstImage ad_secondImage ad_seen ad_ways ad_ways_ranked ad_ways_tens v_traced v_now_forgotten v_now_touches v_now_trapped v_now_one v_now_date q_1.2.2.1 q_1.2.2.2 q_1.1 p1 p2 N q_10 hq_11 H.size) (vcwV hts tw_221 tw_222 tw_223 tw_41 tw_220 hd_X7_firstDoubleLure rfl rfl ⟨Nat.le_of_ble_eq_true rfl, Nat.le_of_ble_eq_true rfl⟩) (vpreV hK hN hP hD [0, 4, 5, 6] rfl (by decide) (ci := 7) (q0 := 0) rfl rfl) rfl rfl hl.1 rfl (lv_room (Nat.le_of_ble_eq_true rfl)) (dt uX7_fewestMoreTouches 24 rfl) ⟨Nat.zero_le _, Nat.zero_le _⟩) hA hP hD hS rfl (by decide) (fun H locs hP hD hS => ?_)
      have hf := Option.some.inj hf
      subst hf
      rw [hQ]
      exact vret_i C hP hD hS (dt uX7_fewestMoreTouches 25 rfl)
    · have hf := vif_f c_9 hf
      refine lv_iload_n hx hb (dt uX7_fewestMoreTouches 19 rfl) rfl (lv_at hl 0 rfl) ?_
      refine lv_goto (tgt := 40) hx hb (dt uX7_fewestMoreTouches 20 rfl) (by decide) ?_
      have hf := Option.some.inj hf
      subst hf
      rw [hQ]
      exact vret_i C hP hD hS (dt uX7_fewestMoreTouches 25 rfl)
  · have hf := vif_f c_6 hf
    refine lv_iconst (v := (0 : Int32)) hx hb (dt uX7_fewestMoreTouches 9 rfl) (by decide) ?_
    have hf := Option.some.inj hf
    subst hf
    rw [hQ]
    exact vret_i C hP hD hS (dt uX7_fewestMoreTouches 10 rfl)
abbrev rJ6_lowestOneBit_0f7a4 : Room := { frames := 0, cells := 0, slots := 0, locals := 0 }
abbrev wJ6_lowestOneBit_0f7a4 : List Cond := Cond.code yJ6_lowestOneBit_0f7a4 cJ6_lowestOneBit_0f7a4 1 (some .int) :: VT
set_option maxHeartbeats 4000000 in
set_option maxRecDepth 100000 in
theorem kJ6_lowestOneBit_0f7a4 (p1 : Int32) (q0 : Int32) (hf : fJ6_lowestOneBit_0f7a4 p1 = q0) : Ki l yJ6_lowestOneBit_0f7a4 wJ6_lowestOneBit_0f7a4 rJ6_lowestOneBit_0f7a4 (dC, dI) (vTy cI cJ cB cZ) [.int p1] [] [] q0 := by
  refine Ki.mk (cc := cJ6_lowestOneBit_0f7a4) (maxL := 1) (ret := some .int) (by decide) (Nat.le_of_ble_eq_true rfl) ?_
  intro p e s m args below meth c A Q H locs C hQ hP hD hS ls hl
  obtain ⟨hx, hb, -, hml, hts, hown, -, hK, hN, hA⟩ := id C
  have hown : s.vm.findClass RJ6 = some m.cls := hown
  have hl : lv_has ls 1 [(0, .int p1)] := hl
  unfold fJ6_lowestOneBit_0f7a4 at hf
  refine lv_iload_n hx hb (dt uJ6_lowestOneBit_0f7a4 0 rfl) rfl (lv_at hl 0 rfl) ?_
  refine lv_iload_n hx hb (dt uJ6_lowestOneBit_0f7a4 1 rfl) rfl (lv_at hl 0 rfl) ?_
  refine lv_ineg hx hb (dt uJ6_lowestOneBit_0f7a4 2 rfl) ?_
  refine lv_iand hx hb (dt uJ6_lowestOneBit_0f7a4 3 rfl) ?_
  subst hf
  rw [hQ]
  exact vret_i C hP hD hS (dt uJ6_lowestOneBit_0f7a4 4 rfl)
abbrev rX7_twoOf : Room := { frames := 1, cells := 0, slots := 0, locals := 23 }
abbrev wX7_twoOf : List Cond := Cond.code yX7_twoOf cX7_twoOf 3 (some .int) :: VT
set_option maxHeartbeats 4000000 in
set_option maxRecDepth 100000 in
theorem kX7_twoOf (p1 : Int32) (N : Nat) (q0 : Int32) (hf : fX7_twoOf N p1 = some q0) : Ki l yX7_twoOf wX7_twoOf rX7_twoOf (dC, dI) (vTy cI cJ cB cZ) [.int p1] [] [] q0 := by
  refine Ki.mk (cc := cX7_twoOf) (maxL := 3) (ret := some .int) (by decide) (Nat.le_of_ble_eq_true rfl) ?_
  intro p e s m args below meth c A Q H locs C hQ hP hD hS ls hl
  obtain ⟨hx, hb, -, hml, hts, hown, -, hK, hN, hA⟩ := id C
  have hown : s.vm.findClass RX7 = some m.cls := hown
  have hl : lv_has ls 3 [(0, .int p1)] := hl
  unfold fX7_twoOf at hf
  refine lv_iconst (v := (0 : Int32)) hx hb (dt uX7_twoOf 0 rfl) (by decide) ?_
  refine lv_istore_n (lv' := [(1, .int (0 : Int32)), (0, .int p1)]) hx hb (dt uX7_twoOf 1 rfl) rfl hl (by decide) rfl (fun ls hl => ?_)
  have hL2 : ∀ (n2 : Nat), ∀ (x1_1 : Int32) (H : Heap) (locs : List Loc) (ls : Array Slot), fX7_twoOf_L2 N p1 n2 x1_1 = some q0 → va_P (dC, dI) vwCl [] H → va_D A [] → va_S A s.heap H locs → lv_has ls 3 [(0, .int p1), (1, .int x1_1)] → W p l e rX7_twoOf s m args below meth c H locs 0 0 Q (F0 m 2 ls []) := by
    intro n2
    induction n2 with
    | zero => intro x1_1 H locs ls hf hP hD hS hl; cases hf
    | succ n2 ih2 =>
      intro x1_1 H locs ls hf hP hD hS hl
      rw [fX7_twoOf_L2] at hf
      refine lv_iload_n hx hb (dt uX7_twoOf 2 rfl) rfl (lv_at hl 1 rfl) ?_
      refine lv_bipush (v := (6 : Int32)) hx hb (dt uX7_twoOf 3 rfl) (by decide) ?_
      refine lv_icmp_ge (tgt := 46) hx hb (dt uX7_twoOf 4 rfl) (by decide) (fun c_2 => ?_) (fun c_2 => ?_)
      · have hf := vif_t c_2 hf
        refine lv_bipush (v := (-9 : Int32)) hx hb (dt uX7_twoOf 27 rfl) (by decide) ?_
        have hf := Option.some.inj hf
        subst hf
        rw [hQ]
        exact vret_i C hP hD hS (dt uX7_twoOf 28 rfl)
      · have hf := vif_f c_2 hf
        refine lv_iload_n hx hb (dt uX7_twoOf 5 rfl) rfl (lv_at hl 1 rfl) ?_
        refine lv_iconst (v := (1 : Int32)) hx hb (dt uX7_twoOf 6 rfl) (by decide) ?_
        refine lv_iadd hx hb (dt uX7_twoOf 7 rfl) ?_
        refine lv_istore_n (lv' := [(2, .int (x1_1 + (1 : Int32))), (0, .int p1), (1, .int x1_1)]) hx hb (dt uX7_twoOf 8 rfl) rfl hl (by decide) rfl (fun ls hl => ?_)
        have hL12 : ∀ (n12 : Nat), ∀ (x2_3 : Int32) (H : Heap) (locs : List Loc) (ls : Array Slot), fX7_twoOf_L12 p1 x1_1 (fun z2_0 => fX7_twoOf_L2 N p1 n2 z2_0) n12 x2_3 = some q0 → va_P (dC, dI) vwCl [] H → va_D A [] → va_S A s.heap H locs → lv_has ls 3 [(0, .int p1), (1, .int x1_1), (2, .int x2_3)] → W p l e rX7_twoOf s m args below meth c H locs 0 0 Q (F0 m 12 ls []) := by
          intro n12
          induction n12 with
          | zero => intro x2_3 H locs ls hf hP hD hS hl; cases hf
          | succ n12 ih12 =>
            intro x2_3 H locs ls hf hP hD hS hl
            rw [fX7_twoOf_L12] at hf
            refine lv_iload_n hx hb (dt uX7_twoOf 9 rfl) rfl (lv_at hl 2 rfl) ?_
            refine lv_bipush (v := (6 : Int32)) hx hb (dt uX7_twoOf 10 rfl) (by decide) ?_
            refine lv_icmp_ge (tgt := 40) hx hb (dt uX7_twoOf 11 rfl) (by decide) (fun c_4 => ?_) (fun c_4 => ?_)
            · have hf := vif_t c_4 hf
              refine lv_iinc (v := x1_1 + 1) (lv' := [(1, .int (x1_1 + 1)), (0, .int p1), (2, .int x2_3)]) hx hb (dt uX7_twoOf 25 rfl) hl (k := 1) rfl rfl (by decide) rfl (fun ls hl => ?_)
              refine lv_goto (tgt := 2) hx hb (dt uX7_twoOf 26 rfl) (by decide) ?_
              exact ih2 (x1_1 + 1) _ _ _ hf hP hD hS (lv_sub hl [1, 0] rfl)
            · have hf := vif_f c_4 hf
              refine lv_iload_n hx hb (dt uX7_twoOf 12 rfl) rfl (lv_at hl 1 rfl) ?_
              refine lv_iload_n hx hb (dt uX7_twoOf 13 rfl) rfl (lv_at hl 2 rfl) ?_
              refine vk_i0 [] (va_runS (As := [.int x1_1, .int x2_3]) (rest := []) ⟨hx, hb, hml, hown, hts⟩ (kX7_touchBit x1_1 x2_3 _ rfl H.size) (vcwS hts tw_140 tw_76 tw_41 tw_75 hd_X7_touchBit rfl rfl ⟨Nat.le_of_ble_eq_true rfl, Nat.le_of_ble_eq_true rfl⟩) (vpreS hK hN hP hD [] rfl (by decide)) rfl rfl hl.1 rfl (lv_room (Nat.le_of_ble_eq_true rfl)) (dt uX7_twoOf 14 rfl) ⟨Nat.zero_le _, Nat.zero_le _⟩) hA hP hD hS rfl (by decide) (fun H locs hP hD hS => ?_)
              refine lv_iload_n hx hb (dt uX7_twoOf 15 rfl) rfl (lv_at hl 0 rfl) ?_
              refine lv_icmp_ne (tgt := 34) hx hb (dt uX7_twoOf 16 rfl) (by decide) (fun c_5 => ?_) (fun c_5 => ?_)
              · have hf := vif_f c_5 hf
                refine lv_iinc (v := x2_3 + 1) (lv' := [(2, .int (x2_3 + 1)), (0, .int p1), (1, .int x1_1)]) hx hb (dt uX7_twoOf 23 rfl) hl (k := 2) rfl rfl (by decide) rfl (fun ls hl => ?_)
                refine lv_goto (tgt := 12) hx hb (dt uX7_twoOf 24 rfl) (by decide) ?_
                exact ih12 (x2_3 + 1) _ _ _ hf hP hD hS (lv_sub hl [1, 2, 0] rfl)
              · have hf := vif_t c_5 hf
                refine lv_bipush (v := (10 : Int32)) hx hb (dt uX7_twoOf 17 rfl) (by decide) ?_
                refine lv_iload_n hx hb (dt uX7_twoOf 18 rfl) rfl (lv_at hl 1 rfl) ?_
                refine lv_imul hx hb (dt uX7_twoOf 19 rfl) ?_
                refine lv_iload_n hx hb (dt uX7_twoOf 20 rfl) rfl (lv_at hl 2 rfl) ?_
                refine lv_iadd hx hb (dt uX7_twoOf 21 rfl) ?_
                have hf := Option.some.inj hf
                subst hf
                rw [hQ]
                exact vret_i C hP hD hS (dt uX7_twoOf 22 rfl)
        exact hL12 N (x1_1 + (1 : Int32)) _ _ _ hf hP hD hS (lv_sub hl [1, 2, 0] rfl)
  exact hL2 N (0 : Int32) _ _ _ hf hP hD hS (lv_sub hl [1, 0] rfl)
abbrev rX7_lure : Room := { frames := 6, cells := 0, slots := 0, locals := 143 }
abbrev wX7_lure : List Cond := Cond.code yX7_lure cX7_lure 6 (some .int) :: VT
set_option maxHeartbeats 4000000 in
set_option maxRecDepth 100000 in
theorem kX7_lure (ad0 : Nat) (ad_text : Nat) (ad_draft : Nat) (ad_told : Nat) (ad_told_a : Nat) (ad_told_b : Nat) (ad_now : Nat) (ad_history : Nat) (ad_firstImage : Nat) (ad_secondImage : Nat) (ad_seen : Nat) (ad_ways : Nat) (ad_ways_ranked : Nat) (ad_ways_tens : Nat) (v_traced : Int64) (v_told_size : Int32) (v_told_touches : Int32) (v_told_one : Int32) (a_told_a : Nat → Int32) (a_told_b : Nat → Int32) (v_now_forgotten : Int32) (v_now_touches : Int32) (v_now_trapped : Int32) (v_now_one : Int32) (v_now_date : Int32) (v_ways_size : Int32) (v_ways_trapped : Int32) (a_ways_ranked : Nat → Int32) (a_ways_tens : Nat → Int32) (p1 : Int32) (p2 : Int32) (p3 : Int32) (N : Nat) (q0 : (Int32 × (Nat → Int32) × (Nat → Int32) × Int32 × Int32)) (hf : fX7_lure N a_told_a a_told_b v_told_size v_now_forgotten v_now_touches v_now_trapped v_now_one a_ways_ranked a_ways_tens v_ways_size v_ways_trapped p1 p2 p3 = some q0) : Ki l yX7_lure wX7_lure rX7_lure (dC, dI) (vTy cI cJ cB cZ) [.ref ad0, .int p1, .int p2, .int p3] [(ad0, oX7 ad_text ad_draft ad_told ad_now ad_history ad_firstImage ad_secondImage ad_seen ad_ways v_traced), (ad_told, oX0 ad_told_a ad_told_b v_told_size v_told_touches v_told_one), (ad_told_a, .inl (cI, 6, .inl a_told_a)), (ad_told_b, .inl (cI, 6, .inl a_told_b)), (ad_now, oX3 v_now_forgotten v_now_touches v_now_trapped v_now_one v_now_date), (ad_ways, oX6 ad_ways_ranked ad_ways_tens v_ways_size v_ways_trapped), (ad_ways_ranked, .inl (cI, 6, .inl a_ways_ranked)), (ad_ways_tens, .inl (cI, 6, .inl a_ways_tens))] [(ad0, oX7 ad_text ad_draft ad_told ad_now ad_history ad_firstImage ad_secondImage ad_seen ad_ways v_traced), (ad_told, oX0 ad_told_a ad_told_b v_told_size v_told_touches v_told_one), (ad_told_a, .inl (cI, 6, .inl a_told_a)), (ad_told_b, .inl (cI, 6, .inl a_told_b)), (ad_now, oX3 v_now_forgotten v_now_touches v_now_trapped v_now_one v_now_date), (ad_ways, oX6 ad_ways_ranked ad_ways_tens q0.2.2.2.1 q0.2.2.2.2), (ad_ways_ranked, .inl (cI, 6, .inl q0.2.1)), (ad_ways_tens, .inl (cI, 6, .inl q0.2.2.1))] q0.1 := by
  refine Ki.mk (cc := cX7_lure) (maxL := 6) (ret := some .int) (by decide) (Nat.le_of_ble_eq_true rfl) ?_
  intro p e s m args below meth c A Q H locs C hQ hP hD hS ls hl
  obtain ⟨hx, hb, -, hml, hts, hown, -, hK, hN, hA⟩ := id C
  have hown : s.vm.findClass RX7 = some m.cls := hown
  have hl : lv_has ls 6 [(0, .ref ad0), (1, .int p1), (2, .int p2), (3, .int p3)] := hl
  unfold fX7_lure at hf
  refine lv_aload_n hx hb (dt uX7_lure 0 rfl) rfl (lv_at hl 0 rfl) ?_
  refine lv_iload_n hx hb (dt uX7_lure 1 rfl) rfl (lv_at hl 1 rfl) ?_
  refine vk_z0 [0, 1] (va_runV (As := [.int p1]) (rest := []) ⟨hx, hb, hml, hown, hts⟩ (kX7_isBook ad0 ad_text ad_draft ad_told ad_told_a ad_told_b ad_now ad_history ad_firstImage ad_secondImage ad_seen ad_ways v_traced v_told_size v_told_touches v_told_one p1 _ rfl H.size) (vcwV hts tw_142 tw_143 tw_144 tw_41 tw_141 hd_X7_isBook rfl rfl ⟨Nat.le_of_ble_eq_true rfl, Nat.le_of_ble_eq_true rfl⟩) (vpreV hK hN hP hD [0, 1] rfl (by decide) (ci := 7) (q0 := 0) rfl rfl) rfl rfl hl.1 rfl (lv_room (Nat.le_of_ble_eq_true rfl)) (dt uX7_lure 2 rfl) ⟨Nat.zero_le _, Nat.zero_le _⟩) hA hP hD hS rfl (by decide) (fun hz_1 H locs hP hD hS => ?_)
  refine lv_if_eq (tgt := 27) hx hb (dt uX7_lure 3 rfl) (by decide) (fun c_2 => ?_) (fun c_2 => ?_)
  · have hf := vif_t c_2 hf
    refine lv_iconst (v := (-1 : Int32)) hx hb (dt uX7_lure 14 rfl) (by decide) ?_
    have hf := Option.some.inj hf
    subst hf
    rw [hQ]
    exact vret_i C hP hD hS (dt uX7_lure 15 rfl)
  · have hf := vif_f c_2 hf
    refine lv_iload_n hx hb (dt uX7_lure 4 rfl) rfl (lv_at hl 2 rfl) ?_
    refine lv_iconst (v := (1 : Int32)) hx hb (dt uX7_lure 5 rfl) (by decide) ?_
    refine lv_bipush (v := (20 : Int32)) hx hb (dt uX7_lure 6 rfl) (by decide) ?_
    refine vk_z0 [] (va_runS (As := [.int p2, .int (1 : Int32), .int (20 : Int32)]) (rest := []) ⟨hx, hb, hml, hown, hts⟩ (kX7_within p2 (1 : Int32) (20 : Int32) _ rfl H.size) (vcwS hts tw_106 tw_43 tw_41 tw_42 hd_X7_within rfl rfl ⟨Nat.le_of_ble_eq_true rfl, Nat.le_of_ble_eq_true rfl⟩) (vpreS hK hN hP hD [] rfl (by decide)) rfl rfl hl.1 rfl (lv_room (Nat.le_of_ble_eq_true rfl)) (dt uX7_lure 7 rfl) ⟨Nat.zero_le _, Nat.zero_le _⟩) hA hP hD hS rfl (by decide) (fun hz_3 H locs hP hD hS => ?_)
    refine lv_if_eq (tgt := 27) hx hb (dt uX7_lure 8 rfl) (by decide) (fun c_4 => ?_) (fun c_4 => ?_)
    · have hf := vif_t c_4 hf
      refine lv_iconst (v := (-1 : Int32)) hx hb (dt uX7_lure 14 rfl) (by decide) ?_
      have hf := Option.some.inj hf
      subst hf
      rw [hQ]
      exact vret_i C hP hD hS (dt uX7_lure 15 rfl)
    · have hf := vif_f c_4 hf
      refine lv_iload_n hx hb (dt uX7_lure 9 rfl) rfl (lv_at hl 3 rfl) ?_
      refine lv_iconst (v := (0 : Int32)) hx hb (dt uX7_lure 10 rfl) (by decide) ?_
      refine lv_iconst (v := (2 : Int32)) hx hb (dt uX7_lure 11 rfl) (by decide) ?_
      refine vk_z0 [] (va_runS (As := [.int p3, .int (0 : Int32), .int (2 : Int32)]) (rest := []) ⟨hx, hb, hml, hown, hts⟩ (kX7_within p3 (0 : Int32) (2 : Int32) _ rfl H.size) (vcwS hts tw_106 tw_43 tw_41 tw_42 hd_X7_within rfl rfl ⟨Nat.le_of_ble_eq_true rfl, Nat.le_of_ble_eq_true rfl⟩) (vpreS hK hN hP hD [] rfl (by decide)) rfl rfl hl.1 rfl (lv_room (Nat.le_of_ble_eq_true rfl)) (dt uX7_lure 12 rfl) ⟨Nat.zero_le _, Nat.zero_le _⟩) hA hP hD hS rfl (by decide) (fun hz_5 H locs hP hD hS => ?_)
      refine lv_if_ne (tgt := 29) hx hb (dt uX7_lure 13 rfl) (by decide) (fun c_6 => ?_) (fun c_6 => ?_)
      · have hf := vif_f c_6 hf
        refine lv_aload_n hx hb (dt uX7_lure 16 rfl) rfl (lv_at hl 0 rfl) ?_
        refine vk_z0 [0, 1, 4] (va_runV (As := []) (rest := []) ⟨hx, hb, hml, hown, hts⟩ (kX7_isSomewhere ad0 ad_text ad_draft ad_told ad_told_a ad_told_b ad_now ad_history ad_firstImage ad_secondImage ad_seen ad_ways v_traced v_told_size v_told_touches v_told_one v_now_forgotten v_now_touches v_now_trapped v_now_one v_now_date _ rfl H.size) (vcwV hts tw_181 tw_182 tw_183 tw_41 tw_180 hd_X7_isSomewhere rfl rfl ⟨Nat.le_of_ble_eq_true rfl, Nat.le_of_ble_eq_true rfl⟩) (vpreV hK hN hP hD [0, 1, 4] rfl (by decide) (ci := 7) (q0 := 0) rfl rfl) rfl rfl hl.1 rfl (lv_room (Nat.le_of_ble_eq_true rfl)) (dt uX7_lure 17 rfl) ⟨Nat.zero_le _, Nat.zero_le _⟩) hA hP hD hS rfl (by decide) (fun hz_7 H locs hP hD hS => ?_)
        refine lv_if_ne (tgt := 39) hx hb (dt uX7_lure 18 rfl) (by decide) (fun c_8 => ?_) (fun c_8 => ?_)
        · have hf := vif_f c_8 hf
          refine lv_aload_n hx hb (dt uX7_lure 21 rfl) rfl (lv_at hl 0 rfl) ?_
          refine lv_iload_n hx hb (dt uX7_lure 22 rfl) rfl (lv_at hl 1 rfl) ?_
          refine lv_iload_n hx hb (dt uX7_lure 23 rfl) rfl (lv_at hl 2 rfl) ?_
          obtain ⟨q_9, hq_10, hf⟩ := vbd hf
          refine vk_i [0, 1, 2, 3, 4, 5, 6, 7] (ws2 := [(ad0, oX7 ad_text ad_draft ad_told ad_now ad_history ad_firstImage ad_secondImage ad_seen ad_ways v_traced), (ad_told, oX0 ad_told_a ad_told_b v_told_size v_told_touches v_told_one), (ad_told_a, .inl (cI, 6, .inl a_told_a)), (ad_told_b, .inl (cI, 6, .inl a_told_b)), (ad_now, oX3 v_now_forgotten v_now_touches v_now_trapped v_now_one v_now_date), (ad_ways, oX6 ad_ways_ranked ad_ways_tens q_9.2.2.2.1 q_9.2.2.2.2), (ad_ways_ranked, .inl (cI, 6, .inl q_9.2.1)), (ad_ways_tens, .inl (cI, 6, .inl q_9.2.2.1))]) (va_runV (As := [.int p1, .int p2]) (rest := []) ⟨hx, hb, hml, hown, hts⟩ (kX7_fewestMoreTouches ad0 ad_text ad_draft ad_told ad_told_a ad_told_b ad_now ad_history ad_firstImage ad_secondImage ad_seen ad_ways ad_ways_ranked ad_ways_tens v_traced v_told_size v_told_touches v_told_one a_told_a a_told_b v_now_forgotten v_now_touches v_now_trapped v_now_one v_now_date v_ways_size v_ways_trapped a_ways_ranked a_ways_tens p1 p2 N q_9 hq_10 H.size) (vcwV hts tw_225 tw_226 tw_227 tw_41 tw_224 hd_X7_fewestMoreTouches rfl rfl ⟨Nat.le_of_ble_eq_true rfl, Nat.le_of_ble_eq_true rfl⟩) (vpreV hK hN hP hD [0, 1, 2, 3, 4, 5, 6, 7] rfl (by decide) (ci := 7) (q0 := 0) rfl rfl) rfl rfl hl.1 rfl (lv_room (Nat.le_of_ble_eq_true rfl)) (dt uX7_lure 24 rfl) ⟨Nat.zero_le _, Nat.zero_le _⟩) hA hP hD hS rfl (by decide) rfl rfl (fun H locs hP hD hS => ?_)
          refine lv_istore (lv' := [(4, .int q_9.1), (0, .ref ad0), (1, .int p1), (2, .int p2), (3, .int p3)]) hx hb (dt uX7_lure 25 rfl) hl (by decide) rfl (fun ls hl => ?_)
          refine lv_iload hx hb (dt uX7_lure 26 rfl) (lv_at hl 0 rfl) ?_
          refine lv_bipush (v := (-9 : Int32)) hx hb (dt uX7_lure 27 rfl) (by decide) ?_
          refine lv_icmp_ne (tgt := 57) hx hb (dt uX7_lure 28 rfl) (by decide) (fun c_11 => ?_) (fun c_11 => ?_)
          · have hf := vif_f c_11 hf
            refine lv_iload hx hb (dt uX7_lure 31 rfl) (lv_at hl 0 rfl) ?_
            refine vk_i0 [] (va_runS (As := [.int q_9.1]) (rest := []) ⟨hx, hb, hml, hown, hts⟩ (kJ6_lowestOneBit_0f7a4 q_9.1 _ rfl H.size) (vcwS hts tw_229 tw_230 tw_169 tw_228 hd_J6_lowestOneBit_0f7a4 rfl rfl ⟨Nat.le_of_ble_eq_true rfl, Nat.le_of_ble_eq_true rfl⟩) (vpreS hK hN hP hD [] rfl (by decide)) rfl rfl hl.1 rfl (lv_room (Nat.le_of_ble_eq_true rfl)) (dt uX7_lure 32 rfl) ⟨Nat.zero_le _, Nat.zero_le _⟩) hA hP hD hS rfl (by decide) (fun H locs hP hD hS => ?_)
            refine lv_istore (lv' := [(5, .int (fJ6_lowestOneBit_0f7a4 q_9.1)), (4, .int q_9.1), (0, .ref ad0), (1, .int p1), (2, .int p2), (3, .int p3)]) hx hb (dt uX7_lure 33 rfl) hl (by decide) rfl (fun ls hl => ?_)
            refine lv_iload_n hx hb (dt uX7_lure 34 rfl) rfl (lv_at hl 5 rfl) ?_
            by_cases c_12 : p3 = (0 : Int32)
            · have hf := vif_t c_12 hf
              refine lv_lookup (off := 27) (tgt := 92) hx hb (dt uX7_lure 35 rfl) (by decide) (by rw [c_12]; rfl) (by decide) ?_
              refine lv_iload hx hb (dt uX7_lure 36 rfl) (lv_at hl 1 rfl) ?_
              refine vk_i0 [] (va_runS (As := [.int q_9.1]) (rest := []) ⟨hx, hb, hml, hown, hts⟩ (kJ6_bitCount_0f7a4 q_9.1 _ rfl H.size) (vcwS hts tw_171 tw_172 tw_169 tw_170 hd_J6_bitCount_0f7a4 rfl rfl ⟨Nat.le_of_ble_eq_true rfl, Nat.le_of_ble_eq_true rfl⟩) (vpreS hK hN hP hD [] rfl (by decide)) rfl rfl hl.1 rfl (lv_room (Nat.le_of_ble_eq_true rfl)) (dt uX7_lure 37 rfl) ⟨Nat.zero_le _, Nat.zero_le _⟩) hA hP hD hS rfl (by decide) (fun H locs hP hD hS => ?_)
              have hf := Option.some.inj hf
              subst hf
              rw [hQ]
              exact vret_i C hP hD hS (dt uX7_lure 38 rfl)
            have hf := vif_f c_12 hf
            by_cases c_13 : p3 = (1 : Int32)
            · have hf := vif_t c_13 hf
              refine lv_lookup (off := 33) (tgt := 98) hx hb (dt uX7_lure 35 rfl) (by decide) (by rw [c_13]; rfl) (by decide) ?_
              refine lv_iload hx hb (dt uX7_lure 39 rfl) (lv_at hl 0 rfl) ?_
              obtain ⟨q_14, hq_15, hf⟩ := vbd hf
              refine vk_i0 [] (va_runS (As := [.int (fJ6_lowestOneBit_0f7a4 q_9.1)]) (rest := []) ⟨hx, hb, hml, hown, hts⟩ (kX7_twoOf (fJ6_lowestOneBit_0f7a4 q_9.1) N q_14 hq_15 H.size) (vcwS hts tw_232 tw_233 tw_41 tw_231 hd_X7_twoOf rfl rfl ⟨Nat.le_of_ble_eq_true rfl, Nat.le_of_ble_eq_true rfl⟩) (vpreS hK hN hP hD [] rfl (by decide)) rfl rfl hl.1 rfl (lv_room (Nat.le_of_ble_eq_true rfl)) (dt uX7_lure 40 rfl) ⟨Nat.zero_le _, Nat.zero_le _⟩) hA hP hD hS rfl (by decide) (fun H locs hP hD hS => ?_)
              have hf := Option.some.inj hf
              subst hf
              rw [hQ]
              exact vret_i C hP hD hS (dt uX7_lure 41 rfl)
            have hf := vif_f c_13 hf
            have e_16 : ∀ q ∈ ([(0, 27), (1, 33)] : List (Int × Int)), (p3).toInt ≠ q.1 := by
              intro q hq
              simp only [List.mem_cons, List.not_mem_nil, or_false] at hq
              rcases hq with rfl | rfl
              · exact vne_toInt c_12
              · exact vne_toInt c_13
            refine lv_lookup (off := 39) (tgt := 104) hx hb (dt uX7_lure 35 rfl) (by decide) (vlook_out e_16) (by decide) ?_
            refine lv_iload hx hb (dt uX7_lure 42 rfl) (lv_at hl 1 rfl) ?_
            refine lv_iload hx hb (dt uX7_lure 43 rfl) (lv_at hl 0 rfl) ?_
            refine lv_iconst (v := (-1 : Int32)) hx hb (dt uX7_lure 44 rfl) (by decide) ?_
            refine lv_ixor hx hb (dt uX7_lure 45 rfl) ?_
            refine lv_iand hx hb (dt uX7_lure 46 rfl) ?_
            obtain ⟨q_17, hq_18, hf⟩ := vbd hf
            refine vk_i0 [] (va_runS (As := [.int (q_9.1 &&& ((fJ6_lowestOneBit_0f7a4 q_9.1) ^^^ (-1 : Int32)))]) (rest := []) ⟨hx, hb, hml, hown, hts⟩ (kX7_twoOf (q_9.1 &&& ((fJ6_lowestOneBit_0f7a4 q_9.1) ^^^ (-1 : Int32))) N q_17 hq_18 H.size) (vcwS hts tw_232 tw_233 tw_41 tw_231 hd_X7_twoOf rfl rfl ⟨Nat.le_of_ble_eq_true rfl, Nat.le_of_ble_eq_true rfl⟩) (vpreS hK hN hP hD [] rfl (by decide)) rfl rfl hl.1 rfl (lv_room (Nat.le_of_ble_eq_true rfl)) (dt uX7_lure 47 rfl) ⟨Nat.zero_le _, Nat.zero_le _⟩) hA hP hD hS rfl (by decide) (fun H locs hP hD hS => ?_)
            have hf := Option.some.inj hf
            subst hf
            rw [hQ]
            exact vret_i C hP hD hS (dt uX7_lure 48 rfl)
          · have hf := vif_t c_11 hf
            refine lv_bipush (v := (-9 : Int32)) hx hb (dt uX7_lure 29 rfl) (by decide) ?_
            have hf := Option.some.inj hf
            subst hf
            rw [hQ]
            exact vret_i C hP hD hS (dt uX7_lure 30 rfl)
        · have hf := vif_t c_8 hf
          refine lv_bipush (v := (-2 : Int32)) hx hb (dt uX7_lure 19 rfl) (by decide) ?_
          have hf := Option.some.inj hf
          subst hf
          rw [hQ]
          exact vret_i C hP hD hS (dt uX7_lure 20 rfl)
      · have hf := vif_t c_6 hf
        refine lv_iconst (v := (-1 : Int32)) hx hb (dt uX7_lure 14 rfl) (by decide) ?_
        have hf := Option.some.inj hf
        subst hf
        rw [hQ]
        exact vret_i C hP hD hS (dt uX7_lure 15 rfl)
abbrev rJ6_numberOfTrailingZeros_0f7a4 : Room := { frames := 0, cells := 0, slots := 0, locals := 0 }
abbrev wJ6_numberOfTrailingZeros_0f7a4 : List Cond := Cond.code yJ6_numberOfTrailingZeros_0f7a4 cJ6_numberOfTrailingZeros_0f7a4 2 (some .int) :: VT
set_option maxHeartbeats 4000000 in
set_option maxRecDepth 100000 in
theorem kJ6_numberOfTrailingZeros_0f7a4 (p1 : Int32) (q0 : Int32) (hf : fJ6_numberOfTrailingZeros_0f7a4 p1 = q0) : Ki l yJ6_numberOfTrailingZeros_0f7a4 wJ6_numberOfTrailingZeros_0f7a4 rJ6_numberOfTrailingZeros_0f7a4 (dC, dI) (vTy cI cJ cB cZ) [.int p1] [] [] q0 := by
  refine Ki.mk (cc := cJ6_numberOfTrailingZeros_0f7a4) (maxL := 2) (ret := some .int) (by decide) (Nat.le_of_ble_eq_true rfl) ?_
  intro p e s m args below meth c A Q H locs C hQ hP hD hS ls hl
  obtain ⟨hx, hb, -, hml, hts, hown, -, hK, hN, hA⟩ := id C
  have hown : s.vm.findClass RJ6 = some m.cls := hown
  have hl : lv_has ls 2 [(0, .int p1)] := hl
  unfold fJ6_numberOfTrailingZeros_0f7a4 at hf
  refine lv_iload_n hx hb (dt uJ6_numberOfTrailingZeros_0f7a4 0 rfl) rfl (lv_at hl 0 rfl) ?_
  refine lv_iconst (v := (-1 : Int32)) hx hb (dt uJ6_numberOfTrailingZeros_0f7a4 1 rfl) (by decide) ?_
  refine lv_ixor hx hb (dt uJ6_numberOfTrailingZeros_0f7a4 2 rfl) ?_
  refine lv_iload_n hx hb (dt uJ6_numberOfTrailingZeros_0f7a4 3 rfl) rfl (lv_at hl 0 rfl) ?_
  refine lv_iconst (v := (1 : Int32)) hx hb (dt uJ6_numberOfTrailingZeros_0f7a4 4 rfl) (by decide) ?_
  refine lv_isub hx hb (dt uJ6_numberOfTrailingZeros_0f7a4 5 rfl) ?_
  refine lv_iand hx hb (dt uJ6_numberOfTrailingZeros_0f7a4 6 rfl) ?_
  refine lv_istore_n (lv' := [(0, .int ((p1 ^^^ (-1 : Int32)) &&& (p1 - (1 : Int32))))]) hx hb (dt uJ6_numberOfTrailingZeros_0f7a4 7 rfl) rfl hl (by decide) rfl (fun ls hl => ?_)
  refine lv_iload_n hx hb (dt uJ6_numberOfTrailingZeros_0f7a4 8 rfl) rfl (lv_at hl 0 rfl) ?_
  refine lv_if_gt (tgt := 17) hx hb (dt uJ6_numberOfTrailingZeros_0f7a4 9 rfl) (by decide) (fun c_1 => ?_) (fun c_1 => ?_)
  · have hf := vif_t c_1 hf
    refine lv_iconst (v := (1 : Int32)) hx hb (dt uJ6_numberOfTrailingZeros_0f7a4 14 rfl) (by decide) ?_
    refine lv_istore_n (lv' := [(1, .int (1 : Int32)), (0, .int ((p1 ^^^ (-1 : Int32)) &&& (p1 - (1 : Int32))))]) hx hb (dt uJ6_numberOfTrailingZeros_0f7a4 15 rfl) rfl hl (by decide) rfl (fun ls hl => ?_)
    refine lv_iload_n hx hb (dt uJ6_numberOfTrailingZeros_0f7a4 16 rfl) rfl (lv_at hl 1 rfl) ?_
    refine lv_ldcw (v := (65536 : Int32)) hx hb hown (hts _ tw_234) (dt uJ6_numberOfTrailingZeros_0f7a4 17 rfl) ?_
    have hJ34 : ∀ (x0_2 : Int32) (x1_3 : Int32) (H : Heap) (locs : List Loc) (ls : Array Slot), fJ6_numberOfTrailingZeros_0f7a4_J34 x0_2 x1_3 = q0 → va_P (dC, dI) vwCl [] H → va_D A [] → va_S A s.heap H locs → lv_has ls 2 [(0, .int x0_2), (1, .int x1_3)] → W p l e rJ6_numberOfTrailingZeros_0f7a4 s m args below meth c H locs 0 0 Q (F0 m 34 ls []) := by
      intro x0_2 x1_3 H locs ls hf hP hD hS hl
      unfold fJ6_numberOfTrailingZeros_0f7a4_J34 at hf
      refine lv_iload_n hx hb (dt uJ6_numberOfTrailingZeros_0f7a4 24 rfl) rfl (lv_at hl 0 rfl) ?_
      refine lv_sipush (v := (256 : Int32)) hx hb (dt uJ6_numberOfTrailingZeros_0f7a4 25 rfl) (by decide) ?_
      have hJ49 : ∀ (x0_4 : Int32) (x1_5 : Int32) (H : Heap) (locs : List Loc) (ls : Array Slot), fJ6_numberOfTrailingZeros_0f7a4_J49 x0_4 x1_5 = q0 → va_P (dC, dI) vwCl [] H → va_D A [] → va_S A s.heap H locs → lv_has ls 2 [(0, .int x0_4), (1, .int x1_5)] → W p l e rJ6_numberOfTrailingZeros_0f7a4 s m args below meth c H locs 0 0 Q (F0 m 49 ls []) := by
        intro x0_4 x1_5 H locs ls hf hP hD hS hl
        unfold fJ6_numberOfTrailingZeros_0f7a4_J49 at hf
        refine lv_iload_n hx hb (dt uJ6_numberOfTrailingZeros_0f7a4 32 rfl) rfl (lv_at hl 0 rfl) ?_
        refine lv_bipush (v := (16 : Int32)) hx hb (dt uJ6_numberOfTrailingZeros_0f7a4 33 rfl) (by decide) ?_
        have hJ62 : ∀ (x0_6 : Int32) (x1_7 : Int32) (H : Heap) (locs : List Loc) (ls : Array Slot), fJ6_numberOfTrailingZeros_0f7a4_J62 x0_6 x1_7 = q0 → va_P (dC, dI) vwCl [] H → va_D A [] → va_S A s.heap H locs → lv_has ls 2 [(0, .int x0_6), (1, .int x1_7)] → W p l e rJ6_numberOfTrailingZeros_0f7a4 s m args below meth c H locs 0 0 Q (F0 m 62 ls []) := by
          intro x0_6 x1_7 H locs ls hf hP hD hS hl
          unfold fJ6_numberOfTrailingZeros_0f7a4_J62 at hf
          refine lv_iload_n hx hb (dt uJ6_numberOfTrailingZeros_0f7a4 40 rfl) rfl (lv_at hl 0 rfl) ?_
          refine lv_iconst (v := (4 : Int32)) hx hb (dt uJ6_numberOfTrailingZeros_0f7a4 41 rfl) (by decide) ?_
          refine lv_icmp_le (tgt := 74) hx hb (dt uJ6_numberOfTrailingZeros_0f7a4 42 rfl) (by decide) (fun c_8 => ?_) (fun c_8 => ?_)
          · have hf := vif_t c_8 hf
            refine lv_iload_n hx hb (dt uJ6_numberOfTrailingZeros_0f7a4 48 rfl) rfl (lv_at hl 1 rfl) ?_
            refine lv_iload_n hx hb (dt uJ6_numberOfTrailingZeros_0f7a4 49 rfl) rfl (lv_at hl 0 rfl) ?_
            refine lv_iconst (v := (1 : Int32)) hx hb (dt uJ6_numberOfTrailingZeros_0f7a4 50 rfl) (by decide) ?_
            refine lv_iushr (v := (x0_6.toUInt32 >>> ((1 : Int32).toUInt32 &&& Int32.toUInt32 31)).toInt32) hx hb (dt uJ6_numberOfTrailingZeros_0f7a4 51 rfl) rfl ?_
            refine lv_iadd hx hb (dt uJ6_numberOfTrailingZeros_0f7a4 52 rfl) ?_
            subst hf
            rw [hQ]
            exact vret_i C hP hD hS (dt uJ6_numberOfTrailingZeros_0f7a4 53 rfl)
          · have hf := vif_f c_8 hf
            refine lv_iinc (v := x1_7 + 2) (lv' := [(1, .int (x1_7 + 2)), (0, .int x0_6)]) hx hb (dt uJ6_numberOfTrailingZeros_0f7a4 43 rfl) hl (k := 1) rfl rfl (by decide) rfl (fun ls hl => ?_)
            refine lv_iload_n hx hb (dt uJ6_numberOfTrailingZeros_0f7a4 44 rfl) rfl (lv_at hl 1 rfl) ?_
            refine lv_iconst (v := (2 : Int32)) hx hb (dt uJ6_numberOfTrailingZeros_0f7a4 45 rfl) (by decide) ?_
            refine lv_iushr (v := (x0_6.toUInt32 >>> ((2 : Int32).toUInt32 &&& Int32.toUInt32 31)).toInt32) hx hb (dt uJ6_numberOfTrailingZeros_0f7a4 46 rfl) rfl ?_
            refine lv_istore_n (lv' := [(0, .int ((x0_6.toUInt32 >>> ((2 : Int32).toUInt32 &&& Int32.toUInt32 31)).toInt32)), (1, .int (x1_7 + 2))]) hx hb (dt uJ6_numberOfTrailingZeros_0f7a4 47 rfl) rfl hl (by decide) rfl (fun ls hl => ?_)
            refine lv_iload_n hx hb (dt uJ6_numberOfTrailingZeros_0f7a4 48 rfl) rfl (lv_at hl 1 rfl) ?_
            refine lv_iload_n hx hb (dt uJ6_numberOfTrailingZeros_0f7a4 49 rfl) rfl (lv_at hl 0 rfl) ?_
            refine lv_iconst (v := (1 : Int32)) hx hb (dt uJ6_numberOfTrailingZeros_0f7a4 50 rfl) (by decide) ?_
            refine lv_iushr (v := (((x0_6.toUInt32 >>> ((2 : Int32).toUInt32 &&& Int32.toUInt32 31)).toInt32).toUInt32 >>> ((1 : Int32).toUInt32 &&& Int32.toUInt32 31)).toInt32) hx hb (dt uJ6_numberOfTrailingZeros_0f7a4 51 rfl) rfl ?_
            refine lv_iadd hx hb (dt uJ6_numberOfTrailingZeros_0f7a4 52 rfl) ?_
            subst hf
            rw [hQ]
            exact vret_i C hP hD hS (dt uJ6_numberOfTrailingZeros_0f7a4 53 rfl)
        refine lv_icmp_le (tgt := 62) hx hb (dt uJ6_numberOfTrailingZeros_0f7a4 34 rfl) (by decide) (fun c_9 => ?_) (fun c_9 => ?_)
        · have hf := vif_t c_9 hf
          exact hJ62 x0_4 x1_5 _ _ _ hf hP hD hS (lv_sub hl [0, 1] rfl)
        · have hf := vif_f c_9 hf
          refine lv_iinc (v := x1_5 + 4) (lv' := [(1, .int (x1_5 + 4)), (0, .int x0_4)]) hx hb (dt uJ6_numberOfTrailingZeros_0f7a4 35 rfl) hl (k := 1) rfl rfl (by decide) rfl (fun ls hl => ?_)
          refine lv_iload_n hx hb (dt uJ6_numberOfTrailingZeros_0f7a4 36 rfl) rfl (lv_at hl 1 rfl) ?_
          refine lv_iconst (v := (4 : Int32)) hx hb (dt uJ6_numberOfTrailingZeros_0f7a4 37 rfl) (by decide) ?_
          refine lv_iushr (v := (x0_4.toUInt32 >>> ((4 : Int32).toUInt32 &&& Int32.toUInt32 31)).toInt32) hx hb (dt uJ6_numberOfTrailingZeros_0f7a4 38 rfl) rfl ?_
          refine lv_istore_n (lv' := [(0, .int ((x0_4.toUInt32 >>> ((4 : Int32).toUInt32 &&& Int32.toUInt32 31)).toInt32)), (1, .int (x1_5 + 4))]) hx hb (dt uJ6_numberOfTrailingZeros_0f7a4 39 rfl) rfl hl (by decide) rfl (fun ls hl => ?_)
          exact hJ62 ((x0_4.toUInt32 >>> ((4 : Int32).toUInt32 &&& Int32.toUInt32 31)).toInt32) (x1_5 + 4) _ _ _ hf hP hD hS (lv_sub hl [0, 1] rfl)
      refine lv_icmp_le (tgt := 49) hx hb (dt uJ6_numberOfTrailingZeros_0f7a4 26 rfl) (by decide) (fun c_10 => ?_) (fun c_10 => ?_)
      · have hf := vif_t c_10 hf
        exact hJ49 x0_2 x1_3 _ _ _ hf hP hD hS (lv_sub hl [0, 1] rfl)
      · have hf := vif_f c_10 hf
        refine lv_iinc (v := x1_3 + 8) (lv' := [(1, .int (x1_3 + 8)), (0, .int x0_2)]) hx hb (dt uJ6_numberOfTrailingZeros_0f7a4 27 rfl) hl (k := 1) rfl rfl (by decide) rfl (fun ls hl => ?_)
        refine lv_iload_n hx hb (dt uJ6_numberOfTrailingZeros_0f7a4 28 rfl) rfl (lv_at hl 1 rfl) ?_
        refine lv_bipush (v := (8 : Int32)) hx hb (dt uJ6_numberOfTrailingZeros_0f7a4 29 rfl) (by decide) ?_
        refine lv_iushr (v := (x0_2.toUInt32 >>> ((8 : Int32).toUInt32 &&& Int32.toUInt32 31)).toInt32) hx hb (dt uJ6_numberOfTrailingZeros_0f7a4 30 rfl) rfl ?_
        refine lv_istore_n (lv' := [(0, .int ((x0_2.toUInt32 >>> ((8 : Int32).toUInt32 &&& Int32.toUInt32 31)).toInt32)), (1, .int (x1_3 + 8))]) hx hb (dt uJ6_numberOfTrailingZeros_0f7a4 31 rfl) rfl hl (by decide) rfl (fun ls hl => ?_)
        exact hJ49 ((x0_2.toUInt32 >>> ((8 : Int32).toUInt32 &&& Int32.toUInt32 31)).toInt32) (x1_3 + 8) _ _ _ hf hP hD hS (lv_sub hl [0, 1] rfl)
    refine lv_icmp_le (tgt := 34) hx hb (dt uJ6_numberOfTrailingZeros_0f7a4 18 rfl) (by decide) (fun c_11 => ?_) (fun c_11 => ?_)
    · have hf := vif_t c_11 hf
      exact hJ34 ((p1 ^^^ (-1 : Int32)) &&& (p1 - (1 : Int32))) (1 : Int32) _ _ _ hf hP hD hS (lv_sub hl [1, 0] rfl)
    · have hf := vif_f c_11 hf
      refine lv_iinc (v := (1 : Int32) + 16) (lv' := [(1, .int ((1 : Int32) + 16)), (0, .int ((p1 ^^^ (-1 : Int32)) &&& (p1 - (1 : Int32))))]) hx hb (dt uJ6_numberOfTrailingZeros_0f7a4 19 rfl) hl (k := 0) rfl rfl (by decide) rfl (fun ls hl => ?_)
      refine lv_iload_n hx hb (dt uJ6_numberOfTrailingZeros_0f7a4 20 rfl) rfl (lv_at hl 1 rfl) ?_
      refine lv_bipush (v := (16 : Int32)) hx hb (dt uJ6_numberOfTrailingZeros_0f7a4 21 rfl) (by decide) ?_
      refine lv_iushr (v := (((p1 ^^^ (-1 : Int32)) &&& (p1 - (1 : Int32))).toUInt32 >>> ((16 : Int32).toUInt32 &&& Int32.toUInt32 31)).toInt32) hx hb (dt uJ6_numberOfTrailingZeros_0f7a4 22 rfl) rfl ?_
      refine lv_istore_n (lv' := [(0, .int ((((p1 ^^^ (-1 : Int32)) &&& (p1 - (1 : Int32))).toUInt32 >>> ((16 : Int32).toUInt32 &&& Int32.toUInt32 31)).toInt32)), (1, .int ((1 : Int32) + 16))]) hx hb (dt uJ6_numberOfTrailingZeros_0f7a4 23 rfl) rfl hl (by decide) rfl (fun ls hl => ?_)
      exact hJ34 ((((p1 ^^^ (-1 : Int32)) &&& (p1 - (1 : Int32))).toUInt32 >>> ((16 : Int32).toUInt32 &&& Int32.toUInt32 31)).toInt32) ((1 : Int32) + 16) _ _ _ hf hP hD hS (lv_sub hl [0, 1] rfl)
  · have hf := vif_f c_1 hf
    refine lv_iload_n hx hb (dt uJ6_numberOfTrailingZeros_0f7a4 10 rfl) rfl (lv_at hl 0 rfl) ?_
    refine lv_bipush (v := (32 : Int32)) hx hb (dt uJ6_numberOfTrailingZeros_0f7a4 11 rfl) (by decide) ?_
    refine lv_iand hx hb (dt uJ6_numberOfTrailingZeros_0f7a4 12 rfl) ?_
    subst hf
    rw [hQ]
    exact vret_i C hP hD hS (dt uJ6_numberOfTrailingZeros_0f7a4 13 rfl)
abbrev rX7_nextOfSameSize : Room := { frames := 1, cells := 0, slots := 0, locals := 21 }
abbrev wX7_nextOfSameSize : List Cond := Cond.code yX7_nextOfSameSize cX7_nextOfSameSize 3 (some .int) :: VT
set_option maxHeartbeats 4000000 in
set_option maxRecDepth 100000 in
theorem kX7_nextOfSameSize (p1 : Int32) (q0 : Int32) (hf : fX7_nextOfSameSize p1 = q0) : Ki l yX7_nextOfSameSize wX7_nextOfSameSize rX7_nextOfSameSize (dC, dI) (vTy cI cJ cB cZ) [.int p1] [] [] q0 := by
  refine Ki.mk (cc := cX7_nextOfSameSize) (maxL := 3) (ret := some .int) (by decide) (Nat.le_of_ble_eq_true rfl) ?_
  intro p e s m args below meth c A Q H locs C hQ hP hD hS ls hl
  obtain ⟨hx, hb, -, hml, hts, hown, -, hK, hN, hA⟩ := id C
  have hown : s.vm.findClass RX7 = some m.cls := hown
  have hl : lv_has ls 3 [(0, .int p1)] := hl
  unfold fX7_nextOfSameSize at hf
  refine lv_iload_n hx hb (dt uX7_nextOfSameSize 0 rfl) rfl (lv_at hl 0 rfl) ?_
  refine vk_i0 [] (va_runS (As := [.int p1]) (rest := []) ⟨hx, hb, hml, hown, hts⟩ (kJ6_lowestOneBit_0f7a4 p1 _ rfl H.size) (vcwS hts tw_229 tw_230 tw_169 tw_228 hd_J6_lowestOneBit_0f7a4 rfl rfl ⟨Nat.le_of_ble_eq_true rfl, Nat.le_of_ble_eq_true rfl⟩) (vpreS hK hN hP hD [] rfl (by decide)) rfl rfl hl.1 rfl (lv_room (Nat.le_of_ble_eq_true rfl)) (dt uX7_nextOfSameSize 1 rfl) ⟨Nat.zero_le _, Nat.zero_le _⟩) hA hP hD hS rfl (by decide) (fun H locs hP hD hS => ?_)
  refine lv_istore_n (lv' := [(1, .int (fJ6_lowestOneBit_0f7a4 p1)), (0, .int p1)]) hx hb (dt uX7_nextOfSameSize 2 rfl) rfl hl (by decide) rfl (fun ls hl => ?_)
  refine lv_iload_n hx hb (dt uX7_nextOfSameSize 3 rfl) rfl (lv_at hl 1 rfl) ?_
  refine lv_iload_n hx hb (dt uX7_nextOfSameSize 4 rfl) rfl (lv_at hl 0 rfl) ?_
  refine lv_iadd hx hb (dt uX7_nextOfSameSize 5 rfl) ?_
  refine lv_istore_n (lv' := [(2, .int (p1 + (fJ6_lowestOneBit_0f7a4 p1))), (1, .int (fJ6_lowestOneBit_0f7a4 p1)), (0, .int p1)]) hx hb (dt uX7_nextOfSameSize 6 rfl) rfl hl (by decide) rfl (fun ls hl => ?_)
  refine lv_iload_n hx hb (dt uX7_nextOfSameSize 7 rfl) rfl (lv_at hl 0 rfl) ?_
  refine lv_iload_n hx hb (dt uX7_nextOfSameSize 8 rfl) rfl (lv_at hl 2 rfl) ?_
  refine lv_iload_n hx hb (dt uX7_nextOfSameSize 9 rfl) rfl (lv_at hl 0 rfl) ?_
  refine lv_ixor hx hb (dt uX7_nextOfSameSize 10 rfl) ?_
  refine lv_iconst (v := (2 : Int32)) hx hb (dt uX7_nextOfSameSize 11 rfl) (by decide) ?_
  refine lv_iushr (v := ((p1 ^^^ (p1 + (fJ6_lowestOneBit_0f7a4 p1))).toUInt32 >>> ((2 : Int32).toUInt32 &&& Int32.toUInt32 31)).toInt32) hx hb (dt uX7_nextOfSameSize 12 rfl) rfl ?_
  refine lv_iload_n hx hb (dt uX7_nextOfSameSize 13 rfl) rfl (lv_at hl 2 rfl) ?_
  refine vk_i0 [] (va_runS (As := [.int p1]) (rest := [.int (((p1 ^^^ (p1 + (fJ6_lowestOneBit_0f7a4 p1))).toUInt32 >>> ((2 : Int32).toUInt32 &&& Int32.toUInt32 31)).toInt32), .int (p1 + (fJ6_lowestOneBit_0f7a4 p1))]) ⟨hx, hb, hml, hown, hts⟩ (kJ6_numberOfTrailingZeros_0f7a4 p1 _ rfl H.size) (vcwS hts tw_236 tw_237 tw_169 tw_235 hd_J6_numberOfTrailingZeros_0f7a4 rfl rfl ⟨Nat.le_of_ble_eq_true rfl, Nat.le_of_ble_eq_true rfl⟩) (vpreS hK hN hP hD [] rfl (by decide)) rfl rfl hl.1 rfl (lv_room (Nat.le_of_ble_eq_true rfl)) (dt uX7_nextOfSameSize 14 rfl) ⟨Nat.zero_le _, Nat.zero_le _⟩) hA hP hD hS rfl (by decide) (fun H locs hP hD hS => ?_)
  refine lv_iushr (v := ((((p1 ^^^ (p1 + (fJ6_lowestOneBit_0f7a4 p1))).toUInt32 >>> ((2 : Int32).toUInt32 &&& Int32.toUInt32 31)).toInt32).toUInt32 >>> ((fJ6_numberOfTrailingZeros_0f7a4 p1).toUInt32 &&& Int32.toUInt32 31)).toInt32) hx hb (dt uX7_nextOfSameSize 15 rfl) rfl ?_
  refine lv_ior hx hb (dt uX7_nextOfSameSize 16 rfl) ?_
  subst hf
  rw [hQ]
  exact vret_i C hP hD hS (dt uX7_nextOfSameSize 17 rfl)
abbrev rX7_leastCut : Room := { frames := 3, cells := 0, slots := 0, locals := 72 }
abbrev wX7_leastCut : List Cond := Cond.code yX7_leastCut cX7_leastCut 6 (some .int) :: VT
set_option maxHeartbeats 4000000 in
set_option maxRecDepth 100000 in
theorem kX7_leastCut (ad0 : Nat) (ad_text : Nat) (ad_draft : Nat) (ad_told : Nat) (ad_now : Nat) (ad_history : Nat) (ad_firstImage : Nat) (ad_secondImage : Nat) (ad_seen : Nat) (ad_ways : Nat) (ad_ways_ranked : Nat) (ad_ways_tens : Nat) (v_traced : Int64) (v_now_forgotten : Int32) (v_now_touches : Int32) (v_now_trapped : Int32) (v_now_one : Int32) (v_now_date : Int32) (v_ways_size : Int32) (v_ways_trapped : Int32) (a_ways_ranked : Nat → Int32) (p1 : Int32) (p2 : Int32) (N : Nat) (q0 : Int32) (hf : fX7_leastCut N v_now_touches v_now_one a_ways_ranked v_ways_size v_ways_trapped p1 p2 = some q0) : Ki l yX7_leastCut wX7_leastCut rX7_leastCut (dC, dI) (vTy cI cJ cB cZ) [.ref ad0, .int p1, .int p2] [(ad0, oX7 ad_text ad_draft ad_told ad_now ad_history ad_firstImage ad_secondImage ad_seen ad_ways v_traced), (ad_now, oX3 v_now_forgotten v_now_touches v_now_trapped v_now_one v_now_date), (ad_ways, oX6 ad_ways_ranked ad_ways_tens v_ways_size v_ways_trapped), (ad_ways_ranked, .inl (cI, 6, .inl a_ways_ranked))] [(ad0, oX7 ad_text ad_draft ad_told ad_now ad_history ad_firstImage ad_secondImage ad_seen ad_ways v_traced), (ad_now, oX3 v_now_forgotten v_now_touches v_now_trapped v_now_one v_now_date), (ad_ways, oX6 ad_ways_ranked ad_ways_tens v_ways_size v_ways_trapped), (ad_ways_ranked, .inl (cI, 6, .inl a_ways_ranked))] q0 := by
  refine Ki.mk (cc := cX7_leastCut) (maxL := 6) (ret := some .int) (by decide) (Nat.le_of_ble_eq_true rfl) ?_
  intro p e s m args below meth c A Q H locs C hQ hP hD hS ls hl
  obtain ⟨hx, hb, -, hml, hts, hown, -, hK, hN, hA⟩ := id C
  have hown : s.vm.findClass RX7 = some m.cls := hown
  have hl : lv_has ls 6 [(0, .ref ad0), (1, .int p1), (2, .int p2)] := hl
  unfold fX7_leastCut at hf
  refine lv_ldcw (v := (32768 : Int32)) hx hb hown (hts _ tw_238) (dt uX7_leastCut 0 rfl) ?_
  refine lv_istore_n (lv' := [(3, .int (32768 : Int32)), (0, .ref ad0), (1, .int p1), (2, .int p2)]) hx hb (dt uX7_leastCut 1 rfl) rfl hl (by decide) rfl (fun ls hl => ?_)
  refine lv_iconst (v := (1 : Int32)) hx hb (dt uX7_leastCut 2 rfl) (by decide) ?_
  refine lv_iload_n hx hb (dt uX7_leastCut 3 rfl) rfl (lv_at hl 3 rfl) ?_
  refine lv_ishl hx hb (dt uX7_leastCut 4 rfl) ?_
  refine lv_iconst (v := (1 : Int32)) hx hb (dt uX7_leastCut 5 rfl) (by decide) ?_
  refine lv_isub hx hb (dt uX7_leastCut 6 rfl) ?_
  refine lv_istore (lv' := [(4, .int (((1 : Int32) <<< (p2 &&& 31)) - (1 : Int32))), (3, .int (32768 : Int32)), (0, .ref ad0), (1, .int p1), (2, .int p2)]) hx hb (dt uX7_leastCut 7 rfl) hl (by decide) rfl (fun ls hl => ?_)
  refine lv_iconst (v := (0 : Int32)) hx hb (dt uX7_leastCut 8 rfl) (by decide) ?_
  refine lv_istore (lv' := [(5, .int (0 : Int32)), (4, .int (((1 : Int32) <<< (p2 &&& 31)) - (1 : Int32))), (3, .int (32768 : Int32)), (0, .ref ad0), (1, .int p1), (2, .int p2)]) hx hb (dt uX7_leastCut 9 rfl) hl (by decide) rfl (fun ls hl => ?_)
  have hL14 : ∀ (n14 : Nat), ∀ (x4_1 : Int32) (x5_2 : Int32) (H : Heap) (locs : List Loc) (ls : Array Slot), fX7_leastCut_L14 N v_now_touches v_now_one a_ways_ranked v_ways_size v_ways_trapped p1 n14 x4_1 x5_2 = some q0 → va_P (dC, dI) vwCl [(ad0, oX7 ad_text ad_draft ad_told ad_now ad_history ad_firstImage ad_secondImage ad_seen ad_ways v_traced), (ad_now, oX3 v_now_forgotten v_now_touches v_now_trapped v_now_one v_now_date), (ad_ways, oX6 ad_ways_ranked ad_ways_tens v_ways_size v_ways_trapped), (ad_ways_ranked, .inl (cI, 6, .inl a_ways_ranked))] H → va_D A [(ad0, oX7 ad_text ad_draft ad_told ad_now ad_history ad_firstImage ad_secondImage ad_seen ad_ways v_traced), (ad_now, oX3 v_now_forgotten v_now_touches v_now_trapped v_now_one v_now_date), (ad_ways, oX6 ad_ways_ranked ad_ways_tens v_ways_size v_ways_trapped), (ad_ways_ranked, .inl (cI, 6, .inl a_ways_ranked))] → va_S A s.heap H locs → lv_has ls 6 [(0, .ref ad0), (1, .int p1), (3, .int (32768 : Int32)), (4, .int x4_1), (5, .int x5_2)] → W p l e rX7_leastCut s m args below meth c H locs 0 0 Q (F0 m 14 ls []) := by
    intro n14
    induction n14 with
    | zero => intro x4_1 x5_2 H locs ls hf hP hD hS hl; cases hf
    | succ n14 ih14 =>
      intro x4_1 x5_2 H locs ls hf hP hD hS hl
      rw [fX7_leastCut_L14] at hf
      refine lv_iload hx hb (dt uX7_leastCut 10 rfl) (lv_at hl 4 rfl) ?_
      refine lv_iload_n hx hb (dt uX7_leastCut 11 rfl) rfl (lv_at hl 2 rfl) ?_
      refine lv_icmp_ge (tgt := 87) hx hb (dt uX7_leastCut 12 rfl) (by decide) (fun c_3 => ?_) (fun c_3 => ?_)
      · have hf := vif_t c_3 hf
        refine lv_bipush (v := (-9 : Int32)) hx hb (dt uX7_leastCut 46 rfl) (by decide) ?_
        have hf := Option.some.inj hf
        subst hf
        rw [hQ]
        exact vret_i C hP hD hS (dt uX7_leastCut 47 rfl)
      · have hf := vif_f c_3 hf
        refine lv_iload hx hb (dt uX7_leastCut 13 rfl) (lv_at hl 3 rfl) ?_
        refine lv_iload_n hx hb (dt uX7_leastCut 14 rfl) rfl (lv_at hl 2 rfl) ?_
        refine lv_icmp_ge (tgt := 87) hx hb (dt uX7_leastCut 15 rfl) (by decide) (fun c_4 => ?_) (fun c_4 => ?_)
        · have hf := vif_t c_4 hf
          refine lv_bipush (v := (-9 : Int32)) hx hb (dt uX7_leastCut 46 rfl) (by decide) ?_
          have hf := Option.some.inj hf
          subst hf
          rw [hQ]
          exact vret_i C hP hD hS (dt uX7_leastCut 47 rfl)
        · have hf := vif_f c_4 hf
          refine lv_iload hx hb (dt uX7_leastCut 16 rfl) (lv_at hl 3 rfl) ?_
          refine lv_aload_n hx hb (dt uX7_leastCut 17 rfl) rfl (lv_at hl 0 rfl) ?_
          refine va_get (D := (dC, dI)) (ci := 7) (v := .ref ad_now) (C := RX7) (T := TX7) (N := 10) hx hb hts inU7 hown hK hP 0 rfl rfl 3 (by decide) (hts _ tw_122) (fun _ h9 => h9) rfl (dt uX7_leastCut 18 rfl) ?_
          refine va_getN (D := (dC, dI)) (ci := 3) (v := .int v_now_touches) (C := RX3) (T := TX3) (N := 5) hx hb hts inU3 hown hK hP 1 rfl rfl 1 (by decide) (nw_14 hN) (fun _ h9 => h9) rfl (dt uX7_leastCut 19 rfl) ?_
          refine lv_iconst (v := (-1 : Int32)) hx hb (dt uX7_leastCut 20 rfl) (by decide) ?_
          refine lv_ixor hx hb (dt uX7_leastCut 21 rfl) ?_
          refine lv_iand hx hb (dt uX7_leastCut 22 rfl) ?_
          have hJ74 : ∀ (H : Heap) (locs : List Loc) (ls : Array Slot), fX7_leastCut_J74 x4_1 x5_2 (fun z14_0 z14_1 => fX7_leastCut_L14 N v_now_touches v_now_one a_ways_ranked v_ways_size v_ways_trapped p1 n14 z14_0 z14_1) = some q0 → va_P (dC, dI) vwCl [(ad0, oX7 ad_text ad_draft ad_told ad_now ad_history ad_firstImage ad_secondImage ad_seen ad_ways v_traced), (ad_now, oX3 v_now_forgotten v_now_touches v_now_trapped v_now_one v_now_date), (ad_ways, oX6 ad_ways_ranked ad_ways_tens v_ways_size v_ways_trapped), (ad_ways_ranked, .inl (cI, 6, .inl a_ways_ranked))] H → va_D A [(ad0, oX7 ad_text ad_draft ad_told ad_now ad_history ad_firstImage ad_secondImage ad_seen ad_ways v_traced), (ad_now, oX3 v_now_forgotten v_now_touches v_now_trapped v_now_one v_now_date), (ad_ways, oX6 ad_ways_ranked ad_ways_tens v_ways_size v_ways_trapped), (ad_ways_ranked, .inl (cI, 6, .inl a_ways_ranked))] → va_S A s.heap H locs → lv_has ls 6 [(0, .ref ad0), (1, .int p1), (3, .int (32768 : Int32)), (4, .int x4_1), (5, .int x5_2)] → W p l e rX7_leastCut s m args below meth c H locs 0 0 Q (F0 m 74 ls []) := by
            intro H locs ls hf hP hD hS hl
            unfold fX7_leastCut_J74 at hf
            refine lv_iload hx hb (dt uX7_leastCut 41 rfl) (lv_at hl 3 rfl) ?_
            refine vk_i0 [] (va_runS (As := [.int x4_1]) (rest := []) ⟨hx, hb, hml, hown, hts⟩ (kX7_nextOfSameSize x4_1 _ rfl H.size) (vcwS hts tw_243 tw_244 tw_41 tw_242 hd_X7_nextOfSameSize rfl rfl ⟨Nat.le_of_ble_eq_true rfl, Nat.le_of_ble_eq_true rfl⟩) (vpreS hK hN hP hD [] rfl (by decide)) rfl rfl hl.1 rfl (lv_room (Nat.le_of_ble_eq_true rfl)) (dt uX7_leastCut 42 rfl) ⟨Nat.zero_le _, Nat.zero_le _⟩) hA hP hD hS rfl (by decide) (fun H locs hP hD hS => ?_)
            refine lv_istore (lv' := [(4, .int (fX7_nextOfSameSize x4_1)), (0, .ref ad0), (1, .int p1), (3, .int (32768 : Int32)), (5, .int x5_2)]) hx hb (dt uX7_leastCut 43 rfl) hl (by decide) rfl (fun ls hl => ?_)
            refine lv_iinc (v := x5_2 + 1) (lv' := [(5, .int (x5_2 + 1)), (4, .int (fX7_nextOfSameSize x4_1)), (0, .ref ad0), (1, .int p1), (3, .int (32768 : Int32))]) hx hb (dt uX7_leastCut 44 rfl) hl (k := 4) rfl rfl (by decide) rfl (fun ls hl => ?_)
            refine lv_goto (tgt := 14) hx hb (dt uX7_leastCut 45 rfl) (by decide) ?_
            exact ih14 (fX7_nextOfSameSize x4_1) (x5_2 + 1) _ _ _ hf hP hD hS (lv_sub hl [2, 3, 4, 1, 0] rfl)
          refine lv_if_ne (tgt := 74) hx hb (dt uX7_leastCut 23 rfl) (by decide) (fun c_8 => ?_) (fun c_8 => ?_)
          · have hf := vif_f c_8 hf
            exact hJ74  _ _ _ hf hP hD hS (lv_sub hl [0, 1, 2, 3, 4] rfl)
          · have hf := vif_t c_8 hf
            refine lv_aload_n hx hb (dt uX7_leastCut 24 rfl) rfl (lv_at hl 0 rfl) ?_
            refine va_get (D := (dC, dI)) (ci := 7) (v := .ref ad_ways) (C := RX7) (T := TX7) (N := 10) hx hb hts inU7 hown hK hP 0 rfl rfl 8 (by decide) (hts _ tw_173) (fun _ h9 => h9) rfl (dt uX7_leastCut 25 rfl) ?_
            refine lv_iload_n hx hb (dt uX7_leastCut 26 rfl) rfl (lv_at hl 1 rfl) ?_
            refine lv_aload_n hx hb (dt uX7_leastCut 27 rfl) rfl (lv_at hl 0 rfl) ?_
            refine va_get (D := (dC, dI)) (ci := 7) (v := .ref ad_now) (C := RX7) (T := TX7) (N := 10) hx hb hts inU7 hown hK hP 0 rfl rfl 3 (by decide) (hts _ tw_122) (fun _ h9 => h9) rfl (dt uX7_leastCut 28 rfl) ?_
            refine va_getN (D := (dC, dI)) (ci := 3) (v := .int v_now_one) (C := RX3) (T := TX3) (N := 5) hx hb hts inU3 hown hK hP 1 rfl rfl 3 (by decide) (nw_16 hN) (fun _ h9 => h9) rfl (dt uX7_leastCut 29 rfl) ?_
            refine lv_aload_n hx hb (dt uX7_leastCut 30 rfl) rfl (lv_at hl 0 rfl) ?_
            refine va_get (D := (dC, dI)) (ci := 7) (v := .ref ad_now) (C := RX7) (T := TX7) (N := 10) hx hb hts inU7 hown hK hP 0 rfl rfl 3 (by decide) (hts _ tw_122) (fun _ h9 => h9) rfl (dt uX7_leastCut 31 rfl) ?_
            refine va_getN (D := (dC, dI)) (ci := 3) (v := .int v_now_touches) (C := RX3) (T := TX3) (N := 5) hx hb hts inU3 hown hK hP 1 rfl rfl 1 (by decide) (nw_14 hN) (fun _ h9 => h9) rfl (dt uX7_leastCut 32 rfl) ?_
            refine lv_iload hx hb (dt uX7_leastCut 33 rfl) (lv_at hl 3 rfl) ?_
            refine lv_iconst (v := (-1 : Int32)) hx hb (dt uX7_leastCut 34 rfl) (by decide) ?_
            refine lv_ixor hx hb (dt uX7_leastCut 35 rfl) ?_
            refine lv_iand hx hb (dt uX7_leastCut 36 rfl) ?_
            obtain ⟨q_9, hq_10, hf⟩ := vbd hf
            refine vk_z0 [2, 3] (va_runVN (As := [.int p1, .int v_now_one, .int (v_now_touches &&& (x4_1 ^^^ (-1 : Int32)))]) (rest := []) ⟨hx, hb, hml, hown, hts⟩ (kX6_comesTo ad_ways ad_ways_ranked ad_ways_tens v_ways_size v_ways_trapped a_ways_ranked p1 v_now_one (v_now_touches &&& (x4_1 ^^^ (-1 : Int32))) N q_9 hq_10 H.size) (vcwVN hts (nm_53 hN) tw_240 tw_241 tw_97 tw_239 hd_X6_comesTo rfl rfl ⟨Nat.le_of_ble_eq_true rfl, Nat.le_of_ble_eq_true rfl⟩) (vpreV hK hN hP hD [2, 3] rfl (by decide) (ci := 6) (q0 := 2) rfl rfl) rfl rfl hl.1 rfl (lv_room (Nat.le_of_ble_eq_true rfl)) (dt uX7_leastCut 37 rfl) ⟨Nat.zero_le _, Nat.zero_le _⟩) hA hP hD hS rfl (by decide) (fun hz_11 H locs hP hD hS => ?_)
            refine lv_if_ne (tgt := 74) hx hb (dt uX7_leastCut 38 rfl) (by decide) (fun c_12 => ?_) (fun c_12 => ?_)
            · have hf := vif_f c_12 hf
              exact hJ74  _ _ _ hf hP hD hS (lv_sub hl [0, 1, 2, 3, 4] rfl)
            · have hf := vif_t c_12 hf
              refine lv_iload hx hb (dt uX7_leastCut 39 rfl) (lv_at hl 3 rfl) ?_
              have hf := Option.some.inj hf
              subst hf
              rw [hQ]
              exact vret_i C hP hD hS (dt uX7_leastCut 40 rfl)
  exact hL14 N (((1 : Int32) <<< (p2 &&& 31)) - (1 : Int32)) (0 : Int32) _ _ _ hf hP hD hS (lv_sub hl [3, 4, 2, 1, 0] rfl)
end WALKS
