section WALKS
variable {l : Launch} {dC : Nat → ClassId} {dI : Nat → Nat → Nat} {cI cJ cB cZ : ClassId}
abbrev rX8_everComes : Room := { frames := 3, cells := 0, slots := 0, locals := 68 }
abbrev wX8_everComes : List Cond := Cond.code yX8_everComes cX8_everComes 5 (some .boolean) :: VT
set_option maxHeartbeats 4000000 in
set_option maxRecDepth 100000 in
theorem kX8_everComes (ad0 : Nat) (ad_text : Nat) (ad_books : Nat) (ad_numberA : Nat) (ad_numberB : Nat) (ad_draftTouches : Nat) (ad_now : Nat) (ad_isKept : Nat) (ad_near : Nat) (ad_seenDays : Nat) (ad_seenBook : Nat) (ad_seenIs : Nat) (v_trace : Int64) (v_typed : Int32) (v_draftOne : Int32) (v_oneTold : Int32) (v_at : Int32) (v_start : Int32) (v_sort : Int32) (v_value : Int32) (v_fault : Int32) (v_seen : Int32) (v_sets : Int32) (v_inEach : Int32) (v_inSome : Int32) (a_books : Nat → Int32) (a_numberA : Nat → Int32) (a_numberB : Nat → Int32) (a_now : Nat → Int32) (a_near : Nat → Int32) (p1 : Int32) (N : Nat) (q0 : Int32) (hf : fX8_everComes N a_books a_numberA a_numberB a_now a_near p1 = some q0) : Kz l yX8_everComes wX8_everComes rX8_everComes (dC, dI) (vTy cI cJ cB cZ) [.ref ad0, .int p1] [(ad0, oX8 v_trace ad_text v_typed ad_books ad_numberA ad_numberB ad_draftTouches v_draftOne v_oneTold v_at v_start v_sort v_value v_fault ad_now ad_isKept ad_near ad_seenDays ad_seenBook ad_seenIs v_seen v_sets v_inEach v_inSome), (ad_books, .inl (cI, 2, .inl a_books)), (ad_numberA, .inl (cI, 12, .inl a_numberA)), (ad_numberB, .inl (cI, 12, .inl a_numberB)), (ad_now, .inl (cI, 498, .inl a_now)), (ad_near, .inl (cI, 6, .inl a_near))] [(ad0, oX8 v_trace ad_text v_typed ad_books ad_numberA ad_numberB ad_draftTouches v_draftOne v_oneTold v_at v_start v_sort v_value v_fault ad_now ad_isKept ad_near ad_seenDays ad_seenBook ad_seenIs v_seen v_sets v_inEach v_inSome), (ad_books, .inl (cI, 2, .inl a_books)), (ad_numberA, .inl (cI, 12, .inl a_numberA)), (ad_numberB, .inl (cI, 12, .inl a_numberB)), (ad_now, .inl (cI, 498, .inl a_now)), (ad_near, .inl (cI, 6, .inl a_near))] q0 := by
  refine Kz.mk (cc := cX8_everComes) (maxL := 5) (ret := some .boolean) (by decide) (Nat.le_of_ble_eq_true rfl) ?_
  intro p e s m args below meth c A Q H locs C hQ hP hD hS ls hl
  obtain ⟨hx, hb, -, hml, hts, hown, -, hK, hN, hA⟩ := id C
  have hown : s.vm.findClass RX8 = some m.cls := hown
  have hl : lv_has ls 5 [(0, .ref ad0), (1, .int p1)] := hl
  unfold fX8_everComes at hf
  refine lv_aload_n hx hb (dt uX8_everComes 0 rfl) rfl (lv_at hl 0 rfl) ?_
  refine va_get (D := (dC, dI)) (ci := 8) (v := .ref ad_now) (C := RX8) (T := TX8) (N := 24) hx hb hts inU8 hown hK hP 0 rfl rfl 14 (by decide) (hts _ tw_369) (fun _ h9 => h9) rfl (dt uX8_everComes 1 rfl) ?_
  refine lv_bipush (v := (13 : Int32)) hx hb (dt uX8_everComes 2 rfl) (by decide) ?_
  refine va_iald hx hb hK hP 4 0 rfl rfl (vp_in_iff.mpr (by decide)) (dt uX8_everComes 3 rfl) ?_
  refine lv_istore_n (lv' := [(2, .int (a_now (13 : Int32).toNatClampNeg)), (0, .ref ad0), (1, .int p1)]) hx hb (dt uX8_everComes 4 rfl) rfl hl (by decide) rfl (fun ls hl => ?_)
  refine lv_iload_n hx hb (dt uX8_everComes 5 rfl) rfl (lv_at hl 0 rfl) ?_
  refine lv_iload_n hx hb (dt uX8_everComes 6 rfl) rfl (lv_at hl 2 rfl) ?_
  have hJ18 : ∀ (y0_1 : Int32) (H : Heap) (locs : List Loc) (ls : Array Slot), fX8_everComes_J18 N a_books a_numberA a_numberB a_now a_near p1 y0_1 = some q0 → va_P (dC, dI) vwCl [(ad0, oX8 v_trace ad_text v_typed ad_books ad_numberA ad_numberB ad_draftTouches v_draftOne v_oneTold v_at v_start v_sort v_value v_fault ad_now ad_isKept ad_near ad_seenDays ad_seenBook ad_seenIs v_seen v_sets v_inEach v_inSome), (ad_books, .inl (cI, 2, .inl a_books)), (ad_numberA, .inl (cI, 12, .inl a_numberA)), (ad_numberB, .inl (cI, 12, .inl a_numberB)), (ad_now, .inl (cI, 498, .inl a_now)), (ad_near, .inl (cI, 6, .inl a_near))] H → va_D A [(ad0, oX8 v_trace ad_text v_typed ad_books ad_numberA ad_numberB ad_draftTouches v_draftOne v_oneTold v_at v_start v_sort v_value v_fault ad_now ad_isKept ad_near ad_seenDays ad_seenBook ad_seenIs v_seen v_sets v_inEach v_inSome), (ad_books, .inl (cI, 2, .inl a_books)), (ad_numberA, .inl (cI, 12, .inl a_numberA)), (ad_numberB, .inl (cI, 12, .inl a_numberB)), (ad_now, .inl (cI, 498, .inl a_now)), (ad_near, .inl (cI, 6, .inl a_near))] → va_S A s.heap H locs → lv_has ls 5 [(0, .ref ad0), (1, .int p1), (2, .int (a_now (13 : Int32).toNatClampNeg))] → W p l e rX8_everComes s m args below meth c H locs 0 0 Q (F0 m 18 ls [.int y0_1]) := by
    intro y0_1 H locs ls hf hP hD hS hl
    unfold fX8_everComes_J18 at hf
    refine lv_istore_n (lv' := [(3, .int y0_1), (0, .ref ad0), (1, .int p1), (2, .int (a_now (13 : Int32).toNatClampNeg))]) hx hb (dt uX8_everComes 11 rfl) rfl hl (by decide) rfl (fun ls hl => ?_)
    refine lv_iconst (v := (0 : Int32)) hx hb (dt uX8_everComes 12 rfl) (by decide) ?_
    refine lv_istore (lv' := [(4, .int (0 : Int32)), (3, .int y0_1), (0, .ref ad0), (1, .int p1), (2, .int (a_now (13 : Int32).toNatClampNeg))]) hx hb (dt uX8_everComes 13 rfl) hl (by decide) rfl (fun ls hl => ?_)
    have hL22 : ∀ (n22 : Nat), ∀ (x2_2 : Int32) (x3_3 : Int32) (x4_4 : Int32) (H : Heap) (locs : List Loc) (ls : Array Slot), fX8_everComes_L22 N a_books a_numberA a_numberB a_now a_near p1 n22 x2_2 x3_3 x4_4 = some q0 → va_P (dC, dI) vwCl [(ad0, oX8 v_trace ad_text v_typed ad_books ad_numberA ad_numberB ad_draftTouches v_draftOne v_oneTold v_at v_start v_sort v_value v_fault ad_now ad_isKept ad_near ad_seenDays ad_seenBook ad_seenIs v_seen v_sets v_inEach v_inSome), (ad_books, .inl (cI, 2, .inl a_books)), (ad_numberA, .inl (cI, 12, .inl a_numberA)), (ad_numberB, .inl (cI, 12, .inl a_numberB)), (ad_now, .inl (cI, 498, .inl a_now)), (ad_near, .inl (cI, 6, .inl a_near))] H → va_D A [(ad0, oX8 v_trace ad_text v_typed ad_books ad_numberA ad_numberB ad_draftTouches v_draftOne v_oneTold v_at v_start v_sort v_value v_fault ad_now ad_isKept ad_near ad_seenDays ad_seenBook ad_seenIs v_seen v_sets v_inEach v_inSome), (ad_books, .inl (cI, 2, .inl a_books)), (ad_numberA, .inl (cI, 12, .inl a_numberA)), (ad_numberB, .inl (cI, 12, .inl a_numberB)), (ad_now, .inl (cI, 498, .inl a_now)), (ad_near, .inl (cI, 6, .inl a_near))] → va_S A s.heap H locs → lv_has ls 5 [(0, .ref ad0), (1, .int p1), (2, .int x2_2), (3, .int x3_3), (4, .int x4_4)] → W p l e rX8_everComes s m args below meth c H locs 0 0 Q (F0 m 22 ls []) := by
      intro n22
      induction n22 with
      | zero => intro x2_2 x3_3 x4_4 H locs ls hf hP hD hS hl; cases hf
      | succ n22 ih22 =>
        intro x2_2 x3_3 x4_4 H locs ls hf hP hD hS hl
        rw [fX8_everComes_L22] at hf
        refine lv_iload hx hb (dt uX8_everComes 14 rfl) (lv_at hl 4 rfl) ?_
        refine lv_bipush (v := (6 : Int32)) hx hb (dt uX8_everComes 15 rfl) (by decide) ?_
        refine lv_icmp_ge (tgt := 56) hx hb (dt uX8_everComes 16 rfl) (by decide) (fun c_5 => ?_) (fun c_5 => ?_)
        · have hf := vif_t c_5 hf
          refine lv_iload_n hx hb (dt uX8_everComes 32 rfl) rfl (lv_at hl 3 rfl) ?_
          obtain ⟨hz_6, hf⟩ := vb_some hf
          have hf := Option.some.inj hf
          subst hf
          rw [hQ]
          exact vret_z C hP hD hS (dt uX8_everComes 33 rfl) hz_6
        · have hf := vif_f c_5 hf
          refine lv_aload_n hx hb (dt uX8_everComes 17 rfl) rfl (lv_at hl 0 rfl) ?_
          refine lv_iload_n hx hb (dt uX8_everComes 18 rfl) rfl (lv_at hl 2 rfl) ?_
          obtain ⟨q_7, hq_8, hf⟩ := vbd hf
          refine vk_i0 [0, 1, 2, 3, 4, 5] (va_runV (As := [.int x2_2]) (rest := []) ⟨hx, hb, hml, hown, hts⟩ (kX8_goesTo ad0 ad_text ad_books ad_numberA ad_numberB ad_draftTouches ad_now ad_isKept ad_near ad_seenDays ad_seenBook ad_seenIs v_trace v_typed v_draftOne v_oneTold v_at v_start v_sort v_value v_fault v_seen v_sets v_inEach v_inSome a_books a_numberA a_numberB a_now a_near x2_2 N q_7 hq_8 H.size) (vcwV hts tw_427 tw_428 tw_429 tw_336 tw_426 hd_X8_goesTo rfl rfl ⟨Nat.le_of_ble_eq_true rfl, Nat.le_of_ble_eq_true rfl⟩) (vpreV hK hN hP hD [0, 1, 2, 3, 4, 5] rfl (by decide) (ci := 8) (q0 := 0) rfl rfl) rfl rfl hl.1 rfl (lv_room (Nat.le_of_ble_eq_true rfl)) (dt uX8_everComes 19 rfl) ⟨Nat.zero_le _, Nat.zero_le _⟩) hA hP hD hS rfl (by decide) (fun H locs hP hD hS => ?_)
          refine lv_istore_n (lv' := [(2, .int q_7), (0, .ref ad0), (1, .int p1), (3, .int x3_3), (4, .int x4_4)]) hx hb (dt uX8_everComes 20 rfl) rfl hl (by decide) rfl (fun ls hl => ?_)
          refine lv_iload_n hx hb (dt uX8_everComes 21 rfl) rfl (lv_at hl 3 rfl) ?_
          refine lv_if_ne (tgt := 44) hx hb (dt uX8_everComes 22 rfl) (by decide) (fun c_9 => ?_) (fun c_9 => ?_)
          · have hf := vif_f c_9 hf
            refine lv_iconst (v := (1 : Int32)) hx hb (dt uX8_everComes 26 rfl) (by decide) ?_
            refine lv_goto (tgt := 49) hx hb (dt uX8_everComes 27 rfl) (by decide) ?_
            refine lv_istore_n (lv' := [(3, .int (1 : Int32)), (2, .int q_7), (0, .ref ad0), (1, .int p1), (4, .int x4_4)]) hx hb (dt uX8_everComes 29 rfl) rfl hl (by decide) rfl (fun ls hl => ?_)
            refine lv_iinc (v := x4_4 + 1) (lv' := [(4, .int (x4_4 + 1)), (3, .int (1 : Int32)), (2, .int q_7), (0, .ref ad0), (1, .int p1)]) hx hb (dt uX8_everComes 30 rfl) hl (k := 4) rfl rfl (by decide) rfl (fun ls hl => ?_)
            refine lv_goto (tgt := 22) hx hb (dt uX8_everComes 31 rfl) (by decide) ?_
            exact ih22 q_7 (1 : Int32) (x4_4 + 1) _ _ _ hf hP hD hS (lv_sub hl [3, 4, 2, 1, 0] rfl)
          · have hf := vif_t c_9 hf
            refine lv_iload_n hx hb (dt uX8_everComes 23 rfl) rfl (lv_at hl 0 rfl) ?_
            refine lv_iload_n hx hb (dt uX8_everComes 24 rfl) rfl (lv_at hl 2 rfl) ?_
            refine lv_icmp_ne (tgt := 48) hx hb (dt uX8_everComes 25 rfl) (by decide) (fun c_10 => ?_) (fun c_10 => ?_)
            · have hf := vif_f c_10 hf
              refine lv_iconst (v := (0 : Int32)) hx hb (dt uX8_everComes 28 rfl) (by decide) ?_
              refine lv_istore_n (lv' := [(3, .int (0 : Int32)), (2, .int q_7), (0, .ref ad0), (1, .int p1), (4, .int x4_4)]) hx hb (dt uX8_everComes 29 rfl) rfl hl (by decide) rfl (fun ls hl => ?_)
              refine lv_iinc (v := x4_4 + 1) (lv' := [(4, .int (x4_4 + 1)), (3, .int (0 : Int32)), (2, .int q_7), (0, .ref ad0), (1, .int p1)]) hx hb (dt uX8_everComes 30 rfl) hl (k := 4) rfl rfl (by decide) rfl (fun ls hl => ?_)
              refine lv_goto (tgt := 22) hx hb (dt uX8_everComes 31 rfl) (by decide) ?_
              exact ih22 q_7 (0 : Int32) (x4_4 + 1) _ _ _ hf hP hD hS (lv_sub hl [3, 4, 2, 1, 0] rfl)
            · have hf := vif_t c_10 hf
              refine lv_iconst (v := (1 : Int32)) hx hb (dt uX8_everComes 26 rfl) (by decide) ?_
              refine lv_goto (tgt := 49) hx hb (dt uX8_everComes 27 rfl) (by decide) ?_
              refine lv_istore_n (lv' := [(3, .int (1 : Int32)), (2, .int q_7), (0, .ref ad0), (1, .int p1), (4, .int x4_4)]) hx hb (dt uX8_everComes 29 rfl) rfl hl (by decide) rfl (fun ls hl => ?_)
              refine lv_iinc (v := x4_4 + 1) (lv' := [(4, .int (x4_4 + 1)), (3, .int (1 : Int32)), (2, .int q_7), (0, .ref ad0), (1, .int p1)]) hx hb (dt uX8_everComes 30 rfl) hl (k := 4) rfl rfl (by decide) rfl (fun ls hl => ?_)
              refine lv_goto (tgt := 22) hx hb (dt uX8_everComes 31 rfl) (by decide) ?_
              exact ih22 q_7 (1 : Int32) (x4_4 + 1) _ _ _ hf hP hD hS (lv_sub hl [3, 4, 2, 1, 0] rfl)
    exact hL22 N (a_now (13 : Int32).toNatClampNeg) y0_1 (0 : Int32) _ _ _ hf hP hD hS (lv_sub hl [2, 3, 4, 1, 0] rfl)
  refine lv_icmp_ne (tgt := 17) hx hb (dt uX8_everComes 7 rfl) (by decide) (fun c_11 => ?_) (fun c_11 => ?_)
  · have hf := vif_f c_11 hf
    refine lv_iconst (v := (0 : Int32)) hx hb (dt uX8_everComes 10 rfl) (by decide) ?_
    exact hJ18 (0 : Int32) _ _ _ hf hP hD hS (lv_sub hl [1, 2, 0] rfl)
  · have hf := vif_t c_11 hf
    refine lv_iconst (v := (1 : Int32)) hx hb (dt uX8_everComes 8 rfl) (by decide) ?_
    refine lv_goto (tgt := 18) hx hb (dt uX8_everComes 9 rfl) (by decide) ?_
    exact hJ18 (1 : Int32) _ _ _ hf hP hD hS (lv_sub hl [1, 2, 0] rfl)
abbrev rX8_cut : Room := { frames := 4, cells := 0, slots := 0, locals := 92 }
abbrev wX8_cut : List Cond := Cond.code yX8_cut cX8_cut 6 (some .int) :: VT
set_option maxHeartbeats 4000000 in
set_option maxRecDepth 100000 in
theorem kX8_cut (ad0 : Nat) (ad_text : Nat) (ad_books : Nat) (ad_numberA : Nat) (ad_numberB : Nat) (ad_draftTouches : Nat) (ad_now : Nat) (ad_isKept : Nat) (ad_near : Nat) (ad_seenDays : Nat) (ad_seenBook : Nat) (ad_seenIs : Nat) (v_trace : Int64) (v_typed : Int32) (v_draftOne : Int32) (v_oneTold : Int32) (v_at : Int32) (v_start : Int32) (v_sort : Int32) (v_value : Int32) (v_fault : Int32) (v_seen : Int32) (v_sets : Int32) (v_inEach : Int32) (v_inSome : Int32) (a_books : Nat → Int32) (a_numberA : Nat → Int32) (a_numberB : Nat → Int32) (a_now : Nat → Int32) (a_near : Nat → Int32) (p1 : Int32) (N : Nat) (q0 : (Int32 × (Nat → Int32))) (hf : fX8_cut N a_books a_numberA a_numberB a_now a_near p1 = some q0) : Ki l yX8_cut wX8_cut rX8_cut (dC, dI) (vTy cI cJ cB cZ) [.ref ad0, .int p1] [(ad0, oX8 v_trace ad_text v_typed ad_books ad_numberA ad_numberB ad_draftTouches v_draftOne v_oneTold v_at v_start v_sort v_value v_fault ad_now ad_isKept ad_near ad_seenDays ad_seenBook ad_seenIs v_seen v_sets v_inEach v_inSome), (ad_books, .inl (cI, 2, .inl a_books)), (ad_numberA, .inl (cI, 12, .inl a_numberA)), (ad_numberB, .inl (cI, 12, .inl a_numberB)), (ad_now, .inl (cI, 498, .inl a_now)), (ad_near, .inl (cI, 6, .inl a_near))] [(ad0, oX8 v_trace ad_text v_typed ad_books ad_numberA ad_numberB ad_draftTouches v_draftOne v_oneTold v_at v_start v_sort v_value v_fault ad_now ad_isKept ad_near ad_seenDays ad_seenBook ad_seenIs v_seen v_sets v_inEach v_inSome), (ad_books, .inl (cI, 2, .inl a_books)), (ad_numberA, .inl (cI, 12, .inl a_numberA)), (ad_numberB, .inl (cI, 12, .inl a_numberB)), (ad_now, .inl (cI, 498, .inl a_now)), (ad_near, .inl (cI, 6, .inl q0.2))] q0.1 := by
  refine Ki.mk (cc := cX8_cut) (maxL := 6) (ret := some .int) (by decide) (Nat.le_of_ble_eq_true rfl) ?_
  intro p e s m args below meth c A Q H locs C hQ hP hD hS ls hl
  obtain ⟨hx, hb, -, hml, hts, hown, -, hK, hN, hA⟩ := id C
  have hown : s.vm.findClass RX8 = some m.cls := hown
  have hl : lv_has ls 6 [(0, .ref ad0), (1, .int p1)] := hl
  unfold fX8_cut at hf
  refine lv_aload_n hx hb (dt uX8_cut_0 0 rfl) rfl (lv_at hl 0 rfl) ?_
  refine lv_iload_n hx hb (dt uX8_cut_0 1 rfl) rfl (lv_at hl 1 rfl) ?_
  refine vk_z0 [0, 1] (va_runV (As := [.int p1]) (rest := []) ⟨hx, hb, hml, hown, hts⟩ (kX8_isBook ad0 ad_text ad_books ad_numberA ad_numberB ad_draftTouches ad_now ad_isKept ad_near ad_seenDays ad_seenBook ad_seenIs v_trace v_typed v_draftOne v_oneTold v_at v_start v_sort v_value v_fault v_seen v_sets v_inEach v_inSome a_books p1 _ rfl H.size) (vcwV hts tw_403 tw_404 tw_405 tw_336 tw_402 hd_X8_isBook rfl rfl ⟨Nat.le_of_ble_eq_true rfl, Nat.le_of_ble_eq_true rfl⟩) (vpreV hK hN hP hD [0, 1] rfl (by decide) (ci := 8) (q0 := 0) rfl rfl) rfl rfl hl.1 rfl (lv_room (Nat.le_of_ble_eq_true rfl)) (dt uX8_cut_0 2 rfl) ⟨Nat.zero_le _, Nat.zero_le _⟩) hA hP hD hS rfl (by decide) (fun hz_1 H locs hP hD hS => ?_)
  refine lv_if_ne (tgt := 10) hx hb (dt uX8_cut_0 3 rfl) (by decide) (fun c_2 => ?_) (fun c_2 => ?_)
  · have hf := vif_f c_2 hf
    refine lv_aload_n hx hb (dt uX8_cut_0 6 rfl) rfl (lv_at hl 0 rfl) ?_
    refine va_get (D := (dC, dI)) (ci := 8) (v := .ref ad_now) (C := RX8) (T := TX8) (N := 24) hx hb hts inU8 hown hK hP 0 rfl rfl 14 (by decide) (hts _ tw_369) (fun _ h9 => h9) rfl (dt uX8_cut_0 7 rfl) ?_
    refine lv_bipush (v := (13 : Int32)) hx hb (dt uX8_cut_0 8 rfl) (by decide) ?_
    refine va_iald hx hb hK hP 4 0 rfl rfl (vp_in_iff.mpr (by decide)) (dt uX8_cut_0 9 rfl) ?_
    refine lv_bipush (v := (-9 : Int32)) hx hb (dt uX8_cut_0 10 rfl) (by decide) ?_
    refine lv_icmp_ne (tgt := 25) hx hb (dt uX8_cut_0 11 rfl) (by decide) (fun c_3 => ?_) (fun c_3 => ?_)
    · have hf := vif_f c_3 hf
      refine lv_aload_n hx hb (dt uX8_cut_0 14 rfl) rfl (lv_at hl 0 rfl) ?_
      refine va_get (D := (dC, dI)) (ci := 8) (v := .ref ad_now) (C := RX8) (T := TX8) (N := 24) hx hb hts inU8 hown hK hP 0 rfl rfl 14 (by decide) (hts _ tw_369) (fun _ h9 => h9) rfl (dt uX8_cut_0 15 rfl) ?_
      refine lv_bipush (v := (13 : Int32)) hx hb (dt uX8_cut_0 16 rfl) (by decide) ?_
      refine va_iald hx hb hK hP 4 0 rfl rfl (vp_in_iff.mpr (by decide)) (dt uX8_cut_0 17 rfl) ?_
      refine lv_iload_n hx hb (dt uX8_cut_0 18 rfl) rfl (lv_at hl 1 rfl) ?_
      refine lv_icmp_ne (tgt := 39) hx hb (dt uX8_cut_0 19 rfl) (by decide) (fun c_4 => ?_) (fun c_4 => ?_)
      · have hf := vif_f c_4 hf
        refine lv_aload_n hx hb (dt uX8_cut_0 22 rfl) rfl (lv_at hl 0 rfl) ?_
        obtain ⟨q_5, hq_6, hf⟩ := vbd hf
        refine vk_i0 [0, 4] (va_runV (As := []) (rest := []) ⟨hx, hb, hml, hown, hts⟩ (kX8_touching ad0 ad_text ad_books ad_numberA ad_numberB ad_draftTouches ad_now ad_isKept ad_near ad_seenDays ad_seenBook ad_seenIs v_trace v_typed v_draftOne v_oneTold v_at v_start v_sort v_value v_fault v_seen v_sets v_inEach v_inSome a_now N q_5 hq_6 H.size) (vcwV hts tw_454 tw_455 tw_456 tw_336 tw_453 hd_X8_touching rfl rfl ⟨Nat.le_of_ble_eq_true rfl, Nat.le_of_ble_eq_true rfl⟩) (vpreV hK hN hP hD [0, 4] rfl (by decide) (ci := 8) (q0 := 0) rfl rfl) rfl rfl hl.1 rfl (lv_room (Nat.le_of_ble_eq_true rfl)) (dt uX8_cut_0 23 rfl) ⟨Nat.zero_le _, Nat.zero_le _⟩) hA hP hD hS rfl (by decide) (fun H locs hP hD hS => ?_)
        refine lv_istore_n (lv' := [(2, .int q_5), (0, .ref ad0), (1, .int p1)]) hx hb (dt uX8_cut_0 24 rfl) rfl hl (by decide) rfl (fun ls hl => ?_)
        refine lv_iload_n hx hb (dt uX8_cut_0 25 rfl) rfl (lv_at hl 0 rfl) ?_
        refine lv_istore_n (lv' := [(3, .int q_5), (2, .int q_5), (0, .ref ad0), (1, .int p1)]) hx hb (dt uX8_cut_0 26 rfl) rfl hl (by decide) rfl (fun ls hl => ?_)
        refine lv_iconst (v := (0 : Int32)) hx hb (dt uX8_cut_0 27 rfl) (by decide) ?_
        refine lv_istore (lv' := [(4, .int (0 : Int32)), (3, .int q_5), (2, .int q_5), (0, .ref ad0), (1, .int p1)]) hx hb (dt uX8_cut_0 28 rfl) hl (by decide) rfl (fun ls hl => ?_)
        have hL49 : ∀ (n49 : Nat), ∀ (x3_7 : Int32) (x4_8 : Int32) (w_9 : Nat → Int32) (H : Heap) (locs : List Loc) (ls : Array Slot), fX8_cut_L49 N a_books a_numberA a_numberB a_now p1 q_5 n49 x3_7 x4_8 w_9 = some q0 → va_P (dC, dI) vwCl [(ad0, oX8 v_trace ad_text v_typed ad_books ad_numberA ad_numberB ad_draftTouches v_draftOne v_oneTold v_at v_start v_sort v_value v_fault ad_now ad_isKept ad_near ad_seenDays ad_seenBook ad_seenIs v_seen v_sets v_inEach v_inSome), (ad_books, .inl (cI, 2, .inl a_books)), (ad_numberA, .inl (cI, 12, .inl a_numberA)), (ad_numberB, .inl (cI, 12, .inl a_numberB)), (ad_now, .inl (cI, 498, .inl a_now)), (ad_near, .inl (cI, 6, .inl w_9))] H → va_D A [(ad0, oX8 v_trace ad_text v_typed ad_books ad_numberA ad_numberB ad_draftTouches v_draftOne v_oneTold v_at v_start v_sort v_value v_fault ad_now ad_isKept ad_near ad_seenDays ad_seenBook ad_seenIs v_seen v_sets v_inEach v_inSome), (ad_books, .inl (cI, 2, .inl a_books)), (ad_numberA, .inl (cI, 12, .inl a_numberA)), (ad_numberB, .inl (cI, 12, .inl a_numberB)), (ad_now, .inl (cI, 498, .inl a_now)), (ad_near, .inl (cI, 6, .inl w_9))] → va_S A s.heap H locs → lv_has ls 6 [(0, .ref ad0), (1, .int p1), (2, .int q_5), (3, .int x3_7), (4, .int x4_8)] → W p l e rX8_cut s m args below meth c H locs 0 0 Q (F0 m 49 ls []) := by
          intro n49
          induction n49 with
          | zero => intro x3_7 x4_8 w_9 H locs ls hf hP hD hS hl; cases hf
          | succ n49 ih49 =>
            intro x3_7 x4_8 w_9 H locs ls hf hP hD hS hl
            rw [fX8_cut_L49] at hf
            refine lv_iload hx hb (dt uX8_cut_0 29 rfl) (lv_at hl 4 rfl) ?_
            refine lv_iload_n hx hb (dt uX8_cut_0 30 rfl) rfl (lv_at hl 2 rfl) ?_
            refine lv_icmp_ge (tgt := 133) hx hb (dt uX8_cut_0 31 rfl) (by decide) (fun c_10 => ?_) (fun c_10 => ?_)
            · have hf := vif_t c_10 hf
              refine lv_iload_n hx hb (dt uX8_cut_1 10 rfl) rfl (lv_at hl 3 rfl) ?_
              have hf := Option.some.inj hf
              subst hf
              rw [hQ]
              exact vret_i C hP hD hS (dt uX8_cut_1 11 rfl)
            · have hf := vif_f c_10 hf
              refine lv_iload hx hb (dt uX8_cut_0 32 rfl) (lv_at hl 4 rfl) ?_
              refine lv_iload_n hx hb (dt uX8_cut_0 33 rfl) rfl (lv_at hl 2 rfl) ?_
              refine lv_iconst (v := (-1 : Int32)) hx hb (dt uX8_cut_0 34 rfl) (by decide) ?_
              refine lv_ixor hx hb (dt uX8_cut_0 35 rfl) ?_
              refine lv_iand hx hb (dt uX8_cut_0 36 rfl) ?_
              have hJ99 : ∀ (y0_19 : Int32) (H : Heap) (locs : List Loc) (ls : Array Slot), fX8_cut_J99 N a_books a_numberA a_numberB a_now p1 x3_7 x4_8 w_9 (fun z49_0 z49_1 z49_2 => fX8_cut_L49 N a_books a_numberA a_numberB a_now p1 q_5 n49 z49_0 z49_1 z49_2) y0_19 = some q0 → va_P (dC, dI) vwCl [(ad0, oX8 v_trace ad_text v_typed ad_books ad_numberA ad_numberB ad_draftTouches v_draftOne v_oneTold v_at v_start v_sort v_value v_fault ad_now ad_isKept ad_near ad_seenDays ad_seenBook ad_seenIs v_seen v_sets v_inEach v_inSome), (ad_books, .inl (cI, 2, .inl a_books)), (ad_numberA, .inl (cI, 12, .inl a_numberA)), (ad_numberB, .inl (cI, 12, .inl a_numberB)), (ad_now, .inl (cI, 498, .inl a_now)), (ad_near, .inl (cI, 6, .inl w_9))] H → va_D A [(ad0, oX8 v_trace ad_text v_typed ad_books ad_numberA ad_numberB ad_draftTouches v_draftOne v_oneTold v_at v_start v_sort v_value v_fault ad_now ad_isKept ad_near ad_seenDays ad_seenBook ad_seenIs v_seen v_sets v_inEach v_inSome), (ad_books, .inl (cI, 2, .inl a_books)), (ad_numberA, .inl (cI, 12, .inl a_numberA)), (ad_numberB, .inl (cI, 12, .inl a_numberB)), (ad_now, .inl (cI, 498, .inl a_now)), (ad_near, .inl (cI, 6, .inl w_9))] → va_S A s.heap H locs → lv_has ls 6 [(0, .ref ad0), (1, .int p1), (2, .int q_5), (3, .int x3_7), (4, .int x4_8)] → W p l e rX8_cut s m args below meth c H locs 0 0 Q (F0 m 99 ls [.int y0_19]) := by
                intro y0_19 H locs ls hf hP hD hS hl
                unfold fX8_cut_J99 at hf
                refine lv_istore (lv' := [(5, .int y0_19), (0, .ref ad0), (1, .int p1), (2, .int q_5), (3, .int x3_7), (4, .int x4_8)]) hx hb (dt uX8_cut_0 54 rfl) hl (by decide) rfl (fun ls hl => ?_)
                refine lv_iload hx hb (dt uX8_cut_0 55 rfl) (lv_at hl 0 rfl) ?_
                refine lv_if_eq (tgt := 127) hx hb (dt uX8_cut_0 56 rfl) (by decide) (fun c_20 => ?_) (fun c_20 => ?_)
                · have hf := vif_t c_20 hf
                  refine lv_iinc (v := x4_8 + 1) (lv' := [(4, .int (x4_8 + 1)), (5, .int y0_19), (0, .ref ad0), (1, .int p1), (2, .int q_5), (3, .int x3_7)]) hx hb (dt uX8_cut_1 8 rfl) hl (k := 5) rfl rfl (by decide) rfl (fun ls hl => ?_)
                  refine lv_goto (tgt := 49) hx hb (dt uX8_cut_1 9 rfl) (by decide) ?_
                  exact ih49 x3_7 (x4_8 + 1) w_9 _ _ _ hf hP hD hS (lv_sub hl [2, 3, 4, 5, 0] rfl)
                · have hf := vif_f c_20 hf
                  refine lv_aload_n hx hb (dt uX8_cut_0 57 rfl) rfl (lv_at hl 1 rfl) ?_
                  refine lv_iload hx hb (dt uX8_cut_0 58 rfl) (lv_at hl 5 rfl) ?_
                  obtain ⟨q_21, hq_22, hf⟩ := vbd hf
                  refine vk_v [0, 4, 5] (ws2 := [(ad0, oX8 v_trace ad_text v_typed ad_books ad_numberA ad_numberB ad_draftTouches v_draftOne v_oneTold v_at v_start v_sort v_value v_fault ad_now ad_isKept ad_near ad_seenDays ad_seenBook ad_seenIs v_seen v_sets v_inEach v_inSome), (ad_books, .inl (cI, 2, .inl a_books)), (ad_numberA, .inl (cI, 12, .inl a_numberA)), (ad_numberB, .inl (cI, 12, .inl a_numberB)), (ad_now, .inl (cI, 498, .inl a_now)), (ad_near, .inl (cI, 6, .inl q_21))]) (va_runV (As := [.int x4_8]) (rest := []) ⟨hx, hb, hml, hown, hts⟩ (kX8_layApart ad0 ad_text ad_books ad_numberA ad_numberB ad_draftTouches ad_now ad_isKept ad_near ad_seenDays ad_seenBook ad_seenIs v_trace v_typed v_draftOne v_oneTold v_at v_start v_sort v_value v_fault v_seen v_sets v_inEach v_inSome a_now w_9 x4_8 N q_21 hq_22 H.size) (vcwV hts tw_458 tw_459 tw_460 tw_336 tw_457 hd_X8_layApart rfl rfl ⟨Nat.le_of_ble_eq_true rfl, Nat.le_of_ble_eq_true rfl⟩) (vpreV hK hN hP hD [0, 4, 5] rfl (by decide) (ci := 8) (q0 := 0) rfl rfl) rfl rfl hl.1 rfl (lv_room (Nat.le_of_ble_eq_true rfl)) (dt uX8_cut_0 59 rfl) ⟨Nat.zero_le _, Nat.zero_le _⟩) hA hP hD hS rfl (by decide) rfl rfl (fun H locs hP hD hS => ?_)
                  refine lv_aload_n hx hb (dt uX8_cut_1 0 rfl) rfl (lv_at hl 1 rfl) ?_
                  refine lv_iload_n hx hb (dt uX8_cut_1 1 rfl) rfl (lv_at hl 2 rfl) ?_
                  obtain ⟨q_23, hq_24, hf⟩ := vbd hf
                  refine vk_z0 [0, 1, 2, 3, 4, 5] (va_runV (As := [.int p1]) (rest := []) ⟨hx, hb, hml, hown, hts⟩ (kX8_everComes ad0 ad_text ad_books ad_numberA ad_numberB ad_draftTouches ad_now ad_isKept ad_near ad_seenDays ad_seenBook ad_seenIs v_trace v_typed v_draftOne v_oneTold v_at v_start v_sort v_value v_fault v_seen v_sets v_inEach v_inSome a_books a_numberA a_numberB a_now q_21 p1 N q_23 hq_24 H.size) (vcwV hts tw_462 tw_463 tw_464 tw_336 tw_461 hd_X8_everComes rfl rfl ⟨Nat.le_of_ble_eq_true rfl, Nat.le_of_ble_eq_true rfl⟩) (vpreV hK hN hP hD [0, 1, 2, 3, 4, 5] rfl (by decide) (ci := 8) (q0 := 0) rfl rfl) rfl rfl hl.1 rfl (lv_room (Nat.le_of_ble_eq_true rfl)) (dt uX8_cut_1 2 rfl) ⟨Nat.zero_le _, Nat.zero_le _⟩) hA hP hD hS rfl (by decide) (fun hz_25 H locs hP hD hS => ?_)
                  refine lv_if_eq (tgt := 124) hx hb (dt uX8_cut_1 3 rfl) (by decide) (fun c_26 => ?_) (fun c_26 => ?_)
                  · have hf := vif_t c_26 hf
                    refine lv_iload hx hb (dt uX8_cut_1 6 rfl) (lv_at hl 5 rfl) ?_
                    refine lv_istore_n (lv' := [(3, .int x4_8), (5, .int y0_19), (0, .ref ad0), (1, .int p1), (2, .int q_5), (4, .int x4_8)]) hx hb (dt uX8_cut_1 7 rfl) rfl hl (by decide) rfl (fun ls hl => ?_)
                    refine lv_iinc (v := x4_8 + 1) (lv' := [(4, .int (x4_8 + 1)), (3, .int x4_8), (5, .int y0_19), (0, .ref ad0), (1, .int p1), (2, .int q_5)]) hx hb (dt uX8_cut_1 8 rfl) hl (k := 5) rfl rfl (by decide) rfl (fun ls hl => ?_)
                    refine lv_goto (tgt := 49) hx hb (dt uX8_cut_1 9 rfl) (by decide) ?_
                    exact ih49 x4_8 (x4_8 + 1) q_21 _ _ _ hf hP hD hS (lv_sub hl [3, 4, 5, 1, 0] rfl)
                  · have hf := vif_f c_26 hf
                    refine lv_iload_n hx hb (dt uX8_cut_1 4 rfl) rfl (lv_at hl 4 rfl) ?_
                    refine lv_goto (tgt := 126) hx hb (dt uX8_cut_1 5 rfl) (by decide) ?_
                    refine lv_istore_n (lv' := [(3, .int x3_7), (5, .int y0_19), (0, .ref ad0), (1, .int p1), (2, .int q_5), (4, .int x4_8)]) hx hb (dt uX8_cut_1 7 rfl) rfl hl (by decide) rfl (fun ls hl => ?_)
                    refine lv_iinc (v := x4_8 + 1) (lv' := [(4, .int (x4_8 + 1)), (3, .int x3_7), (5, .int y0_19), (0, .ref ad0), (1, .int p1), (2, .int q_5)]) hx hb (dt uX8_cut_1 8 rfl) hl (k := 5) rfl rfl (by decide) rfl (fun ls hl => ?_)
                    refine lv_goto (tgt := 49) hx hb (dt uX8_cut_1 9 rfl) (by decide) ?_
                    exact ih49 x3_7 (x4_8 + 1) q_21 _ _ _ hf hP hD hS (lv_sub hl [3, 4, 5, 1, 0] rfl)
              have hJ98 : ∀ (H : Heap) (locs : List Loc) (ls : Array Slot), fX8_cut_J98 N a_books a_numberA a_numberB a_now p1 x3_7 x4_8 w_9 (fun z49_0 z49_1 z49_2 => fX8_cut_L49 N a_books a_numberA a_numberB a_now p1 q_5 n49 z49_0 z49_1 z49_2) = some q0 → va_P (dC, dI) vwCl [(ad0, oX8 v_trace ad_text v_typed ad_books ad_numberA ad_numberB ad_draftTouches v_draftOne v_oneTold v_at v_start v_sort v_value v_fault ad_now ad_isKept ad_near ad_seenDays ad_seenBook ad_seenIs v_seen v_sets v_inEach v_inSome), (ad_books, .inl (cI, 2, .inl a_books)), (ad_numberA, .inl (cI, 12, .inl a_numberA)), (ad_numberB, .inl (cI, 12, .inl a_numberB)), (ad_now, .inl (cI, 498, .inl a_now)), (ad_near, .inl (cI, 6, .inl w_9))] H → va_D A [(ad0, oX8 v_trace ad_text v_typed ad_books ad_numberA ad_numberB ad_draftTouches v_draftOne v_oneTold v_at v_start v_sort v_value v_fault ad_now ad_isKept ad_near ad_seenDays ad_seenBook ad_seenIs v_seen v_sets v_inEach v_inSome), (ad_books, .inl (cI, 2, .inl a_books)), (ad_numberA, .inl (cI, 12, .inl a_numberA)), (ad_numberB, .inl (cI, 12, .inl a_numberB)), (ad_now, .inl (cI, 498, .inl a_now)), (ad_near, .inl (cI, 6, .inl w_9))] → va_S A s.heap H locs → lv_has ls 6 [(0, .ref ad0), (1, .int p1), (2, .int q_5), (3, .int x3_7), (4, .int x4_8)] → W p l e rX8_cut s m args below meth c H locs 0 0 Q (F0 m 98 ls []) := by
                intro H locs ls hf hP hD hS hl
                unfold fX8_cut_J98 at hf
                refine lv_iconst (v := (0 : Int32)) hx hb (dt uX8_cut_0 53 rfl) (by decide) ?_
                exact hJ99 (0 : Int32) _ _ _ hf hP hD hS (lv_sub hl [0, 1, 2, 3, 4] rfl)
              refine lv_if_ne (tgt := 98) hx hb (dt uX8_cut_0 37 rfl) (by decide) (fun c_45 => ?_) (fun c_45 => ?_)
              · have hf := vif_f c_45 hf
                exact hJ98  _ _ _ hf hP hD hS (lv_sub hl [0, 1, 2, 3, 4] rfl)
              · have hf := vif_t c_45 hf
                refine lv_iload hx hb (dt uX8_cut_0 38 rfl) (lv_at hl 4 rfl) ?_
                obtain ⟨q_46, hq_47, hf⟩ := vbd hf
                refine vk_i0 [] (va_runS (As := [.int x4_8]) (rest := []) ⟨hx, hb, hml, hown, hts⟩ (kX8_manyOf x4_8 N q_46 hq_47 H.size) (vcwS hts tw_400 tw_401 tw_336 tw_399 hd_X8_manyOf rfl rfl ⟨Nat.le_of_ble_eq_true rfl, Nat.le_of_ble_eq_true rfl⟩) (vpreS hK hN hP hD [] rfl (by decide)) rfl rfl hl.1 rfl (lv_room (Nat.le_of_ble_eq_true rfl)) (dt uX8_cut_0 39 rfl) ⟨Nat.zero_le _, Nat.zero_le _⟩) hA hP hD hS rfl (by decide) (fun H locs hP hD hS => ?_)
                refine lv_iload_n hx hb (dt uX8_cut_0 40 rfl) rfl (lv_at hl 3 rfl) ?_
                obtain ⟨q_48, hq_49, hf⟩ := vbd hf
                refine vk_i0 [] (va_runS (As := [.int x3_7]) (rest := [.int q_46]) ⟨hx, hb, hml, hown, hts⟩ (kX8_manyOf x3_7 N q_48 hq_49 H.size) (vcwS hts tw_400 tw_401 tw_336 tw_399 hd_X8_manyOf rfl rfl ⟨Nat.le_of_ble_eq_true rfl, Nat.le_of_ble_eq_true rfl⟩) (vpreS hK hN hP hD [] rfl (by decide)) rfl rfl hl.1 rfl (lv_room (Nat.le_of_ble_eq_true rfl)) (dt uX8_cut_0 41 rfl) ⟨Nat.zero_le _, Nat.zero_le _⟩) hA hP hD hS rfl (by decide) (fun H locs hP hD hS => ?_)
                have hJ94 : ∀ (H : Heap) (locs : List Loc) (ls : Array Slot), fX8_cut_J94 N a_books a_numberA a_numberB a_now p1 x3_7 x4_8 w_9 (fun z49_0 z49_1 z49_2 => fX8_cut_L49 N a_books a_numberA a_numberB a_now p1 q_5 n49 z49_0 z49_1 z49_2) = some q0 → va_P (dC, dI) vwCl [(ad0, oX8 v_trace ad_text v_typed ad_books ad_numberA ad_numberB ad_draftTouches v_draftOne v_oneTold v_at v_start v_sort v_value v_fault ad_now ad_isKept ad_near ad_seenDays ad_seenBook ad_seenIs v_seen v_sets v_inEach v_inSome), (ad_books, .inl (cI, 2, .inl a_books)), (ad_numberA, .inl (cI, 12, .inl a_numberA)), (ad_numberB, .inl (cI, 12, .inl a_numberB)), (ad_now, .inl (cI, 498, .inl a_now)), (ad_near, .inl (cI, 6, .inl w_9))] H → va_D A [(ad0, oX8 v_trace ad_text v_typed ad_books ad_numberA ad_numberB ad_draftTouches v_draftOne v_oneTold v_at v_start v_sort v_value v_fault ad_now ad_isKept ad_near ad_seenDays ad_seenBook ad_seenIs v_seen v_sets v_inEach v_inSome), (ad_books, .inl (cI, 2, .inl a_books)), (ad_numberA, .inl (cI, 12, .inl a_numberA)), (ad_numberB, .inl (cI, 12, .inl a_numberB)), (ad_now, .inl (cI, 498, .inl a_now)), (ad_near, .inl (cI, 6, .inl w_9))] → va_S A s.heap H locs → lv_has ls 6 [(0, .ref ad0), (1, .int p1), (2, .int q_5), (3, .int x3_7), (4, .int x4_8)] → W p l e rX8_cut s m args below meth c H locs 0 0 Q (F0 m 94 ls []) := by
                  intro H locs ls hf hP hD hS hl
                  unfold fX8_cut_J94 at hf
                  refine lv_iconst (v := (1 : Int32)) hx hb (dt uX8_cut_0 51 rfl) (by decide) ?_
                  refine lv_goto (tgt := 99) hx hb (dt uX8_cut_0 52 rfl) (by decide) ?_
                  exact hJ99 (1 : Int32) _ _ _ hf hP hD hS (lv_sub hl [0, 1, 2, 3, 4] rfl)
                refine lv_icmp_lt (tgt := 94) hx hb (dt uX8_cut_0 42 rfl) (by decide) (fun c_64 => ?_) (fun c_64 => ?_)
                · have hf := vif_t c_64 hf
                  exact hJ94  _ _ _ hf hP hD hS (lv_sub hl [0, 1, 2, 3, 4] rfl)
                · have hf := vif_f c_64 hf
                  refine lv_iload hx hb (dt uX8_cut_0 43 rfl) (lv_at hl 4 rfl) ?_
                  obtain ⟨q_65, hq_66, hf⟩ := vbd hf
                  refine vk_i0 [] (va_runS (As := [.int x4_8]) (rest := []) ⟨hx, hb, hml, hown, hts⟩ (kX8_manyOf x4_8 N q_65 hq_66 H.size) (vcwS hts tw_400 tw_401 tw_336 tw_399 hd_X8_manyOf rfl rfl ⟨Nat.le_of_ble_eq_true rfl, Nat.le_of_ble_eq_true rfl⟩) (vpreS hK hN hP hD [] rfl (by decide)) rfl rfl hl.1 rfl (lv_room (Nat.le_of_ble_eq_true rfl)) (dt uX8_cut_0 44 rfl) ⟨Nat.zero_le _, Nat.zero_le _⟩) hA hP hD hS rfl (by decide) (fun H locs hP hD hS => ?_)
                  refine lv_iload_n hx hb (dt uX8_cut_0 45 rfl) rfl (lv_at hl 3 rfl) ?_
                  obtain ⟨q_67, hq_68, hf⟩ := vbd hf
                  refine vk_i0 [] (va_runS (As := [.int x3_7]) (rest := [.int q_65]) ⟨hx, hb, hml, hown, hts⟩ (kX8_manyOf x3_7 N q_67 hq_68 H.size) (vcwS hts tw_400 tw_401 tw_336 tw_399 hd_X8_manyOf rfl rfl ⟨Nat.le_of_ble_eq_true rfl, Nat.le_of_ble_eq_true rfl⟩) (vpreS hK hN hP hD [] rfl (by decide)) rfl rfl hl.1 rfl (lv_room (Nat.le_of_ble_eq_true rfl)) (dt uX8_cut_0 46 rfl) ⟨Nat.zero_le _, Nat.zero_le _⟩) hA hP hD hS rfl (by decide) (fun H locs hP hD hS => ?_)
                  refine lv_icmp_ne (tgt := 98) hx hb (dt uX8_cut_0 47 rfl) (by decide) (fun c_69 => ?_) (fun c_69 => ?_)
                  · have hf := vif_f c_69 hf
                    exact hJ98  _ _ _ hf hP hD hS (lv_sub hl [0, 1, 2, 3, 4] rfl)
                  · have hf := vif_t c_69 hf
                    refine lv_iload hx hb (dt uX8_cut_0 48 rfl) (lv_at hl 4 rfl) ?_
                    refine lv_iload_n hx hb (dt uX8_cut_0 49 rfl) rfl (lv_at hl 3 rfl) ?_
                    refine lv_icmp_ge (tgt := 98) hx hb (dt uX8_cut_0 50 rfl) (by decide) (fun c_70 => ?_) (fun c_70 => ?_)
                    · have hf := vif_t c_70 hf
                      exact hJ98  _ _ _ hf hP hD hS (lv_sub hl [0, 1, 2, 3, 4] rfl)
                    · have hf := vif_f c_70 hf
                      exact hJ94  _ _ _ hf hP hD hS (lv_sub hl [0, 1, 2, 3, 4] rfl)
        exact hL49 N q_5 (0 : Int32) a_near _ _ _ hf hP hD hS (lv_sub hl [3, 4, 2, 1, 0] rfl)
      · have hf := vif_t c_4 hf
        refine lv_bipush (v := (-9 : Int32)) hx hb (dt uX8_cut_0 20 rfl) (by decide) ?_
        have hf := Option.some.inj hf
        subst hf
        rw [hQ]
        exact vret_i C hP hD hS (dt uX8_cut_0 21 rfl)
    · have hf := vif_t c_3 hf
      refine lv_bipush (v := (-2 : Int32)) hx hb (dt uX8_cut_0 12 rfl) (by decide) ?_
      have hf := Option.some.inj hf
      subst hf
      rw [hQ]
      exact vret_i C hP hD hS (dt uX8_cut_0 13 rfl)
  · have hf := vif_t c_2 hf
    refine lv_iconst (v := (-1 : Int32)) hx hb (dt uX8_cut_0 4 rfl) (by decide) ?_
    have hf := Option.some.inj hf
    subst hf
    rw [hQ]
    exact vret_i C hP hD hS (dt uX8_cut_0 5 rfl)
abbrev rX8_part : Room := { frames := 0, cells := 0, slots := 0, locals := 0 }
abbrev wX8_part : List Cond := Cond.code yX8_part cX8_part 6 (some .int) :: VT
set_option maxHeartbeats 4000000 in
set_option maxRecDepth 100000 in
theorem kX8_part (p1 : Int32) (p2 : Int32) (p3 : Int32) (N : Nat) (q0 : Int32) (hf : fX8_part N p1 p2 p3 = some q0) : Ki l yX8_part wX8_part rX8_part (dC, dI) (vTy cI cJ cB cZ) [.int p1, .int p2, .int p3] [] [] q0 := by
  refine Ki.mk (cc := cX8_part) (maxL := 6) (ret := some .int) (by decide) (Nat.le_of_ble_eq_true rfl) ?_
  intro p e s m args below meth c A Q H locs C hQ hP hD hS ls hl
  obtain ⟨hx, hb, -, hml, hts, hown, -, hK, hN, hA⟩ := id C
  have hown : s.vm.findClass RX8 = some m.cls := hown
  have hl : lv_has ls 6 [(0, .int p1), (1, .int p2), (2, .int p3)] := hl
  unfold fX8_part at hf
  refine lv_iload_n hx hb (dt uX8_part 0 rfl) rfl (lv_at hl 0 rfl) ?_
  refine lv_istore_n (lv' := [(3, .int p1), (0, .int p1), (1, .int p2), (2, .int p3)]) hx hb (dt uX8_part 1 rfl) rfl hl (by decide) rfl (fun ls hl => ?_)
  refine lv_iload_n hx hb (dt uX8_part 2 rfl) rfl (lv_at hl 2 rfl) ?_
  refine lv_istore (lv' := [(4, .int p2), (3, .int p1), (0, .int p1), (1, .int p2), (2, .int p3)]) hx hb (dt uX8_part 3 rfl) hl (by decide) rfl (fun ls hl => ?_)
  have hL5 : ∀ (n5 : Nat), ∀ (x3_1 : Int32) (x4_2 : Int32) (H : Heap) (locs : List Loc) (ls : Array Slot), fX8_part_L5 p1 p2 p3 n5 x3_1 x4_2 = some q0 → va_P (dC, dI) vwCl [] H → va_D A [] → va_S A s.heap H locs → lv_has ls 6 [(0, .int p1), (1, .int p2), (2, .int p3), (3, .int x3_1), (4, .int x4_2)] → W p l e rX8_part s m args below meth c H locs 0 0 Q (F0 m 5 ls []) := by
    intro n5
    induction n5 with
    | zero => intro x3_1 x4_2 H locs ls hf hP hD hS hl; cases hf
    | succ n5 ih5 =>
      intro x3_1 x4_2 H locs ls hf hP hD hS hl
      rw [fX8_part_L5] at hf
      refine lv_iload hx hb (dt uX8_part 4 rfl) (lv_at hl 4 rfl) ?_
      refine lv_if_eq (tgt := 26) hx hb (dt uX8_part 5 rfl) (by decide) (fun c_3 => ?_) (fun c_3 => ?_)
      · have hf := vif_t c_3 hf
        refine lv_iload_n hx hb (dt uX8_part 15 rfl) rfl (lv_at hl 2 rfl) ?_
        refine lv_if_ne (tgt := 36) hx hb (dt uX8_part 16 rfl) (by decide) (fun c_4 => ?_) (fun c_4 => ?_)
        · have hf := vif_f c_4 hf
          refine lv_iload_n hx hb (dt uX8_part 21 rfl) rfl (lv_at hl 1 rfl) ?_
          refine lv_iload_n hx hb (dt uX8_part 22 rfl) rfl (lv_at hl 3 rfl) ?_
          obtain ⟨hz_5, hf⟩ := vz_some hf
          refine lv_idiv hx hb (dt uX8_part 23 rfl) hz_5 ?_
          have hf := Option.some.inj hf
          subst hf
          rw [hQ]
          exact vret_i C hP hD hS (dt uX8_part 24 rfl)
        · have hf := vif_t c_4 hf
          refine lv_iload_n hx hb (dt uX8_part 17 rfl) rfl (lv_at hl 0 rfl) ?_
          refine lv_iload_n hx hb (dt uX8_part 18 rfl) rfl (lv_at hl 3 rfl) ?_
          obtain ⟨hz_6, hf⟩ := vz_some hf
          refine lv_idiv hx hb (dt uX8_part 19 rfl) hz_6 ?_
          refine lv_goto (tgt := 39) hx hb (dt uX8_part 20 rfl) (by decide) ?_
          have hf := Option.some.inj hf
          subst hf
          rw [hQ]
          exact vret_i C hP hD hS (dt uX8_part 24 rfl)
      · have hf := vif_f c_3 hf
        refine lv_iload_n hx hb (dt uX8_part 6 rfl) rfl (lv_at hl 3 rfl) ?_
        refine lv_iload hx hb (dt uX8_part 7 rfl) (lv_at hl 4 rfl) ?_
        obtain ⟨hz_7, hf⟩ := vz_some hf
        refine lv_irem hx hb (dt uX8_part 8 rfl) hz_7 ?_
        refine lv_istore (lv' := [(5, .int (x3_1 - x3_1 / x4_2 * x4_2)), (0, .int p1), (1, .int p2), (2, .int p3), (3, .int x3_1), (4, .int x4_2)]) hx hb (dt uX8_part 9 rfl) hl (by decide) rfl (fun ls hl => ?_)
        refine lv_iload hx hb (dt uX8_part 10 rfl) (lv_at hl 5 rfl) ?_
        refine lv_istore_n (lv' := [(3, .int x4_2), (5, .int (x3_1 - x3_1 / x4_2 * x4_2)), (0, .int p1), (1, .int p2), (2, .int p3), (4, .int x4_2)]) hx hb (dt uX8_part 11 rfl) rfl hl (by decide) rfl (fun ls hl => ?_)
        refine lv_iload hx hb (dt uX8_part 12 rfl) (lv_at hl 1 rfl) ?_
        refine lv_istore (lv' := [(4, .int (x3_1 - x3_1 / x4_2 * x4_2)), (3, .int x4_2), (5, .int (x3_1 - x3_1 / x4_2 * x4_2)), (0, .int p1), (1, .int p2), (2, .int p3)]) hx hb (dt uX8_part 13 rfl) hl (by decide) rfl (fun ls hl => ?_)
        refine lv_goto (tgt := 5) hx hb (dt uX8_part 14 rfl) (by decide) ?_
        exact ih5 x4_2 (x3_1 - x3_1 / x4_2 * x4_2) _ _ _ hf hP hD hS (lv_sub hl [3, 4, 5, 1, 0] rfl)
  exact hL5 N p1 p2 _ _ _ hf hP hD hS (lv_sub hl [2, 3, 4, 1, 0] rfl)
abbrev rX8_odds : Room := { frames := 3, cells := 0, slots := 0, locals := 68 }
abbrev wX8_odds : List Cond := Cond.code yX8_odds cX8_odds 12 (some .int) :: VT
set_option maxHeartbeats 4000000 in
set_option maxRecDepth 100000 in
theorem kX8_odds (ad0 : Nat) (ad_text : Nat) (ad_books : Nat) (ad_numberA : Nat) (ad_numberB : Nat) (ad_draftTouches : Nat) (ad_now : Nat) (ad_isKept : Nat) (ad_near : Nat) (ad_seenDays : Nat) (ad_seenBook : Nat) (ad_seenIs : Nat) (v_trace : Int64) (v_typed : Int32) (v_draftOne : Int32) (v_oneTold : Int32) (v_at : Int32) (v_start : Int32) (v_sort : Int32) (v_value : Int32) (v_fault : Int32) (v_seen : Int32) (v_sets : Int32) (v_inEach : Int32) (v_inSome : Int32) (a_books : Nat → Int32) (a_numberA : Nat → Int32) (a_numberB : Nat → Int32) (a_now : Nat → Int32) (a_near : Nat → Int32) (p1 : Int32) (p2 : Int32) (p3 : Int32) (p4 : Int32) (N : Nat) (q0 : (Int32 × (Nat → Int32))) (hf : fX8_odds N a_books a_numberA a_numberB a_now a_near p1 p2 p3 p4 = some q0) : Ki l yX8_odds wX8_odds rX8_odds (dC, dI) (vTy cI cJ cB cZ) [.ref ad0, .int p1, .int p2, .int p3, .int p4] [(ad0, oX8 v_trace ad_text v_typed ad_books ad_numberA ad_numberB ad_draftTouches v_draftOne v_oneTold v_at v_start v_sort v_value v_fault ad_now ad_isKept ad_near ad_seenDays ad_seenBook ad_seenIs v_seen v_sets v_inEach v_inSome), (ad_books, .inl (cI, 2, .inl a_books)), (ad_numberA, .inl (cI, 12, .inl a_numberA)), (ad_numberB, .inl (cI, 12, .inl a_numberB)), (ad_now, .inl (cI, 498, .inl a_now)), (ad_near, .inl (cI, 6, .inl a_near))] [(ad0, oX8 v_trace ad_text v_typed ad_books ad_numberA ad_numberB ad_draftTouches v_draftOne v_oneTold v_at v_start v_sort v_value v_fault ad_now ad_isKept ad_near ad_seenDays ad_seenBook ad_seenIs v_seen v_sets v_inEach v_inSome), (ad_books, .inl (cI, 2, .inl a_books)), (ad_numberA, .inl (cI, 12, .inl a_numberA)), (ad_numberB, .inl (cI, 12, .inl a_numberB)), (ad_now, .inl (cI, 498, .inl a_now)), (ad_near, .inl (cI, 6, .inl q0.2))] q0.1 := by
  refine Ki.mk (cc := cX8_odds) (maxL := 12) (ret := some .int) (by decide) (Nat.le_of_ble_eq_true rfl) ?_
  intro p e s m args below meth c A Q H locs C hQ hP hD hS ls hl
  obtain ⟨hx, hb, -, hml, hts, hown, -, hK, hN, hA⟩ := id C
  have hown : s.vm.findClass RX8 = some m.cls := hown
  have hl : lv_has ls 12 [(0, .ref ad0), (1, .int p1), (2, .int p2), (3, .int p3), (4, .int p4)] := hl
  unfold fX8_odds at hf
  refine lv_iload_n hx hb (dt uX8_odds_0 0 rfl) rfl (lv_at hl 1 rfl) ?_
  refine lv_iconst (v := (0 : Int32)) hx hb (dt uX8_odds_0 1 rfl) (by decide) ?_
  refine lv_bipush (v := (10 : Int32)) hx hb (dt uX8_odds_0 2 rfl) (by decide) ?_
  refine vk_z0 [] (va_runS (As := [.int p1, .int (0 : Int32), .int (10 : Int32)]) (rest := []) ⟨hx, hb, hml, hown, hts⟩ (kX8_in p1 (0 : Int32) (10 : Int32) _ rfl H.size) (vcwS hts tw_338 tw_339 tw_336 tw_337 hd_X8_in rfl rfl ⟨Nat.le_of_ble_eq_true rfl, Nat.le_of_ble_eq_true rfl⟩) (vpreS hK hN hP hD [] rfl (by decide)) rfl rfl hl.1 rfl (lv_room (Nat.le_of_ble_eq_true rfl)) (dt uX8_odds_0 3 rfl) ⟨Nat.zero_le _, Nat.zero_le _⟩) hA hP hD hS rfl (by decide) (fun hz_1 H locs hP hD hS => ?_)
  refine lv_if_eq (tgt := 38) hx hb (dt uX8_odds_0 4 rfl) (by decide) (fun c_2 => ?_) (fun c_2 => ?_)
  · have hf := vif_t c_2 hf
    refine lv_iconst (v := (-1 : Int32)) hx hb (dt uX8_odds_0 19 rfl) (by decide) ?_
    have hf := Option.some.inj hf
    subst hf
    rw [hQ]
    exact vret_i C hP hD hS (dt uX8_odds_0 20 rfl)
  · have hf := vif_f c_2 hf
    refine lv_iload_n hx hb (dt uX8_odds_0 5 rfl) rfl (lv_at hl 2 rfl) ?_
    refine lv_iconst (v := (0 : Int32)) hx hb (dt uX8_odds_0 6 rfl) (by decide) ?_
    refine lv_bipush (v := (6 : Int32)) hx hb (dt uX8_odds_0 7 rfl) (by decide) ?_
    refine vk_z0 [] (va_runS (As := [.int p2, .int (0 : Int32), .int (6 : Int32)]) (rest := []) ⟨hx, hb, hml, hown, hts⟩ (kX8_in p2 (0 : Int32) (6 : Int32) _ rfl H.size) (vcwS hts tw_338 tw_339 tw_336 tw_337 hd_X8_in rfl rfl ⟨Nat.le_of_ble_eq_true rfl, Nat.le_of_ble_eq_true rfl⟩) (vpreS hK hN hP hD [] rfl (by decide)) rfl rfl hl.1 rfl (lv_room (Nat.le_of_ble_eq_true rfl)) (dt uX8_odds_0 8 rfl) ⟨Nat.zero_le _, Nat.zero_le _⟩) hA hP hD hS rfl (by decide) (fun hz_3 H locs hP hD hS => ?_)
    refine lv_if_eq (tgt := 38) hx hb (dt uX8_odds_0 9 rfl) (by decide) (fun c_4 => ?_) (fun c_4 => ?_)
    · have hf := vif_t c_4 hf
      refine lv_iconst (v := (-1 : Int32)) hx hb (dt uX8_odds_0 19 rfl) (by decide) ?_
      have hf := Option.some.inj hf
      subst hf
      rw [hQ]
      exact vret_i C hP hD hS (dt uX8_odds_0 20 rfl)
    · have hf := vif_f c_4 hf
      refine lv_aload_n hx hb (dt uX8_odds_0 10 rfl) rfl (lv_at hl 0 rfl) ?_
      refine lv_iload_n hx hb (dt uX8_odds_0 11 rfl) rfl (lv_at hl 3 rfl) ?_
      refine vk_z0 [0, 1] (va_runV (As := [.int p3]) (rest := []) ⟨hx, hb, hml, hown, hts⟩ (kX8_isBook ad0 ad_text ad_books ad_numberA ad_numberB ad_draftTouches ad_now ad_isKept ad_near ad_seenDays ad_seenBook ad_seenIs v_trace v_typed v_draftOne v_oneTold v_at v_start v_sort v_value v_fault v_seen v_sets v_inEach v_inSome a_books p3 _ rfl H.size) (vcwV hts tw_403 tw_404 tw_405 tw_336 tw_402 hd_X8_isBook rfl rfl ⟨Nat.le_of_ble_eq_true rfl, Nat.le_of_ble_eq_true rfl⟩) (vpreV hK hN hP hD [0, 1] rfl (by decide) (ci := 8) (q0 := 0) rfl rfl) rfl rfl hl.1 rfl (lv_room (Nat.le_of_ble_eq_true rfl)) (dt uX8_odds_0 12 rfl) ⟨Nat.zero_le _, Nat.zero_le _⟩) hA hP hD hS rfl (by decide) (fun hz_5 H locs hP hD hS => ?_)
      refine lv_if_eq (tgt := 38) hx hb (dt uX8_odds_0 13 rfl) (by decide) (fun c_6 => ?_) (fun c_6 => ?_)
      · have hf := vif_t c_6 hf
        refine lv_iconst (v := (-1 : Int32)) hx hb (dt uX8_odds_0 19 rfl) (by decide) ?_
        have hf := Option.some.inj hf
        subst hf
        rw [hQ]
        exact vret_i C hP hD hS (dt uX8_odds_0 20 rfl)
      · have hf := vif_f c_6 hf
        refine lv_iload hx hb (dt uX8_odds_0 14 rfl) (lv_at hl 4 rfl) ?_
        refine lv_iconst (v := (0 : Int32)) hx hb (dt uX8_odds_0 15 rfl) (by decide) ?_
        refine lv_iconst (v := (1 : Int32)) hx hb (dt uX8_odds_0 16 rfl) (by decide) ?_
        refine vk_z0 [] (va_runS (As := [.int p4, .int (0 : Int32), .int (1 : Int32)]) (rest := []) ⟨hx, hb, hml, hown, hts⟩ (kX8_in p4 (0 : Int32) (1 : Int32) _ rfl H.size) (vcwS hts tw_338 tw_339 tw_336 tw_337 hd_X8_in rfl rfl ⟨Nat.le_of_ble_eq_true rfl, Nat.le_of_ble_eq_true rfl⟩) (vpreS hK hN hP hD [] rfl (by decide)) rfl rfl hl.1 rfl (lv_room (Nat.le_of_ble_eq_true rfl)) (dt uX8_odds_0 17 rfl) ⟨Nat.zero_le _, Nat.zero_le _⟩) hA hP hD hS rfl (by decide) (fun hz_7 H locs hP hD hS => ?_)
        refine lv_if_ne (tgt := 40) hx hb (dt uX8_odds_0 18 rfl) (by decide) (fun c_8 => ?_) (fun c_8 => ?_)
        · have hf := vif_f c_8 hf
          refine lv_aload_n hx hb (dt uX8_odds_0 21 rfl) rfl (lv_at hl 0 rfl) ?_
          refine va_get (D := (dC, dI)) (ci := 8) (v := .ref ad_now) (C := RX8) (T := TX8) (N := 24) hx hb hts inU8 hown hK hP 0 rfl rfl 14 (by decide) (hts _ tw_369) (fun _ h9 => h9) rfl (dt uX8_odds_0 22 rfl) ?_
          refine lv_bipush (v := (13 : Int32)) hx hb (dt uX8_odds_0 23 rfl) (by decide) ?_
          refine va_iald hx hb hK hP 4 0 rfl rfl (vp_in_iff.mpr (by decide)) (dt uX8_odds_0 24 rfl) ?_
          refine lv_bipush (v := (-9 : Int32)) hx hb (dt uX8_odds_0 25 rfl) (by decide) ?_
          refine lv_icmp_ne (tgt := 55) hx hb (dt uX8_odds_0 26 rfl) (by decide) (fun c_9 => ?_) (fun c_9 => ?_)
          · have hf := vif_f c_9 hf
            refine lv_aload_n hx hb (dt uX8_odds_0 29 rfl) rfl (lv_at hl 0 rfl) ?_
            obtain ⟨q_10, hq_11, hf⟩ := vbd hf
            refine vk_v [0, 4, 5] (ws2 := [(ad0, oX8 v_trace ad_text v_typed ad_books ad_numberA ad_numberB ad_draftTouches v_draftOne v_oneTold v_at v_start v_sort v_value v_fault ad_now ad_isKept ad_near ad_seenDays ad_seenBook ad_seenIs v_seen v_sets v_inEach v_inSome), (ad_books, .inl (cI, 2, .inl a_books)), (ad_numberA, .inl (cI, 12, .inl a_numberA)), (ad_numberB, .inl (cI, 12, .inl a_numberB)), (ad_now, .inl (cI, 498, .inl a_now)), (ad_near, .inl (cI, 6, .inl q_10))]) (va_runV (As := []) (rest := []) ⟨hx, hb, hml, hown, hts⟩ (kX8_takeNear ad0 ad_text ad_books ad_numberA ad_numberB ad_draftTouches ad_now ad_isKept ad_near ad_seenDays ad_seenBook ad_seenIs v_trace v_typed v_draftOne v_oneTold v_at v_start v_sort v_value v_fault v_seen v_sets v_inEach v_inSome a_now a_near N q_10 hq_11 H.size) (vcwV hts tw_431 tw_432 tw_433 tw_336 tw_430 hd_X8_takeNear rfl rfl ⟨Nat.le_of_ble_eq_true rfl, Nat.le_of_ble_eq_true rfl⟩) (vpreV hK hN hP hD [0, 4, 5] rfl (by decide) (ci := 8) (q0 := 0) rfl rfl) rfl rfl hl.1 rfl (lv_room (Nat.le_of_ble_eq_true rfl)) (dt uX8_odds_0 30 rfl) ⟨Nat.zero_le _, Nat.zero_le _⟩) hA hP hD hS rfl (by decide) rfl rfl (fun H locs hP hD hS => ?_)
            refine lv_iconst (v := (0 : Int32)) hx hb (dt uX8_odds_0 31 rfl) (by decide) ?_
            refine lv_istore (lv' := [(5, .int (0 : Int32)), (0, .ref ad0), (1, .int p1), (2, .int p2), (3, .int p3), (4, .int p4)]) hx hb (dt uX8_odds_0 32 rfl) hl (by decide) rfl (fun ls hl => ?_)
            refine lv_iconst (v := (1 : Int32)) hx hb (dt uX8_odds_0 33 rfl) (by decide) ?_
            refine lv_istore (lv' := [(6, .int (1 : Int32)), (5, .int (0 : Int32)), (0, .ref ad0), (1, .int p1), (2, .int p2), (3, .int p3), (4, .int p4)]) hx hb (dt uX8_odds_0 34 rfl) hl (by decide) rfl (fun ls hl => ?_)
            refine lv_iconst (v := (0 : Int32)) hx hb (dt uX8_odds_0 35 rfl) (by decide) ?_
            refine lv_istore (lv' := [(7, .int (0 : Int32)), (6, .int (1 : Int32)), (5, .int (0 : Int32)), (0, .ref ad0), (1, .int p1), (2, .int p2), (3, .int p3), (4, .int p4)]) hx hb (dt uX8_odds_0 36 rfl) hl (by decide) rfl (fun ls hl => ?_)
            have hL68 : ∀ (n68 : Nat), ∀ (x6_12 : Int32) (x7_13 : Int32) (H : Heap) (locs : List Loc) (ls : Array Slot), fX8_odds_L68 N a_books a_numberA a_numberB a_now p1 p2 p3 p4 q_10 n68 x6_12 x7_13 = some q0 → va_P (dC, dI) vwCl [(ad0, oX8 v_trace ad_text v_typed ad_books ad_numberA ad_numberB ad_draftTouches v_draftOne v_oneTold v_at v_start v_sort v_value v_fault ad_now ad_isKept ad_near ad_seenDays ad_seenBook ad_seenIs v_seen v_sets v_inEach v_inSome), (ad_books, .inl (cI, 2, .inl a_books)), (ad_numberA, .inl (cI, 12, .inl a_numberA)), (ad_numberB, .inl (cI, 12, .inl a_numberB)), (ad_now, .inl (cI, 498, .inl a_now)), (ad_near, .inl (cI, 6, .inl q_10))] H → va_D A [(ad0, oX8 v_trace ad_text v_typed ad_books ad_numberA ad_numberB ad_draftTouches v_draftOne v_oneTold v_at v_start v_sort v_value v_fault ad_now ad_isKept ad_near ad_seenDays ad_seenBook ad_seenIs v_seen v_sets v_inEach v_inSome), (ad_books, .inl (cI, 2, .inl a_books)), (ad_numberA, .inl (cI, 12, .inl a_numberA)), (ad_numberB, .inl (cI, 12, .inl a_numberB)), (ad_now, .inl (cI, 498, .inl a_now)), (ad_near, .inl (cI, 6, .inl q_10))] → va_S A s.heap H locs → lv_has ls 12 [(0, .ref ad0), (1, .int p1), (2, .int p2), (3, .int p3), (4, .int p4), (5, .int (0 : Int32)), (6, .int x6_12), (7, .int x7_13)] → W p l e rX8_odds s m args below meth c H locs 0 0 Q (F0 m 68 ls []) := by
              intro n68
              induction n68 with
              | zero => intro x6_12 x7_13 H locs ls hf hP hD hS hl; cases hf
              | succ n68 ih68 =>
                intro x6_12 x7_13 H locs ls hf hP hD hS hl
                rw [fX8_odds_L68] at hf
                refine lv_iload hx hb (dt uX8_odds_0 37 rfl) (lv_at hl 7 rfl) ?_
                refine lv_iload_n hx hb (dt uX8_odds_0 38 rfl) rfl (lv_at hl 2 rfl) ?_
                refine lv_icmp_ge (tgt := 87) hx hb (dt uX8_odds_0 39 rfl) (by decide) (fun c_14 => ?_) (fun c_14 => ?_)
                · have hf := vif_t c_14 hf
                  refine lv_iconst (v := (0 : Int32)) hx hb (dt uX8_odds_0 46 rfl) (by decide) ?_
                  refine lv_istore (lv' := [(7, .int (0 : Int32)), (0, .ref ad0), (1, .int p1), (2, .int p2), (3, .int p3), (4, .int p4), (5, .int (0 : Int32)), (6, .int x6_12)]) hx hb (dt uX8_odds_0 47 rfl) hl (by decide) rfl (fun ls hl => ?_)
                  have hL90 : ∀ (n90 : Nat), ∀ (x5_15 : Int32) (x7_16 : Int32) (H : Heap) (locs : List Loc) (ls : Array Slot), fX8_odds_L90 N a_books a_numberA a_numberB a_now p1 p2 p3 p4 q_10 x6_12 n90 x5_15 x7_16 = some q0 → va_P (dC, dI) vwCl [(ad0, oX8 v_trace ad_text v_typed ad_books ad_numberA ad_numberB ad_draftTouches v_draftOne v_oneTold v_at v_start v_sort v_value v_fault ad_now ad_isKept ad_near ad_seenDays ad_seenBook ad_seenIs v_seen v_sets v_inEach v_inSome), (ad_books, .inl (cI, 2, .inl a_books)), (ad_numberA, .inl (cI, 12, .inl a_numberA)), (ad_numberB, .inl (cI, 12, .inl a_numberB)), (ad_now, .inl (cI, 498, .inl a_now)), (ad_near, .inl (cI, 6, .inl q_10))] H → va_D A [(ad0, oX8 v_trace ad_text v_typed ad_books ad_numberA ad_numberB ad_draftTouches v_draftOne v_oneTold v_at v_start v_sort v_value v_fault ad_now ad_isKept ad_near ad_seenDays ad_seenBook ad_seenIs v_seen v_sets v_inEach v_inSome), (ad_books, .inl (cI, 2, .inl a_books)), (ad_numberA, .inl (cI, 12, .inl a_numberA)), (ad_numberB, .inl (cI, 12, .inl a_numberB)), (ad_now, .inl (cI, 498, .inl a_now)), (ad_near, .inl (cI, 6, .inl q_10))] → va_S A s.heap H locs → lv_has ls 12 [(0, .ref ad0), (1, .int p1), (2, .int p2), (3, .int p3), (4, .int p4), (5, .int x5_15), (6, .int x6_12), (7, .int x7_16)] → W p l e rX8_odds s m args below meth c H locs 0 0 Q (F0 m 90 ls []) := by
                    intro n90
                    induction n90 with
                    | zero => intro x5_15 x7_16 H locs ls hf hP hD hS hl; cases hf
                    | succ n90 ih90 =>
                      intro x5_15 x7_16 H locs ls hf hP hD hS hl
                      rw [fX8_odds_L90] at hf
                      refine lv_iload hx hb (dt uX8_odds_0 48 rfl) (lv_at hl 7 rfl) ?_
                      refine lv_iconst (v := (1 : Int32)) hx hb (dt uX8_odds_0 49 rfl) (by decide) ?_
                      refine lv_iload_n hx hb (dt uX8_odds_0 50 rfl) rfl (lv_at hl 2 rfl) ?_
                      refine lv_ishl hx hb (dt uX8_odds_0 51 rfl) ?_
                      refine lv_icmp_ge (tgt := 202) hx hb (dt uX8_odds_0 52 rfl) (by decide) (fun c_17 => ?_) (fun c_17 => ?_)
                      · have hf := vif_t c_17 hf
                        refine lv_iload hx hb (dt uX8_odds_1 47 rfl) (lv_at hl 5 rfl) ?_
                        refine lv_iload hx hb (dt uX8_odds_1 48 rfl) (lv_at hl 6 rfl) ?_
                        refine lv_iload hx hb (dt uX8_odds_1 49 rfl) (lv_at hl 4 rfl) ?_
                        obtain ⟨q_18, hq_19, hf⟩ := vbd hf
                        refine vk_i0 [] (va_runS (As := [.int x5_15, .int x6_12, .int p4]) (rest := []) ⟨hx, hb, hml, hown, hts⟩ (kX8_part x5_15 x6_12 p4 N q_18 hq_19 H.size) (vcwS hts tw_466 tw_467 tw_336 tw_465 hd_X8_part rfl rfl ⟨Nat.le_of_ble_eq_true rfl, Nat.le_of_ble_eq_true rfl⟩) (vpreS hK hN hP hD [] rfl (by decide)) rfl rfl hl.1 rfl (lv_room (Nat.le_of_ble_eq_true rfl)) (dt uX8_odds_1 50 rfl) ⟨Nat.zero_le _, Nat.zero_le _⟩) hA hP hD hS rfl (by decide) (fun H locs hP hD hS => ?_)
                        have hf := Option.some.inj hf
                        subst hf
                        rw [hQ]
                        exact vret_i C hP hD hS (dt uX8_odds_1 51 rfl)
                      · have hf := vif_f c_17 hf
                        refine lv_iconst (v := (1 : Int32)) hx hb (dt uX8_odds_0 53 rfl) (by decide) ?_
                        refine lv_istore (lv' := [(8, .int (1 : Int32)), (0, .ref ad0), (1, .int p1), (2, .int p2), (3, .int p3), (4, .int p4), (5, .int x5_15), (6, .int x6_12), (7, .int x7_16)]) hx hb (dt uX8_odds_0 54 rfl) hl (by decide) rfl (fun ls hl => ?_)
                        refine lv_aload_n hx hb (dt uX8_odds_0 55 rfl) rfl (lv_at hl 1 rfl) ?_
                        refine va_get (D := (dC, dI)) (ci := 8) (v := .ref ad_now) (C := RX8) (T := TX8) (N := 24) hx hb hts inU8 hown hK hP 0 rfl rfl 14 (by decide) (hts _ tw_369) (fun _ h9 => h9) rfl (dt uX8_odds_0 56 rfl) ?_
                        refine lv_bipush (v := (13 : Int32)) hx hb (dt uX8_odds_0 57 rfl) (by decide) ?_
                        refine va_iald hx hb hK hP 4 0 rfl rfl (vp_in_iff.mpr (by decide)) (dt uX8_odds_0 58 rfl) ?_
                        refine lv_istore (lv' := [(9, .int (a_now (13 : Int32).toNatClampNeg)), (8, .int (1 : Int32)), (0, .ref ad0), (1, .int p1), (2, .int p2), (3, .int p3), (4, .int p4), (5, .int x5_15), (6, .int x6_12), (7, .int x7_16)]) hx hb (dt uX8_odds_0 59 rfl) hl (by decide) rfl (fun ls hl => ?_)
                        refine lv_iconst (v := (0 : Int32)) hx hb (dt uX8_odds_1 0 rfl) (by decide) ?_
                        refine lv_istore (lv' := [(10, .int (0 : Int32)), (9, .int (a_now (13 : Int32).toNatClampNeg)), (8, .int (1 : Int32)), (0, .ref ad0), (1, .int p1), (2, .int p2), (3, .int p3), (4, .int p4), (5, .int x5_15), (6, .int x6_12), (7, .int x7_16)]) hx hb (dt uX8_odds_1 1 rfl) hl (by decide) rfl (fun ls hl => ?_)
                        have hL113 : ∀ (n113 : Nat), ∀ (x8_20 : Int32) (x9_21 : Int32) (x10_22 : Int32) (H : Heap) (locs : List Loc) (ls : Array Slot), fX8_odds_L113 N a_books a_numberA a_numberB a_now p1 p2 p3 q_10 x5_15 x7_16 (fun z90_0 z90_1 => fX8_odds_L90 N a_books a_numberA a_numberB a_now p1 p2 p3 p4 q_10 x6_12 n90 z90_0 z90_1) n113 x8_20 x9_21 x10_22 = some q0 → va_P (dC, dI) vwCl [(ad0, oX8 v_trace ad_text v_typed ad_books ad_numberA ad_numberB ad_draftTouches v_draftOne v_oneTold v_at v_start v_sort v_value v_fault ad_now ad_isKept ad_near ad_seenDays ad_seenBook ad_seenIs v_seen v_sets v_inEach v_inSome), (ad_books, .inl (cI, 2, .inl a_books)), (ad_numberA, .inl (cI, 12, .inl a_numberA)), (ad_numberB, .inl (cI, 12, .inl a_numberB)), (ad_now, .inl (cI, 498, .inl a_now)), (ad_near, .inl (cI, 6, .inl q_10))] H → va_D A [(ad0, oX8 v_trace ad_text v_typed ad_books ad_numberA ad_numberB ad_draftTouches v_draftOne v_oneTold v_at v_start v_sort v_value v_fault ad_now ad_isKept ad_near ad_seenDays ad_seenBook ad_seenIs v_seen v_sets v_inEach v_inSome), (ad_books, .inl (cI, 2, .inl a_books)), (ad_numberA, .inl (cI, 12, .inl a_numberA)), (ad_numberB, .inl (cI, 12, .inl a_numberB)), (ad_now, .inl (cI, 498, .inl a_now)), (ad_near, .inl (cI, 6, .inl q_10))] → va_S A s.heap H locs → lv_has ls 12 [(0, .ref ad0), (1, .int p1), (2, .int p2), (3, .int p3), (4, .int p4), (5, .int x5_15), (6, .int x6_12), (7, .int x7_16), (8, .int x8_20), (9, .int x9_21), (10, .int x10_22)] → W p l e rX8_odds s m args below meth c H locs 0 0 Q (F0 m 113 ls []) := by
                          intro n113
                          induction n113 with
                          | zero => intro x8_20 x9_21 x10_22 H locs ls hf hP hD hS hl; cases hf
                          | succ n113 ih113 =>
                            intro x8_20 x9_21 x10_22 H locs ls hf hP hD hS hl
                            rw [fX8_odds_L113] at hf
                            refine lv_iload hx hb (dt uX8_odds_1 2 rfl) (lv_at hl 10 rfl) ?_
                            refine lv_iload_n hx hb (dt uX8_odds_1 3 rfl) rfl (lv_at hl 2 rfl) ?_
                            refine lv_icmp_ge (tgt := 179) hx hb (dt uX8_odds_1 4 rfl) (by decide) (fun c_23 => ?_) (fun c_23 => ?_)
                            · have hf := vif_t c_23 hf
                              refine lv_iload hx hb (dt uX8_odds_1 36 rfl) (lv_at hl 5 rfl) ?_
                              refine lv_iload hx hb (dt uX8_odds_1 37 rfl) (lv_at hl 9 rfl) ?_
                              refine lv_iload_n hx hb (dt uX8_odds_1 38 rfl) rfl (lv_at hl 3 rfl) ?_
                              refine lv_icmp_ne (tgt := 192) hx hb (dt uX8_odds_1 39 rfl) (by decide) (fun c_24 => ?_) (fun c_24 => ?_)
                              · have hf := vif_f c_24 hf
                                refine lv_iconst (v := (0 : Int32)) hx hb (dt uX8_odds_1 42 rfl) (by decide) ?_
                                refine lv_iadd hx hb (dt uX8_odds_1 43 rfl) ?_
                                refine lv_istore (lv' := [(5, .int (x5_15 + (0 : Int32))), (0, .ref ad0), (1, .int p1), (2, .int p2), (3, .int p3), (4, .int p4), (6, .int x6_12), (7, .int x7_16), (8, .int x8_20), (9, .int x9_21), (10, .int x10_22)]) hx hb (dt uX8_odds_1 44 rfl) hl (by decide) rfl (fun ls hl => ?_)
                                refine lv_iinc (v := x7_16 + 1) (lv' := [(7, .int (x7_16 + 1)), (5, .int (x5_15 + (0 : Int32))), (0, .ref ad0), (1, .int p1), (2, .int p2), (3, .int p3), (4, .int p4), (6, .int x6_12), (8, .int x8_20), (9, .int x9_21), (10, .int x10_22)]) hx hb (dt uX8_odds_1 45 rfl) hl (k := 7) rfl rfl (by decide) rfl (fun ls hl => ?_)
                                refine lv_goto (tgt := 90) hx hb (dt uX8_odds_1 46 rfl) (by decide) ?_
                                exact ih90 (x5_15 + (0 : Int32)) (x7_16 + 1) _ _ _ hf hP hD hS (lv_sub hl [2, 3, 4, 5, 6, 1, 7, 0] rfl)
                              · have hf := vif_t c_24 hf
                                refine lv_iload hx hb (dt uX8_odds_1 40 rfl) (lv_at hl 8 rfl) ?_
                                refine lv_goto (tgt := 193) hx hb (dt uX8_odds_1 41 rfl) (by decide) ?_
                                refine lv_iadd hx hb (dt uX8_odds_1 43 rfl) ?_
                                refine lv_istore (lv' := [(5, .int (x5_15 + x8_20)), (0, .ref ad0), (1, .int p1), (2, .int p2), (3, .int p3), (4, .int p4), (6, .int x6_12), (7, .int x7_16), (8, .int x8_20), (9, .int x9_21), (10, .int x10_22)]) hx hb (dt uX8_odds_1 44 rfl) hl (by decide) rfl (fun ls hl => ?_)
                                refine lv_iinc (v := x7_16 + 1) (lv' := [(7, .int (x7_16 + 1)), (5, .int (x5_15 + x8_20)), (0, .ref ad0), (1, .int p1), (2, .int p2), (3, .int p3), (4, .int p4), (6, .int x6_12), (8, .int x8_20), (9, .int x9_21), (10, .int x10_22)]) hx hb (dt uX8_odds_1 45 rfl) hl (k := 7) rfl rfl (by decide) rfl (fun ls hl => ?_)
                                refine lv_goto (tgt := 90) hx hb (dt uX8_odds_1 46 rfl) (by decide) ?_
                                exact ih90 (x5_15 + x8_20) (x7_16 + 1) _ _ _ hf hP hD hS (lv_sub hl [2, 3, 4, 5, 6, 1, 7, 0] rfl)
                            · have hf := vif_f c_23 hf
                              refine lv_iload hx hb (dt uX8_odds_1 5 rfl) (lv_at hl 7 rfl) ?_
                              refine lv_iload hx hb (dt uX8_odds_1 6 rfl) (lv_at hl 10 rfl) ?_
                              refine lv_ishr hx hb (dt uX8_odds_1 7 rfl) ?_
                              refine lv_iconst (v := (1 : Int32)) hx hb (dt uX8_odds_1 8 rfl) (by decide) ?_
                              refine lv_iand hx hb (dt uX8_odds_1 9 rfl) ?_
                              refine lv_iconst (v := (1 : Int32)) hx hb (dt uX8_odds_1 10 rfl) (by decide) ?_
                              have hJ135 : ∀ (y0_25 : Int32) (H : Heap) (locs : List Loc) (ls : Array Slot), fX8_odds_J135 N a_books a_numberA a_numberB a_now p1 q_10 x8_20 x9_21 x10_22 (fun z113_0 z113_1 z113_2 => fX8_odds_L113 N a_books a_numberA a_numberB a_now p1 p2 p3 q_10 x5_15 x7_16 (fun z90_0 z90_1 => fX8_odds_L90 N a_books a_numberA a_numberB a_now p1 p2 p3 p4 q_10 x6_12 n90 z90_0 z90_1) n113 z113_0 z113_1 z113_2) y0_25 = some q0 → va_P (dC, dI) vwCl [(ad0, oX8 v_trace ad_text v_typed ad_books ad_numberA ad_numberB ad_draftTouches v_draftOne v_oneTold v_at v_start v_sort v_value v_fault ad_now ad_isKept ad_near ad_seenDays ad_seenBook ad_seenIs v_seen v_sets v_inEach v_inSome), (ad_books, .inl (cI, 2, .inl a_books)), (ad_numberA, .inl (cI, 12, .inl a_numberA)), (ad_numberB, .inl (cI, 12, .inl a_numberB)), (ad_now, .inl (cI, 498, .inl a_now)), (ad_near, .inl (cI, 6, .inl q_10))] H → va_D A [(ad0, oX8 v_trace ad_text v_typed ad_books ad_numberA ad_numberB ad_draftTouches v_draftOne v_oneTold v_at v_start v_sort v_value v_fault ad_now ad_isKept ad_near ad_seenDays ad_seenBook ad_seenIs v_seen v_sets v_inEach v_inSome), (ad_books, .inl (cI, 2, .inl a_books)), (ad_numberA, .inl (cI, 12, .inl a_numberA)), (ad_numberB, .inl (cI, 12, .inl a_numberB)), (ad_now, .inl (cI, 498, .inl a_now)), (ad_near, .inl (cI, 6, .inl q_10))] → va_S A s.heap H locs → lv_has ls 12 [(0, .ref ad0), (1, .int p1), (2, .int p2), (3, .int p3), (4, .int p4), (5, .int x5_15), (6, .int x6_12), (7, .int x7_16), (8, .int x8_20), (9, .int x9_21), (10, .int x10_22)] → W p l e rX8_odds s m args below meth c H locs 0 0 Q (F0 m 135 ls [.int y0_25]) := by
                                intro y0_25 H locs ls hf hP hD hS hl
                                unfold fX8_odds_J135 at hf
                                refine lv_istore (lv' := [(11, .int y0_25), (0, .ref ad0), (1, .int p1), (2, .int p2), (3, .int p3), (4, .int p4), (5, .int x5_15), (6, .int x6_12), (7, .int x7_16), (8, .int x8_20), (9, .int x9_21), (10, .int x10_22)]) hx hb (dt uX8_odds_1 15 rfl) hl (by decide) rfl (fun ls hl => ?_)
                                refine lv_iload hx hb (dt uX8_odds_1 16 rfl) (lv_at hl 9 rfl) ?_
                                refine lv_iload hx hb (dt uX8_odds_1 17 rfl) (lv_at hl 0 rfl) ?_
                                have hJ152 : ∀ (y1_26 : Int32) (H : Heap) (locs : List Loc) (ls : Array Slot), fX8_odds_J152 N a_books a_numberA a_numberB a_now q_10 x8_20 x9_21 x10_22 y0_25 (fun z113_0 z113_1 z113_2 => fX8_odds_L113 N a_books a_numberA a_numberB a_now p1 p2 p3 q_10 x5_15 x7_16 (fun z90_0 z90_1 => fX8_odds_L90 N a_books a_numberA a_numberB a_now p1 p2 p3 p4 q_10 x6_12 n90 z90_0 z90_1) n113 z113_0 z113_1 z113_2) y1_26 = some q0 → va_P (dC, dI) vwCl [(ad0, oX8 v_trace ad_text v_typed ad_books ad_numberA ad_numberB ad_draftTouches v_draftOne v_oneTold v_at v_start v_sort v_value v_fault ad_now ad_isKept ad_near ad_seenDays ad_seenBook ad_seenIs v_seen v_sets v_inEach v_inSome), (ad_books, .inl (cI, 2, .inl a_books)), (ad_numberA, .inl (cI, 12, .inl a_numberA)), (ad_numberB, .inl (cI, 12, .inl a_numberB)), (ad_now, .inl (cI, 498, .inl a_now)), (ad_near, .inl (cI, 6, .inl q_10))] H → va_D A [(ad0, oX8 v_trace ad_text v_typed ad_books ad_numberA ad_numberB ad_draftTouches v_draftOne v_oneTold v_at v_start v_sort v_value v_fault ad_now ad_isKept ad_near ad_seenDays ad_seenBook ad_seenIs v_seen v_sets v_inEach v_inSome), (ad_books, .inl (cI, 2, .inl a_books)), (ad_numberA, .inl (cI, 12, .inl a_numberA)), (ad_numberB, .inl (cI, 12, .inl a_numberB)), (ad_now, .inl (cI, 498, .inl a_now)), (ad_near, .inl (cI, 6, .inl q_10))] → va_S A s.heap H locs → lv_has ls 12 [(0, .ref ad0), (1, .int p1), (2, .int p2), (3, .int p3), (4, .int p4), (5, .int x5_15), (6, .int x6_12), (7, .int x7_16), (9, .int x9_21), (10, .int x10_22), (11, .int y0_25)] → W p l e rX8_odds s m args below meth c H locs 0 0 Q (F0 m 152 ls [.int y1_26, .int x8_20]) := by
                                  intro y1_26 H locs ls hf hP hD hS hl
                                  unfold fX8_odds_J152 at hf
                                  refine lv_imul hx hb (dt uX8_odds_1 24 rfl) ?_
                                  refine lv_istore (lv' := [(8, .int (x8_20 * y1_26)), (0, .ref ad0), (1, .int p1), (2, .int p2), (3, .int p3), (4, .int p4), (5, .int x5_15), (6, .int x6_12), (7, .int x7_16), (9, .int x9_21), (10, .int x10_22), (11, .int y0_25)]) hx hb (dt uX8_odds_1 25 rfl) hl (by decide) rfl (fun ls hl => ?_)
                                  refine lv_iload hx hb (dt uX8_odds_1 26 rfl) (lv_at hl 11 rfl) ?_
                                  refine lv_if_eq (tgt := 165) hx hb (dt uX8_odds_1 27 rfl) (by decide) (fun c_27 => ?_) (fun c_27 => ?_)
                                  · have hf := vif_t c_27 hf
                                    refine lv_aload_n hx hb (dt uX8_odds_1 30 rfl) rfl (lv_at hl 1 rfl) ?_
                                    refine lv_iload hx hb (dt uX8_odds_1 31 rfl) (lv_at hl 9 rfl) ?_
                                    obtain ⟨q_28, hq_29, hf⟩ := vbd hf
                                    refine vk_i0 [0, 1, 2, 3, 4, 5] (va_runV (As := [.int x9_21]) (rest := []) ⟨hx, hb, hml, hown, hts⟩ (kX8_goesTo ad0 ad_text ad_books ad_numberA ad_numberB ad_draftTouches ad_now ad_isKept ad_near ad_seenDays ad_seenBook ad_seenIs v_trace v_typed v_draftOne v_oneTold v_at v_start v_sort v_value v_fault v_seen v_sets v_inEach v_inSome a_books a_numberA a_numberB a_now q_10 x9_21 N q_28 hq_29 H.size) (vcwV hts tw_427 tw_428 tw_429 tw_336 tw_426 hd_X8_goesTo rfl rfl ⟨Nat.le_of_ble_eq_true rfl, Nat.le_of_ble_eq_true rfl⟩) (vpreV hK hN hP hD [0, 1, 2, 3, 4, 5] rfl (by decide) (ci := 8) (q0 := 0) rfl rfl) rfl rfl hl.1 rfl (lv_room (Nat.le_of_ble_eq_true rfl)) (dt uX8_odds_1 32 rfl) ⟨Nat.zero_le _, Nat.zero_le _⟩) hA hP hD hS rfl (by decide) (fun H locs hP hD hS => ?_)
                                    refine lv_istore (lv' := [(9, .int q_28), (8, .int (x8_20 * y1_26)), (0, .ref ad0), (1, .int p1), (2, .int p2), (3, .int p3), (4, .int p4), (5, .int x5_15), (6, .int x6_12), (7, .int x7_16), (10, .int x10_22), (11, .int y0_25)]) hx hb (dt uX8_odds_1 33 rfl) hl (by decide) rfl (fun ls hl => ?_)
                                    refine lv_iinc (v := x10_22 + 1) (lv' := [(10, .int (x10_22 + 1)), (9, .int q_28), (8, .int (x8_20 * y1_26)), (0, .ref ad0), (1, .int p1), (2, .int p2), (3, .int p3), (4, .int p4), (5, .int x5_15), (6, .int x6_12), (7, .int x7_16), (11, .int y0_25)]) hx hb (dt uX8_odds_1 34 rfl) hl (k := 10) rfl rfl (by decide) rfl (fun ls hl => ?_)
                                    refine lv_goto (tgt := 113) hx hb (dt uX8_odds_1 35 rfl) (by decide) ?_
                                    exact ih113 (x8_20 * y1_26) q_28 (x10_22 + 1) _ _ _ hf hP hD hS (lv_sub hl [3, 4, 5, 6, 7, 8, 9, 10, 2, 1, 0] rfl)
                                  · have hf := vif_f c_27 hf
                                    refine lv_iload hx hb (dt uX8_odds_1 28 rfl) (lv_at hl 9 rfl) ?_
                                    refine lv_goto (tgt := 171) hx hb (dt uX8_odds_1 29 rfl) (by decide) ?_
                                    refine lv_istore (lv' := [(9, .int x9_21), (8, .int (x8_20 * y1_26)), (0, .ref ad0), (1, .int p1), (2, .int p2), (3, .int p3), (4, .int p4), (5, .int x5_15), (6, .int x6_12), (7, .int x7_16), (10, .int x10_22), (11, .int y0_25)]) hx hb (dt uX8_odds_1 33 rfl) hl (by decide) rfl (fun ls hl => ?_)
                                    refine lv_iinc (v := x10_22 + 1) (lv' := [(10, .int (x10_22 + 1)), (9, .int x9_21), (8, .int (x8_20 * y1_26)), (0, .ref ad0), (1, .int p1), (2, .int p2), (3, .int p3), (4, .int p4), (5, .int x5_15), (6, .int x6_12), (7, .int x7_16), (11, .int y0_25)]) hx hb (dt uX8_odds_1 34 rfl) hl (k := 10) rfl rfl (by decide) rfl (fun ls hl => ?_)
                                    refine lv_goto (tgt := 113) hx hb (dt uX8_odds_1 35 rfl) (by decide) ?_
                                    exact ih113 (x8_20 * y1_26) x9_21 (x10_22 + 1) _ _ _ hf hP hD hS (lv_sub hl [3, 4, 5, 6, 7, 8, 9, 10, 2, 1, 0] rfl)
                                refine lv_if_eq (tgt := 148) hx hb (dt uX8_odds_1 18 rfl) (by decide) (fun c_30 => ?_) (fun c_30 => ?_)
                                · have hf := vif_t c_30 hf
                                  refine lv_bipush (v := (10 : Int32)) hx hb (dt uX8_odds_1 21 rfl) (by decide) ?_
                                  refine lv_iload_n hx hb (dt uX8_odds_1 22 rfl) rfl (lv_at hl 2 rfl) ?_
                                  refine lv_isub hx hb (dt uX8_odds_1 23 rfl) ?_
                                  exact hJ152 ((10 : Int32) - p1) _ _ _ hf hP hD hS (lv_sub hl [1, 2, 3, 4, 5, 6, 7, 8, 10, 11, 0] rfl)
                                · have hf := vif_f c_30 hf
                                  refine lv_iload_n hx hb (dt uX8_odds_1 19 rfl) rfl (lv_at hl 2 rfl) ?_
                                  refine lv_goto (tgt := 152) hx hb (dt uX8_odds_1 20 rfl) (by decide) ?_
                                  exact hJ152 p1 _ _ _ hf hP hD hS (lv_sub hl [1, 2, 3, 4, 5, 6, 7, 8, 10, 11, 0] rfl)
                              refine lv_icmp_ne (tgt := 134) hx hb (dt uX8_odds_1 11 rfl) (by decide) (fun c_31 => ?_) (fun c_31 => ?_)
                              · have hf := vif_f c_31 hf
                                refine lv_iconst (v := (0 : Int32)) hx hb (dt uX8_odds_1 14 rfl) (by decide) ?_
                                exact hJ135 (0 : Int32) _ _ _ hf hP hD hS (lv_sub hl [0, 1, 2, 3, 4, 5, 6, 7, 8, 9, 10] rfl)
                              · have hf := vif_t c_31 hf
                                refine lv_iconst (v := (1 : Int32)) hx hb (dt uX8_odds_1 12 rfl) (by decide) ?_
                                refine lv_goto (tgt := 135) hx hb (dt uX8_odds_1 13 rfl) (by decide) ?_
                                exact hJ135 (1 : Int32) _ _ _ hf hP hD hS (lv_sub hl [0, 1, 2, 3, 4, 5, 6, 7, 8, 9, 10] rfl)
                        exact hL113 N (1 : Int32) (a_now (13 : Int32).toNatClampNeg) (0 : Int32) _ _ _ hf hP hD hS (lv_sub hl [3, 4, 5, 6, 7, 8, 9, 10, 2, 1, 0] rfl)
                  exact hL90 N (0 : Int32) (0 : Int32) _ _ _ hf hP hD hS (lv_sub hl [1, 2, 3, 4, 5, 6, 7, 0] rfl)
                · have hf := vif_f c_14 hf
                  refine lv_iload hx hb (dt uX8_odds_0 40 rfl) (lv_at hl 6 rfl) ?_
                  refine lv_bipush (v := (10 : Int32)) hx hb (dt uX8_odds_0 41 rfl) (by decide) ?_
                  refine lv_imul hx hb (dt uX8_odds_0 42 rfl) ?_
                  refine lv_istore (lv' := [(6, .int (x6_12 * (10 : Int32))), (0, .ref ad0), (1, .int p1), (2, .int p2), (3, .int p3), (4, .int p4), (5, .int (0 : Int32)), (7, .int x7_13)]) hx hb (dt uX8_odds_0 43 rfl) hl (by decide) rfl (fun ls hl => ?_)
                  refine lv_iinc (v := x7_13 + 1) (lv' := [(7, .int (x7_13 + 1)), (6, .int (x6_12 * (10 : Int32))), (0, .ref ad0), (1, .int p1), (2, .int p2), (3, .int p3), (4, .int p4), (5, .int (0 : Int32))]) hx hb (dt uX8_odds_0 44 rfl) hl (k := 7) rfl rfl (by decide) rfl (fun ls hl => ?_)
                  refine lv_goto (tgt := 68) hx hb (dt uX8_odds_0 45 rfl) (by decide) ?_
                  exact ih68 (x6_12 * (10 : Int32)) (x7_13 + 1) _ _ _ hf hP hD hS (lv_sub hl [2, 3, 4, 5, 6, 7, 1, 0] rfl)
            exact hL68 N (1 : Int32) (0 : Int32) _ _ _ hf hP hD hS (lv_sub hl [3, 4, 5, 6, 7, 2, 1, 0] rfl)
          · have hf := vif_t c_9 hf
            refine lv_bipush (v := (-2 : Int32)) hx hb (dt uX8_odds_0 27 rfl) (by decide) ?_
            have hf := Option.some.inj hf
            subst hf
            rw [hQ]
            exact vret_i C hP hD hS (dt uX8_odds_0 28 rfl)
        · have hf := vif_t c_8 hf
          refine lv_iconst (v := (-1 : Int32)) hx hb (dt uX8_odds_0 19 rfl) (by decide) ?_
          have hf := Option.some.inj hf
          subst hf
          rw [hQ]
          exact vret_i C hP hD hS (dt uX8_odds_0 20 rfl)
abbrev rX8_saw : Room := { frames := 2, cells := 0, slots := 0, locals := 43 }
abbrev wX8_saw : List Cond := Cond.code yX8_saw cX8_saw 4 (some .int) :: VT
set_option maxHeartbeats 4000000 in
set_option maxRecDepth 100000 in
theorem kX8_saw (ad0 : Nat) (ad_text : Nat) (ad_books : Nat) (ad_numberA : Nat) (ad_numberB : Nat) (ad_draftTouches : Nat) (ad_now : Nat) (ad_isKept : Nat) (ad_near : Nat) (ad_seenDays : Nat) (ad_seenBook : Nat) (ad_seenIs : Nat) (v_trace : Int64) (v_typed : Int32) (v_draftOne : Int32) (v_oneTold : Int32) (v_at : Int32) (v_start : Int32) (v_sort : Int32) (v_value : Int32) (v_fault : Int32) (v_seen : Int32) (v_sets : Int32) (v_inEach : Int32) (v_inSome : Int32) (a_books : Nat → Int32) (a_seenDays : Nat → Int32) (a_seenBook : Nat → Int32) (a_seenIs : Nat → Int32) (p1 : Int32) (p2 : Int32) (p3 : Int32) (q0 : (Int32 × (Nat → Int32) × (Nat → Int32) × (Nat → Int32) × Int32)) (hf : fX8_saw a_books a_seenDays a_seenBook a_seenIs v_seen p1 p2 p3 = some q0) : Ki l yX8_saw wX8_saw rX8_saw (dC, dI) (vTy cI cJ cB cZ) [.ref ad0, .int p1, .int p2, .int p3] [(ad0, oX8 v_trace ad_text v_typed ad_books ad_numberA ad_numberB ad_draftTouches v_draftOne v_oneTold v_at v_start v_sort v_value v_fault ad_now ad_isKept ad_near ad_seenDays ad_seenBook ad_seenIs v_seen v_sets v_inEach v_inSome), (ad_books, .inl (cI, 2, .inl a_books)), (ad_seenDays, .inl (cI, 6, .inl a_seenDays)), (ad_seenBook, .inl (cI, 6, .inl a_seenBook)), (ad_seenIs, .inl (cI, 6, .inl a_seenIs))] [(ad0, oX8 v_trace ad_text v_typed ad_books ad_numberA ad_numberB ad_draftTouches v_draftOne v_oneTold v_at v_start v_sort v_value v_fault ad_now ad_isKept ad_near ad_seenDays ad_seenBook ad_seenIs q0.2.2.2.2 v_sets v_inEach v_inSome), (ad_books, .inl (cI, 2, .inl a_books)), (ad_seenDays, .inl (cI, 6, .inl q0.2.1)), (ad_seenBook, .inl (cI, 6, .inl q0.2.2.1)), (ad_seenIs, .inl (cI, 6, .inl q0.2.2.2.1))] q0.1 := by
  refine Ki.mk (cc := cX8_saw) (maxL := 4) (ret := some .int) (by decide) (Nat.le_of_ble_eq_true rfl) ?_
  intro p e s m args below meth c A Q H locs C hQ hP hD hS ls hl
  obtain ⟨hx, hb, -, hml, hts, hown, -, hK, hN, hA⟩ := id C
  have hown : s.vm.findClass RX8 = some m.cls := hown
  have hl : lv_has ls 4 [(0, .ref ad0), (1, .int p1), (2, .int p2), (3, .int p3)] := hl
  unfold fX8_saw at hf
  refine lv_iload_n hx hb (dt uX8_saw 0 rfl) rfl (lv_at hl 1 rfl) ?_
  refine lv_iconst (v := (0 : Int32)) hx hb (dt uX8_saw 1 rfl) (by decide) ?_
  refine lv_bipush (v := (20 : Int32)) hx hb (dt uX8_saw 2 rfl) (by decide) ?_
  refine vk_z0 [] (va_runS (As := [.int p1, .int (0 : Int32), .int (20 : Int32)]) (rest := []) ⟨hx, hb, hml, hown, hts⟩ (kX8_in p1 (0 : Int32) (20 : Int32) _ rfl H.size) (vcwS hts tw_338 tw_339 tw_336 tw_337 hd_X8_in rfl rfl ⟨Nat.le_of_ble_eq_true rfl, Nat.le_of_ble_eq_true rfl⟩) (vpreS hK hN hP hD [] rfl (by decide)) rfl rfl hl.1 rfl (lv_room (Nat.le_of_ble_eq_true rfl)) (dt uX8_saw 3 rfl) ⟨Nat.zero_le _, Nat.zero_le _⟩) hA hP hD hS rfl (by decide) (fun hz_1 H locs hP hD hS => ?_)
  refine lv_if_eq (tgt := 27) hx hb (dt uX8_saw 4 rfl) (by decide) (fun c_2 => ?_) (fun c_2 => ?_)
  · have hf := vif_t c_2 hf
    refine lv_iconst (v := (-1 : Int32)) hx hb (dt uX8_saw 14 rfl) (by decide) ?_
    have hf := Option.some.inj hf
    subst hf
    rw [hQ]
    exact vret_i C hP hD hS (dt uX8_saw 15 rfl)
  · have hf := vif_f c_2 hf
    refine lv_aload_n hx hb (dt uX8_saw 5 rfl) rfl (lv_at hl 0 rfl) ?_
    refine lv_iload_n hx hb (dt uX8_saw 6 rfl) rfl (lv_at hl 2 rfl) ?_
    refine vk_z0 [0, 1] (va_runV (As := [.int p2]) (rest := []) ⟨hx, hb, hml, hown, hts⟩ (kX8_isBook ad0 ad_text ad_books ad_numberA ad_numberB ad_draftTouches ad_now ad_isKept ad_near ad_seenDays ad_seenBook ad_seenIs v_trace v_typed v_draftOne v_oneTold v_at v_start v_sort v_value v_fault v_seen v_sets v_inEach v_inSome a_books p2 _ rfl H.size) (vcwV hts tw_403 tw_404 tw_405 tw_336 tw_402 hd_X8_isBook rfl rfl ⟨Nat.le_of_ble_eq_true rfl, Nat.le_of_ble_eq_true rfl⟩) (vpreV hK hN hP hD [0, 1] rfl (by decide) (ci := 8) (q0 := 0) rfl rfl) rfl rfl hl.1 rfl (lv_room (Nat.le_of_ble_eq_true rfl)) (dt uX8_saw 7 rfl) ⟨Nat.zero_le _, Nat.zero_le _⟩) hA hP hD hS rfl (by decide) (fun hz_3 H locs hP hD hS => ?_)
    refine lv_if_eq (tgt := 27) hx hb (dt uX8_saw 8 rfl) (by decide) (fun c_4 => ?_) (fun c_4 => ?_)
    · have hf := vif_t c_4 hf
      refine lv_iconst (v := (-1 : Int32)) hx hb (dt uX8_saw 14 rfl) (by decide) ?_
      have hf := Option.some.inj hf
      subst hf
      rw [hQ]
      exact vret_i C hP hD hS (dt uX8_saw 15 rfl)
    · have hf := vif_f c_4 hf
      refine lv_iload_n hx hb (dt uX8_saw 9 rfl) rfl (lv_at hl 3 rfl) ?_
      refine lv_iconst (v := (0 : Int32)) hx hb (dt uX8_saw 10 rfl) (by decide) ?_
      refine lv_iconst (v := (1 : Int32)) hx hb (dt uX8_saw 11 rfl) (by decide) ?_
      refine vk_z0 [] (va_runS (As := [.int p3, .int (0 : Int32), .int (1 : Int32)]) (rest := []) ⟨hx, hb, hml, hown, hts⟩ (kX8_in p3 (0 : Int32) (1 : Int32) _ rfl H.size) (vcwS hts tw_338 tw_339 tw_336 tw_337 hd_X8_in rfl rfl ⟨Nat.le_of_ble_eq_true rfl, Nat.le_of_ble_eq_true rfl⟩) (vpreS hK hN hP hD [] rfl (by decide)) rfl rfl hl.1 rfl (lv_room (Nat.le_of_ble_eq_true rfl)) (dt uX8_saw 12 rfl) ⟨Nat.zero_le _, Nat.zero_le _⟩) hA hP hD hS rfl (by decide) (fun hz_5 H locs hP hD hS => ?_)
      refine lv_if_ne (tgt := 29) hx hb (dt uX8_saw 13 rfl) (by decide) (fun c_6 => ?_) (fun c_6 => ?_)
      · have hf := vif_f c_6 hf
        refine lv_aload_n hx hb (dt uX8_saw 16 rfl) rfl (lv_at hl 0 rfl) ?_
        refine va_get (D := (dC, dI)) (ci := 8) (v := .int v_seen) (C := RX8) (T := TX8) (N := 24) hx hb hts inU8 hown hK hP 0 rfl rfl 20 (by decide) (hts _ tw_370) (fun _ h9 => h9) rfl (dt uX8_saw 17 rfl) ?_
        refine lv_bipush (v := (6 : Int32)) hx hb (dt uX8_saw 18 rfl) (by decide) ?_
        refine lv_icmp_ne (tgt := 41) hx hb (dt uX8_saw 19 rfl) (by decide) (fun c_7 => ?_) (fun c_7 => ?_)
        · have hf := vif_f c_7 hf
          refine lv_aload_n hx hb (dt uX8_saw 22 rfl) rfl (lv_at hl 0 rfl) ?_
          refine va_get (D := (dC, dI)) (ci := 8) (v := .ref ad_seenDays) (C := RX8) (T := TX8) (N := 24) hx hb hts inU8 hown hK hP 0 rfl rfl 17 (by decide) (hts _ tw_468) (fun _ h9 => h9) rfl (dt uX8_saw 23 rfl) ?_
          refine lv_aload_n hx hb (dt uX8_saw 24 rfl) rfl (lv_at hl 0 rfl) ?_
          refine va_get (D := (dC, dI)) (ci := 8) (v := .int v_seen) (C := RX8) (T := TX8) (N := 24) hx hb hts inU8 hown hK hP 0 rfl rfl 20 (by decide) (hts _ tw_370) (fun _ h9 => h9) rfl (dt uX8_saw 25 rfl) ?_
          refine lv_iload_n hx hb (dt uX8_saw 26 rfl) rfl (lv_at hl 1 rfl) ?_
          obtain ⟨hi_8, hf⟩ := vg_some hf
          refine va_iast hx hb hK hP hD hS 2 0 rfl rfl hi_8 (dt uX8_saw 27 rfl) (fun H locs hP hD hS => ?_)
          have hP : va_P (dC, dI) vwCl [(ad0, oX8 v_trace ad_text v_typed ad_books ad_numberA ad_numberB ad_draftTouches v_draftOne v_oneTold v_at v_start v_sort v_value v_fault ad_now ad_isKept ad_near ad_seenDays ad_seenBook ad_seenIs v_seen v_sets v_inEach v_inSome), (ad_books, .inl (cI, 2, .inl a_books)), (ad_seenDays, .inl (cI, 6, .inl (upd a_seenDays v_seen.toNatClampNeg p1))), (ad_seenBook, .inl (cI, 6, .inl a_seenBook)), (ad_seenIs, .inl (cI, 6, .inl a_seenIs))] H := hP
          have hD : va_D A [(ad0, oX8 v_trace ad_text v_typed ad_books ad_numberA ad_numberB ad_draftTouches v_draftOne v_oneTold v_at v_start v_sort v_value v_fault ad_now ad_isKept ad_near ad_seenDays ad_seenBook ad_seenIs v_seen v_sets v_inEach v_inSome), (ad_books, .inl (cI, 2, .inl a_books)), (ad_seenDays, .inl (cI, 6, .inl (upd a_seenDays v_seen.toNatClampNeg p1))), (ad_seenBook, .inl (cI, 6, .inl a_seenBook)), (ad_seenIs, .inl (cI, 6, .inl a_seenIs))] := hD
          refine lv_aload_n hx hb (dt uX8_saw 28 rfl) rfl (lv_at hl 0 rfl) ?_
          refine va_get (D := (dC, dI)) (ci := 8) (v := .ref ad_seenBook) (C := RX8) (T := TX8) (N := 24) hx hb hts inU8 hown hK hP 0 rfl rfl 18 (by decide) (hts _ tw_469) (fun _ h9 => h9) rfl (dt uX8_saw 29 rfl) ?_
          refine lv_aload_n hx hb (dt uX8_saw 30 rfl) rfl (lv_at hl 0 rfl) ?_
          refine va_get (D := (dC, dI)) (ci := 8) (v := .int v_seen) (C := RX8) (T := TX8) (N := 24) hx hb hts inU8 hown hK hP 0 rfl rfl 20 (by decide) (hts _ tw_370) (fun _ h9 => h9) rfl (dt uX8_saw 31 rfl) ?_
          refine lv_iload_n hx hb (dt uX8_saw 32 rfl) rfl (lv_at hl 2 rfl) ?_
          obtain ⟨hi_9, hf⟩ := vg_some hf
          refine va_iast hx hb hK hP hD hS 3 0 rfl rfl hi_9 (dt uX8_saw 33 rfl) (fun H locs hP hD hS => ?_)
          have hP : va_P (dC, dI) vwCl [(ad0, oX8 v_trace ad_text v_typed ad_books ad_numberA ad_numberB ad_draftTouches v_draftOne v_oneTold v_at v_start v_sort v_value v_fault ad_now ad_isKept ad_near ad_seenDays ad_seenBook ad_seenIs v_seen v_sets v_inEach v_inSome), (ad_books, .inl (cI, 2, .inl a_books)), (ad_seenDays, .inl (cI, 6, .inl (upd a_seenDays v_seen.toNatClampNeg p1))), (ad_seenBook, .inl (cI, 6, .inl (upd a_seenBook v_seen.toNatClampNeg p2))), (ad_seenIs, .inl (cI, 6, .inl a_seenIs))] H := hP
          have hD : va_D A [(ad0, oX8 v_trace ad_text v_typed ad_books ad_numberA ad_numberB ad_draftTouches v_draftOne v_oneTold v_at v_start v_sort v_value v_fault ad_now ad_isKept ad_near ad_seenDays ad_seenBook ad_seenIs v_seen v_sets v_inEach v_inSome), (ad_books, .inl (cI, 2, .inl a_books)), (ad_seenDays, .inl (cI, 6, .inl (upd a_seenDays v_seen.toNatClampNeg p1))), (ad_seenBook, .inl (cI, 6, .inl (upd a_seenBook v_seen.toNatClampNeg p2))), (ad_seenIs, .inl (cI, 6, .inl a_seenIs))] := hD
          refine lv_aload_n hx hb (dt uX8_saw 34 rfl) rfl (lv_at hl 0 rfl) ?_
          refine va_get (D := (dC, dI)) (ci := 8) (v := .ref ad_seenIs) (C := RX8) (T := TX8) (N := 24) hx hb hts inU8 hown hK hP 0 rfl rfl 19 (by decide) (hts _ tw_470) (fun _ h9 => h9) rfl (dt uX8_saw 35 rfl) ?_
          refine lv_aload_n hx hb (dt uX8_saw 36 rfl) rfl (lv_at hl 0 rfl) ?_
          refine va_get (D := (dC, dI)) (ci := 8) (v := .int v_seen) (C := RX8) (T := TX8) (N := 24) hx hb hts inU8 hown hK hP 0 rfl rfl 20 (by decide) (hts _ tw_370) (fun _ h9 => h9) rfl (dt uX8_saw 37 rfl) ?_
          refine lv_iload_n hx hb (dt uX8_saw 38 rfl) rfl (lv_at hl 3 rfl) ?_
          obtain ⟨hi_10, hf⟩ := vg_some hf
          refine va_iast hx hb hK hP hD hS 4 0 rfl rfl hi_10 (dt uX8_saw 39 rfl) (fun H locs hP hD hS => ?_)
          have hP : va_P (dC, dI) vwCl [(ad0, oX8 v_trace ad_text v_typed ad_books ad_numberA ad_numberB ad_draftTouches v_draftOne v_oneTold v_at v_start v_sort v_value v_fault ad_now ad_isKept ad_near ad_seenDays ad_seenBook ad_seenIs v_seen v_sets v_inEach v_inSome), (ad_books, .inl (cI, 2, .inl a_books)), (ad_seenDays, .inl (cI, 6, .inl (upd a_seenDays v_seen.toNatClampNeg p1))), (ad_seenBook, .inl (cI, 6, .inl (upd a_seenBook v_seen.toNatClampNeg p2))), (ad_seenIs, .inl (cI, 6, .inl (upd a_seenIs v_seen.toNatClampNeg p3)))] H := hP
          have hD : va_D A [(ad0, oX8 v_trace ad_text v_typed ad_books ad_numberA ad_numberB ad_draftTouches v_draftOne v_oneTold v_at v_start v_sort v_value v_fault ad_now ad_isKept ad_near ad_seenDays ad_seenBook ad_seenIs v_seen v_sets v_inEach v_inSome), (ad_books, .inl (cI, 2, .inl a_books)), (ad_seenDays, .inl (cI, 6, .inl (upd a_seenDays v_seen.toNatClampNeg p1))), (ad_seenBook, .inl (cI, 6, .inl (upd a_seenBook v_seen.toNatClampNeg p2))), (ad_seenIs, .inl (cI, 6, .inl (upd a_seenIs v_seen.toNatClampNeg p3)))] := hD
          refine lv_aload_n hx hb (dt uX8_saw 40 rfl) rfl (lv_at hl 0 rfl) ?_
          refine lv_dup hx hb (dt uX8_saw 41 rfl) rfl ?_
          refine va_get (D := (dC, dI)) (ci := 8) (v := .int v_seen) (C := RX8) (T := TX8) (N := 24) hx hb hts inU8 hown hK hP 0 rfl rfl 20 (by decide) (hts _ tw_370) (fun _ h9 => h9) rfl (dt uX8_saw 42 rfl) ?_
          refine lv_iconst (v := (1 : Int32)) hx hb (dt uX8_saw 43 rfl) (by decide) ?_
          refine lv_iadd hx hb (dt uX8_saw 44 rfl) ?_
          refine va_put (D := (dC, dI)) (ci := 8) (v := .int (v_seen + (1 : Int32))) (ty := .int) (C := RX8) (T := TX8) (N := 24) hx hb hts inU8 tyX8 tyX8_ok nmX8 hown hK hP hD hS 0 rfl rfl 20 (by decide) (hts _ tw_370) (fun _ h9 => h9) rfl (by decide +kernel) rfl rfl (Nat.le_of_ble_eq_true rfl) (dt uX8_saw 45 rfl) (fun H locs hP hD hS => ?_)
          have hP : va_P (dC, dI) vwCl [(ad0, oX8 v_trace ad_text v_typed ad_books ad_numberA ad_numberB ad_draftTouches v_draftOne v_oneTold v_at v_start v_sort v_value v_fault ad_now ad_isKept ad_near ad_seenDays ad_seenBook ad_seenIs (v_seen + (1 : Int32)) v_sets v_inEach v_inSome), (ad_books, .inl (cI, 2, .inl a_books)), (ad_seenDays, .inl (cI, 6, .inl (upd a_seenDays v_seen.toNatClampNeg p1))), (ad_seenBook, .inl (cI, 6, .inl (upd a_seenBook v_seen.toNatClampNeg p2))), (ad_seenIs, .inl (cI, 6, .inl (upd a_seenIs v_seen.toNatClampNeg p3)))] H := hP
          have hD : va_D A [(ad0, oX8 v_trace ad_text v_typed ad_books ad_numberA ad_numberB ad_draftTouches v_draftOne v_oneTold v_at v_start v_sort v_value v_fault ad_now ad_isKept ad_near ad_seenDays ad_seenBook ad_seenIs (v_seen + (1 : Int32)) v_sets v_inEach v_inSome), (ad_books, .inl (cI, 2, .inl a_books)), (ad_seenDays, .inl (cI, 6, .inl (upd a_seenDays v_seen.toNatClampNeg p1))), (ad_seenBook, .inl (cI, 6, .inl (upd a_seenBook v_seen.toNatClampNeg p2))), (ad_seenIs, .inl (cI, 6, .inl (upd a_seenIs v_seen.toNatClampNeg p3)))] := hD
          refine lv_aload_n hx hb (dt uX8_saw 46 rfl) rfl (lv_at hl 0 rfl) ?_
          refine va_get (D := (dC, dI)) (ci := 8) (v := .int (v_seen + (1 : Int32))) (C := RX8) (T := TX8) (N := 24) hx hb hts inU8 hown hK hP 0 rfl rfl 20 (by decide) (hts _ tw_370) (fun _ h9 => h9) rfl (dt uX8_saw 47 rfl) ?_
          have hf := Option.some.inj hf
          subst hf
          rw [hQ]
          exact vret_i C hP hD hS (dt uX8_saw 48 rfl)
        · have hf := vif_t c_7 hf
          refine lv_bipush (v := (-3 : Int32)) hx hb (dt uX8_saw 20 rfl) (by decide) ?_
          have hf := Option.some.inj hf
          subst hf
          rw [hQ]
          exact vret_i C hP hD hS (dt uX8_saw 21 rfl)
      · have hf := vif_t c_6 hf
        refine lv_iconst (v := (-1 : Int32)) hx hb (dt uX8_saw 14 rfl) (by decide) ?_
        have hf := Option.some.inj hf
        subst hf
        rw [hQ]
        exact vret_i C hP hD hS (dt uX8_saw 15 rfl)
abbrev rX8_forget : Room := { frames := 0, cells := 0, slots := 0, locals := 0 }
abbrev wX8_forget : List Cond := Cond.code yX8_forget cX8_forget 2 (some .int) :: VT
set_option maxHeartbeats 4000000 in
set_option maxRecDepth 100000 in
theorem kX8_forget (ad0 : Nat) (ad_text : Nat) (ad_books : Nat) (ad_numberA : Nat) (ad_numberB : Nat) (ad_draftTouches : Nat) (ad_now : Nat) (ad_isKept : Nat) (ad_near : Nat) (ad_seenDays : Nat) (ad_seenBook : Nat) (ad_seenIs : Nat) (v_trace : Int64) (v_typed : Int32) (v_draftOne : Int32) (v_oneTold : Int32) (v_at : Int32) (v_start : Int32) (v_sort : Int32) (v_value : Int32) (v_fault : Int32) (v_seen : Int32) (v_sets : Int32) (v_inEach : Int32) (v_inSome : Int32) (q0 : (Int32 × Int32)) (hf : fX8_forget v_seen = q0) : Ki l yX8_forget wX8_forget rX8_forget (dC, dI) (vTy cI cJ cB cZ) [.ref ad0] [(ad0, oX8 v_trace ad_text v_typed ad_books ad_numberA ad_numberB ad_draftTouches v_draftOne v_oneTold v_at v_start v_sort v_value v_fault ad_now ad_isKept ad_near ad_seenDays ad_seenBook ad_seenIs v_seen v_sets v_inEach v_inSome)] [(ad0, oX8 v_trace ad_text v_typed ad_books ad_numberA ad_numberB ad_draftTouches v_draftOne v_oneTold v_at v_start v_sort v_value v_fault ad_now ad_isKept ad_near ad_seenDays ad_seenBook ad_seenIs q0.2 v_sets v_inEach v_inSome)] q0.1 := by
  refine Ki.mk (cc := cX8_forget) (maxL := 2) (ret := some .int) (by decide) (Nat.le_of_ble_eq_true rfl) ?_
  intro p e s m args below meth c A Q H locs C hQ hP hD hS ls hl
  obtain ⟨hx, hb, -, hml, hts, hown, -, hK, hN, hA⟩ := id C
  have hown : s.vm.findClass RX8 = some m.cls := hown
  have hl : lv_has ls 2 [(0, .ref ad0)] := hl
  unfold fX8_forget at hf
  refine lv_aload_n hx hb (dt uX8_forget 0 rfl) rfl (lv_at hl 0 rfl) ?_
  refine va_get (D := (dC, dI)) (ci := 8) (v := .int v_seen) (C := RX8) (T := TX8) (N := 24) hx hb hts inU8 hown hK hP 0 rfl rfl 20 (by decide) (hts _ tw_370) (fun _ h9 => h9) rfl (dt uX8_forget 1 rfl) ?_
  refine lv_istore_n (lv' := [(1, .int v_seen), (0, .ref ad0)]) hx hb (dt uX8_forget 2 rfl) rfl hl (by decide) rfl (fun ls hl => ?_)
  refine lv_aload_n hx hb (dt uX8_forget 3 rfl) rfl (lv_at hl 1 rfl) ?_
  refine lv_iconst (v := (0 : Int32)) hx hb (dt uX8_forget 4 rfl) (by decide) ?_
  refine va_put (D := (dC, dI)) (ci := 8) (v := .int (0 : Int32)) (ty := .int) (C := RX8) (T := TX8) (N := 24) hx hb hts inU8 tyX8 tyX8_ok nmX8 hown hK hP hD hS 0 rfl rfl 20 (by decide) (hts _ tw_370) (fun _ h9 => h9) rfl (by decide +kernel) rfl rfl (Nat.le_of_ble_eq_true rfl) (dt uX8_forget 5 rfl) (fun H locs hP hD hS => ?_)
  have hP : va_P (dC, dI) vwCl [(ad0, oX8 v_trace ad_text v_typed ad_books ad_numberA ad_numberB ad_draftTouches v_draftOne v_oneTold v_at v_start v_sort v_value v_fault ad_now ad_isKept ad_near ad_seenDays ad_seenBook ad_seenIs (0 : Int32) v_sets v_inEach v_inSome)] H := hP
  have hD : va_D A [(ad0, oX8 v_trace ad_text v_typed ad_books ad_numberA ad_numberB ad_draftTouches v_draftOne v_oneTold v_at v_start v_sort v_value v_fault ad_now ad_isKept ad_near ad_seenDays ad_seenBook ad_seenIs (0 : Int32) v_sets v_inEach v_inSome)] := hD
  refine lv_iload_n hx hb (dt uX8_forget 6 rfl) rfl (lv_at hl 0 rfl) ?_
  subst hf
  rw [hQ]
  exact vret_i C hP hD hS (dt uX8_forget 7 rfl)
abbrev rX8_fits : Room := { frames := 4, cells := 0, slots := 0, locals := 92 }
abbrev wX8_fits : List Cond := Cond.code yX8_fits cX8_fits 5 (some .int) :: VT
set_option maxHeartbeats 4000000 in
set_option maxRecDepth 100000 in
theorem kX8_fits (ad0 : Nat) (ad_text : Nat) (ad_books : Nat) (ad_numberA : Nat) (ad_numberB : Nat) (ad_draftTouches : Nat) (ad_now : Nat) (ad_isKept : Nat) (ad_near : Nat) (ad_seenDays : Nat) (ad_seenBook : Nat) (ad_seenIs : Nat) (v_trace : Int64) (v_typed : Int32) (v_draftOne : Int32) (v_oneTold : Int32) (v_at : Int32) (v_start : Int32) (v_sort : Int32) (v_value : Int32) (v_fault : Int32) (v_seen : Int32) (v_sets : Int32) (v_inEach : Int32) (v_inSome : Int32) (a_books : Nat → Int32) (a_numberA : Nat → Int32) (a_numberB : Nat → Int32) (a_now : Nat → Int32) (a_near : Nat → Int32) (a_seenDays : Nat → Int32) (a_seenBook : Nat → Int32) (a_seenIs : Nat → Int32) (N : Nat) (q0 : (Int32 × (Nat → Int32))) (hf : fX8_fits N a_books a_numberA a_numberB a_now a_near a_seenDays a_seenBook a_seenIs v_seen = some q0) : Ki l yX8_fits wX8_fits rX8_fits (dC, dI) (vTy cI cJ cB cZ) [.ref ad0] [(ad0, oX8 v_trace ad_text v_typed ad_books ad_numberA ad_numberB ad_draftTouches v_draftOne v_oneTold v_at v_start v_sort v_value v_fault ad_now ad_isKept ad_near ad_seenDays ad_seenBook ad_seenIs v_seen v_sets v_inEach v_inSome), (ad_books, .inl (cI, 2, .inl a_books)), (ad_numberA, .inl (cI, 12, .inl a_numberA)), (ad_numberB, .inl (cI, 12, .inl a_numberB)), (ad_now, .inl (cI, 498, .inl a_now)), (ad_near, .inl (cI, 6, .inl a_near)), (ad_seenDays, .inl (cI, 6, .inl a_seenDays)), (ad_seenBook, .inl (cI, 6, .inl a_seenBook)), (ad_seenIs, .inl (cI, 6, .inl a_seenIs))] [(ad0, oX8 v_trace ad_text v_typed ad_books ad_numberA ad_numberB ad_draftTouches v_draftOne v_oneTold v_at v_start v_sort v_value v_fault ad_now ad_isKept ad_near ad_seenDays ad_seenBook ad_seenIs v_seen v_sets v_inEach v_inSome), (ad_books, .inl (cI, 2, .inl a_books)), (ad_numberA, .inl (cI, 12, .inl a_numberA)), (ad_numberB, .inl (cI, 12, .inl a_numberB)), (ad_now, .inl (cI, 498, .inl a_now)), (ad_near, .inl (cI, 6, .inl q0.2)), (ad_seenDays, .inl (cI, 6, .inl a_seenDays)), (ad_seenBook, .inl (cI, 6, .inl a_seenBook)), (ad_seenIs, .inl (cI, 6, .inl a_seenIs))] q0.1 := by
  refine Ki.mk (cc := cX8_fits) (maxL := 5) (ret := some .int) (by decide) (Nat.le_of_ble_eq_true rfl) ?_
  intro p e s m args below meth c A Q H locs C hQ hP hD hS ls hl
  obtain ⟨hx, hb, -, hml, hts, hown, -, hK, hN, hA⟩ := id C
  have hown : s.vm.findClass RX8 = some m.cls := hown
  have hl : lv_has ls 5 [(0, .ref ad0)] := hl
  unfold fX8_fits at hf
  refine lv_aload_n hx hb (dt uX8_fits_0 0 rfl) rfl (lv_at hl 0 rfl) ?_
  obtain ⟨q_1, hq_2, hf⟩ := vbd hf
  refine vk_v [0, 4, 5] (ws2 := [(ad0, oX8 v_trace ad_text v_typed ad_books ad_numberA ad_numberB ad_draftTouches v_draftOne v_oneTold v_at v_start v_sort v_value v_fault ad_now ad_isKept ad_near ad_seenDays ad_seenBook ad_seenIs v_seen v_sets v_inEach v_inSome), (ad_books, .inl (cI, 2, .inl a_books)), (ad_numberA, .inl (cI, 12, .inl a_numberA)), (ad_numberB, .inl (cI, 12, .inl a_numberB)), (ad_now, .inl (cI, 498, .inl a_now)), (ad_near, .inl (cI, 6, .inl q_1)), (ad_seenDays, .inl (cI, 6, .inl a_seenDays)), (ad_seenBook, .inl (cI, 6, .inl a_seenBook)), (ad_seenIs, .inl (cI, 6, .inl a_seenIs))]) (va_runV (As := []) (rest := []) ⟨hx, hb, hml, hown, hts⟩ (kX8_takeNear ad0 ad_text ad_books ad_numberA ad_numberB ad_draftTouches ad_now ad_isKept ad_near ad_seenDays ad_seenBook ad_seenIs v_trace v_typed v_draftOne v_oneTold v_at v_start v_sort v_value v_fault v_seen v_sets v_inEach v_inSome a_now a_near N q_1 hq_2 H.size) (vcwV hts tw_431 tw_432 tw_433 tw_336 tw_430 hd_X8_takeNear rfl rfl ⟨Nat.le_of_ble_eq_true rfl, Nat.le_of_ble_eq_true rfl⟩) (vpreV hK hN hP hD [0, 4, 5] rfl (by decide) (ci := 8) (q0 := 0) rfl rfl) rfl rfl hl.1 rfl (lv_room (Nat.le_of_ble_eq_true rfl)) (dt uX8_fits_0 1 rfl) ⟨Nat.zero_le _, Nat.zero_le _⟩) hA hP hD hS rfl (by decide) rfl rfl (fun H locs hP hD hS => ?_)
  refine lv_iconst (v := (0 : Int32)) hx hb (dt uX8_fits_0 2 rfl) (by decide) ?_
  refine lv_istore_n (lv' := [(1, .int (0 : Int32)), (0, .ref ad0)]) hx hb (dt uX8_fits_0 3 rfl) rfl hl (by decide) rfl (fun ls hl => ?_)
  refine lv_iconst (v := (0 : Int32)) hx hb (dt uX8_fits_0 4 rfl) (by decide) ?_
  refine lv_istore_n (lv' := [(2, .int (0 : Int32)), (1, .int (0 : Int32)), (0, .ref ad0)]) hx hb (dt uX8_fits_0 5 rfl) rfl hl (by decide) rfl (fun ls hl => ?_)
  have hL8 : ∀ (n8 : Nat), ∀ (x1_3 : Int32) (x2_4 : Int32) (H : Heap) (locs : List Loc) (ls : Array Slot), fX8_fits_L8 N a_books a_numberA a_numberB a_now a_seenDays a_seenBook a_seenIs v_seen q_1 n8 x1_3 x2_4 = some q0 → va_P (dC, dI) vwCl [(ad0, oX8 v_trace ad_text v_typed ad_books ad_numberA ad_numberB ad_draftTouches v_draftOne v_oneTold v_at v_start v_sort v_value v_fault ad_now ad_isKept ad_near ad_seenDays ad_seenBook ad_seenIs v_seen v_sets v_inEach v_inSome), (ad_books, .inl (cI, 2, .inl a_books)), (ad_numberA, .inl (cI, 12, .inl a_numberA)), (ad_numberB, .inl (cI, 12, .inl a_numberB)), (ad_now, .inl (cI, 498, .inl a_now)), (ad_near, .inl (cI, 6, .inl q_1)), (ad_seenDays, .inl (cI, 6, .inl a_seenDays)), (ad_seenBook, .inl (cI, 6, .inl a_seenBook)), (ad_seenIs, .inl (cI, 6, .inl a_seenIs))] H → va_D A [(ad0, oX8 v_trace ad_text v_typed ad_books ad_numberA ad_numberB ad_draftTouches v_draftOne v_oneTold v_at v_start v_sort v_value v_fault ad_now ad_isKept ad_near ad_seenDays ad_seenBook ad_seenIs v_seen v_sets v_inEach v_inSome), (ad_books, .inl (cI, 2, .inl a_books)), (ad_numberA, .inl (cI, 12, .inl a_numberA)), (ad_numberB, .inl (cI, 12, .inl a_numberB)), (ad_now, .inl (cI, 498, .inl a_now)), (ad_near, .inl (cI, 6, .inl q_1)), (ad_seenDays, .inl (cI, 6, .inl a_seenDays)), (ad_seenBook, .inl (cI, 6, .inl a_seenBook)), (ad_seenIs, .inl (cI, 6, .inl a_seenIs))] → va_S A s.heap H locs → lv_has ls 5 [(0, .ref ad0), (1, .int x1_3), (2, .int x2_4)] → W p l e rX8_fits s m args below meth c H locs 0 0 Q (F0 m 8 ls []) := by
    intro n8
    induction n8 with
    | zero => intro x1_3 x2_4 H locs ls hf hP hD hS hl; cases hf
    | succ n8 ih8 =>
      intro x1_3 x2_4 H locs ls hf hP hD hS hl
      rw [fX8_fits_L8] at hf
      refine lv_iload_n hx hb (dt uX8_fits_0 6 rfl) rfl (lv_at hl 2 rfl) ?_
      refine lv_aload_n hx hb (dt uX8_fits_0 7 rfl) rfl (lv_at hl 0 rfl) ?_
      refine va_get (D := (dC, dI)) (ci := 8) (v := .ref ad_books) (C := RX8) (T := TX8) (N := 24) hx hb hts inU8 hown hK hP 0 rfl rfl 3 (by decide) (hts _ tw_360) (fun _ h9 => h9) rfl (dt uX8_fits_0 8 rfl) ?_
      refine lv_iconst (v := (0 : Int32)) hx hb (dt uX8_fits_0 9 rfl) (by decide) ?_
      refine va_iald hx hb hK hP 1 0 rfl rfl (vp_in_iff.mpr (by decide)) (dt uX8_fits_0 10 rfl) ?_
      refine lv_icmp_ge (tgt := 105) hx hb (dt uX8_fits_0 11 rfl) (by decide) (fun c_5 => ?_) (fun c_5 => ?_)
      · have hf := vif_t c_5 hf
        refine lv_iload_n hx hb (dt uX8_fits_1 0 rfl) rfl (lv_at hl 1 rfl) ?_
        have hf := Option.some.inj hf
        subst hf
        rw [hQ]
        exact vret_i C hP hD hS (dt uX8_fits_1 1 rfl)
      · have hf := vif_f c_5 hf
        refine lv_iconst (v := (1 : Int32)) hx hb (dt uX8_fits_0 12 rfl) (by decide) ?_
        refine lv_istore_n (lv' := [(3, .int (1 : Int32)), (0, .ref ad0), (1, .int x1_3), (2, .int x2_4)]) hx hb (dt uX8_fits_0 13 rfl) rfl hl (by decide) rfl (fun ls hl => ?_)
        refine lv_iconst (v := (0 : Int32)) hx hb (dt uX8_fits_0 14 rfl) (by decide) ?_
        refine lv_istore (lv' := [(4, .int (0 : Int32)), (3, .int (1 : Int32)), (0, .ref ad0), (1, .int x1_3), (2, .int x2_4)]) hx hb (dt uX8_fits_0 15 rfl) hl (by decide) rfl (fun ls hl => ?_)
        have hL23 : ∀ (n23 : Nat), ∀ (x3_6 : Int32) (x4_7 : Int32) (H : Heap) (locs : List Loc) (ls : Array Slot), fX8_fits_L23 N a_books a_numberA a_numberB a_now a_seenDays a_seenBook a_seenIs v_seen q_1 x1_3 x2_4 (fun z8_0 z8_1 => fX8_fits_L8 N a_books a_numberA a_numberB a_now a_seenDays a_seenBook a_seenIs v_seen q_1 n8 z8_0 z8_1) n23 x3_6 x4_7 = some q0 → va_P (dC, dI) vwCl [(ad0, oX8 v_trace ad_text v_typed ad_books ad_numberA ad_numberB ad_draftTouches v_draftOne v_oneTold v_at v_start v_sort v_value v_fault ad_now ad_isKept ad_near ad_seenDays ad_seenBook ad_seenIs v_seen v_sets v_inEach v_inSome), (ad_books, .inl (cI, 2, .inl a_books)), (ad_numberA, .inl (cI, 12, .inl a_numberA)), (ad_numberB, .inl (cI, 12, .inl a_numberB)), (ad_now, .inl (cI, 498, .inl a_now)), (ad_near, .inl (cI, 6, .inl q_1)), (ad_seenDays, .inl (cI, 6, .inl a_seenDays)), (ad_seenBook, .inl (cI, 6, .inl a_seenBook)), (ad_seenIs, .inl (cI, 6, .inl a_seenIs))] H → va_D A [(ad0, oX8 v_trace ad_text v_typed ad_books ad_numberA ad_numberB ad_draftTouches v_draftOne v_oneTold v_at v_start v_sort v_value v_fault ad_now ad_isKept ad_near ad_seenDays ad_seenBook ad_seenIs v_seen v_sets v_inEach v_inSome), (ad_books, .inl (cI, 2, .inl a_books)), (ad_numberA, .inl (cI, 12, .inl a_numberA)), (ad_numberB, .inl (cI, 12, .inl a_numberB)), (ad_now, .inl (cI, 498, .inl a_now)), (ad_near, .inl (cI, 6, .inl q_1)), (ad_seenDays, .inl (cI, 6, .inl a_seenDays)), (ad_seenBook, .inl (cI, 6, .inl a_seenBook)), (ad_seenIs, .inl (cI, 6, .inl a_seenIs))] → va_S A s.heap H locs → lv_has ls 5 [(0, .ref ad0), (1, .int x1_3), (2, .int x2_4), (3, .int x3_6), (4, .int x4_7)] → W p l e rX8_fits s m args below meth c H locs 0 0 Q (F0 m 23 ls []) := by
          intro n23
          induction n23 with
          | zero => intro x3_6 x4_7 H locs ls hf hP hD hS hl; cases hf
          | succ n23 ih23 =>
            intro x3_6 x4_7 H locs ls hf hP hD hS hl
            rw [fX8_fits_L23] at hf
            refine lv_iload hx hb (dt uX8_fits_0 16 rfl) (lv_at hl 4 rfl) ?_
            refine lv_aload_n hx hb (dt uX8_fits_0 17 rfl) rfl (lv_at hl 0 rfl) ?_
            refine va_get (D := (dC, dI)) (ci := 8) (v := .int v_seen) (C := RX8) (T := TX8) (N := 24) hx hb hts inU8 hown hK hP 0 rfl rfl 20 (by decide) (hts _ tw_370) (fun _ h9 => h9) rfl (dt uX8_fits_0 18 rfl) ?_
            refine lv_icmp_ge (tgt := 85) hx hb (dt uX8_fits_0 19 rfl) (by decide) (fun c_8 => ?_) (fun c_8 => ?_)
            · have hf := vif_t c_8 hf
              refine lv_iload_n hx hb (dt uX8_fits_0 48 rfl) rfl (lv_at hl 1 rfl) ?_
              refine lv_iload_n hx hb (dt uX8_fits_0 49 rfl) rfl (lv_at hl 3 rfl) ?_
              refine lv_if_eq (tgt := 96) hx hb (dt uX8_fits_0 50 rfl) (by decide) (fun c_9 => ?_) (fun c_9 => ?_)
              · have hf := vif_t c_9 hf
                refine lv_iconst (v := (0 : Int32)) hx hb (dt uX8_fits_0 55 rfl) (by decide) ?_
                refine lv_ior hx hb (dt uX8_fits_0 56 rfl) ?_
                refine lv_istore_n (lv' := [(1, .int (x1_3 ||| (0 : Int32))), (0, .ref ad0), (2, .int x2_4), (3, .int x3_6), (4, .int x4_7)]) hx hb (dt uX8_fits_0 57 rfl) rfl hl (by decide) rfl (fun ls hl => ?_)
                refine lv_iinc (v := x2_4 + 1) (lv' := [(2, .int (x2_4 + 1)), (1, .int (x1_3 ||| (0 : Int32))), (0, .ref ad0), (3, .int x3_6), (4, .int x4_7)]) hx hb (dt uX8_fits_0 58 rfl) hl (k := 2) rfl rfl (by decide) rfl (fun ls hl => ?_)
                refine lv_goto (tgt := 8) hx hb (dt uX8_fits_0 59 rfl) (by decide) ?_
                exact ih8 (x1_3 ||| (0 : Int32)) (x2_4 + 1) _ _ _ hf hP hD hS (lv_sub hl [2, 1, 0] rfl)
              · have hf := vif_f c_9 hf
                refine lv_iconst (v := (1 : Int32)) hx hb (dt uX8_fits_0 51 rfl) (by decide) ?_
                refine lv_iload_n hx hb (dt uX8_fits_0 52 rfl) rfl (lv_at hl 2 rfl) ?_
                refine lv_ishl hx hb (dt uX8_fits_0 53 rfl) ?_
                refine lv_goto (tgt := 97) hx hb (dt uX8_fits_0 54 rfl) (by decide) ?_
                refine lv_ior hx hb (dt uX8_fits_0 56 rfl) ?_
                refine lv_istore_n (lv' := [(1, .int (x1_3 ||| ((1 : Int32) <<< (x2_4 &&& 31)))), (0, .ref ad0), (2, .int x2_4), (3, .int x3_6), (4, .int x4_7)]) hx hb (dt uX8_fits_0 57 rfl) rfl hl (by decide) rfl (fun ls hl => ?_)
                refine lv_iinc (v := x2_4 + 1) (lv' := [(2, .int (x2_4 + 1)), (1, .int (x1_3 ||| ((1 : Int32) <<< (x2_4 &&& 31)))), (0, .ref ad0), (3, .int x3_6), (4, .int x4_7)]) hx hb (dt uX8_fits_0 58 rfl) hl (k := 2) rfl rfl (by decide) rfl (fun ls hl => ?_)
                refine lv_goto (tgt := 8) hx hb (dt uX8_fits_0 59 rfl) (by decide) ?_
                exact ih8 (x1_3 ||| ((1 : Int32) <<< (x2_4 &&& 31))) (x2_4 + 1) _ _ _ hf hP hD hS (lv_sub hl [2, 1, 0] rfl)
            · have hf := vif_f c_8 hf
              refine lv_iload_n hx hb (dt uX8_fits_0 20 rfl) rfl (lv_at hl 3 rfl) ?_
              refine lv_if_eq (tgt := 77) hx hb (dt uX8_fits_0 21 rfl) (by decide) (fun c_10 => ?_) (fun c_10 => ?_)
              · have hf := vif_t c_10 hf
                refine lv_iconst (v := (0 : Int32)) hx hb (dt uX8_fits_0 44 rfl) (by decide) ?_
                refine lv_istore_n (lv' := [(3, .int (0 : Int32)), (0, .ref ad0), (1, .int x1_3), (2, .int x2_4), (4, .int x4_7)]) hx hb (dt uX8_fits_0 45 rfl) rfl hl (by decide) rfl (fun ls hl => ?_)
                refine lv_iinc (v := x4_7 + 1) (lv' := [(4, .int (x4_7 + 1)), (3, .int (0 : Int32)), (0, .ref ad0), (1, .int x1_3), (2, .int x2_4)]) hx hb (dt uX8_fits_0 46 rfl) hl (k := 4) rfl rfl (by decide) rfl (fun ls hl => ?_)
                refine lv_goto (tgt := 23) hx hb (dt uX8_fits_0 47 rfl) (by decide) ?_
                exact ih23 (0 : Int32) (x4_7 + 1) _ _ _ hf hP hD hS (lv_sub hl [2, 3, 4, 1, 0] rfl)
              · have hf := vif_f c_10 hf
                refine lv_aload_n hx hb (dt uX8_fits_0 22 rfl) rfl (lv_at hl 0 rfl) ?_
                refine lv_iload_n hx hb (dt uX8_fits_0 23 rfl) rfl (lv_at hl 2 rfl) ?_
                refine lv_aload_n hx hb (dt uX8_fits_0 24 rfl) rfl (lv_at hl 0 rfl) ?_
                refine va_get (D := (dC, dI)) (ci := 8) (v := .ref ad_seenDays) (C := RX8) (T := TX8) (N := 24) hx hb hts inU8 hown hK hP 0 rfl rfl 17 (by decide) (hts _ tw_468) (fun _ h9 => h9) rfl (dt uX8_fits_0 25 rfl) ?_
                refine lv_iload hx hb (dt uX8_fits_0 26 rfl) (lv_at hl 4 rfl) ?_
                obtain ⟨hi_11, hf⟩ := vg_some hf
                refine va_iald hx hb hK hP 6 0 rfl rfl hi_11 (dt uX8_fits_0 27 rfl) ?_
                obtain ⟨q_12, hq_13, hf⟩ := vbd hf
                refine vk_i0 [0, 1, 2, 3, 4, 5] (va_runV (As := [.int x2_4, .int (a_seenDays x4_7.toNatClampNeg)]) (rest := []) ⟨hx, hb, hml, hown, hts⟩ (kX8_goesIn ad0 ad_text ad_books ad_numberA ad_numberB ad_draftTouches ad_now ad_isKept ad_near ad_seenDays ad_seenBook ad_seenIs v_trace v_typed v_draftOne v_oneTold v_at v_start v_sort v_value v_fault v_seen v_sets v_inEach v_inSome a_books a_numberA a_numberB a_now q_1 x2_4 (a_seenDays x4_7.toNatClampNeg) N q_12 hq_13 H.size) (vcwV hts tw_435 tw_436 tw_437 tw_336 tw_434 hd_X8_goesIn rfl rfl ⟨Nat.le_of_ble_eq_true rfl, Nat.le_of_ble_eq_true rfl⟩) (vpreV hK hN hP hD [0, 1, 2, 3, 4, 5] rfl (by decide) (ci := 8) (q0 := 0) rfl rfl) rfl rfl hl.1 rfl (lv_room (Nat.le_of_ble_eq_true rfl)) (dt uX8_fits_0 28 rfl) ⟨Nat.zero_le _, Nat.zero_le _⟩) hA hP hD hS rfl (by decide) (fun H locs hP hD hS => ?_)
                refine lv_aload_n hx hb (dt uX8_fits_0 29 rfl) rfl (lv_at hl 0 rfl) ?_
                refine va_get (D := (dC, dI)) (ci := 8) (v := .ref ad_seenBook) (C := RX8) (T := TX8) (N := 24) hx hb hts inU8 hown hK hP 0 rfl rfl 18 (by decide) (hts _ tw_469) (fun _ h9 => h9) rfl (dt uX8_fits_0 30 rfl) ?_
                refine lv_iload hx hb (dt uX8_fits_0 31 rfl) (lv_at hl 4 rfl) ?_
                obtain ⟨hi_14, hf⟩ := vg_some hf
                refine va_iald hx hb hK hP 7 0 rfl rfl hi_14 (dt uX8_fits_0 32 rfl) ?_
                have hJ63 : ∀ (y0_15 : Int32) (H : Heap) (locs : List Loc) (ls : Array Slot), fX8_fits_J63 a_seenIs x4_7 (fun z23_0 z23_1 => fX8_fits_L23 N a_books a_numberA a_numberB a_now a_seenDays a_seenBook a_seenIs v_seen q_1 x1_3 x2_4 (fun z8_0 z8_1 => fX8_fits_L8 N a_books a_numberA a_numberB a_now a_seenDays a_seenBook a_seenIs v_seen q_1 n8 z8_0 z8_1) n23 z23_0 z23_1) y0_15 = some q0 → va_P (dC, dI) vwCl [(ad0, oX8 v_trace ad_text v_typed ad_books ad_numberA ad_numberB ad_draftTouches v_draftOne v_oneTold v_at v_start v_sort v_value v_fault ad_now ad_isKept ad_near ad_seenDays ad_seenBook ad_seenIs v_seen v_sets v_inEach v_inSome), (ad_books, .inl (cI, 2, .inl a_books)), (ad_numberA, .inl (cI, 12, .inl a_numberA)), (ad_numberB, .inl (cI, 12, .inl a_numberB)), (ad_now, .inl (cI, 498, .inl a_now)), (ad_near, .inl (cI, 6, .inl q_1)), (ad_seenDays, .inl (cI, 6, .inl a_seenDays)), (ad_seenBook, .inl (cI, 6, .inl a_seenBook)), (ad_seenIs, .inl (cI, 6, .inl a_seenIs))] H → va_D A [(ad0, oX8 v_trace ad_text v_typed ad_books ad_numberA ad_numberB ad_draftTouches v_draftOne v_oneTold v_at v_start v_sort v_value v_fault ad_now ad_isKept ad_near ad_seenDays ad_seenBook ad_seenIs v_seen v_sets v_inEach v_inSome), (ad_books, .inl (cI, 2, .inl a_books)), (ad_numberA, .inl (cI, 12, .inl a_numberA)), (ad_numberB, .inl (cI, 12, .inl a_numberB)), (ad_now, .inl (cI, 498, .inl a_now)), (ad_near, .inl (cI, 6, .inl q_1)), (ad_seenDays, .inl (cI, 6, .inl a_seenDays)), (ad_seenBook, .inl (cI, 6, .inl a_seenBook)), (ad_seenIs, .inl (cI, 6, .inl a_seenIs))] → va_S A s.heap H locs → lv_has ls 5 [(0, .ref ad0), (1, .int x1_3), (2, .int x2_4), (4, .int x4_7)] → W p l e rX8_fits s m args below meth c H locs 0 0 Q (F0 m 63 ls [.int y0_15]) := by
                  intro y0_15 H locs ls hf hP hD hS hl
                  unfold fX8_fits_J63 at hf
                  refine lv_aload_n hx hb (dt uX8_fits_0 37 rfl) rfl (lv_at hl 0 rfl) ?_
                  refine va_get (D := (dC, dI)) (ci := 8) (v := .ref ad_seenIs) (C := RX8) (T := TX8) (N := 24) hx hb hts inU8 hown hK hP 0 rfl rfl 19 (by decide) (hts _ tw_470) (fun _ h9 => h9) rfl (dt uX8_fits_0 38 rfl) ?_
                  refine lv_iload hx hb (dt uX8_fits_0 39 rfl) (lv_at hl 3 rfl) ?_
                  obtain ⟨hi_16, hf⟩ := vg_some hf
                  refine va_iald hx hb hK hP 8 0 rfl rfl hi_16 (dt uX8_fits_0 40 rfl) ?_
                  refine lv_icmp_ne (tgt := 77) hx hb (dt uX8_fits_0 41 rfl) (by decide) (fun c_17 => ?_) (fun c_17 => ?_)
                  · have hf := vif_f c_17 hf
                    refine lv_iconst (v := (0 : Int32)) hx hb (dt uX8_fits_0 44 rfl) (by decide) ?_
                    refine lv_istore_n (lv' := [(3, .int (0 : Int32)), (0, .ref ad0), (1, .int x1_3), (2, .int x2_4), (4, .int x4_7)]) hx hb (dt uX8_fits_0 45 rfl) rfl hl (by decide) rfl (fun ls hl => ?_)
                    refine lv_iinc (v := x4_7 + 1) (lv' := [(4, .int (x4_7 + 1)), (3, .int (0 : Int32)), (0, .ref ad0), (1, .int x1_3), (2, .int x2_4)]) hx hb (dt uX8_fits_0 46 rfl) hl (k := 4) rfl rfl (by decide) rfl (fun ls hl => ?_)
                    refine lv_goto (tgt := 23) hx hb (dt uX8_fits_0 47 rfl) (by decide) ?_
                    exact ih23 (0 : Int32) (x4_7 + 1) _ _ _ hf hP hD hS (lv_sub hl [2, 3, 4, 1, 0] rfl)
                  · have hf := vif_t c_17 hf
                    refine lv_iconst (v := (1 : Int32)) hx hb (dt uX8_fits_0 42 rfl) (by decide) ?_
                    refine lv_goto (tgt := 78) hx hb (dt uX8_fits_0 43 rfl) (by decide) ?_
                    refine lv_istore_n (lv' := [(3, .int (1 : Int32)), (0, .ref ad0), (1, .int x1_3), (2, .int x2_4), (4, .int x4_7)]) hx hb (dt uX8_fits_0 45 rfl) rfl hl (by decide) rfl (fun ls hl => ?_)
                    refine lv_iinc (v := x4_7 + 1) (lv' := [(4, .int (x4_7 + 1)), (3, .int (1 : Int32)), (0, .ref ad0), (1, .int x1_3), (2, .int x2_4)]) hx hb (dt uX8_fits_0 46 rfl) hl (k := 4) rfl rfl (by decide) rfl (fun ls hl => ?_)
                    refine lv_goto (tgt := 23) hx hb (dt uX8_fits_0 47 rfl) (by decide) ?_
                    exact ih23 (1 : Int32) (x4_7 + 1) _ _ _ hf hP hD hS (lv_sub hl [2, 3, 4, 1, 0] rfl)
                refine lv_icmp_ne (tgt := 62) hx hb (dt uX8_fits_0 33 rfl) (by decide) (fun c_18 => ?_) (fun c_18 => ?_)
                · have hf := vif_f c_18 hf
                  refine lv_iconst (v := (0 : Int32)) hx hb (dt uX8_fits_0 36 rfl) (by decide) ?_
                  exact hJ63 (0 : Int32) _ _ _ hf hP hD hS (lv_sub hl [0, 1, 2, 4] rfl)
                · have hf := vif_t c_18 hf
                  refine lv_iconst (v := (1 : Int32)) hx hb (dt uX8_fits_0 34 rfl) (by decide) ?_
                  refine lv_goto (tgt := 63) hx hb (dt uX8_fits_0 35 rfl) (by decide) ?_
                  exact hJ63 (1 : Int32) _ _ _ hf hP hD hS (lv_sub hl [0, 1, 2, 4] rfl)
        exact hL23 N (1 : Int32) (0 : Int32) _ _ _ hf hP hD hS (lv_sub hl [2, 3, 4, 1, 0] rfl)
  exact hL8 N (0 : Int32) (0 : Int32) _ _ _ hf hP hD hS (lv_sub hl [2, 1, 0] rfl)
abbrev rX8_isHidden : Room := { frames := 0, cells := 0, slots := 0, locals := 0 }
abbrev wX8_isHidden : List Cond := Cond.code yX8_isHidden cX8_isHidden 2 (some .int) :: VT
set_option maxHeartbeats 4000000 in
set_option maxRecDepth 100000 in
theorem kX8_isHidden (p1 : Int32) (p2 : Int32) (q0 : Int32) (hf : fX8_isHidden p1 p2 = some q0) : Ki l yX8_isHidden wX8_isHidden rX8_isHidden (dC, dI) (vTy cI cJ cB cZ) [.int p1, .int p2] [] [] q0 := by
  refine Ki.mk (cc := cX8_isHidden) (maxL := 2) (ret := some .int) (by decide) (Nat.le_of_ble_eq_true rfl) ?_
  intro p e s m args below meth c A Q H locs C hQ hP hD hS ls hl
  obtain ⟨hx, hb, -, hml, hts, hown, -, hK, hN, hA⟩ := id C
  have hown : s.vm.findClass RX8 = some m.cls := hown
  have hl : lv_has ls 2 [(0, .int p1), (1, .int p2)] := hl
  unfold fX8_isHidden at hf
  refine lv_iload_n hx hb (dt uX8_isHidden 0 rfl) rfl (lv_at hl 0 rfl) ?_
  refine lv_iload_n hx hb (dt uX8_isHidden 1 rfl) rfl (lv_at hl 1 rfl) ?_
  obtain ⟨hz_1, hf⟩ := vz_some hf
  refine lv_irem hx hb (dt uX8_isHidden 2 rfl) hz_1 ?_
  refine lv_if_ne (tgt := 10) hx hb (dt uX8_isHidden 3 rfl) (by decide) (fun c_2 => ?_) (fun c_2 => ?_)
  · have hf := vif_f c_2 hf
    refine lv_iconst (v := (0 : Int32)) hx hb (dt uX8_isHidden 6 rfl) (by decide) ?_
    have hf := Option.some.inj hf
    subst hf
    rw [hQ]
    exact vret_i C hP hD hS (dt uX8_isHidden 7 rfl)
  · have hf := vif_t c_2 hf
    refine lv_iconst (v := (1 : Int32)) hx hb (dt uX8_isHidden 4 rfl) (by decide) ?_
    refine lv_goto (tgt := 11) hx hb (dt uX8_isHidden 5 rfl) (by decide) ?_
    have hf := Option.some.inj hf
    subst hf
    rw [hQ]
    exact vret_i C hP hD hS (dt uX8_isHidden 7 rfl)
abbrev rX8_hidden : Room := { frames := 2, cells := 0, slots := 0, locals := 46 }
abbrev wX8_hidden : List Cond := Cond.code yX8_hidden cX8_hidden 11 (some .int) :: VT
set_option maxHeartbeats 4000000 in
set_option maxRecDepth 100000 in
theorem kX8_hidden (ad0 : Nat) (ad_text : Nat) (ad_books : Nat) (ad_numberA : Nat) (ad_numberB : Nat) (ad_draftTouches : Nat) (ad_now : Nat) (ad_isKept : Nat) (ad_near : Nat) (ad_seenDays : Nat) (ad_seenBook : Nat) (ad_seenIs : Nat) (v_trace : Int64) (v_typed : Int32) (v_draftOne : Int32) (v_oneTold : Int32) (v_at : Int32) (v_start : Int32) (v_sort : Int32) (v_value : Int32) (v_fault : Int32) (v_seen : Int32) (v_sets : Int32) (v_inEach : Int32) (v_inSome : Int32) (a_books : Nat → Int32) (a_numberA : Nat → Int32) (a_numberB : Nat → Int32) (p1 : Int32) (p2 : Int32) (N : Nat) (q0 : Int32) (hf : fX8_hidden N a_books a_numberA a_numberB p1 p2 = some q0) : Ki l yX8_hidden wX8_hidden rX8_hidden (dC, dI) (vTy cI cJ cB cZ) [.ref ad0, .int p1, .int p2] [(ad0, oX8 v_trace ad_text v_typed ad_books ad_numberA ad_numberB ad_draftTouches v_draftOne v_oneTold v_at v_start v_sort v_value v_fault ad_now ad_isKept ad_near ad_seenDays ad_seenBook ad_seenIs v_seen v_sets v_inEach v_inSome), (ad_books, .inl (cI, 2, .inl a_books)), (ad_numberA, .inl (cI, 12, .inl a_numberA)), (ad_numberB, .inl (cI, 12, .inl a_numberB))] [(ad0, oX8 v_trace ad_text v_typed ad_books ad_numberA ad_numberB ad_draftTouches v_draftOne v_oneTold v_at v_start v_sort v_value v_fault ad_now ad_isKept ad_near ad_seenDays ad_seenBook ad_seenIs v_seen v_sets v_inEach v_inSome), (ad_books, .inl (cI, 2, .inl a_books)), (ad_numberA, .inl (cI, 12, .inl a_numberA)), (ad_numberB, .inl (cI, 12, .inl a_numberB))] q0 := by
  refine Ki.mk (cc := cX8_hidden) (maxL := 11) (ret := some .int) (by decide) (Nat.le_of_ble_eq_true rfl) ?_
  intro p e s m args below meth c A Q H locs C hQ hP hD hS ls hl
  obtain ⟨hx, hb, -, hml, hts, hown, -, hK, hN, hA⟩ := id C
  have hown : s.vm.findClass RX8 = some m.cls := hown
  have hl : lv_has ls 11 [(0, .ref ad0), (1, .int p1), (2, .int p2)] := hl
  unfold fX8_hidden at hf
  refine lv_aload_n hx hb (dt uX8_hidden_0 0 rfl) rfl (lv_at hl 0 rfl) ?_
  refine lv_iload_n hx hb (dt uX8_hidden_0 1 rfl) rfl (lv_at hl 1 rfl) ?_
  refine vk_z0 [0, 1] (va_runV (As := [.int p1]) (rest := []) ⟨hx, hb, hml, hown, hts⟩ (kX8_isBook ad0 ad_text ad_books ad_numberA ad_numberB ad_draftTouches ad_now ad_isKept ad_near ad_seenDays ad_seenBook ad_seenIs v_trace v_typed v_draftOne v_oneTold v_at v_start v_sort v_value v_fault v_seen v_sets v_inEach v_inSome a_books p1 _ rfl H.size) (vcwV hts tw_403 tw_404 tw_405 tw_336 tw_402 hd_X8_isBook rfl rfl ⟨Nat.le_of_ble_eq_true rfl, Nat.le_of_ble_eq_true rfl⟩) (vpreV hK hN hP hD [0, 1] rfl (by decide) (ci := 8) (q0 := 0) rfl rfl) rfl rfl hl.1 rfl (lv_room (Nat.le_of_ble_eq_true rfl)) (dt uX8_hidden_0 2 rfl) ⟨Nat.zero_le _, Nat.zero_le _⟩) hA hP hD hS rfl (by decide) (fun hz_1 H locs hP hD hS => ?_)
  refine lv_if_eq (tgt := 20) hx hb (dt uX8_hidden_0 3 rfl) (by decide) (fun c_2 => ?_) (fun c_2 => ?_)
  · have hf := vif_t c_2 hf
    refine lv_iconst (v := (-1 : Int32)) hx hb (dt uX8_hidden_0 10 rfl) (by decide) ?_
    have hf := Option.some.inj hf
    subst hf
    rw [hQ]
    exact vret_i C hP hD hS (dt uX8_hidden_0 11 rfl)
  · have hf := vif_f c_2 hf
    refine lv_iload_n hx hb (dt uX8_hidden_0 4 rfl) rfl (lv_at hl 2 rfl) ?_
    refine lv_bipush (v := (9 : Int32)) hx hb (dt uX8_hidden_0 5 rfl) (by decide) ?_
    have hJ22 : ∀ (H : Heap) (locs : List Loc) (ls : Array Slot), fX8_hidden_J22 N a_numberA a_numberB p1 p2 = some q0 → va_P (dC, dI) vwCl [(ad0, oX8 v_trace ad_text v_typed ad_books ad_numberA ad_numberB ad_draftTouches v_draftOne v_oneTold v_at v_start v_sort v_value v_fault ad_now ad_isKept ad_near ad_seenDays ad_seenBook ad_seenIs v_seen v_sets v_inEach v_inSome), (ad_books, .inl (cI, 2, .inl a_books)), (ad_numberA, .inl (cI, 12, .inl a_numberA)), (ad_numberB, .inl (cI, 12, .inl a_numberB))] H → va_D A [(ad0, oX8 v_trace ad_text v_typed ad_books ad_numberA ad_numberB ad_draftTouches v_draftOne v_oneTold v_at v_start v_sort v_value v_fault ad_now ad_isKept ad_near ad_seenDays ad_seenBook ad_seenIs v_seen v_sets v_inEach v_inSome), (ad_books, .inl (cI, 2, .inl a_books)), (ad_numberA, .inl (cI, 12, .inl a_numberA)), (ad_numberB, .inl (cI, 12, .inl a_numberB))] → va_S A s.heap H locs → lv_has ls 11 [(0, .ref ad0), (1, .int p1), (2, .int p2)] → W p l e rX8_hidden s m args below meth c H locs 0 0 Q (F0 m 22 ls []) := by
      intro H locs ls hf hP hD hS hl
      unfold fX8_hidden_J22 at hf
      refine lv_aload_n hx hb (dt uX8_hidden_0 12 rfl) rfl (lv_at hl 0 rfl) ?_
      refine va_get (D := (dC, dI)) (ci := 8) (v := .ref ad_numberA) (C := RX8) (T := TX8) (N := 24) hx hb hts inU8 hown hK hP 0 rfl rfl 4 (by decide) (hts _ tw_367) (fun _ h9 => h9) rfl (dt uX8_hidden_0 13 rfl) ?_
      refine lv_iload_n hx hb (dt uX8_hidden_0 14 rfl) rfl (lv_at hl 1 rfl) ?_
      obtain ⟨hi_3, hf⟩ := vg_some hf
      refine va_iald hx hb hK hP 2 0 rfl rfl hi_3 (dt uX8_hidden_0 15 rfl) ?_
      refine lv_istore_n (lv' := [(3, .int (a_numberA p1.toNatClampNeg)), (0, .ref ad0), (1, .int p1), (2, .int p2)]) hx hb (dt uX8_hidden_0 16 rfl) rfl hl (by decide) rfl (fun ls hl => ?_)
      refine lv_iload_n hx hb (dt uX8_hidden_0 17 rfl) rfl (lv_at hl 0 rfl) ?_
      refine lv_iconst (v := (0 : Int32)) hx hb (dt uX8_hidden_0 18 rfl) (by decide) ?_
      obtain ⟨q_4, hq_5, hf⟩ := vbd hf
      refine vk_i0 [] (va_runS (As := [.int (a_numberA p1.toNatClampNeg), .int (0 : Int32)]) (rest := []) ⟨hx, hb, hml, hown, hts⟩ (kX8_figure (a_numberA p1.toNatClampNeg) (0 : Int32) N q_4 hq_5 H.size) (vcwS hts tw_389 tw_390 tw_336 tw_388 hd_X8_figure rfl rfl ⟨Nat.le_of_ble_eq_true rfl, Nat.le_of_ble_eq_true rfl⟩) (vpreS hK hN hP hD [] rfl (by decide)) rfl rfl hl.1 rfl (lv_room (Nat.le_of_ble_eq_true rfl)) (dt uX8_hidden_0 19 rfl) ⟨Nat.zero_le _, Nat.zero_le _⟩) hA hP hD hS rfl (by decide) (fun H locs hP hD hS => ?_)
      refine lv_istore (lv' := [(4, .int q_4), (3, .int (a_numberA p1.toNatClampNeg)), (0, .ref ad0), (1, .int p1), (2, .int p2)]) hx hb (dt uX8_hidden_0 20 rfl) hl (by decide) rfl (fun ls hl => ?_)
      refine lv_iload_n hx hb (dt uX8_hidden_0 21 rfl) rfl (lv_at hl 1 rfl) ?_
      refine lv_iconst (v := (1 : Int32)) hx hb (dt uX8_hidden_0 22 rfl) (by decide) ?_
      obtain ⟨q_6, hq_7, hf⟩ := vbd hf
      refine vk_i0 [] (va_runS (As := [.int (a_numberA p1.toNatClampNeg), .int (1 : Int32)]) (rest := []) ⟨hx, hb, hml, hown, hts⟩ (kX8_figure (a_numberA p1.toNatClampNeg) (1 : Int32) N q_6 hq_7 H.size) (vcwS hts tw_389 tw_390 tw_336 tw_388 hd_X8_figure rfl rfl ⟨Nat.le_of_ble_eq_true rfl, Nat.le_of_ble_eq_true rfl⟩) (vpreS hK hN hP hD [] rfl (by decide)) rfl rfl hl.1 rfl (lv_room (Nat.le_of_ble_eq_true rfl)) (dt uX8_hidden_0 23 rfl) ⟨Nat.zero_le _, Nat.zero_le _⟩) hA hP hD hS rfl (by decide) (fun H locs hP hD hS => ?_)
      refine lv_istore (lv' := [(5, .int q_6), (4, .int q_4), (3, .int (a_numberA p1.toNatClampNeg)), (0, .ref ad0), (1, .int p1), (2, .int p2)]) hx hb (dt uX8_hidden_0 24 rfl) hl (by decide) rfl (fun ls hl => ?_)
      refine lv_iload_n hx hb (dt uX8_hidden_0 25 rfl) rfl (lv_at hl 2 rfl) ?_
      refine lv_iconst (v := (2 : Int32)) hx hb (dt uX8_hidden_0 26 rfl) (by decide) ?_
      obtain ⟨q_8, hq_9, hf⟩ := vbd hf
      refine vk_i0 [] (va_runS (As := [.int (a_numberA p1.toNatClampNeg), .int (2 : Int32)]) (rest := []) ⟨hx, hb, hml, hown, hts⟩ (kX8_figure (a_numberA p1.toNatClampNeg) (2 : Int32) N q_8 hq_9 H.size) (vcwS hts tw_389 tw_390 tw_336 tw_388 hd_X8_figure rfl rfl ⟨Nat.le_of_ble_eq_true rfl, Nat.le_of_ble_eq_true rfl⟩) (vpreS hK hN hP hD [] rfl (by decide)) rfl rfl hl.1 rfl (lv_room (Nat.le_of_ble_eq_true rfl)) (dt uX8_hidden_0 27 rfl) ⟨Nat.zero_le _, Nat.zero_le _⟩) hA hP hD hS rfl (by decide) (fun H locs hP hD hS => ?_)
      refine lv_istore (lv' := [(6, .int q_8), (5, .int q_6), (4, .int q_4), (3, .int (a_numberA p1.toNatClampNeg)), (0, .ref ad0), (1, .int p1), (2, .int p2)]) hx hb (dt uX8_hidden_0 28 rfl) hl (by decide) rfl (fun ls hl => ?_)
      refine lv_bipush (v := (100 : Int32)) hx hb (dt uX8_hidden_0 29 rfl) (by decide) ?_
      refine lv_iload hx hb (dt uX8_hidden_0 30 rfl) (lv_at hl 0 rfl) ?_
      refine lv_imul hx hb (dt uX8_hidden_0 31 rfl) ?_
      refine lv_bipush (v := (10 : Int32)) hx hb (dt uX8_hidden_0 32 rfl) (by decide) ?_
      refine lv_iload hx hb (dt uX8_hidden_0 33 rfl) (lv_at hl 2 rfl) ?_
      refine lv_imul hx hb (dt uX8_hidden_0 34 rfl) ?_
      refine lv_iadd hx hb (dt uX8_hidden_0 35 rfl) ?_
      refine lv_iload hx hb (dt uX8_hidden_0 36 rfl) (lv_at hl 1 rfl) ?_
      refine lv_iadd hx hb (dt uX8_hidden_0 37 rfl) ?_
      refine lv_istore (lv' := [(7, .int ((((100 : Int32) * q_8) + ((10 : Int32) * q_4)) + q_6)), (6, .int q_8), (5, .int q_6), (4, .int q_4), (3, .int (a_numberA p1.toNatClampNeg)), (0, .ref ad0), (1, .int p1), (2, .int p2)]) hx hb (dt uX8_hidden_0 38 rfl) hl (by decide) rfl (fun ls hl => ?_)
      refine lv_bipush (v := (100 : Int32)) hx hb (dt uX8_hidden_0 39 rfl) (by decide) ?_
      refine lv_iload hx hb (dt uX8_hidden_0 40 rfl) (lv_at hl 2 rfl) ?_
      refine lv_imul hx hb (dt uX8_hidden_0 41 rfl) ?_
      refine lv_bipush (v := (10 : Int32)) hx hb (dt uX8_hidden_0 42 rfl) (by decide) ?_
      refine lv_iload hx hb (dt uX8_hidden_0 43 rfl) (lv_at hl 1 rfl) ?_
      refine lv_imul hx hb (dt uX8_hidden_0 44 rfl) ?_
      refine lv_iadd hx hb (dt uX8_hidden_0 45 rfl) ?_
      refine lv_iload hx hb (dt uX8_hidden_0 46 rfl) (lv_at hl 3 rfl) ?_
      refine lv_iadd hx hb (dt uX8_hidden_0 47 rfl) ?_
      refine lv_istore (lv' := [(8, .int ((((100 : Int32) * q_6) + ((10 : Int32) * q_8)) + q_4)), (7, .int ((((100 : Int32) * q_8) + ((10 : Int32) * q_4)) + q_6)), (6, .int q_8), (5, .int q_6), (4, .int q_4), (3, .int (a_numberA p1.toNatClampNeg)), (0, .ref ad0), (1, .int p1), (2, .int p2)]) hx hb (dt uX8_hidden_0 48 rfl) hl (by decide) rfl (fun ls hl => ?_)
      refine lv_bipush (v := (100 : Int32)) hx hb (dt uX8_hidden_0 49 rfl) (by decide) ?_
      refine lv_iload hx hb (dt uX8_hidden_0 50 rfl) (lv_at hl 4 rfl) ?_
      refine lv_imul hx hb (dt uX8_hidden_0 51 rfl) ?_
      refine lv_bipush (v := (10 : Int32)) hx hb (dt uX8_hidden_0 52 rfl) (by decide) ?_
      refine lv_iload hx hb (dt uX8_hidden_0 53 rfl) (lv_at hl 3 rfl) ?_
      refine lv_imul hx hb (dt uX8_hidden_0 54 rfl) ?_
      refine lv_iadd hx hb (dt uX8_hidden_0 55 rfl) ?_
      refine lv_iload hx hb (dt uX8_hidden_0 56 rfl) (lv_at hl 2 rfl) ?_
      refine lv_iadd hx hb (dt uX8_hidden_0 57 rfl) ?_
      refine lv_istore (lv' := [(9, .int ((((100 : Int32) * q_4) + ((10 : Int32) * q_6)) + q_8)), (8, .int ((((100 : Int32) * q_6) + ((10 : Int32) * q_8)) + q_4)), (7, .int ((((100 : Int32) * q_8) + ((10 : Int32) * q_4)) + q_6)), (6, .int q_8), (5, .int q_6), (4, .int q_4), (3, .int (a_numberA p1.toNatClampNeg)), (0, .ref ad0), (1, .int p1), (2, .int p2)]) hx hb (dt uX8_hidden_0 58 rfl) hl (by decide) rfl (fun ls hl => ?_)
      refine lv_bipush (v := (10 : Int32)) hx hb (dt uX8_hidden_0 59 rfl) (by decide) ?_
      refine lv_iload_n hx hb (dt uX8_hidden_1 0 rfl) rfl (lv_at hl 9 rfl) ?_
      obtain ⟨q_10, hq_11, hf⟩ := vbd hf
      refine vk_i0 [] (va_runS (As := [.int (10 : Int32), .int p2]) (rest := []) ⟨hx, hb, hml, hown, hts⟩ (kX8_isHidden (10 : Int32) p2 q_10 hq_11 H.size) (vcwS hts tw_472 tw_473 tw_336 tw_471 hd_X8_isHidden rfl rfl ⟨Nat.le_of_ble_eq_true rfl, Nat.le_of_ble_eq_true rfl⟩) (vpreS hK hN hP hD [] rfl (by decide)) rfl rfl hl.1 rfl (lv_room (Nat.le_of_ble_eq_true rfl)) (dt uX8_hidden_1 1 rfl) ⟨Nat.zero_le _, Nat.zero_le _⟩) hA hP hD hS rfl (by decide) (fun H locs hP hD hS => ?_)
      refine lv_istore (lv' := [(10, .int q_10), (9, .int ((((100 : Int32) * q_4) + ((10 : Int32) * q_6)) + q_8)), (8, .int ((((100 : Int32) * q_6) + ((10 : Int32) * q_8)) + q_4)), (7, .int ((((100 : Int32) * q_8) + ((10 : Int32) * q_4)) + q_6)), (6, .int q_8), (5, .int q_6), (4, .int q_4), (3, .int (a_numberA p1.toNatClampNeg)), (0, .ref ad0), (1, .int p1), (2, .int p2)]) hx hb (dt uX8_hidden_1 2 rfl) hl (by decide) rfl (fun ls hl => ?_)
      refine lv_iload hx hb (dt uX8_hidden_1 3 rfl) (lv_at hl 0 rfl) ?_
      refine lv_aload_n hx hb (dt uX8_hidden_1 4 rfl) rfl (lv_at hl 8 rfl) ?_
      refine lv_iload_n hx hb (dt uX8_hidden_1 5 rfl) rfl (lv_at hl 9 rfl) ?_
      obtain ⟨q_12, hq_13, hf⟩ := vbd hf
      refine vk_i0 [0, 2, 3] (va_runV (As := [.int p1]) (rest := [.int q_10]) ⟨hx, hb, hml, hown, hts⟩ (kX8_carries ad0 ad_text ad_books ad_numberA ad_numberB ad_draftTouches ad_now ad_isKept ad_near ad_seenDays ad_seenBook ad_seenIs v_trace v_typed v_draftOne v_oneTold v_at v_start v_sort v_value v_fault v_seen v_sets v_inEach v_inSome a_numberA a_numberB p1 N q_12 hq_13 H.size) (vcwV hts tw_411 tw_412 tw_413 tw_336 tw_410 hd_X8_carries rfl rfl ⟨Nat.le_of_ble_eq_true rfl, Nat.le_of_ble_eq_true rfl⟩) (vpreV hK hN hP hD [0, 2, 3] rfl (by decide) (ci := 8) (q0 := 0) rfl rfl) rfl rfl hl.1 rfl (lv_room (Nat.le_of_ble_eq_true rfl)) (dt uX8_hidden_1 6 rfl) ⟨Nat.zero_le _, Nat.zero_le _⟩) hA hP hD hS rfl (by decide) (fun H locs hP hD hS => ?_)
      refine lv_iconst (v := (1 : Int32)) hx hb (dt uX8_hidden_1 7 rfl) (by decide) ?_
      refine lv_iand hx hb (dt uX8_hidden_1 8 rfl) ?_
      refine lv_iconst (v := (1 : Int32)) hx hb (dt uX8_hidden_1 9 rfl) (by decide) ?_
      have hJ129 : ∀ (y1_16 : Int32) (H : Heap) (locs : List Loc) (ls : Array Slot), fX8_hidden_J129 N a_numberA a_numberB p1 p2 q_4 q_6 q_8 q_10 y1_16 = some q0 → va_P (dC, dI) vwCl [(ad0, oX8 v_trace ad_text v_typed ad_books ad_numberA ad_numberB ad_draftTouches v_draftOne v_oneTold v_at v_start v_sort v_value v_fault ad_now ad_isKept ad_near ad_seenDays ad_seenBook ad_seenIs v_seen v_sets v_inEach v_inSome), (ad_books, .inl (cI, 2, .inl a_books)), (ad_numberA, .inl (cI, 12, .inl a_numberA)), (ad_numberB, .inl (cI, 12, .inl a_numberB))] H → va_D A [(ad0, oX8 v_trace ad_text v_typed ad_books ad_numberA ad_numberB ad_draftTouches v_draftOne v_oneTold v_at v_start v_sort v_value v_fault ad_now ad_isKept ad_near ad_seenDays ad_seenBook ad_seenIs v_seen v_sets v_inEach v_inSome), (ad_books, .inl (cI, 2, .inl a_books)), (ad_numberA, .inl (cI, 12, .inl a_numberA)), (ad_numberB, .inl (cI, 12, .inl a_numberB))] → va_S A s.heap H locs → lv_has ls 11 [(0, .ref ad0), (1, .int p1), (2, .int p2), (3, .int (a_numberA p1.toNatClampNeg)), (7, .int ((((100 : Int32) * q_8) + ((10 : Int32) * q_4)) + q_6)), (8, .int ((((100 : Int32) * q_6) + ((10 : Int32) * q_8)) + q_4)), (9, .int ((((100 : Int32) * q_4) + ((10 : Int32) * q_6)) + q_8))] → W p l e rX8_hidden s m args below meth c H locs 0 0 Q (F0 m 129 ls [.int y1_16, .int q_10]) := by
        intro y1_16 H locs ls hf hP hD hS hl
        unfold fX8_hidden_J129 at hf
        refine lv_iadd hx hb (dt uX8_hidden_1 16 rfl) ?_
        refine lv_istore (lv' := [(10, .int (q_10 + y1_16)), (0, .ref ad0), (1, .int p1), (2, .int p2), (3, .int (a_numberA p1.toNatClampNeg)), (7, .int ((((100 : Int32) * q_8) + ((10 : Int32) * q_4)) + q_6)), (8, .int ((((100 : Int32) * q_6) + ((10 : Int32) * q_8)) + q_4)), (9, .int ((((100 : Int32) * q_4) + ((10 : Int32) * q_6)) + q_8))]) hx hb (dt uX8_hidden_1 17 rfl) hl (by decide) rfl (fun ls hl => ?_)
        refine lv_iload hx hb (dt uX8_hidden_1 18 rfl) (lv_at hl 0 rfl) ?_
        refine lv_aload_n hx hb (dt uX8_hidden_1 19 rfl) rfl (lv_at hl 1 rfl) ?_
        refine lv_iload_n hx hb (dt uX8_hidden_1 20 rfl) rfl (lv_at hl 2 rfl) ?_
        obtain ⟨q_17, hq_18, hf⟩ := vbd hf
        refine vk_i0 [0, 2, 3] (va_runV (As := [.int p1]) (rest := [.int (q_10 + y1_16)]) ⟨hx, hb, hml, hown, hts⟩ (kX8_carries ad0 ad_text ad_books ad_numberA ad_numberB ad_draftTouches ad_now ad_isKept ad_near ad_seenDays ad_seenBook ad_seenIs v_trace v_typed v_draftOne v_oneTold v_at v_start v_sort v_value v_fault v_seen v_sets v_inEach v_inSome a_numberA a_numberB p1 N q_17 hq_18 H.size) (vcwV hts tw_411 tw_412 tw_413 tw_336 tw_410 hd_X8_carries rfl rfl ⟨Nat.le_of_ble_eq_true rfl, Nat.le_of_ble_eq_true rfl⟩) (vpreV hK hN hP hD [0, 2, 3] rfl (by decide) (ci := 8) (q0 := 0) rfl rfl) rfl rfl hl.1 rfl (lv_room (Nat.le_of_ble_eq_true rfl)) (dt uX8_hidden_1 21 rfl) ⟨Nat.zero_le _, Nat.zero_le _⟩) hA hP hD hS rfl (by decide) (fun H locs hP hD hS => ?_)
        refine lv_iconst (v := (2 : Int32)) hx hb (dt uX8_hidden_1 22 rfl) (by decide) ?_
        refine lv_iand hx hb (dt uX8_hidden_1 23 rfl) ?_
        refine lv_iconst (v := (2 : Int32)) hx hb (dt uX8_hidden_1 24 rfl) (by decide) ?_
        have hJ155 : ∀ (y1_21 : Int32) (H : Heap) (locs : List Loc) (ls : Array Slot), fX8_hidden_J155 a_numberA p1 p2 q_4 q_6 q_8 q_10 y1_16 y1_21 = some q0 → va_P (dC, dI) vwCl [(ad0, oX8 v_trace ad_text v_typed ad_books ad_numberA ad_numberB ad_draftTouches v_draftOne v_oneTold v_at v_start v_sort v_value v_fault ad_now ad_isKept ad_near ad_seenDays ad_seenBook ad_seenIs v_seen v_sets v_inEach v_inSome), (ad_books, .inl (cI, 2, .inl a_books)), (ad_numberA, .inl (cI, 12, .inl a_numberA)), (ad_numberB, .inl (cI, 12, .inl a_numberB))] H → va_D A [(ad0, oX8 v_trace ad_text v_typed ad_books ad_numberA ad_numberB ad_draftTouches v_draftOne v_oneTold v_at v_start v_sort v_value v_fault ad_now ad_isKept ad_near ad_seenDays ad_seenBook ad_seenIs v_seen v_sets v_inEach v_inSome), (ad_books, .inl (cI, 2, .inl a_books)), (ad_numberA, .inl (cI, 12, .inl a_numberA)), (ad_numberB, .inl (cI, 12, .inl a_numberB))] → va_S A s.heap H locs → lv_has ls 11 [(2, .int p2), (3, .int (a_numberA p1.toNatClampNeg)), (7, .int ((((100 : Int32) * q_8) + ((10 : Int32) * q_4)) + q_6)), (8, .int ((((100 : Int32) * q_6) + ((10 : Int32) * q_8)) + q_4)), (9, .int ((((100 : Int32) * q_4) + ((10 : Int32) * q_6)) + q_8))] → W p l e rX8_hidden s m args below meth c H locs 0 0 Q (F0 m 155 ls [.int y1_21, .int (q_10 + y1_16)]) := by
          intro y1_21 H locs ls hf hP hD hS hl
          unfold fX8_hidden_J155 at hf
          refine lv_iadd hx hb (dt uX8_hidden_1 31 rfl) ?_
          refine lv_istore (lv' := [(10, .int ((q_10 + y1_16) + y1_21)), (2, .int p2), (3, .int (a_numberA p1.toNatClampNeg)), (7, .int ((((100 : Int32) * q_8) + ((10 : Int32) * q_4)) + q_6)), (8, .int ((((100 : Int32) * q_6) + ((10 : Int32) * q_8)) + q_4)), (9, .int ((((100 : Int32) * q_4) + ((10 : Int32) * q_6)) + q_8))]) hx hb (dt uX8_hidden_1 32 rfl) hl (by decide) rfl (fun ls hl => ?_)
          refine lv_iload hx hb (dt uX8_hidden_1 33 rfl) (lv_at hl 0 rfl) ?_
          refine lv_iload hx hb (dt uX8_hidden_1 34 rfl) (lv_at hl 3 rfl) ?_
          refine lv_iload_n hx hb (dt uX8_hidden_1 35 rfl) rfl (lv_at hl 2 rfl) ?_
          have hJ178 : ∀ (y1_24 : Int32) (H : Heap) (locs : List Loc) (ls : Array Slot), fX8_hidden_J178 a_numberA p1 p2 q_4 q_6 q_8 q_10 y1_16 y1_21 y1_24 = some q0 → va_P (dC, dI) vwCl [(ad0, oX8 v_trace ad_text v_typed ad_books ad_numberA ad_numberB ad_draftTouches v_draftOne v_oneTold v_at v_start v_sort v_value v_fault ad_now ad_isKept ad_near ad_seenDays ad_seenBook ad_seenIs v_seen v_sets v_inEach v_inSome), (ad_books, .inl (cI, 2, .inl a_books)), (ad_numberA, .inl (cI, 12, .inl a_numberA)), (ad_numberB, .inl (cI, 12, .inl a_numberB))] H → va_D A [(ad0, oX8 v_trace ad_text v_typed ad_books ad_numberA ad_numberB ad_draftTouches v_draftOne v_oneTold v_at v_start v_sort v_value v_fault ad_now ad_isKept ad_near ad_seenDays ad_seenBook ad_seenIs v_seen v_sets v_inEach v_inSome), (ad_books, .inl (cI, 2, .inl a_books)), (ad_numberA, .inl (cI, 12, .inl a_numberA)), (ad_numberB, .inl (cI, 12, .inl a_numberB))] → va_S A s.heap H locs → lv_has ls 11 [(2, .int p2), (3, .int (a_numberA p1.toNatClampNeg)), (8, .int ((((100 : Int32) * q_6) + ((10 : Int32) * q_8)) + q_4)), (9, .int ((((100 : Int32) * q_4) + ((10 : Int32) * q_6)) + q_8))] → W p l e rX8_hidden s m args below meth c H locs 0 0 Q (F0 m 178 ls [.int y1_24, .int ((q_10 + y1_16) + y1_21)]) := by
            intro y1_24 H locs ls hf hP hD hS hl
            unfold fX8_hidden_J178 at hf
            refine lv_iadd hx hb (dt uX8_hidden_1 44 rfl) ?_
            refine lv_istore (lv' := [(10, .int (((q_10 + y1_16) + y1_21) + y1_24)), (2, .int p2), (3, .int (a_numberA p1.toNatClampNeg)), (8, .int ((((100 : Int32) * q_6) + ((10 : Int32) * q_8)) + q_4)), (9, .int ((((100 : Int32) * q_4) + ((10 : Int32) * q_6)) + q_8))]) hx hb (dt uX8_hidden_1 45 rfl) hl (by decide) rfl (fun ls hl => ?_)
            refine lv_iload hx hb (dt uX8_hidden_1 46 rfl) (lv_at hl 0 rfl) ?_
            refine lv_iload hx hb (dt uX8_hidden_1 47 rfl) (lv_at hl 3 rfl) ?_
            refine lv_iload_n hx hb (dt uX8_hidden_1 48 rfl) rfl (lv_at hl 2 rfl) ?_
            have hJ201 : ∀ (y1_27 : Int32) (H : Heap) (locs : List Loc) (ls : Array Slot), fX8_hidden_J201 a_numberA p1 p2 q_4 q_6 q_8 q_10 y1_16 y1_21 y1_24 y1_27 = some q0 → va_P (dC, dI) vwCl [(ad0, oX8 v_trace ad_text v_typed ad_books ad_numberA ad_numberB ad_draftTouches v_draftOne v_oneTold v_at v_start v_sort v_value v_fault ad_now ad_isKept ad_near ad_seenDays ad_seenBook ad_seenIs v_seen v_sets v_inEach v_inSome), (ad_books, .inl (cI, 2, .inl a_books)), (ad_numberA, .inl (cI, 12, .inl a_numberA)), (ad_numberB, .inl (cI, 12, .inl a_numberB))] H → va_D A [(ad0, oX8 v_trace ad_text v_typed ad_books ad_numberA ad_numberB ad_draftTouches v_draftOne v_oneTold v_at v_start v_sort v_value v_fault ad_now ad_isKept ad_near ad_seenDays ad_seenBook ad_seenIs v_seen v_sets v_inEach v_inSome), (ad_books, .inl (cI, 2, .inl a_books)), (ad_numberA, .inl (cI, 12, .inl a_numberA)), (ad_numberB, .inl (cI, 12, .inl a_numberB))] → va_S A s.heap H locs → lv_has ls 11 [(2, .int p2), (3, .int (a_numberA p1.toNatClampNeg)), (9, .int ((((100 : Int32) * q_4) + ((10 : Int32) * q_6)) + q_8))] → W p l e rX8_hidden s m args below meth c H locs 0 0 Q (F0 m 201 ls [.int y1_27, .int (((q_10 + y1_16) + y1_21) + y1_24)]) := by
              intro y1_27 H locs ls hf hP hD hS hl
              unfold fX8_hidden_J201 at hf
              refine lv_iadd hx hb (dt uX8_hidden_1 57 rfl) ?_
              refine lv_istore (lv' := [(10, .int ((((q_10 + y1_16) + y1_21) + y1_24) + y1_27)), (2, .int p2), (3, .int (a_numberA p1.toNatClampNeg)), (9, .int ((((100 : Int32) * q_4) + ((10 : Int32) * q_6)) + q_8))]) hx hb (dt uX8_hidden_1 58 rfl) hl (by decide) rfl (fun ls hl => ?_)
              refine lv_iload hx hb (dt uX8_hidden_1 59 rfl) (lv_at hl 0 rfl) ?_
              refine lv_iload hx hb (dt uX8_hidden_2 0 rfl) (lv_at hl 3 rfl) ?_
              refine lv_iload_n hx hb (dt uX8_hidden_2 1 rfl) rfl (lv_at hl 2 rfl) ?_
              refine lv_icmp_eq (tgt := 223) hx hb (dt uX8_hidden_2 2 rfl) (by decide) (fun c_28 => ?_) (fun c_28 => ?_)
              · have hf := vif_t c_28 hf
                refine lv_iconst (v := (0 : Int32)) hx hb (dt uX8_hidden_2 9 rfl) (by decide) ?_
                refine lv_iadd hx hb (dt uX8_hidden_2 10 rfl) ?_
                refine lv_istore (lv' := [(10, .int (((((q_10 + y1_16) + y1_21) + y1_24) + y1_27) + (0 : Int32))), (2, .int p2), (3, .int (a_numberA p1.toNatClampNeg)), (9, .int ((((100 : Int32) * q_4) + ((10 : Int32) * q_6)) + q_8))]) hx hb (dt uX8_hidden_2 11 rfl) hl (by decide) rfl (fun ls hl => ?_)
                refine lv_iload hx hb (dt uX8_hidden_2 12 rfl) (lv_at hl 0 rfl) ?_
                have hf := Option.some.inj hf
                subst hf
                rw [hQ]
                exact vret_i C hP hD hS (dt uX8_hidden_2 13 rfl)
              · have hf := vif_f c_28 hf
                refine lv_iload hx hb (dt uX8_hidden_2 3 rfl) (lv_at hl 3 rfl) ?_
                refine lv_iload_n hx hb (dt uX8_hidden_2 4 rfl) rfl (lv_at hl 2 rfl) ?_
                refine lv_isub hx hb (dt uX8_hidden_2 5 rfl) ?_
                refine lv_iload_n hx hb (dt uX8_hidden_2 6 rfl) rfl (lv_at hl 1 rfl) ?_
                obtain ⟨q_29, hq_30, hf⟩ := vbd hf
                refine vk_i0 [] (va_runS (As := [.int (((((100 : Int32) * q_4) + ((10 : Int32) * q_6)) + q_8) - (a_numberA p1.toNatClampNeg)), .int p2]) (rest := [.int ((((q_10 + y1_16) + y1_21) + y1_24) + y1_27)]) ⟨hx, hb, hml, hown, hts⟩ (kX8_isHidden (((((100 : Int32) * q_4) + ((10 : Int32) * q_6)) + q_8) - (a_numberA p1.toNatClampNeg)) p2 q_29 hq_30 H.size) (vcwS hts tw_472 tw_473 tw_336 tw_471 hd_X8_isHidden rfl rfl ⟨Nat.le_of_ble_eq_true rfl, Nat.le_of_ble_eq_true rfl⟩) (vpreS hK hN hP hD [] rfl (by decide)) rfl rfl hl.1 rfl (lv_room (Nat.le_of_ble_eq_true rfl)) (dt uX8_hidden_2 7 rfl) ⟨Nat.zero_le _, Nat.zero_le _⟩) hA hP hD hS rfl (by decide) (fun H locs hP hD hS => ?_)
                refine lv_goto (tgt := 224) hx hb (dt uX8_hidden_2 8 rfl) (by decide) ?_
                refine lv_iadd hx hb (dt uX8_hidden_2 10 rfl) ?_
                refine lv_istore (lv' := [(10, .int (((((q_10 + y1_16) + y1_21) + y1_24) + y1_27) + q_29)), (2, .int p2), (3, .int (a_numberA p1.toNatClampNeg)), (9, .int ((((100 : Int32) * q_4) + ((10 : Int32) * q_6)) + q_8))]) hx hb (dt uX8_hidden_2 11 rfl) hl (by decide) rfl (fun ls hl => ?_)
                refine lv_iload hx hb (dt uX8_hidden_2 12 rfl) (lv_at hl 0 rfl) ?_
                have hf := Option.some.inj hf
                subst hf
                rw [hQ]
                exact vret_i C hP hD hS (dt uX8_hidden_2 13 rfl)
            refine lv_icmp_eq (tgt := 200) hx hb (dt uX8_hidden_1 49 rfl) (by decide) (fun c_31 => ?_) (fun c_31 => ?_)
            · have hf := vif_t c_31 hf
              refine lv_iconst (v := (0 : Int32)) hx hb (dt uX8_hidden_1 56 rfl) (by decide) ?_
              exact hJ201 (0 : Int32) _ _ _ hf hP hD hS (lv_sub hl [1, 2, 4] rfl)
            · have hf := vif_f c_31 hf
              refine lv_iload hx hb (dt uX8_hidden_1 50 rfl) (lv_at hl 3 rfl) ?_
              refine lv_iload_n hx hb (dt uX8_hidden_1 51 rfl) rfl (lv_at hl 2 rfl) ?_
              refine lv_isub hx hb (dt uX8_hidden_1 52 rfl) ?_
              refine lv_iload_n hx hb (dt uX8_hidden_1 53 rfl) rfl (lv_at hl 1 rfl) ?_
              obtain ⟨q_32, hq_33, hf⟩ := vbd hf
              refine vk_i0 [] (va_runS (As := [.int (((((100 : Int32) * q_6) + ((10 : Int32) * q_8)) + q_4) - (a_numberA p1.toNatClampNeg)), .int p2]) (rest := [.int (((q_10 + y1_16) + y1_21) + y1_24)]) ⟨hx, hb, hml, hown, hts⟩ (kX8_isHidden (((((100 : Int32) * q_6) + ((10 : Int32) * q_8)) + q_4) - (a_numberA p1.toNatClampNeg)) p2 q_32 hq_33 H.size) (vcwS hts tw_472 tw_473 tw_336 tw_471 hd_X8_isHidden rfl rfl ⟨Nat.le_of_ble_eq_true rfl, Nat.le_of_ble_eq_true rfl⟩) (vpreS hK hN hP hD [] rfl (by decide)) rfl rfl hl.1 rfl (lv_room (Nat.le_of_ble_eq_true rfl)) (dt uX8_hidden_1 54 rfl) ⟨Nat.zero_le _, Nat.zero_le _⟩) hA hP hD hS rfl (by decide) (fun H locs hP hD hS => ?_)
              refine lv_goto (tgt := 201) hx hb (dt uX8_hidden_1 55 rfl) (by decide) ?_
              exact hJ201 q_32 _ _ _ hf hP hD hS (lv_sub hl [1, 2, 4] rfl)
          refine lv_icmp_eq (tgt := 177) hx hb (dt uX8_hidden_1 36 rfl) (by decide) (fun c_34 => ?_) (fun c_34 => ?_)
          · have hf := vif_t c_34 hf
            refine lv_iconst (v := (0 : Int32)) hx hb (dt uX8_hidden_1 43 rfl) (by decide) ?_
            exact hJ178 (0 : Int32) _ _ _ hf hP hD hS (lv_sub hl [1, 2, 4, 5] rfl)
          · have hf := vif_f c_34 hf
            refine lv_iload hx hb (dt uX8_hidden_1 37 rfl) (lv_at hl 3 rfl) ?_
            refine lv_iload_n hx hb (dt uX8_hidden_1 38 rfl) rfl (lv_at hl 2 rfl) ?_
            refine lv_isub hx hb (dt uX8_hidden_1 39 rfl) ?_
            refine lv_iload_n hx hb (dt uX8_hidden_1 40 rfl) rfl (lv_at hl 1 rfl) ?_
            obtain ⟨q_35, hq_36, hf⟩ := vbd hf
            refine vk_i0 [] (va_runS (As := [.int (((((100 : Int32) * q_8) + ((10 : Int32) * q_4)) + q_6) - (a_numberA p1.toNatClampNeg)), .int p2]) (rest := [.int ((q_10 + y1_16) + y1_21)]) ⟨hx, hb, hml, hown, hts⟩ (kX8_isHidden (((((100 : Int32) * q_8) + ((10 : Int32) * q_4)) + q_6) - (a_numberA p1.toNatClampNeg)) p2 q_35 hq_36 H.size) (vcwS hts tw_472 tw_473 tw_336 tw_471 hd_X8_isHidden rfl rfl ⟨Nat.le_of_ble_eq_true rfl, Nat.le_of_ble_eq_true rfl⟩) (vpreS hK hN hP hD [] rfl (by decide)) rfl rfl hl.1 rfl (lv_room (Nat.le_of_ble_eq_true rfl)) (dt uX8_hidden_1 41 rfl) ⟨Nat.zero_le _, Nat.zero_le _⟩) hA hP hD hS rfl (by decide) (fun H locs hP hD hS => ?_)
            refine lv_goto (tgt := 178) hx hb (dt uX8_hidden_1 42 rfl) (by decide) ?_
            exact hJ178 q_35 _ _ _ hf hP hD hS (lv_sub hl [1, 2, 4, 5] rfl)
        refine lv_icmp_ne (tgt := 154) hx hb (dt uX8_hidden_1 25 rfl) (by decide) (fun c_37 => ?_) (fun c_37 => ?_)
        · have hf := vif_f c_37 hf
          refine lv_iconst (v := (0 : Int32)) hx hb (dt uX8_hidden_1 30 rfl) (by decide) ?_
          exact hJ155 (0 : Int32) _ _ _ hf hP hD hS (lv_sub hl [3, 4, 5, 6, 7] rfl)
        · have hf := vif_t c_37 hf
          refine lv_bipush (v := (100 : Int32)) hx hb (dt uX8_hidden_1 26 rfl) (by decide) ?_
          refine lv_iload_n hx hb (dt uX8_hidden_1 27 rfl) rfl (lv_at hl 3 rfl) ?_
          obtain ⟨q_38, hq_39, hf⟩ := vbd hf
          refine vk_i0 [] (va_runS (As := [.int (100 : Int32), .int p2]) (rest := [.int (q_10 + y1_16)]) ⟨hx, hb, hml, hown, hts⟩ (kX8_isHidden (100 : Int32) p2 q_38 hq_39 H.size) (vcwS hts tw_472 tw_473 tw_336 tw_471 hd_X8_isHidden rfl rfl ⟨Nat.le_of_ble_eq_true rfl, Nat.le_of_ble_eq_true rfl⟩) (vpreS hK hN hP hD [] rfl (by decide)) rfl rfl hl.1 rfl (lv_room (Nat.le_of_ble_eq_true rfl)) (dt uX8_hidden_1 28 rfl) ⟨Nat.zero_le _, Nat.zero_le _⟩) hA hP hD hS rfl (by decide) (fun H locs hP hD hS => ?_)
          refine lv_goto (tgt := 155) hx hb (dt uX8_hidden_1 29 rfl) (by decide) ?_
          exact hJ155 q_38 _ _ _ hf hP hD hS (lv_sub hl [3, 4, 5, 6, 7] rfl)
      refine lv_icmp_ne (tgt := 128) hx hb (dt uX8_hidden_1 10 rfl) (by decide) (fun c_40 => ?_) (fun c_40 => ?_)
      · have hf := vif_f c_40 hf
        refine lv_iconst (v := (0 : Int32)) hx hb (dt uX8_hidden_1 15 rfl) (by decide) ?_
        exact hJ129 (0 : Int32) _ _ _ hf hP hD hS (lv_sub hl [8, 9, 10, 7, 3, 2, 1] rfl)
      · have hf := vif_t c_40 hf
        refine lv_bipush (v := (10 : Int32)) hx hb (dt uX8_hidden_1 11 rfl) (by decide) ?_
        refine lv_iload_n hx hb (dt uX8_hidden_1 12 rfl) rfl (lv_at hl 10 rfl) ?_
        obtain ⟨q_41, hq_42, hf⟩ := vbd hf
        refine vk_i0 [] (va_runS (As := [.int (10 : Int32), .int p2]) (rest := [.int q_10]) ⟨hx, hb, hml, hown, hts⟩ (kX8_isHidden (10 : Int32) p2 q_41 hq_42 H.size) (vcwS hts tw_472 tw_473 tw_336 tw_471 hd_X8_isHidden rfl rfl ⟨Nat.le_of_ble_eq_true rfl, Nat.le_of_ble_eq_true rfl⟩) (vpreS hK hN hP hD [] rfl (by decide)) rfl rfl hl.1 rfl (lv_room (Nat.le_of_ble_eq_true rfl)) (dt uX8_hidden_1 13 rfl) ⟨Nat.zero_le _, Nat.zero_le _⟩) hA hP hD hS rfl (by decide) (fun H locs hP hD hS => ?_)
        refine lv_goto (tgt := 129) hx hb (dt uX8_hidden_1 14 rfl) (by decide) ?_
        exact hJ129 q_41 _ _ _ hf hP hD hS (lv_sub hl [8, 9, 10, 7, 3, 2, 1] rfl)
    refine lv_icmp_eq (tgt := 22) hx hb (dt uX8_hidden_0 6 rfl) (by decide) (fun c_43 => ?_) (fun c_43 => ?_)
    · have hf := vif_t c_43 hf
      exact hJ22  _ _ _ hf hP hD hS (lv_sub hl [0, 1, 2] rfl)
    · have hf := vif_f c_43 hf
      refine lv_iload_n hx hb (dt uX8_hidden_0 7 rfl) rfl (lv_at hl 2 rfl) ?_
      refine lv_bipush (v := (11 : Int32)) hx hb (dt uX8_hidden_0 8 rfl) (by decide) ?_
      refine lv_icmp_eq (tgt := 22) hx hb (dt uX8_hidden_0 9 rfl) (by decide) (fun c_44 => ?_) (fun c_44 => ?_)
      · have hf := vif_t c_44 hf
        exact hJ22  _ _ _ hf hP hD hS (lv_sub hl [0, 1, 2] rfl)
      · have hf := vif_f c_44 hf
        refine lv_iconst (v := (-1 : Int32)) hx hb (dt uX8_hidden_0 10 rfl) (by decide) ?_
        have hf := Option.some.inj hf
        subst hf
        rw [hQ]
        exact vret_i C hP hD hS (dt uX8_hidden_0 11 rfl)
abbrev rX8_look : Room := { frames := 2, cells := 0, slots := 0, locals := 46 }
abbrev wX8_look : List Cond := Cond.code yX8_look cX8_look 8 none :: VT
set_option maxHeartbeats 4000000 in
set_option maxRecDepth 100000 in
theorem kX8_look (ad0 : Nat) (ad_text : Nat) (ad_books : Nat) (ad_numberA : Nat) (ad_numberB : Nat) (ad_draftTouches : Nat) (ad_now : Nat) (ad_isKept : Nat) (ad_near : Nat) (ad_seenDays : Nat) (ad_seenBook : Nat) (ad_seenIs : Nat) (v_trace : Int64) (v_typed : Int32) (v_draftOne : Int32) (v_oneTold : Int32) (v_at : Int32) (v_start : Int32) (v_sort : Int32) (v_value : Int32) (v_fault : Int32) (v_seen : Int32) (v_sets : Int32) (v_inEach : Int32) (v_inSome : Int32) (a_books : Nat → Int32) (a_numberA : Nat → Int32) (a_numberB : Nat → Int32) (p1 : Int32) (p2 : Int32) (N : Nat) (q0 : (Int32 × Int32 × Int32)) (hf : fX8_look N a_books a_numberA a_numberB v_sets v_inEach v_inSome p1 p2 = some q0) : Kv l yX8_look wX8_look rX8_look (dC, dI) (vTy cI cJ cB cZ) [.ref ad0, .int p1, .int p2] [(ad0, oX8 v_trace ad_text v_typed ad_books ad_numberA ad_numberB ad_draftTouches v_draftOne v_oneTold v_at v_start v_sort v_value v_fault ad_now ad_isKept ad_near ad_seenDays ad_seenBook ad_seenIs v_seen v_sets v_inEach v_inSome), (ad_books, .inl (cI, 2, .inl a_books)), (ad_numberA, .inl (cI, 12, .inl a_numberA)), (ad_numberB, .inl (cI, 12, .inl a_numberB))] [(ad0, oX8 v_trace ad_text v_typed ad_books ad_numberA ad_numberB ad_draftTouches v_draftOne v_oneTold v_at v_start v_sort v_value v_fault ad_now ad_isKept ad_near ad_seenDays ad_seenBook ad_seenIs v_seen q0.1 q0.2.1 q0.2.2), (ad_books, .inl (cI, 2, .inl a_books)), (ad_numberA, .inl (cI, 12, .inl a_numberA)), (ad_numberB, .inl (cI, 12, .inl a_numberB))] := by
  refine Kv.mk (cc := cX8_look) (maxL := 8) (ret := none) (by decide) (Nat.le_of_ble_eq_true rfl) ?_
  intro p e s m args below meth c A Q H locs C hQ hP hD hS ls hl
  obtain ⟨hx, hb, -, hml, hts, hown, -, hK, hN, hA⟩ := id C
  have hown : s.vm.findClass RX8 = some m.cls := hown
  have hl : lv_has ls 8 [(0, .ref ad0), (1, .int p1), (2, .int p2)] := hl
  unfold fX8_look at hf
  refine lv_iconst (v := (0 : Int32)) hx hb (dt uX8_look_0 0 rfl) (by decide) ?_
  refine lv_istore_n (lv' := [(3, .int (0 : Int32)), (0, .ref ad0), (1, .int p1), (2, .int p2)]) hx hb (dt uX8_look_0 1 rfl) rfl hl (by decide) rfl (fun ls hl => ?_)
  refine lv_iconst (v := (0 : Int32)) hx hb (dt uX8_look_0 2 rfl) (by decide) ?_
  refine lv_istore (lv' := [(4, .int (0 : Int32)), (3, .int (0 : Int32)), (0, .ref ad0), (1, .int p1), (2, .int p2)]) hx hb (dt uX8_look_0 3 rfl) hl (by decide) rfl (fun ls hl => ?_)
  refine lv_iload_n hx hb (dt uX8_look_0 4 rfl) rfl (lv_at hl 3 rfl) ?_
  refine lv_istore (lv' := [(5, .int p1), (4, .int (0 : Int32)), (3, .int (0 : Int32)), (0, .ref ad0), (1, .int p1), (2, .int p2)]) hx hb (dt uX8_look_0 5 rfl) hl (by decide) rfl (fun ls hl => ?_)
  refine lv_iconst (v := (0 : Int32)) hx hb (dt uX8_look_0 6 rfl) (by decide) ?_
  refine lv_istore (lv' := [(6, .int (0 : Int32)), (5, .int p1), (4, .int (0 : Int32)), (3, .int (0 : Int32)), (0, .ref ad0), (1, .int p1), (2, .int p2)]) hx hb (dt uX8_look_0 7 rfl) hl (by decide) rfl (fun ls hl => ?_)
  have hL11 : ∀ (n11 : Nat), ∀ (x3_1 : Int32) (x4_2 : Int32) (x5_3 : Int32) (x6_4 : Int32) (H : Heap) (locs : List Loc) (ls : Array Slot), fX8_look_L11 N a_books a_numberA a_numberB v_sets v_inEach v_inSome p2 n11 x3_1 x4_2 x5_3 x6_4 = some q0 → va_P (dC, dI) vwCl [(ad0, oX8 v_trace ad_text v_typed ad_books ad_numberA ad_numberB ad_draftTouches v_draftOne v_oneTold v_at v_start v_sort v_value v_fault ad_now ad_isKept ad_near ad_seenDays ad_seenBook ad_seenIs v_seen v_sets v_inEach v_inSome), (ad_books, .inl (cI, 2, .inl a_books)), (ad_numberA, .inl (cI, 12, .inl a_numberA)), (ad_numberB, .inl (cI, 12, .inl a_numberB))] H → va_D A [(ad0, oX8 v_trace ad_text v_typed ad_books ad_numberA ad_numberB ad_draftTouches v_draftOne v_oneTold v_at v_start v_sort v_value v_fault ad_now ad_isKept ad_near ad_seenDays ad_seenBook ad_seenIs v_seen v_sets v_inEach v_inSome), (ad_books, .inl (cI, 2, .inl a_books)), (ad_numberA, .inl (cI, 12, .inl a_numberA)), (ad_numberB, .inl (cI, 12, .inl a_numberB))] → va_S A s.heap H locs → lv_has ls 8 [(0, .ref ad0), (2, .int p2), (3, .int x3_1), (4, .int x4_2), (5, .int x5_3), (6, .int x6_4)] → W p l e rX8_look s m args below meth c H locs 0 0 Q (F0 m 11 ls []) := by
    intro n11
    induction n11 with
    | zero => intro x3_1 x4_2 x5_3 x6_4 H locs ls hf hP hD hS hl; cases hf
    | succ n11 ih11 =>
      intro x3_1 x4_2 x5_3 x6_4 H locs ls hf hP hD hS hl
      rw [fX8_look_L11] at hf
      refine lv_iload hx hb (dt uX8_look_0 8 rfl) (lv_at hl 5 rfl) ?_
      refine lv_aload_n hx hb (dt uX8_look_0 9 rfl) rfl (lv_at hl 0 rfl) ?_
      refine va_get (D := (dC, dI)) (ci := 8) (v := .ref ad_books) (C := RX8) (T := TX8) (N := 24) hx hb hts inU8 hown hK hP 0 rfl rfl 3 (by decide) (hts _ tw_360) (fun _ h9 => h9) rfl (dt uX8_look_0 10 rfl) ?_
      refine lv_iconst (v := (0 : Int32)) hx hb (dt uX8_look_0 11 rfl) (by decide) ?_
      refine va_iald hx hb hK hP 1 0 rfl rfl (vp_in_iff.mpr (by decide)) (dt uX8_look_0 12 rfl) ?_
      refine lv_icmp_ge (tgt := 98) hx hb (dt uX8_look_0 13 rfl) (by decide) (fun c_5 => ?_) (fun c_5 => ?_)
      · have hf := vif_t c_5 hf
        refine lv_iconst (v := (-1 : Int32)) hx hb (dt uX8_look_1 1 rfl) (by decide) ?_
        refine lv_istore (lv' := [(6, .int (-1 : Int32)), (0, .ref ad0), (2, .int p2), (3, .int x3_1), (4, .int x4_2), (5, .int x5_3)]) hx hb (dt uX8_look_1 2 rfl) hl (by decide) rfl (fun ls hl => ?_)
        have hL101 : ∀ (n101 : Nat), ∀ (x6_6 : Int32) (w_7 : Int32) (w_8 : Int32) (w_9 : Int32) (H : Heap) (locs : List Loc) (ls : Array Slot), fX8_look_L101 a_books p2 x3_1 x4_2 n101 x6_6 w_7 w_8 w_9 = some q0 → va_P (dC, dI) vwCl [(ad0, oX8 v_trace ad_text v_typed ad_books ad_numberA ad_numberB ad_draftTouches v_draftOne v_oneTold v_at v_start v_sort v_value v_fault ad_now ad_isKept ad_near ad_seenDays ad_seenBook ad_seenIs v_seen w_7 w_8 w_9), (ad_books, .inl (cI, 2, .inl a_books)), (ad_numberA, .inl (cI, 12, .inl a_numberA)), (ad_numberB, .inl (cI, 12, .inl a_numberB))] H → va_D A [(ad0, oX8 v_trace ad_text v_typed ad_books ad_numberA ad_numberB ad_draftTouches v_draftOne v_oneTold v_at v_start v_sort v_value v_fault ad_now ad_isKept ad_near ad_seenDays ad_seenBook ad_seenIs v_seen w_7 w_8 w_9), (ad_books, .inl (cI, 2, .inl a_books)), (ad_numberA, .inl (cI, 12, .inl a_numberA)), (ad_numberB, .inl (cI, 12, .inl a_numberB))] → va_S A s.heap H locs → lv_has ls 8 [(0, .ref ad0), (2, .int p2), (3, .int x3_1), (4, .int x4_2), (6, .int x6_6)] → W p l e rX8_look s m args below meth c H locs 0 0 Q (F0 m 101 ls []) := by
          intro n101
          induction n101 with
          | zero => intro x6_6 w_7 w_8 w_9 H locs ls hf hP hD hS hl; cases hf
          | succ n101 ih101 =>
            intro x6_6 w_7 w_8 w_9 H locs ls hf hP hD hS hl
            rw [fX8_look_L101] at hf
            refine lv_iload hx hb (dt uX8_look_1 3 rfl) (lv_at hl 4 rfl) ?_
            refine lv_aload_n hx hb (dt uX8_look_1 4 rfl) rfl (lv_at hl 0 rfl) ?_
            refine va_get (D := (dC, dI)) (ci := 8) (v := .ref ad_books) (C := RX8) (T := TX8) (N := 24) hx hb hts inU8 hown hK hP 0 rfl rfl 3 (by decide) (hts _ tw_360) (fun _ h9 => h9) rfl (dt uX8_look_1 5 rfl) ?_
            refine lv_iconst (v := (0 : Int32)) hx hb (dt uX8_look_1 6 rfl) (by decide) ?_
            refine va_iald hx hb hK hP 1 0 rfl rfl (vp_in_iff.mpr (by decide)) (dt uX8_look_1 7 rfl) ?_
            refine lv_icmp_ge (tgt := 186) hx hb (dt uX8_look_1 8 rfl) (by decide) (fun c_10 => ?_) (fun c_10 => ?_)
            · have hf := vif_t c_10 hf
              have hf := Option.some.inj hf
              subst hf
              rw [hQ]
              exact vret_v C hP hD hS (dt uX8_look_1 48 rfl)
            · have hf := vif_f c_10 hf
              refine lv_iload_n hx hb (dt uX8_look_1 9 rfl) rfl (lv_at hl 2 rfl) ?_
              refine lv_iload hx hb (dt uX8_look_1 10 rfl) (lv_at hl 4 rfl) ?_
              have hJ124 : ∀ (y1_11 : Int32) (H : Heap) (locs : List Loc) (ls : Array Slot), fX8_look_J124 p2 x3_1 x4_2 x6_6 w_7 w_8 w_9 (fun z101_0 z101_1 z101_2 z101_3 => fX8_look_L101 a_books p2 x3_1 x4_2 n101 z101_0 z101_1 z101_2 z101_3) y1_11 = some q0 → va_P (dC, dI) vwCl [(ad0, oX8 v_trace ad_text v_typed ad_books ad_numberA ad_numberB ad_draftTouches v_draftOne v_oneTold v_at v_start v_sort v_value v_fault ad_now ad_isKept ad_near ad_seenDays ad_seenBook ad_seenIs v_seen w_7 w_8 w_9), (ad_books, .inl (cI, 2, .inl a_books)), (ad_numberA, .inl (cI, 12, .inl a_numberA)), (ad_numberB, .inl (cI, 12, .inl a_numberB))] H → va_D A [(ad0, oX8 v_trace ad_text v_typed ad_books ad_numberA ad_numberB ad_draftTouches v_draftOne v_oneTold v_at v_start v_sort v_value v_fault ad_now ad_isKept ad_near ad_seenDays ad_seenBook ad_seenIs v_seen w_7 w_8 w_9), (ad_books, .inl (cI, 2, .inl a_books)), (ad_numberA, .inl (cI, 12, .inl a_numberA)), (ad_numberB, .inl (cI, 12, .inl a_numberB))] → va_S A s.heap H locs → lv_has ls 8 [(0, .ref ad0), (2, .int p2), (3, .int x3_1), (4, .int x4_2), (6, .int x6_6)] → W p l e rX8_look s m args below meth c H locs 0 0 Q (F0 m 124 ls [.int y1_11, .int x3_1]) := by
                intro y1_11 H locs ls hf hP hD hS hl
                unfold fX8_look_J124 at hf
                refine lv_iadd hx hb (dt uX8_look_1 15 rfl) ?_
                refine lv_iload_n hx hb (dt uX8_look_1 16 rfl) rfl (lv_at hl 1 rfl) ?_
                refine lv_icmp_ne (tgt := 180) hx hb (dt uX8_look_1 17 rfl) (by decide) (fun c_12 => ?_) (fun c_12 => ?_)
                · have hf := vif_f c_12 hf
                  refine lv_iinc (v := x6_6 + 1) (lv' := [(6, .int (x6_6 + 1)), (0, .ref ad0), (2, .int p2), (3, .int x3_1), (4, .int x4_2)]) hx hb (dt uX8_look_1 46 rfl) hl (k := 4) rfl rfl (by decide) rfl (fun ls hl => ?_)
                  refine lv_goto (tgt := 101) hx hb (dt uX8_look_1 47 rfl) (by decide) ?_
                  exact ih101 (x6_6 + 1) w_7 w_8 w_9 _ _ _ hf hP hD hS (lv_sub hl [1, 2, 3, 4, 0] rfl)
                · have hf := vif_t c_12 hf
                  refine lv_iload hx hb (dt uX8_look_1 18 rfl) (lv_at hl 4 rfl) ?_
                  have hJ146 : ∀ (y0_13 : Int32) (H : Heap) (locs : List Loc) (ls : Array Slot), fX8_look_J146 x6_6 w_7 w_8 w_9 (fun z101_0 z101_1 z101_2 z101_3 => fX8_look_L101 a_books p2 x3_1 x4_2 n101 z101_0 z101_1 z101_2 z101_3) y0_13 = some q0 → va_P (dC, dI) vwCl [(ad0, oX8 v_trace ad_text v_typed ad_books ad_numberA ad_numberB ad_draftTouches v_draftOne v_oneTold v_at v_start v_sort v_value v_fault ad_now ad_isKept ad_near ad_seenDays ad_seenBook ad_seenIs v_seen w_7 w_8 w_9), (ad_books, .inl (cI, 2, .inl a_books)), (ad_numberA, .inl (cI, 12, .inl a_numberA)), (ad_numberB, .inl (cI, 12, .inl a_numberB))] H → va_D A [(ad0, oX8 v_trace ad_text v_typed ad_books ad_numberA ad_numberB ad_draftTouches v_draftOne v_oneTold v_at v_start v_sort v_value v_fault ad_now ad_isKept ad_near ad_seenDays ad_seenBook ad_seenIs v_seen w_7 w_8 w_9), (ad_books, .inl (cI, 2, .inl a_books)), (ad_numberA, .inl (cI, 12, .inl a_numberA)), (ad_numberB, .inl (cI, 12, .inl a_numberB))] → va_S A s.heap H locs → lv_has ls 8 [(0, .ref ad0), (2, .int p2), (3, .int x3_1), (4, .int x4_2), (6, .int x6_6)] → W p l e rX8_look s m args below meth c H locs 0 0 Q (F0 m 146 ls [.int y0_13]) := by
                    intro y0_13 H locs ls hf hP hD hS hl
                    unfold fX8_look_J146 at hf
                    refine lv_istore (lv' := [(7, .int y0_13), (0, .ref ad0), (2, .int p2), (3, .int x3_1), (4, .int x4_2), (6, .int x6_6)]) hx hb (dt uX8_look_1 27 rfl) hl (by decide) rfl (fun ls hl => ?_)
                    refine lv_aload_n hx hb (dt uX8_look_1 28 rfl) rfl (lv_at hl 1 rfl) ?_
                    refine lv_dup hx hb (dt uX8_look_1 29 rfl) rfl ?_
                    refine va_get (D := (dC, dI)) (ci := 8) (v := .int w_7) (C := RX8) (T := TX8) (N := 24) hx hb hts inU8 hown hK hP 0 rfl rfl 21 (by decide) (hts _ tw_474) (fun _ h9 => h9) rfl (dt uX8_look_1 30 rfl) ?_
                    refine lv_iconst (v := (1 : Int32)) hx hb (dt uX8_look_1 31 rfl) (by decide) ?_
                    refine lv_iadd hx hb (dt uX8_look_1 32 rfl) ?_
                    refine va_put (D := (dC, dI)) (ci := 8) (v := .int (w_7 + (1 : Int32))) (ty := .int) (C := RX8) (T := TX8) (N := 24) hx hb hts inU8 tyX8 tyX8_ok nmX8 hown hK hP hD hS 0 rfl rfl 21 (by decide) (hts _ tw_474) (fun _ h9 => h9) rfl (by decide +kernel) rfl rfl (Nat.le_of_ble_eq_true rfl) (dt uX8_look_1 33 rfl) (fun H locs hP hD hS => ?_)
                    have hP : va_P (dC, dI) vwCl [(ad0, oX8 v_trace ad_text v_typed ad_books ad_numberA ad_numberB ad_draftTouches v_draftOne v_oneTold v_at v_start v_sort v_value v_fault ad_now ad_isKept ad_near ad_seenDays ad_seenBook ad_seenIs v_seen (w_7 + (1 : Int32)) w_8 w_9), (ad_books, .inl (cI, 2, .inl a_books)), (ad_numberA, .inl (cI, 12, .inl a_numberA)), (ad_numberB, .inl (cI, 12, .inl a_numberB))] H := hP
                    have hD : va_D A [(ad0, oX8 v_trace ad_text v_typed ad_books ad_numberA ad_numberB ad_draftTouches v_draftOne v_oneTold v_at v_start v_sort v_value v_fault ad_now ad_isKept ad_near ad_seenDays ad_seenBook ad_seenIs v_seen (w_7 + (1 : Int32)) w_8 w_9), (ad_books, .inl (cI, 2, .inl a_books)), (ad_numberA, .inl (cI, 12, .inl a_numberA)), (ad_numberB, .inl (cI, 12, .inl a_numberB))] := hD
                    refine lv_aload_n hx hb (dt uX8_look_1 34 rfl) rfl (lv_at hl 1 rfl) ?_
                    refine lv_dup hx hb (dt uX8_look_1 35 rfl) rfl ?_
                    refine va_get (D := (dC, dI)) (ci := 8) (v := .int w_8) (C := RX8) (T := TX8) (N := 24) hx hb hts inU8 hown hK hP 0 rfl rfl 22 (by decide) (hts _ tw_475) (fun _ h9 => h9) rfl (dt uX8_look_1 36 rfl) ?_
                    refine lv_iload hx hb (dt uX8_look_1 37 rfl) (lv_at hl 0 rfl) ?_
                    refine lv_iand hx hb (dt uX8_look_1 38 rfl) ?_
                    refine va_put (D := (dC, dI)) (ci := 8) (v := .int (w_8 &&& y0_13)) (ty := .int) (C := RX8) (T := TX8) (N := 24) hx hb hts inU8 tyX8 tyX8_ok nmX8 hown hK hP hD hS 0 rfl rfl 22 (by decide) (hts _ tw_475) (fun _ h9 => h9) rfl (by decide +kernel) rfl rfl (Nat.le_of_ble_eq_true rfl) (dt uX8_look_1 39 rfl) (fun H locs hP hD hS => ?_)
                    have hP : va_P (dC, dI) vwCl [(ad0, oX8 v_trace ad_text v_typed ad_books ad_numberA ad_numberB ad_draftTouches v_draftOne v_oneTold v_at v_start v_sort v_value v_fault ad_now ad_isKept ad_near ad_seenDays ad_seenBook ad_seenIs v_seen (w_7 + (1 : Int32)) (w_8 &&& y0_13) w_9), (ad_books, .inl (cI, 2, .inl a_books)), (ad_numberA, .inl (cI, 12, .inl a_numberA)), (ad_numberB, .inl (cI, 12, .inl a_numberB))] H := hP
                    have hD : va_D A [(ad0, oX8 v_trace ad_text v_typed ad_books ad_numberA ad_numberB ad_draftTouches v_draftOne v_oneTold v_at v_start v_sort v_value v_fault ad_now ad_isKept ad_near ad_seenDays ad_seenBook ad_seenIs v_seen (w_7 + (1 : Int32)) (w_8 &&& y0_13) w_9), (ad_books, .inl (cI, 2, .inl a_books)), (ad_numberA, .inl (cI, 12, .inl a_numberA)), (ad_numberB, .inl (cI, 12, .inl a_numberB))] := hD
                    refine lv_aload_n hx hb (dt uX8_look_1 40 rfl) rfl (lv_at hl 1 rfl) ?_
                    refine lv_dup hx hb (dt uX8_look_1 41 rfl) rfl ?_
                    refine va_get (D := (dC, dI)) (ci := 8) (v := .int w_9) (C := RX8) (T := TX8) (N := 24) hx hb hts inU8 hown hK hP 0 rfl rfl 23 (by decide) (hts _ tw_476) (fun _ h9 => h9) rfl (dt uX8_look_1 42 rfl) ?_
                    refine lv_iload hx hb (dt uX8_look_1 43 rfl) (lv_at hl 0 rfl) ?_
                    refine lv_ior hx hb (dt uX8_look_1 44 rfl) ?_
                    refine va_put (D := (dC, dI)) (ci := 8) (v := .int (w_9 ||| y0_13)) (ty := .int) (C := RX8) (T := TX8) (N := 24) hx hb hts inU8 tyX8 tyX8_ok nmX8 hown hK hP hD hS 0 rfl rfl 23 (by decide) (hts _ tw_476) (fun _ h9 => h9) rfl (by decide +kernel) rfl rfl (Nat.le_of_ble_eq_true rfl) (dt uX8_look_1 45 rfl) (fun H locs hP hD hS => ?_)
                    have hP : va_P (dC, dI) vwCl [(ad0, oX8 v_trace ad_text v_typed ad_books ad_numberA ad_numberB ad_draftTouches v_draftOne v_oneTold v_at v_start v_sort v_value v_fault ad_now ad_isKept ad_near ad_seenDays ad_seenBook ad_seenIs v_seen (w_7 + (1 : Int32)) (w_8 &&& y0_13) (w_9 ||| y0_13)), (ad_books, .inl (cI, 2, .inl a_books)), (ad_numberA, .inl (cI, 12, .inl a_numberA)), (ad_numberB, .inl (cI, 12, .inl a_numberB))] H := hP
                    have hD : va_D A [(ad0, oX8 v_trace ad_text v_typed ad_books ad_numberA ad_numberB ad_draftTouches v_draftOne v_oneTold v_at v_start v_sort v_value v_fault ad_now ad_isKept ad_near ad_seenDays ad_seenBook ad_seenIs v_seen (w_7 + (1 : Int32)) (w_8 &&& y0_13) (w_9 ||| y0_13)), (ad_books, .inl (cI, 2, .inl a_books)), (ad_numberA, .inl (cI, 12, .inl a_numberA)), (ad_numberB, .inl (cI, 12, .inl a_numberB))] := hD
                    refine lv_iinc (v := x6_6 + 1) (lv' := [(6, .int (x6_6 + 1)), (7, .int y0_13), (0, .ref ad0), (2, .int p2), (3, .int x3_1), (4, .int x4_2)]) hx hb (dt uX8_look_1 46 rfl) hl (k := 5) rfl rfl (by decide) rfl (fun ls hl => ?_)
                    refine lv_goto (tgt := 101) hx hb (dt uX8_look_1 47 rfl) (by decide) ?_
                    exact ih101 (x6_6 + 1) (w_7 + (1 : Int32)) (w_8 &&& y0_13) (w_9 ||| y0_13) _ _ _ hf hP hD hS (lv_sub hl [2, 3, 4, 5, 0] rfl)
                  refine lv_if_ge (tgt := 139) hx hb (dt uX8_look_1 19 rfl) (by decide) (fun c_14 => ?_) (fun c_14 => ?_)
                  · have hf := vif_t c_14 hf
                    refine lv_iload hx hb (dt uX8_look_1 22 rfl) (lv_at hl 3 rfl) ?_
                    refine lv_iconst (v := (1 : Int32)) hx hb (dt uX8_look_1 23 rfl) (by decide) ?_
                    refine lv_iload hx hb (dt uX8_look_1 24 rfl) (lv_at hl 4 rfl) ?_
                    refine lv_ishl hx hb (dt uX8_look_1 25 rfl) ?_
                    refine lv_ior hx hb (dt uX8_look_1 26 rfl) ?_
                    exact hJ146 (x4_2 ||| ((1 : Int32) <<< (x6_6 &&& 31))) _ _ _ hf hP hD hS (lv_sub hl [0, 1, 2, 3, 4] rfl)
                  · have hf := vif_f c_14 hf
                    refine lv_iload hx hb (dt uX8_look_1 20 rfl) (lv_at hl 3 rfl) ?_
                    refine lv_goto (tgt := 146) hx hb (dt uX8_look_1 21 rfl) (by decide) ?_
                    exact hJ146 x4_2 _ _ _ hf hP hD hS (lv_sub hl [0, 1, 2, 3, 4] rfl)
              refine lv_if_ge (tgt := 122) hx hb (dt uX8_look_1 11 rfl) (by decide) (fun c_15 => ?_) (fun c_15 => ?_)
              · have hf := vif_t c_15 hf
                refine lv_bipush (v := (10 : Int32)) hx hb (dt uX8_look_1 14 rfl) (by decide) ?_
                exact hJ124 (10 : Int32) _ _ _ hf hP hD hS (lv_sub hl [0, 1, 2, 3, 4] rfl)
              · have hf := vif_f c_15 hf
                refine lv_iconst (v := (0 : Int32)) hx hb (dt uX8_look_1 12 rfl) (by decide) ?_
                refine lv_goto (tgt := 124) hx hb (dt uX8_look_1 13 rfl) (by decide) ?_
                exact hJ124 (0 : Int32) _ _ _ hf hP hD hS (lv_sub hl [0, 1, 2, 3, 4] rfl)
        exact hL101 N (-1 : Int32) v_sets v_inEach v_inSome _ _ _ hf hP hD hS (lv_sub hl [1, 2, 3, 4, 0] rfl)
      · have hf := vif_f c_5 hf
        refine lv_iload hx hb (dt uX8_look_0 14 rfl) (lv_at hl 4 rfl) ?_
        refine lv_iconst (v := (4 : Int32)) hx hb (dt uX8_look_0 15 rfl) (by decide) ?_
        refine lv_irem hx hb (dt uX8_look_0 16 rfl) (by decide) ?_
        refine lv_istore (lv' := [(7, .int (x5_3 - x5_3 / (4 : Int32) * (4 : Int32))), (0, .ref ad0), (2, .int p2), (3, .int x3_1), (4, .int x4_2), (5, .int x5_3), (6, .int x6_4)]) hx hb (dt uX8_look_0 17 rfl) hl (by decide) rfl (fun ls hl => ?_)
        refine lv_iload hx hb (dt uX8_look_0 18 rfl) (lv_at hl 5 rfl) ?_
        refine lv_iconst (v := (4 : Int32)) hx hb (dt uX8_look_0 19 rfl) (by decide) ?_
        refine lv_idiv hx hb (dt uX8_look_0 20 rfl) (by decide) ?_
        refine lv_istore (lv' := [(5, .int (x5_3 / (4 : Int32))), (7, .int (x5_3 - x5_3 / (4 : Int32) * (4 : Int32))), (0, .ref ad0), (2, .int p2), (3, .int x3_1), (4, .int x4_2), (6, .int x6_4)]) hx hb (dt uX8_look_0 21 rfl) hl (by decide) rfl (fun ls hl => ?_)
        refine lv_iload hx hb (dt uX8_look_0 22 rfl) (lv_at hl 1 rfl) ?_
        refine lv_aload_n hx hb (dt uX8_look_0 23 rfl) rfl (lv_at hl 2 rfl) ?_
        refine lv_iload hx hb (dt uX8_look_0 24 rfl) (lv_at hl 6 rfl) ?_
        obtain ⟨q_16, hq_17, hf⟩ := vbd hf
        refine vk_i0 [0, 2, 3] (va_runV (As := [.int x6_4]) (rest := [.int (x5_3 - x5_3 / (4 : Int32) * (4 : Int32))]) ⟨hx, hb, hml, hown, hts⟩ (kX8_carries ad0 ad_text ad_books ad_numberA ad_numberB ad_draftTouches ad_now ad_isKept ad_near ad_seenDays ad_seenBook ad_seenIs v_trace v_typed v_draftOne v_oneTold v_at v_start v_sort v_value v_fault v_seen v_sets v_inEach v_inSome a_numberA a_numberB x6_4 N q_16 hq_17 H.size) (vcwV hts tw_411 tw_412 tw_413 tw_336 tw_410 hd_X8_carries rfl rfl ⟨Nat.le_of_ble_eq_true rfl, Nat.le_of_ble_eq_true rfl⟩) (vpreV hK hN hP hD [0, 2, 3] rfl (by decide) (ci := 8) (q0 := 0) rfl rfl) rfl rfl hl.1 rfl (lv_room (Nat.le_of_ble_eq_true rfl)) (dt uX8_look_0 25 rfl) ⟨Nat.zero_le _, Nat.zero_le _⟩) hA hP hD hS rfl (by decide) (fun H locs hP hD hS => ?_)
        refine lv_iconst (v := (-1 : Int32)) hx hb (dt uX8_look_0 26 rfl) (by decide) ?_
        refine lv_ixor hx hb (dt uX8_look_0 27 rfl) ?_
        refine lv_iand hx hb (dt uX8_look_0 28 rfl) ?_
        refine lv_if_eq (tgt := 49) hx hb (dt uX8_look_0 29 rfl) (by decide) (fun c_18 => ?_) (fun c_18 => ?_)
        · have hf := vif_t c_18 hf
          refine lv_iload_n hx hb (dt uX8_look_0 31 rfl) rfl (lv_at hl 4 rfl) ?_
          refine lv_aload_n hx hb (dt uX8_look_0 32 rfl) rfl (lv_at hl 2 rfl) ?_
          refine lv_iload hx hb (dt uX8_look_0 33 rfl) (lv_at hl 6 rfl) ?_
          obtain ⟨q_19, hq_20, hf⟩ := vbd hf
          refine vk_i0 [0, 2, 3] (va_runV (As := [.int x6_4]) (rest := [.int x3_1]) ⟨hx, hb, hml, hown, hts⟩ (kX8_sum ad0 ad_text ad_books ad_numberA ad_numberB ad_draftTouches ad_now ad_isKept ad_near ad_seenDays ad_seenBook ad_seenIs v_trace v_typed v_draftOne v_oneTold v_at v_start v_sort v_value v_fault v_seen v_sets v_inEach v_inSome a_numberA a_numberB x6_4 q_19 hq_20 H.size) (vcwV hts tw_392 tw_393 tw_394 tw_336 tw_391 hd_X8_sum rfl rfl ⟨Nat.le_of_ble_eq_true rfl, Nat.le_of_ble_eq_true rfl⟩) (vpreV hK hN hP hD [0, 2, 3] rfl (by decide) (ci := 8) (q0 := 0) rfl rfl) rfl rfl hl.1 rfl (lv_room (Nat.le_of_ble_eq_true rfl)) (dt uX8_look_0 34 rfl) ⟨Nat.zero_le _, Nat.zero_le _⟩) hA hP hD hS rfl (by decide) (fun H locs hP hD hS => ?_)
          refine lv_bipush (v := (10 : Int32)) hx hb (dt uX8_look_0 35 rfl) (by decide) ?_
          refine lv_iload hx hb (dt uX8_look_0 36 rfl) (lv_at hl 1 rfl) ?_
          refine lv_iconst (v := (1 : Int32)) hx hb (dt uX8_look_0 37 rfl) (by decide) ?_
          refine lv_iand hx hb (dt uX8_look_0 38 rfl) ?_
          refine lv_imul hx hb (dt uX8_look_0 39 rfl) ?_
          refine lv_isub hx hb (dt uX8_look_0 40 rfl) ?_
          refine lv_bipush (v := (100 : Int32)) hx hb (dt uX8_look_0 41 rfl) (by decide) ?_
          refine lv_iload hx hb (dt uX8_look_0 42 rfl) (lv_at hl 1 rfl) ?_
          refine lv_iconst (v := (1 : Int32)) hx hb (dt uX8_look_0 43 rfl) (by decide) ?_
          refine lv_ishr hx hb (dt uX8_look_0 44 rfl) ?_
          refine lv_imul hx hb (dt uX8_look_0 45 rfl) ?_
          refine lv_isub hx hb (dt uX8_look_0 46 rfl) ?_
          refine lv_iadd hx hb (dt uX8_look_0 47 rfl) ?_
          refine lv_istore_n (lv' := [(3, .int (x3_1 + ((q_19 - ((10 : Int32) * ((x5_3 - x5_3 / (4 : Int32) * (4 : Int32)) &&& (1 : Int32)))) - ((100 : Int32) * ((x5_3 - x5_3 / (4 : Int32) * (4 : Int32)) >>> ((1 : Int32) &&& 31)))))), (5, .int (x5_3 / (4 : Int32))), (7, .int (x5_3 - x5_3 / (4 : Int32) * (4 : Int32))), (0, .ref ad0), (2, .int p2), (4, .int x4_2), (6, .int x6_4)]) hx hb (dt uX8_look_0 48 rfl) rfl hl (by decide) rfl (fun ls hl => ?_)
          refine lv_iload hx hb (dt uX8_look_0 49 rfl) (lv_at hl 5 rfl) ?_
          refine lv_iload hx hb (dt uX8_look_0 50 rfl) (lv_at hl 2 rfl) ?_
          refine lv_if_ne (tgt := 85) hx hb (dt uX8_look_0 51 rfl) (by decide) (fun c_21 => ?_) (fun c_21 => ?_)
          · have hf := vif_f c_21 hf
            refine lv_iconst (v := (1 : Int32)) hx hb (dt uX8_look_0 54 rfl) (by decide) ?_
            refine lv_iload hx hb (dt uX8_look_0 55 rfl) (lv_at hl 6 rfl) ?_
            refine lv_ishl hx hb (dt uX8_look_0 56 rfl) ?_
            refine lv_ior hx hb (dt uX8_look_0 57 rfl) ?_
            refine lv_istore (lv' := [(4, .int (x4_2 ||| ((1 : Int32) <<< (x6_4 &&& 31)))), (3, .int (x3_1 + ((q_19 - ((10 : Int32) * ((x5_3 - x5_3 / (4 : Int32) * (4 : Int32)) &&& (1 : Int32)))) - ((100 : Int32) * ((x5_3 - x5_3 / (4 : Int32) * (4 : Int32)) >>> ((1 : Int32) &&& 31)))))), (5, .int (x5_3 / (4 : Int32))), (7, .int (x5_3 - x5_3 / (4 : Int32) * (4 : Int32))), (0, .ref ad0), (2, .int p2), (6, .int x6_4)]) hx hb (dt uX8_look_0 58 rfl) hl (by decide) rfl (fun ls hl => ?_)
            refine lv_iinc (v := x6_4 + 1) (lv' := [(6, .int (x6_4 + 1)), (4, .int (x4_2 ||| ((1 : Int32) <<< (x6_4 &&& 31)))), (3, .int (x3_1 + ((q_19 - ((10 : Int32) * ((x5_3 - x5_3 / (4 : Int32) * (4 : Int32)) &&& (1 : Int32)))) - ((100 : Int32) * ((x5_3 - x5_3 / (4 : Int32) * (4 : Int32)) >>> ((1 : Int32) &&& 31)))))), (5, .int (x5_3 / (4 : Int32))), (7, .int (x5_3 - x5_3 / (4 : Int32) * (4 : Int32))), (0, .ref ad0), (2, .int p2)]) hx hb (dt uX8_look_0 59 rfl) hl (k := 6) rfl rfl (by decide) rfl (fun ls hl => ?_)
            refine lv_goto (tgt := 11) hx hb (dt uX8_look_1 0 rfl) (by decide) ?_
            exact ih11 (x3_1 + ((q_19 - ((10 : Int32) * ((x5_3 - x5_3 / (4 : Int32) * (4 : Int32)) &&& (1 : Int32)))) - ((100 : Int32) * ((x5_3 - x5_3 / (4 : Int32) * (4 : Int32)) >>> ((1 : Int32) &&& 31))))) (x4_2 ||| ((1 : Int32) <<< (x6_4 &&& 31))) (x5_3 / (4 : Int32)) (x6_4 + 1) _ _ _ hf hP hD hS (lv_sub hl [5, 6, 2, 1, 3, 0] rfl)
          · have hf := vif_t c_21 hf
            refine lv_iconst (v := (0 : Int32)) hx hb (dt uX8_look_0 52 rfl) (by decide) ?_
            refine lv_goto (tgt := 89) hx hb (dt uX8_look_0 53 rfl) (by decide) ?_
            refine lv_ior hx hb (dt uX8_look_0 57 rfl) ?_
            refine lv_istore (lv' := [(4, .int (x4_2 ||| (0 : Int32))), (3, .int (x3_1 + ((q_19 - ((10 : Int32) * ((x5_3 - x5_3 / (4 : Int32) * (4 : Int32)) &&& (1 : Int32)))) - ((100 : Int32) * ((x5_3 - x5_3 / (4 : Int32) * (4 : Int32)) >>> ((1 : Int32) &&& 31)))))), (5, .int (x5_3 / (4 : Int32))), (7, .int (x5_3 - x5_3 / (4 : Int32) * (4 : Int32))), (0, .ref ad0), (2, .int p2), (6, .int x6_4)]) hx hb (dt uX8_look_0 58 rfl) hl (by decide) rfl (fun ls hl => ?_)
            refine lv_iinc (v := x6_4 + 1) (lv' := [(6, .int (x6_4 + 1)), (4, .int (x4_2 ||| (0 : Int32))), (3, .int (x3_1 + ((q_19 - ((10 : Int32) * ((x5_3 - x5_3 / (4 : Int32) * (4 : Int32)) &&& (1 : Int32)))) - ((100 : Int32) * ((x5_3 - x5_3 / (4 : Int32) * (4 : Int32)) >>> ((1 : Int32) &&& 31)))))), (5, .int (x5_3 / (4 : Int32))), (7, .int (x5_3 - x5_3 / (4 : Int32) * (4 : Int32))), (0, .ref ad0), (2, .int p2)]) hx hb (dt uX8_look_0 59 rfl) hl (k := 6) rfl rfl (by decide) rfl (fun ls hl => ?_)
            refine lv_goto (tgt := 11) hx hb (dt uX8_look_1 0 rfl) (by decide) ?_
            exact ih11 (x3_1 + ((q_19 - ((10 : Int32) * ((x5_3 - x5_3 / (4 : Int32) * (4 : Int32)) &&& (1 : Int32)))) - ((100 : Int32) * ((x5_3 - x5_3 / (4 : Int32) * (4 : Int32)) >>> ((1 : Int32) &&& 31))))) (x4_2 ||| (0 : Int32)) (x5_3 / (4 : Int32)) (x6_4 + 1) _ _ _ hf hP hD hS (lv_sub hl [5, 6, 2, 1, 3, 0] rfl)
        · have hf := vif_f c_18 hf
          have hf := Option.some.inj hf
          subst hf
          rw [hQ]
          exact vret_v C hP hD hS (dt uX8_look_0 30 rfl)
  exact hL11 N (0 : Int32) (0 : Int32) p1 (0 : Int32) _ _ _ hf hP hD hS (lv_sub hl [4, 6, 3, 2, 1, 0] rfl)
abbrev rX8_why : Room := { frames := 4, cells := 0, slots := 0, locals := 91 }
abbrev wX8_why : List Cond := Cond.code yX8_why cX8_why 4 (some .int) :: VT
set_option maxHeartbeats 4000000 in
set_option maxRecDepth 100000 in
theorem kX8_why (ad0 : Nat) (ad_text : Nat) (ad_books : Nat) (ad_numberA : Nat) (ad_numberB : Nat) (ad_draftTouches : Nat) (ad_now : Nat) (ad_isKept : Nat) (ad_near : Nat) (ad_seenDays : Nat) (ad_seenBook : Nat) (ad_seenIs : Nat) (v_trace : Int64) (v_typed : Int32) (v_draftOne : Int32) (v_oneTold : Int32) (v_at : Int32) (v_start : Int32) (v_sort : Int32) (v_value : Int32) (v_fault : Int32) (v_seen : Int32) (v_sets : Int32) (v_inEach : Int32) (v_inSome : Int32) (a_books : Nat → Int32) (a_numberA : Nat → Int32) (a_numberB : Nat → Int32) (a_now : Nat → Int32) (p1 : Int32) (N : Nat) (q0 : (Int32 × Int32 × Int32 × Int32)) (hf : fX8_why N a_books a_numberA a_numberB a_now v_sets v_inEach v_inSome p1 = some q0) : Ki l yX8_why wX8_why rX8_why (dC, dI) (vTy cI cJ cB cZ) [.ref ad0, .int p1] [(ad0, oX8 v_trace ad_text v_typed ad_books ad_numberA ad_numberB ad_draftTouches v_draftOne v_oneTold v_at v_start v_sort v_value v_fault ad_now ad_isKept ad_near ad_seenDays ad_seenBook ad_seenIs v_seen v_sets v_inEach v_inSome), (ad_books, .inl (cI, 2, .inl a_books)), (ad_numberA, .inl (cI, 12, .inl a_numberA)), (ad_numberB, .inl (cI, 12, .inl a_numberB)), (ad_now, .inl (cI, 498, .inl a_now))] [(ad0, oX8 v_trace ad_text v_typed ad_books ad_numberA ad_numberB ad_draftTouches v_draftOne v_oneTold v_at v_start v_sort v_value v_fault ad_now ad_isKept ad_near ad_seenDays ad_seenBook ad_seenIs v_seen q0.2.1 q0.2.2.1 q0.2.2.2), (ad_books, .inl (cI, 2, .inl a_books)), (ad_numberA, .inl (cI, 12, .inl a_numberA)), (ad_numberB, .inl (cI, 12, .inl a_numberB)), (ad_now, .inl (cI, 498, .inl a_now))] q0.1 := by
  refine Ki.mk (cc := cX8_why) (maxL := 4) (ret := some .int) (by decide) (Nat.le_of_ble_eq_true rfl) ?_
  intro p e s m args below meth c A Q H locs C hQ hP hD hS ls hl
  obtain ⟨hx, hb, -, hml, hts, hown, -, hK, hN, hA⟩ := id C
  have hown : s.vm.findClass RX8 = some m.cls := hown
  have hl : lv_has ls 4 [(0, .ref ad0), (1, .int p1)] := hl
  unfold fX8_why at hf
  refine lv_iload_n hx hb (dt uX8_why 0 rfl) rfl (lv_at hl 1 rfl) ?_
  refine lv_iconst (v := (0 : Int32)) hx hb (dt uX8_why 1 rfl) (by decide) ?_
  refine lv_iconst (v := (2 : Int32)) hx hb (dt uX8_why 2 rfl) (by decide) ?_
  refine vk_z0 [] (va_runS (As := [.int p1, .int (0 : Int32), .int (2 : Int32)]) (rest := []) ⟨hx, hb, hml, hown, hts⟩ (kX8_in p1 (0 : Int32) (2 : Int32) _ rfl H.size) (vcwS hts tw_338 tw_339 tw_336 tw_337 hd_X8_in rfl rfl ⟨Nat.le_of_ble_eq_true rfl, Nat.le_of_ble_eq_true rfl⟩) (vpreS hK hN hP hD [] rfl (by decide)) rfl rfl hl.1 rfl (lv_room (Nat.le_of_ble_eq_true rfl)) (dt uX8_why 3 rfl) ⟨Nat.zero_le _, Nat.zero_le _⟩) hA hP hD hS rfl (by decide) (fun hz_1 H locs hP hD hS => ?_)
  refine lv_if_ne (tgt := 11) hx hb (dt uX8_why 4 rfl) (by decide) (fun c_2 => ?_) (fun c_2 => ?_)
  · have hf := vif_f c_2 hf
    refine lv_aload_n hx hb (dt uX8_why 7 rfl) rfl (lv_at hl 0 rfl) ?_
    refine lv_iconst (v := (0 : Int32)) hx hb (dt uX8_why 8 rfl) (by decide) ?_
    refine va_put (D := (dC, dI)) (ci := 8) (v := .int (0 : Int32)) (ty := .int) (C := RX8) (T := TX8) (N := 24) hx hb hts inU8 tyX8 tyX8_ok nmX8 hown hK hP hD hS 0 rfl rfl 21 (by decide) (hts _ tw_474) (fun _ h9 => h9) rfl (by decide +kernel) rfl rfl (Nat.le_of_ble_eq_true rfl) (dt uX8_why 9 rfl) (fun H locs hP hD hS => ?_)
    have hP : va_P (dC, dI) vwCl [(ad0, oX8 v_trace ad_text v_typed ad_books ad_numberA ad_numberB ad_draftTouches v_draftOne v_oneTold v_at v_start v_sort v_value v_fault ad_now ad_isKept ad_near ad_seenDays ad_seenBook ad_seenIs v_seen (0 : Int32) v_inEach v_inSome), (ad_books, .inl (cI, 2, .inl a_books)), (ad_numberA, .inl (cI, 12, .inl a_numberA)), (ad_numberB, .inl (cI, 12, .inl a_numberB)), (ad_now, .inl (cI, 498, .inl a_now))] H := hP
    have hD : va_D A [(ad0, oX8 v_trace ad_text v_typed ad_books ad_numberA ad_numberB ad_draftTouches v_draftOne v_oneTold v_at v_start v_sort v_value v_fault ad_now ad_isKept ad_near ad_seenDays ad_seenBook ad_seenIs v_seen (0 : Int32) v_inEach v_inSome), (ad_books, .inl (cI, 2, .inl a_books)), (ad_numberA, .inl (cI, 12, .inl a_numberA)), (ad_numberB, .inl (cI, 12, .inl a_numberB)), (ad_now, .inl (cI, 498, .inl a_now))] := hD
    refine lv_aload_n hx hb (dt uX8_why 10 rfl) rfl (lv_at hl 0 rfl) ?_
    refine lv_iconst (v := (1 : Int32)) hx hb (dt uX8_why 11 rfl) (by decide) ?_
    refine lv_aload_n hx hb (dt uX8_why 12 rfl) rfl (lv_at hl 0 rfl) ?_
    refine va_get (D := (dC, dI)) (ci := 8) (v := .ref ad_books) (C := RX8) (T := TX8) (N := 24) hx hb hts inU8 hown hK hP 0 rfl rfl 3 (by decide) (hts _ tw_360) (fun _ h9 => h9) rfl (dt uX8_why 13 rfl) ?_
    refine lv_iconst (v := (0 : Int32)) hx hb (dt uX8_why 14 rfl) (by decide) ?_
    refine va_iald hx hb hK hP 1 0 rfl rfl (vp_in_iff.mpr (by decide)) (dt uX8_why 15 rfl) ?_
    refine lv_ishl hx hb (dt uX8_why 16 rfl) ?_
    refine lv_iconst (v := (1 : Int32)) hx hb (dt uX8_why 17 rfl) (by decide) ?_
    refine lv_isub hx hb (dt uX8_why 18 rfl) ?_
    refine va_put (D := (dC, dI)) (ci := 8) (v := .int (((1 : Int32) <<< ((a_books (0 : Int32).toNatClampNeg) &&& 31)) - (1 : Int32))) (ty := .int) (C := RX8) (T := TX8) (N := 24) hx hb hts inU8 tyX8 tyX8_ok nmX8 hown hK hP hD hS 0 rfl rfl 22 (by decide) (hts _ tw_475) (fun _ h9 => h9) rfl (by decide +kernel) rfl rfl (Nat.le_of_ble_eq_true rfl) (dt uX8_why 19 rfl) (fun H locs hP hD hS => ?_)
    have hP : va_P (dC, dI) vwCl [(ad0, oX8 v_trace ad_text v_typed ad_books ad_numberA ad_numberB ad_draftTouches v_draftOne v_oneTold v_at v_start v_sort v_value v_fault ad_now ad_isKept ad_near ad_seenDays ad_seenBook ad_seenIs v_seen (0 : Int32) (((1 : Int32) <<< ((a_books (0 : Int32).toNatClampNeg) &&& 31)) - (1 : Int32)) v_inSome), (ad_books, .inl (cI, 2, .inl a_books)), (ad_numberA, .inl (cI, 12, .inl a_numberA)), (ad_numberB, .inl (cI, 12, .inl a_numberB)), (ad_now, .inl (cI, 498, .inl a_now))] H := hP
    have hD : va_D A [(ad0, oX8 v_trace ad_text v_typed ad_books ad_numberA ad_numberB ad_draftTouches v_draftOne v_oneTold v_at v_start v_sort v_value v_fault ad_now ad_isKept ad_near ad_seenDays ad_seenBook ad_seenIs v_seen (0 : Int32) (((1 : Int32) <<< ((a_books (0 : Int32).toNatClampNeg) &&& 31)) - (1 : Int32)) v_inSome), (ad_books, .inl (cI, 2, .inl a_books)), (ad_numberA, .inl (cI, 12, .inl a_numberA)), (ad_numberB, .inl (cI, 12, .inl a_numberB)), (ad_now, .inl (cI, 498, .inl a_now))] := hD
    refine lv_aload_n hx hb (dt uX8_why 20 rfl) rfl (lv_at hl 0 rfl) ?_
    refine lv_iconst (v := (0 : Int32)) hx hb (dt uX8_why 21 rfl) (by decide) ?_
    refine va_put (D := (dC, dI)) (ci := 8) (v := .int (0 : Int32)) (ty := .int) (C := RX8) (T := TX8) (N := 24) hx hb hts inU8 tyX8 tyX8_ok nmX8 hown hK hP hD hS 0 rfl rfl 23 (by decide) (hts _ tw_476) (fun _ h9 => h9) rfl (by decide +kernel) rfl rfl (Nat.le_of_ble_eq_true rfl) (dt uX8_why 22 rfl) (fun H locs hP hD hS => ?_)
    have hP : va_P (dC, dI) vwCl [(ad0, oX8 v_trace ad_text v_typed ad_books ad_numberA ad_numberB ad_draftTouches v_draftOne v_oneTold v_at v_start v_sort v_value v_fault ad_now ad_isKept ad_near ad_seenDays ad_seenBook ad_seenIs v_seen (0 : Int32) (((1 : Int32) <<< ((a_books (0 : Int32).toNatClampNeg) &&& 31)) - (1 : Int32)) (0 : Int32)), (ad_books, .inl (cI, 2, .inl a_books)), (ad_numberA, .inl (cI, 12, .inl a_numberA)), (ad_numberB, .inl (cI, 12, .inl a_numberB)), (ad_now, .inl (cI, 498, .inl a_now))] H := hP
    have hD : va_D A [(ad0, oX8 v_trace ad_text v_typed ad_books ad_numberA ad_numberB ad_draftTouches v_draftOne v_oneTold v_at v_start v_sort v_value v_fault ad_now ad_isKept ad_near ad_seenDays ad_seenBook ad_seenIs v_seen (0 : Int32) (((1 : Int32) <<< ((a_books (0 : Int32).toNatClampNeg) &&& 31)) - (1 : Int32)) (0 : Int32)), (ad_books, .inl (cI, 2, .inl a_books)), (ad_numberA, .inl (cI, 12, .inl a_numberA)), (ad_numberB, .inl (cI, 12, .inl a_numberB)), (ad_now, .inl (cI, 498, .inl a_now))] := hD
    refine lv_aload_n hx hb (dt uX8_why 23 rfl) rfl (lv_at hl 0 rfl) ?_
    refine lv_iconst (v := (2 : Int32)) hx hb (dt uX8_why 24 rfl) (by decide) ?_
    obtain ⟨q_3, hq_4, hf⟩ := vbd hf
    refine vk_i0 [0, 1, 2, 3, 4] (va_runV (As := [.int (2 : Int32)]) (rest := []) ⟨hx, hb, hml, hown, hts⟩ (kX8_now ad0 ad_text ad_books ad_numberA ad_numberB ad_draftTouches ad_now ad_isKept ad_near ad_seenDays ad_seenBook ad_seenIs v_trace v_typed v_draftOne v_oneTold v_at v_start v_sort v_value v_fault v_seen (0 : Int32) (((1 : Int32) <<< ((a_books (0 : Int32).toNatClampNeg) &&& 31)) - (1 : Int32)) (0 : Int32) a_books a_numberA a_numberB a_now (2 : Int32) N q_3 hq_4 H.size) (vcwV hts tw_478 tw_479 tw_480 tw_336 tw_477 hd_X8_now rfl rfl ⟨Nat.le_of_ble_eq_true rfl, Nat.le_of_ble_eq_true rfl⟩) (vpreV hK hN hP hD [0, 1, 2, 3, 4] rfl (by decide) (ci := 8) (q0 := 0) rfl rfl) rfl rfl hl.1 rfl (lv_room (Nat.le_of_ble_eq_true rfl)) (dt uX8_why 25 rfl) ⟨Nat.zero_le _, Nat.zero_le _⟩) hA hP hD hS rfl (by decide) (fun H locs hP hD hS => ?_)
    refine lv_istore_n (lv' := [(2, .int q_3), (0, .ref ad0), (1, .int p1)]) hx hb (dt uX8_why 26 rfl) rfl hl (by decide) rfl (fun ls hl => ?_)
    refine lv_iconst (v := (0 : Int32)) hx hb (dt uX8_why 27 rfl) (by decide) ?_
    refine lv_istore_n (lv' := [(3, .int (0 : Int32)), (2, .int q_3), (0, .ref ad0), (1, .int p1)]) hx hb (dt uX8_why 28 rfl) rfl hl (by decide) rfl (fun ls hl => ?_)
    have hL43 : ∀ (n43 : Nat), ∀ (x3_5 : Int32) (w_6 : Int32) (w_7 : Int32) (w_8 : Int32) (H : Heap) (locs : List Loc) (ls : Array Slot), fX8_why_L43 N a_books a_numberA a_numberB p1 q_3 n43 x3_5 w_6 w_7 w_8 = some q0 → va_P (dC, dI) vwCl [(ad0, oX8 v_trace ad_text v_typed ad_books ad_numberA ad_numberB ad_draftTouches v_draftOne v_oneTold v_at v_start v_sort v_value v_fault ad_now ad_isKept ad_near ad_seenDays ad_seenBook ad_seenIs v_seen w_6 w_7 w_8), (ad_books, .inl (cI, 2, .inl a_books)), (ad_numberA, .inl (cI, 12, .inl a_numberA)), (ad_numberB, .inl (cI, 12, .inl a_numberB)), (ad_now, .inl (cI, 498, .inl a_now))] H → va_D A [(ad0, oX8 v_trace ad_text v_typed ad_books ad_numberA ad_numberB ad_draftTouches v_draftOne v_oneTold v_at v_start v_sort v_value v_fault ad_now ad_isKept ad_near ad_seenDays ad_seenBook ad_seenIs v_seen w_6 w_7 w_8), (ad_books, .inl (cI, 2, .inl a_books)), (ad_numberA, .inl (cI, 12, .inl a_numberA)), (ad_numberB, .inl (cI, 12, .inl a_numberB)), (ad_now, .inl (cI, 498, .inl a_now))] → va_S A s.heap H locs → lv_has ls 4 [(0, .ref ad0), (1, .int p1), (2, .int q_3), (3, .int x3_5)] → W p l e rX8_why s m args below meth c H locs 0 0 Q (F0 m 43 ls []) := by
      intro n43
      induction n43 with
      | zero => intro x3_5 w_6 w_7 w_8 H locs ls hf hP hD hS hl; cases hf
      | succ n43 ih43 =>
        intro x3_5 w_6 w_7 w_8 H locs ls hf hP hD hS hl
        rw [fX8_why_L43] at hf
        refine lv_iload_n hx hb (dt uX8_why 29 rfl) rfl (lv_at hl 3 rfl) ?_
        refine lv_iconst (v := (1 : Int32)) hx hb (dt uX8_why 30 rfl) (by decide) ?_
        refine lv_iconst (v := (2 : Int32)) hx hb (dt uX8_why 31 rfl) (by decide) ?_
        refine lv_aload_n hx hb (dt uX8_why 32 rfl) rfl (lv_at hl 0 rfl) ?_
        refine va_get (D := (dC, dI)) (ci := 8) (v := .ref ad_books) (C := RX8) (T := TX8) (N := 24) hx hb hts inU8 hown hK hP 0 rfl rfl 3 (by decide) (hts _ tw_360) (fun _ h9 => h9) rfl (dt uX8_why 33 rfl) ?_
        refine lv_iconst (v := (0 : Int32)) hx hb (dt uX8_why 34 rfl) (by decide) ?_
        refine va_iald hx hb hK hP 1 0 rfl rfl (vp_in_iff.mpr (by decide)) (dt uX8_why 35 rfl) ?_
        refine lv_imul hx hb (dt uX8_why 36 rfl) ?_
        refine lv_ishl hx hb (dt uX8_why 37 rfl) ?_
        refine lv_icmp_ge (tgt := 69) hx hb (dt uX8_why 38 rfl) (by decide) (fun c_9 => ?_) (fun c_9 => ?_)
        · have hf := vif_t c_9 hf
          refine lv_iload_n hx hb (dt uX8_why 45 rfl) rfl (lv_at hl 1 rfl) ?_
          refine lv_if_ne (tgt := 80) hx hb (dt uX8_why 46 rfl) (by decide) (fun c_10 => ?_) (fun c_10 => ?_)
          · have hf := vif_f c_10 hf
            refine lv_iload_n hx hb (dt uX8_why 50 rfl) rfl (lv_at hl 1 rfl) ?_
            refine lv_iconst (v := (1 : Int32)) hx hb (dt uX8_why 51 rfl) (by decide) ?_
            refine lv_icmp_ne (tgt := 92) hx hb (dt uX8_why 52 rfl) (by decide) (fun c_11 => ?_) (fun c_11 => ?_)
            · have hf := vif_f c_11 hf
              refine lv_aload_n hx hb (dt uX8_why 56 rfl) rfl (lv_at hl 0 rfl) ?_
              refine va_get (D := (dC, dI)) (ci := 8) (v := .int w_8) (C := RX8) (T := TX8) (N := 24) hx hb hts inU8 hown hK hP 0 rfl rfl 23 (by decide) (hts _ tw_476) (fun _ h9 => h9) rfl (dt uX8_why 57 rfl) ?_
              have hf := Option.some.inj hf
              subst hf
              rw [hQ]
              exact vret_i C hP hD hS (dt uX8_why 58 rfl)
            · have hf := vif_t c_11 hf
              refine lv_aload_n hx hb (dt uX8_why 53 rfl) rfl (lv_at hl 0 rfl) ?_
              refine va_get (D := (dC, dI)) (ci := 8) (v := .int w_7) (C := RX8) (T := TX8) (N := 24) hx hb hts inU8 hown hK hP 0 rfl rfl 22 (by decide) (hts _ tw_475) (fun _ h9 => h9) rfl (dt uX8_why 54 rfl) ?_
              refine lv_goto (tgt := 96) hx hb (dt uX8_why 55 rfl) (by decide) ?_
              have hf := Option.some.inj hf
              subst hf
              rw [hQ]
              exact vret_i C hP hD hS (dt uX8_why 58 rfl)
          · have hf := vif_t c_10 hf
            refine lv_aload_n hx hb (dt uX8_why 47 rfl) rfl (lv_at hl 0 rfl) ?_
            refine va_get (D := (dC, dI)) (ci := 8) (v := .int w_6) (C := RX8) (T := TX8) (N := 24) hx hb hts inU8 hown hK hP 0 rfl rfl 21 (by decide) (hts _ tw_474) (fun _ h9 => h9) rfl (dt uX8_why 48 rfl) ?_
            refine lv_goto (tgt := 96) hx hb (dt uX8_why 49 rfl) (by decide) ?_
            have hf := Option.some.inj hf
            subst hf
            rw [hQ]
            exact vret_i C hP hD hS (dt uX8_why 58 rfl)
        · have hf := vif_f c_9 hf
          refine lv_aload_n hx hb (dt uX8_why 39 rfl) rfl (lv_at hl 0 rfl) ?_
          refine lv_iload_n hx hb (dt uX8_why 40 rfl) rfl (lv_at hl 3 rfl) ?_
          refine lv_iload_n hx hb (dt uX8_why 41 rfl) rfl (lv_at hl 2 rfl) ?_
          obtain ⟨q_12, hq_13, hf⟩ := vbd hf
          refine vk_v [0, 1, 2, 3] (ws2 := [(ad0, oX8 v_trace ad_text v_typed ad_books ad_numberA ad_numberB ad_draftTouches v_draftOne v_oneTold v_at v_start v_sort v_value v_fault ad_now ad_isKept ad_near ad_seenDays ad_seenBook ad_seenIs v_seen q_12.1 q_12.2.1 q_12.2.2), (ad_books, .inl (cI, 2, .inl a_books)), (ad_numberA, .inl (cI, 12, .inl a_numberA)), (ad_numberB, .inl (cI, 12, .inl a_numberB)), (ad_now, .inl (cI, 498, .inl a_now))]) (va_runV (As := [.int x3_5, .int q_3]) (rest := []) ⟨hx, hb, hml, hown, hts⟩ (kX8_look ad0 ad_text ad_books ad_numberA ad_numberB ad_draftTouches ad_now ad_isKept ad_near ad_seenDays ad_seenBook ad_seenIs v_trace v_typed v_draftOne v_oneTold v_at v_start v_sort v_value v_fault v_seen w_6 w_7 w_8 a_books a_numberA a_numberB x3_5 q_3 N q_12 hq_13 H.size) (vcwV hts tw_482 tw_483 tw_484 tw_336 tw_481 hd_X8_look rfl rfl ⟨Nat.le_of_ble_eq_true rfl, Nat.le_of_ble_eq_true rfl⟩) (vpreV hK hN hP hD [0, 1, 2, 3] rfl (by decide) (ci := 8) (q0 := 0) rfl rfl) rfl rfl hl.1 rfl (lv_room (Nat.le_of_ble_eq_true rfl)) (dt uX8_why 42 rfl) ⟨Nat.zero_le _, Nat.zero_le _⟩) hA hP hD hS rfl (by decide) rfl rfl (fun H locs hP hD hS => ?_)
          refine lv_iinc (v := x3_5 + 1) (lv' := [(3, .int (x3_5 + 1)), (0, .ref ad0), (1, .int p1), (2, .int q_3)]) hx hb (dt uX8_why 43 rfl) hl (k := 3) rfl rfl (by decide) rfl (fun ls hl => ?_)
          refine lv_goto (tgt := 43) hx hb (dt uX8_why 44 rfl) (by decide) ?_
          exact ih43 (x3_5 + 1) q_12.1 q_12.2.1 q_12.2.2 _ _ _ hf hP hD hS (lv_sub hl [1, 2, 3, 0] rfl)
    exact hL43 N (0 : Int32) (0 : Int32) (((1 : Int32) <<< ((a_books (0 : Int32).toNatClampNeg) &&& 31)) - (1 : Int32)) (0 : Int32) _ _ _ hf hP hD hS (lv_sub hl [2, 3, 1, 0] rfl)
  · have hf := vif_t c_2 hf
    refine lv_iconst (v := (-1 : Int32)) hx hb (dt uX8_why 5 rfl) (by decide) ?_
    have hf := Option.some.inj hf
    subst hf
    rw [hQ]
    exact vret_i C hP hD hS (dt uX8_why 6 rfl)
abbrev rX8_proofs : Room := { frames := 1, cells := 0, slots := 0, locals := 22 }
abbrev wX8_proofs : List Cond := Cond.code yX8_proofs cX8_proofs 4 (some .int) :: VT
set_option maxHeartbeats 4000000 in
set_option maxRecDepth 100000 in
theorem kX8_proofs (ad0 : Nat) (p1 : Int32) (N : Nat) (q0 : Int32) (hf : fX8_proofs N p1 = some q0) : Ki l yX8_proofs wX8_proofs rX8_proofs (dC, dI) (vTy cI cJ cB cZ) [.ref ad0, .int p1] [] [] q0 := by
  refine Ki.mk (cc := cX8_proofs) (maxL := 4) (ret := some .int) (by decide) (Nat.le_of_ble_eq_true rfl) ?_
  intro p e s m args below meth c A Q H locs C hQ hP hD hS ls hl
  obtain ⟨hx, hb, -, hml, hts, hown, -, hK, hN, hA⟩ := id C
  have hown : s.vm.findClass RX8 = some m.cls := hown
  have hl : lv_has ls 4 [(0, .ref ad0), (1, .int p1)] := hl
  unfold fX8_proofs at hf
  refine lv_iload_n hx hb (dt uX8_proofs 0 rfl) rfl (lv_at hl 1 rfl) ?_
  refine lv_iconst (v := (0 : Int32)) hx hb (dt uX8_proofs 1 rfl) (by decide) ?_
  refine lv_bipush (v := (99 : Int32)) hx hb (dt uX8_proofs 2 rfl) (by decide) ?_
  refine vk_z0 [] (va_runS (As := [.int p1, .int (0 : Int32), .int (99 : Int32)]) (rest := []) ⟨hx, hb, hml, hown, hts⟩ (kX8_in p1 (0 : Int32) (99 : Int32) _ rfl H.size) (vcwS hts tw_338 tw_339 tw_336 tw_337 hd_X8_in rfl rfl ⟨Nat.le_of_ble_eq_true rfl, Nat.le_of_ble_eq_true rfl⟩) (vpreS hK hN hP hD [] rfl (by decide)) rfl rfl hl.1 rfl (lv_room (Nat.le_of_ble_eq_true rfl)) (dt uX8_proofs 3 rfl) ⟨Nat.zero_le _, Nat.zero_le _⟩) hA hP hD hS rfl (by decide) (fun hz_1 H locs hP hD hS => ?_)
  refine lv_if_ne (tgt := 12) hx hb (dt uX8_proofs 4 rfl) (by decide) (fun c_2 => ?_) (fun c_2 => ?_)
  · have hf := vif_f c_2 hf
    refine lv_iconst (v := (0 : Int32)) hx hb (dt uX8_proofs 7 rfl) (by decide) ?_
    refine lv_istore_n (lv' := [(2, .int (0 : Int32)), (0, .ref ad0), (1, .int p1)]) hx hb (dt uX8_proofs 8 rfl) rfl hl (by decide) rfl (fun ls hl => ?_)
    refine lv_iconst (v := (1 : Int32)) hx hb (dt uX8_proofs 9 rfl) (by decide) ?_
    refine lv_istore_n (lv' := [(3, .int (1 : Int32)), (2, .int (0 : Int32)), (0, .ref ad0), (1, .int p1)]) hx hb (dt uX8_proofs 10 rfl) rfl hl (by decide) rfl (fun ls hl => ?_)
    have hL16 : ∀ (n16 : Nat), ∀ (x2_3 : Int32) (x3_4 : Int32) (H : Heap) (locs : List Loc) (ls : Array Slot), fX8_proofs_L16 p1 n16 x2_3 x3_4 = some q0 → va_P (dC, dI) vwCl [] H → va_D A [] → va_S A s.heap H locs → lv_has ls 4 [(1, .int p1), (2, .int x2_3), (3, .int x3_4)] → W p l e rX8_proofs s m args below meth c H locs 0 0 Q (F0 m 16 ls []) := by
      intro n16
      induction n16 with
      | zero => intro x2_3 x3_4 H locs ls hf hP hD hS hl; cases hf
      | succ n16 ih16 =>
        intro x2_3 x3_4 H locs ls hf hP hD hS hl
        rw [fX8_proofs_L16] at hf
        refine lv_iload_n hx hb (dt uX8_proofs 11 rfl) rfl (lv_at hl 2 rfl) ?_
        refine lv_iload_n hx hb (dt uX8_proofs 12 rfl) rfl (lv_at hl 0 rfl) ?_
        refine lv_icmp_ge (tgt := 31) hx hb (dt uX8_proofs 13 rfl) (by decide) (fun c_5 => ?_) (fun c_5 => ?_)
        · have hf := vif_t c_5 hf
          refine lv_iload_n hx hb (dt uX8_proofs 20 rfl) rfl (lv_at hl 1 rfl) ?_
          have hf := Option.some.inj hf
          subst hf
          rw [hQ]
          exact vret_i C hP hD hS (dt uX8_proofs 21 rfl)
        · have hf := vif_f c_5 hf
          refine lv_iload_n hx hb (dt uX8_proofs 14 rfl) rfl (lv_at hl 2 rfl) ?_
          refine lv_iconst (v := (2 : Int32)) hx hb (dt uX8_proofs 15 rfl) (by decide) ?_
          refine lv_imul hx hb (dt uX8_proofs 16 rfl) ?_
          refine lv_istore_n (lv' := [(3, .int (x3_4 * (2 : Int32))), (1, .int p1), (2, .int x2_3)]) hx hb (dt uX8_proofs 17 rfl) rfl hl (by decide) rfl (fun ls hl => ?_)
          refine lv_iinc (v := x2_3 + 1) (lv' := [(2, .int (x2_3 + 1)), (3, .int (x3_4 * (2 : Int32))), (1, .int p1)]) hx hb (dt uX8_proofs 18 rfl) hl (k := 2) rfl rfl (by decide) rfl (fun ls hl => ?_)
          refine lv_goto (tgt := 16) hx hb (dt uX8_proofs 19 rfl) (by decide) ?_
          exact ih16 (x2_3 + 1) (x3_4 * (2 : Int32)) _ _ _ hf hP hD hS (lv_sub hl [2, 0, 1] rfl)
    exact hL16 N (0 : Int32) (1 : Int32) _ _ _ hf hP hD hS (lv_sub hl [3, 1, 0] rfl)
  · have hf := vif_t c_2 hf
    refine lv_iconst (v := (-1 : Int32)) hx hb (dt uX8_proofs 5 rfl) (by decide) ?_
    have hf := Option.some.inj hf
    subst hf
    rw [hQ]
    exact vret_i C hP hD hS (dt uX8_proofs 6 rfl)
abbrev rX8_mark : Room := { frames := 3, cells := 0, slots := 0, locals := 64 }
abbrev wX8_mark : List Cond := Cond.code yX8_mark cX8_mark 4 (some .int) :: VT
set_option maxHeartbeats 4000000 in
set_option maxRecDepth 100000 in
theorem kX8_mark (ad0 : Nat) (ad_text : Nat) (ad_books : Nat) (ad_numberA : Nat) (ad_numberB : Nat) (ad_draftTouches : Nat) (ad_now : Nat) (ad_isKept : Nat) (ad_near : Nat) (ad_seenDays : Nat) (ad_seenBook : Nat) (ad_seenIs : Nat) (v_trace : Int64) (v_typed : Int32) (v_draftOne : Int32) (v_oneTold : Int32) (v_at : Int32) (v_start : Int32) (v_sort : Int32) (v_value : Int32) (v_fault : Int32) (v_seen : Int32) (v_sets : Int32) (v_inEach : Int32) (v_inSome : Int32) (a_books : Nat → Int32) (a_numberA : Nat → Int32) (a_numberB : Nat → Int32) (a_now : Nat → Int32) (p1 : Int32) (p2 : Int32) (N : Nat) (q0 : (Int32 × Int64)) (hf : fX8_mark N a_books a_numberA a_numberB a_now v_trace p1 p2 = some q0) : Ki l yX8_mark wX8_mark rX8_mark (dC, dI) (vTy cI cJ cB cZ) [.ref ad0, .int p1, .int p2] [(ad0, oX8 v_trace ad_text v_typed ad_books ad_numberA ad_numberB ad_draftTouches v_draftOne v_oneTold v_at v_start v_sort v_value v_fault ad_now ad_isKept ad_near ad_seenDays ad_seenBook ad_seenIs v_seen v_sets v_inEach v_inSome), (ad_books, .inl (cI, 2, .inl a_books)), (ad_numberA, .inl (cI, 12, .inl a_numberA)), (ad_numberB, .inl (cI, 12, .inl a_numberB)), (ad_now, .inl (cI, 498, .inl a_now))] [(ad0, oX8 q0.2 ad_text v_typed ad_books ad_numberA ad_numberB ad_draftTouches v_draftOne v_oneTold v_at v_start v_sort v_value v_fault ad_now ad_isKept ad_near ad_seenDays ad_seenBook ad_seenIs v_seen v_sets v_inEach v_inSome), (ad_books, .inl (cI, 2, .inl a_books)), (ad_numberA, .inl (cI, 12, .inl a_numberA)), (ad_numberB, .inl (cI, 12, .inl a_numberB)), (ad_now, .inl (cI, 498, .inl a_now))] q0.1 := by
  refine Ki.mk (cc := cX8_mark) (maxL := 4) (ret := some .int) (by decide) (Nat.le_of_ble_eq_true rfl) ?_
  intro p e s m args below meth c A Q H locs C hQ hP hD hS ls hl
  obtain ⟨hx, hb, -, hml, hts, hown, -, hK, hN, hA⟩ := id C
  have hown : s.vm.findClass RX8 = some m.cls := hown
  have hl : lv_has ls 4 [(0, .ref ad0), (1, .int p1), (2, .int p2)] := hl
  unfold fX8_mark at hf
  refine lv_iload_n hx hb (dt uX8_mark_0 0 rfl) rfl (lv_at hl 1 rfl) ?_
  refine lv_iconst (v := (0 : Int32)) hx hb (dt uX8_mark_0 1 rfl) (by decide) ?_
  refine lv_iconst (v := (5 : Int32)) hx hb (dt uX8_mark_0 2 rfl) (by decide) ?_
  refine vk_z0 [] (va_runS (As := [.int p1, .int (0 : Int32), .int (5 : Int32)]) (rest := []) ⟨hx, hb, hml, hown, hts⟩ (kX8_in p1 (0 : Int32) (5 : Int32) _ rfl H.size) (vcwS hts tw_338 tw_339 tw_336 tw_337 hd_X8_in rfl rfl ⟨Nat.le_of_ble_eq_true rfl, Nat.le_of_ble_eq_true rfl⟩) (vpreS hK hN hP hD [] rfl (by decide)) rfl rfl hl.1 rfl (lv_room (Nat.le_of_ble_eq_true rfl)) (dt uX8_mark_0 3 rfl) ⟨Nat.zero_le _, Nat.zero_le _⟩) hA hP hD hS rfl (by decide) (fun hz_1 H locs hP hD hS => ?_)
  refine lv_if_eq (tgt := 17) hx hb (dt uX8_mark_0 4 rfl) (by decide) (fun c_2 => ?_) (fun c_2 => ?_)
  · have hf := vif_t c_2 hf
    refine lv_ldc (v := (-1000000 : Int32)) hx hb hown (hts _ tw_485) (dt uX8_mark_0 9 rfl) ?_
    have hf := Option.some.inj hf
    subst hf
    rw [hQ]
    exact vret_i C hP hD hS (dt uX8_mark_0 10 rfl)
  · have hf := vif_f c_2 hf
    refine lv_aload_n hx hb (dt uX8_mark_0 5 rfl) rfl (lv_at hl 0 rfl) ?_
    refine lv_iload_n hx hb (dt uX8_mark_0 6 rfl) rfl (lv_at hl 2 rfl) ?_
    refine vk_z0 [0, 1] (va_runV (As := [.int p2]) (rest := []) ⟨hx, hb, hml, hown, hts⟩ (kX8_isBook ad0 ad_text ad_books ad_numberA ad_numberB ad_draftTouches ad_now ad_isKept ad_near ad_seenDays ad_seenBook ad_seenIs v_trace v_typed v_draftOne v_oneTold v_at v_start v_sort v_value v_fault v_seen v_sets v_inEach v_inSome a_books p2 _ rfl H.size) (vcwV hts tw_403 tw_404 tw_405 tw_336 tw_402 hd_X8_isBook rfl rfl ⟨Nat.le_of_ble_eq_true rfl, Nat.le_of_ble_eq_true rfl⟩) (vpreV hK hN hP hD [0, 1] rfl (by decide) (ci := 8) (q0 := 0) rfl rfl) rfl rfl hl.1 rfl (lv_room (Nat.le_of_ble_eq_true rfl)) (dt uX8_mark_0 7 rfl) ⟨Nat.zero_le _, Nat.zero_le _⟩) hA hP hD hS rfl (by decide) (fun hz_3 H locs hP hD hS => ?_)
    refine lv_if_ne (tgt := 20) hx hb (dt uX8_mark_0 8 rfl) (by decide) (fun c_4 => ?_) (fun c_4 => ?_)
    · have hf := vif_f c_4 hf
      refine lv_aload_n hx hb (dt uX8_mark_0 11 rfl) rfl (lv_at hl 0 rfl) ?_
      refine lv_iload_n hx hb (dt uX8_mark_0 12 rfl) rfl (lv_at hl 2 rfl) ?_
      obtain ⟨q_5, hq_6, hf⟩ := vbd hf
      refine vk_i0 [0, 2, 3, 4] (va_runV (As := [.int p2]) (rest := []) ⟨hx, hb, hml, hown, hts⟩ (kX8_shown ad0 ad_text ad_books ad_numberA ad_numberB ad_draftTouches ad_now ad_isKept ad_near ad_seenDays ad_seenBook ad_seenIs v_trace v_typed v_draftOne v_oneTold v_at v_start v_sort v_value v_fault v_seen v_sets v_inEach v_inSome a_numberA a_numberB a_now p2 q_5 hq_6 H.size) (vcwV hts tw_407 tw_408 tw_409 tw_336 tw_406 hd_X8_shown rfl rfl ⟨Nat.le_of_ble_eq_true rfl, Nat.le_of_ble_eq_true rfl⟩) (vpreV hK hN hP hD [0, 2, 3, 4] rfl (by decide) (ci := 8) (q0 := 0) rfl rfl) rfl rfl hl.1 rfl (lv_room (Nat.le_of_ble_eq_true rfl)) (dt uX8_mark_0 13 rfl) ⟨Nat.zero_le _, Nat.zero_le _⟩) hA hP hD hS rfl (by decide) (fun H locs hP hD hS => ?_)
      refine lv_istore_n (lv' := [(3, .int q_5), (0, .ref ad0), (1, .int p1), (2, .int p2)]) hx hb (dt uX8_mark_0 14 rfl) rfl hl (by decide) rfl (fun ls hl => ?_)
      refine lv_iload_n hx hb (dt uX8_mark_0 15 rfl) rfl (lv_at hl 2 rfl) ?_
      by_cases c_7 : p1 = (0 : Int32)
      · have hf := vif_t c_7 hf
        refine lv_tableIn (off := 33) (tgt := 60) hx hb (dt uX8_mark_0 16 rfl) (by rw [c_7]; decide) (by rw [c_7]; decide) (by rw [c_7]; rfl) (by decide) ?_
        refine lv_aload_n hx hb (dt uX8_mark_0 17 rfl) rfl (lv_at hl 1 rfl) ?_
        refine lv_dup hx hb (dt uX8_mark_0 18 rfl) rfl ?_
        refine va_get (D := (dC, dI)) (ci := 8) (v := .long v_trace) (C := RX8) (T := TX8) (N := 24) hx hb hts inU8 hown hK hP 0 rfl rfl 0 (by decide) (hts _ tw_486) (fun _ h9 => h9) rfl (dt uX8_mark_0 19 rfl) ?_
        refine lv_lconst (v := (1 : Int64)) hx hb (dt uX8_mark_0 20 rfl) (by decide) ?_
        refine lv_ladd hx hb (dt uX8_mark_0 21 rfl) ?_
        refine va_put (D := (dC, dI)) (ci := 8) (v := .long (v_trace + (1 : Int64))) (ty := .long) (C := RX8) (T := TX8) (N := 24) hx hb hts inU8 tyX8 tyX8_ok nmX8 hown hK hP hD hS 0 rfl rfl 0 (by decide) (hts _ tw_486) (fun _ h9 => h9) rfl (by decide +kernel) rfl rfl (Nat.le_of_ble_eq_true rfl) (dt uX8_mark_0 22 rfl) (fun H locs hP hD hS => ?_)
        have hP : va_P (dC, dI) vwCl [(ad0, oX8 (v_trace + (1 : Int64)) ad_text v_typed ad_books ad_numberA ad_numberB ad_draftTouches v_draftOne v_oneTold v_at v_start v_sort v_value v_fault ad_now ad_isKept ad_near ad_seenDays ad_seenBook ad_seenIs v_seen v_sets v_inEach v_inSome), (ad_books, .inl (cI, 2, .inl a_books)), (ad_numberA, .inl (cI, 12, .inl a_numberA)), (ad_numberB, .inl (cI, 12, .inl a_numberB)), (ad_now, .inl (cI, 498, .inl a_now))] H := hP
        have hD : va_D A [(ad0, oX8 (v_trace + (1 : Int64)) ad_text v_typed ad_books ad_numberA ad_numberB ad_draftTouches v_draftOne v_oneTold v_at v_start v_sort v_value v_fault ad_now ad_isKept ad_near ad_seenDays ad_seenBook ad_seenIs v_seen v_sets v_inEach v_inSome), (ad_books, .inl (cI, 2, .inl a_books)), (ad_numberA, .inl (cI, 12, .inl a_numberA)), (ad_numberB, .inl (cI, 12, .inl a_numberB)), (ad_now, .inl (cI, 498, .inl a_now))] := hD
        refine lv_iload_n hx hb (dt uX8_mark_0 23 rfl) rfl (lv_at hl 0 rfl) ?_
        have hf := Option.some.inj hf
        subst hf
        rw [hQ]
        exact vret_i C hP hD hS (dt uX8_mark_0 24 rfl)
      have hf := vif_f c_7 hf
      by_cases c_8 : p1 = (1 : Int32)
      · have hf := vif_t c_8 hf
        refine lv_tableIn (off := 45) (tgt := 72) hx hb (dt uX8_mark_0 16 rfl) (by rw [c_8]; decide) (by rw [c_8]; decide) (by rw [c_8]; rfl) (by decide) ?_
        refine lv_aload_n hx hb (dt uX8_mark_0 25 rfl) rfl (lv_at hl 1 rfl) ?_
        refine lv_dup hx hb (dt uX8_mark_0 26 rfl) rfl ?_
        refine va_get (D := (dC, dI)) (ci := 8) (v := .long v_trace) (C := RX8) (T := TX8) (N := 24) hx hb hts inU8 hown hK hP 0 rfl rfl 0 (by decide) (hts _ tw_486) (fun _ h9 => h9) rfl (dt uX8_mark_0 27 rfl) ?_
        refine lv_ldc2 (v := lc_11) hx hb hown (hts _ tw_487) (dt uX8_mark_0 28 rfl) ?_
        refine lv_ladd hx hb (dt uX8_mark_0 29 rfl) ?_
        obtain ⟨t_9, et_9, hf⟩ := vlet_ex hf
        rw [← et_9]
        refine va_put (D := (dC, dI)) (ci := 8) (v := .long t_9) (ty := .long) (C := RX8) (T := TX8) (N := 24) hx hb hts inU8 tyX8 tyX8_ok nmX8 hown hK hP hD hS 0 rfl rfl 0 (by decide) (hts _ tw_486) (fun _ h9 => h9) rfl (by decide +kernel) rfl rfl (Nat.le_of_ble_eq_true rfl) (dt uX8_mark_0 30 rfl) (fun H locs hP hD hS => ?_)
        have hP : va_P (dC, dI) vwCl [(ad0, oX8 t_9 ad_text v_typed ad_books ad_numberA ad_numberB ad_draftTouches v_draftOne v_oneTold v_at v_start v_sort v_value v_fault ad_now ad_isKept ad_near ad_seenDays ad_seenBook ad_seenIs v_seen v_sets v_inEach v_inSome), (ad_books, .inl (cI, 2, .inl a_books)), (ad_numberA, .inl (cI, 12, .inl a_numberA)), (ad_numberB, .inl (cI, 12, .inl a_numberB)), (ad_now, .inl (cI, 498, .inl a_now))] H := hP
        have hD : va_D A [(ad0, oX8 t_9 ad_text v_typed ad_books ad_numberA ad_numberB ad_draftTouches v_draftOne v_oneTold v_at v_start v_sort v_value v_fault ad_now ad_isKept ad_near ad_seenDays ad_seenBook ad_seenIs v_seen v_sets v_inEach v_inSome), (ad_books, .inl (cI, 2, .inl a_books)), (ad_numberA, .inl (cI, 12, .inl a_numberA)), (ad_numberB, .inl (cI, 12, .inl a_numberB)), (ad_now, .inl (cI, 498, .inl a_now))] := hD
        refine lv_iload_n hx hb (dt uX8_mark_0 31 rfl) rfl (lv_at hl 0 rfl) ?_
        refine lv_iload_n hx hb (dt uX8_mark_0 32 rfl) rfl (lv_at hl 0 rfl) ?_
        obtain ⟨q_10, hq_11, hf⟩ := vbd hf
        refine vk_i0 [] (va_runS (As := [.int q_5]) (rest := [.int q_5]) ⟨hx, hb, hml, hown, hts⟩ (kX8_tens q_5 N q_10 hq_11 H.size) (vcwS hts tw_424 tw_425 tw_336 tw_423 hd_X8_tens rfl rfl ⟨Nat.le_of_ble_eq_true rfl, Nat.le_of_ble_eq_true rfl⟩) (vpreS hK hN hP hD [] rfl (by decide)) rfl rfl hl.1 rfl (lv_room (Nat.le_of_ble_eq_true rfl)) (dt uX8_mark_0 33 rfl) ⟨Nat.zero_le _, Nat.zero_le _⟩) hA hP hD hS rfl (by decide) (fun H locs hP hD hS => ?_)
        refine lv_iadd hx hb (dt uX8_mark_0 34 rfl) ?_
        have hf := Option.some.inj hf
        subst hf
        rw [hQ]
        exact vret_i C hP hD hS (dt uX8_mark_0 35 rfl)
      have hf := vif_f c_8 hf
      by_cases c_12 : p1 = (2 : Int32)
      · have hf := vif_t c_12 hf
        refine lv_tableIn (off := 64) (tgt := 91) hx hb (dt uX8_mark_0 16 rfl) (by rw [c_12]; decide) (by rw [c_12]; decide) (by rw [c_12]; rfl) (by decide) ?_
        refine lv_aload_n hx hb (dt uX8_mark_0 36 rfl) rfl (lv_at hl 1 rfl) ?_
        refine lv_dup hx hb (dt uX8_mark_0 37 rfl) rfl ?_
        refine va_get (D := (dC, dI)) (ci := 8) (v := .long v_trace) (C := RX8) (T := TX8) (N := 24) hx hb hts inU8 hown hK hP 0 rfl rfl 0 (by decide) (hts _ tw_486) (fun _ h9 => h9) rfl (dt uX8_mark_0 38 rfl) ?_
        refine lv_ldc2 (v := lc_101) hx hb hown (hts _ tw_488) (dt uX8_mark_0 39 rfl) ?_
        refine lv_ladd hx hb (dt uX8_mark_0 40 rfl) ?_
        obtain ⟨t_13, et_13, hf⟩ := vlet_ex hf
        rw [← et_13]
        refine va_put (D := (dC, dI)) (ci := 8) (v := .long t_13) (ty := .long) (C := RX8) (T := TX8) (N := 24) hx hb hts inU8 tyX8 tyX8_ok nmX8 hown hK hP hD hS 0 rfl rfl 0 (by decide) (hts _ tw_486) (fun _ h9 => h9) rfl (by decide +kernel) rfl rfl (Nat.le_of_ble_eq_true rfl) (dt uX8_mark_0 41 rfl) (fun H locs hP hD hS => ?_)
        have hP : va_P (dC, dI) vwCl [(ad0, oX8 t_13 ad_text v_typed ad_books ad_numberA ad_numberB ad_draftTouches v_draftOne v_oneTold v_at v_start v_sort v_value v_fault ad_now ad_isKept ad_near ad_seenDays ad_seenBook ad_seenIs v_seen v_sets v_inEach v_inSome), (ad_books, .inl (cI, 2, .inl a_books)), (ad_numberA, .inl (cI, 12, .inl a_numberA)), (ad_numberB, .inl (cI, 12, .inl a_numberB)), (ad_now, .inl (cI, 498, .inl a_now))] H := hP
        have hD : va_D A [(ad0, oX8 t_13 ad_text v_typed ad_books ad_numberA ad_numberB ad_draftTouches v_draftOne v_oneTold v_at v_start v_sort v_value v_fault ad_now ad_isKept ad_near ad_seenDays ad_seenBook ad_seenIs v_seen v_sets v_inEach v_inSome), (ad_books, .inl (cI, 2, .inl a_books)), (ad_numberA, .inl (cI, 12, .inl a_numberA)), (ad_numberB, .inl (cI, 12, .inl a_numberB)), (ad_now, .inl (cI, 498, .inl a_now))] := hD
        refine lv_iload_n hx hb (dt uX8_mark_0 42 rfl) rfl (lv_at hl 0 rfl) ?_
        refine lv_aload_n hx hb (dt uX8_mark_0 43 rfl) rfl (lv_at hl 1 rfl) ?_
        refine lv_iload_n hx hb (dt uX8_mark_0 44 rfl) rfl (lv_at hl 3 rfl) ?_
        obtain ⟨q_14, hq_15, hf⟩ := vbd hf
        refine vk_i0 [0, 2, 3] (va_runV (As := [.int p2]) (rest := [.int q_5]) ⟨hx, hb, hml, hown, hts⟩ (kX8_sum ad0 ad_text ad_books ad_numberA ad_numberB ad_draftTouches ad_now ad_isKept ad_near ad_seenDays ad_seenBook ad_seenIs t_13 v_typed v_draftOne v_oneTold v_at v_start v_sort v_value v_fault v_seen v_sets v_inEach v_inSome a_numberA a_numberB p2 q_14 hq_15 H.size) (vcwV hts tw_392 tw_393 tw_394 tw_336 tw_391 hd_X8_sum rfl rfl ⟨Nat.le_of_ble_eq_true rfl, Nat.le_of_ble_eq_true rfl⟩) (vpreV hK hN hP hD [0, 2, 3] rfl (by decide) (ci := 8) (q0 := 0) rfl rfl) rfl rfl hl.1 rfl (lv_room (Nat.le_of_ble_eq_true rfl)) (dt uX8_mark_0 45 rfl) ⟨Nat.zero_le _, Nat.zero_le _⟩) hA hP hD hS rfl (by decide) (fun H locs hP hD hS => ?_)
        refine lv_isub hx hb (dt uX8_mark_0 46 rfl) ?_
        have hf := Option.some.inj hf
        subst hf
        rw [hQ]
        exact vret_i C hP hD hS (dt uX8_mark_0 47 rfl)
      have hf := vif_f c_12 hf
      by_cases c_16 : p1 = (3 : Int32)
      · have hf := vif_t c_16 hf
        refine lv_tableIn (off := 84) (tgt := 111) hx hb (dt uX8_mark_0 16 rfl) (by rw [c_16]; decide) (by rw [c_16]; decide) (by rw [c_16]; rfl) (by decide) ?_
        refine lv_aload_n hx hb (dt uX8_mark_0 48 rfl) rfl (lv_at hl 1 rfl) ?_
        refine lv_dup hx hb (dt uX8_mark_0 49 rfl) rfl ?_
        refine va_get (D := (dC, dI)) (ci := 8) (v := .long v_trace) (C := RX8) (T := TX8) (N := 24) hx hb hts inU8 hown hK hP 0 rfl rfl 0 (by decide) (hts _ tw_486) (fun _ h9 => h9) rfl (dt uX8_mark_0 50 rfl) ?_
        refine lv_ldc2 (v := lc_1011) hx hb hown (hts _ tw_489) (dt uX8_mark_0 51 rfl) ?_
        refine lv_ladd hx hb (dt uX8_mark_0 52 rfl) ?_
        obtain ⟨t_17, et_17, hf⟩ := vlet_ex hf
        rw [← et_17]
        refine va_put (D := (dC, dI)) (ci := 8) (v := .long t_17) (ty := .long) (C := RX8) (T := TX8) (N := 24) hx hb hts inU8 tyX8 tyX8_ok nmX8 hown hK hP hD hS 0 rfl rfl 0 (by decide) (hts _ tw_486) (fun _ h9 => h9) rfl (by decide +kernel) rfl rfl (Nat.le_of_ble_eq_true rfl) (dt uX8_mark_0 53 rfl) (fun H locs hP hD hS => ?_)
        have hP : va_P (dC, dI) vwCl [(ad0, oX8 t_17 ad_text v_typed ad_books ad_numberA ad_numberB ad_draftTouches v_draftOne v_oneTold v_at v_start v_sort v_value v_fault ad_now ad_isKept ad_near ad_seenDays ad_seenBook ad_seenIs v_seen v_sets v_inEach v_inSome), (ad_books, .inl (cI, 2, .inl a_books)), (ad_numberA, .inl (cI, 12, .inl a_numberA)), (ad_numberB, .inl (cI, 12, .inl a_numberB)), (ad_now, .inl (cI, 498, .inl a_now))] H := hP
        have hD : va_D A [(ad0, oX8 t_17 ad_text v_typed ad_books ad_numberA ad_numberB ad_draftTouches v_draftOne v_oneTold v_at v_start v_sort v_value v_fault ad_now ad_isKept ad_near ad_seenDays ad_seenBook ad_seenIs v_seen v_sets v_inEach v_inSome), (ad_books, .inl (cI, 2, .inl a_books)), (ad_numberA, .inl (cI, 12, .inl a_numberA)), (ad_numberB, .inl (cI, 12, .inl a_numberB)), (ad_now, .inl (cI, 498, .inl a_now))] := hD
        refine lv_iconst (v := (2 : Int32)) hx hb (dt uX8_mark_0 54 rfl) (by decide) ?_
        refine lv_iload_n hx hb (dt uX8_mark_0 55 rfl) rfl (lv_at hl 0 rfl) ?_
        refine lv_iload_n hx hb (dt uX8_mark_0 56 rfl) rfl (lv_at hl 0 rfl) ?_
        obtain ⟨q_18, hq_19, hf⟩ := vbd hf
        refine vk_i0 [] (va_runS (As := [.int q_5]) (rest := [.int q_5, .int (2 : Int32)]) ⟨hx, hb, hml, hown, hts⟩ (kX8_tens q_5 N q_18 hq_19 H.size) (vcwS hts tw_424 tw_425 tw_336 tw_423 hd_X8_tens rfl rfl ⟨Nat.le_of_ble_eq_true rfl, Nat.le_of_ble_eq_true rfl⟩) (vpreS hK hN hP hD [] rfl (by decide)) rfl rfl hl.1 rfl (lv_room (Nat.le_of_ble_eq_true rfl)) (dt uX8_mark_0 57 rfl) ⟨Nat.zero_le _, Nat.zero_le _⟩) hA hP hD hS rfl (by decide) (fun H locs hP hD hS => ?_)
        refine lv_iadd hx hb (dt uX8_mark_0 58 rfl) ?_
        refine lv_imul hx hb (dt uX8_mark_0 59 rfl) ?_
        have hf := Option.some.inj hf
        subst hf
        rw [hQ]
        exact vret_i C hP hD hS (dt uX8_mark_1 0 rfl)
      have hf := vif_f c_16 hf
      by_cases c_20 : p1 = (4 : Int32)
      · have hf := vif_t c_20 hf
        refine lv_tableIn (off := 105) (tgt := 132) hx hb (dt uX8_mark_0 16 rfl) (by rw [c_20]; decide) (by rw [c_20]; decide) (by rw [c_20]; rfl) (by decide) ?_
        refine lv_aload_n hx hb (dt uX8_mark_1 1 rfl) rfl (lv_at hl 1 rfl) ?_
        refine lv_dup hx hb (dt uX8_mark_1 2 rfl) rfl ?_
        refine va_get (D := (dC, dI)) (ci := 8) (v := .long v_trace) (C := RX8) (T := TX8) (N := 24) hx hb hts inU8 hown hK hP 0 rfl rfl 0 (by decide) (hts _ tw_486) (fun _ h9 => h9) rfl (dt uX8_mark_1 3 rfl) ?_
        refine lv_ldc2 (v := lc_10101) hx hb hown (hts _ tw_490) (dt uX8_mark_1 4 rfl) ?_
        refine lv_ladd hx hb (dt uX8_mark_1 5 rfl) ?_
        obtain ⟨t_21, et_21, hf⟩ := vlet_ex hf
        rw [← et_21]
        refine va_put (D := (dC, dI)) (ci := 8) (v := .long t_21) (ty := .long) (C := RX8) (T := TX8) (N := 24) hx hb hts inU8 tyX8 tyX8_ok nmX8 hown hK hP hD hS 0 rfl rfl 0 (by decide) (hts _ tw_486) (fun _ h9 => h9) rfl (by decide +kernel) rfl rfl (Nat.le_of_ble_eq_true rfl) (dt uX8_mark_1 6 rfl) (fun H locs hP hD hS => ?_)
        have hP : va_P (dC, dI) vwCl [(ad0, oX8 t_21 ad_text v_typed ad_books ad_numberA ad_numberB ad_draftTouches v_draftOne v_oneTold v_at v_start v_sort v_value v_fault ad_now ad_isKept ad_near ad_seenDays ad_seenBook ad_seenIs v_seen v_sets v_inEach v_inSome), (ad_books, .inl (cI, 2, .inl a_books)), (ad_numberA, .inl (cI, 12, .inl a_numberA)), (ad_numberB, .inl (cI, 12, .inl a_numberB)), (ad_now, .inl (cI, 498, .inl a_now))] H := hP
        have hD : va_D A [(ad0, oX8 t_21 ad_text v_typed ad_books ad_numberA ad_numberB ad_draftTouches v_draftOne v_oneTold v_at v_start v_sort v_value v_fault ad_now ad_isKept ad_near ad_seenDays ad_seenBook ad_seenIs v_seen v_sets v_inEach v_inSome), (ad_books, .inl (cI, 2, .inl a_books)), (ad_numberA, .inl (cI, 12, .inl a_numberA)), (ad_numberB, .inl (cI, 12, .inl a_numberB)), (ad_now, .inl (cI, 498, .inl a_now))] := hD
        refine lv_iload_n hx hb (dt uX8_mark_1 7 rfl) rfl (lv_at hl 0 rfl) ?_
        refine lv_aload_n hx hb (dt uX8_mark_1 8 rfl) rfl (lv_at hl 1 rfl) ?_
        refine lv_iload_n hx hb (dt uX8_mark_1 9 rfl) rfl (lv_at hl 3 rfl) ?_
        obtain ⟨q_22, hq_23, hf⟩ := vbd hf
        refine vk_i0 [0, 2, 3] (va_runV (As := [.int p2]) (rest := [.int q_5]) ⟨hx, hb, hml, hown, hts⟩ (kX8_sum ad0 ad_text ad_books ad_numberA ad_numberB ad_draftTouches ad_now ad_isKept ad_near ad_seenDays ad_seenBook ad_seenIs t_21 v_typed v_draftOne v_oneTold v_at v_start v_sort v_value v_fault v_seen v_sets v_inEach v_inSome a_numberA a_numberB p2 q_22 hq_23 H.size) (vcwV hts tw_392 tw_393 tw_394 tw_336 tw_391 hd_X8_sum rfl rfl ⟨Nat.le_of_ble_eq_true rfl, Nat.le_of_ble_eq_true rfl⟩) (vpreV hK hN hP hD [0, 2, 3] rfl (by decide) (ci := 8) (q0 := 0) rfl rfl) rfl rfl hl.1 rfl (lv_room (Nat.le_of_ble_eq_true rfl)) (dt uX8_mark_1 10 rfl) ⟨Nat.zero_le _, Nat.zero_le _⟩) hA hP hD hS rfl (by decide) (fun H locs hP hD hS => ?_)
        refine lv_isub hx hb (dt uX8_mark_1 11 rfl) ?_
        refine lv_aload_n hx hb (dt uX8_mark_1 12 rfl) rfl (lv_at hl 1 rfl) ?_
        refine va_get (D := (dC, dI)) (ci := 8) (v := .ref ad_now) (C := RX8) (T := TX8) (N := 24) hx hb hts inU8 hown hK hP 0 rfl rfl 14 (by decide) (hts _ tw_369) (fun _ h9 => h9) rfl (dt uX8_mark_1 13 rfl) ?_
        refine lv_bipush (v := (6 : Int32)) hx hb (dt uX8_mark_1 14 rfl) (by decide) ?_
        refine lv_iload_n hx hb (dt uX8_mark_1 15 rfl) rfl (lv_at hl 3 rfl) ?_
        refine lv_iadd hx hb (dt uX8_mark_1 16 rfl) ?_
        obtain ⟨hi_24, hf⟩ := vg_some hf
        refine va_iald hx hb hK hP 4 0 rfl rfl hi_24 (dt uX8_mark_1 17 rfl) ?_
        obtain ⟨q_25, hq_26, hf⟩ := vbd hf
        refine vk_i0 [] (va_runS (As := [.int (a_now ((6 : Int32) + p2).toNatClampNeg)]) (rest := [.int (q_5 - q_22)]) ⟨hx, hb, hml, hown, hts⟩ (kX8_manyOf (a_now ((6 : Int32) + p2).toNatClampNeg) N q_25 hq_26 H.size) (vcwS hts tw_400 tw_401 tw_336 tw_399 hd_X8_manyOf rfl rfl ⟨Nat.le_of_ble_eq_true rfl, Nat.le_of_ble_eq_true rfl⟩) (vpreS hK hN hP hD [] rfl (by decide)) rfl rfl hl.1 rfl (lv_room (Nat.le_of_ble_eq_true rfl)) (dt uX8_mark_1 18 rfl) ⟨Nat.zero_le _, Nat.zero_le _⟩) hA hP hD hS rfl (by decide) (fun H locs hP hD hS => ?_)
        refine lv_iadd hx hb (dt uX8_mark_1 19 rfl) ?_
        have hf := Option.some.inj hf
        subst hf
        rw [hQ]
        exact vret_i C hP hD hS (dt uX8_mark_1 20 rfl)
      have hf := vif_f c_20 hf
      have e_27 : ∀ k : Int, (0 : Int) ≤ k → k ≤ 4 → (p1).toInt ≠ k := by
        intro k h1 h2
        have e : k = 0 ∨ k = 1 ∨ k = 2 ∨ k = 3 ∨ k = 4 := by omega
        rcases e with rfl | rfl | rfl | rfl | rfl
        · exact vne_toInt c_7
        · exact vne_toInt c_8
        · exact vne_toInt c_12
        · exact vne_toInt c_16
        · exact vne_toInt c_20
      refine lv_tableOut (tgt := 165) hx hb (dt uX8_mark_0 16 rfl) (vtab_out e_27) (by decide) ?_
      refine lv_aload_n hx hb (dt uX8_mark_1 21 rfl) rfl (lv_at hl 1 rfl) ?_
      refine lv_dup hx hb (dt uX8_mark_1 22 rfl) rfl ?_
      refine va_get (D := (dC, dI)) (ci := 8) (v := .long v_trace) (C := RX8) (T := TX8) (N := 24) hx hb hts inU8 hown hK hP 0 rfl rfl 0 (by decide) (hts _ tw_486) (fun _ h9 => h9) rfl (dt uX8_mark_1 23 rfl) ?_
      refine lv_ldc2 (v := lc_100001) hx hb hown (hts _ tw_491) (dt uX8_mark_1 24 rfl) ?_
      refine lv_ladd hx hb (dt uX8_mark_1 25 rfl) ?_
      obtain ⟨t_28, et_28, hf⟩ := vlet_ex hf
      rw [← et_28]
      refine va_put (D := (dC, dI)) (ci := 8) (v := .long t_28) (ty := .long) (C := RX8) (T := TX8) (N := 24) hx hb hts inU8 tyX8 tyX8_ok nmX8 hown hK hP hD hS 0 rfl rfl 0 (by decide) (hts _ tw_486) (fun _ h9 => h9) rfl (by decide +kernel) rfl rfl (Nat.le_of_ble_eq_true rfl) (dt uX8_mark_1 26 rfl) (fun H locs hP hD hS => ?_)
      have hP : va_P (dC, dI) vwCl [(ad0, oX8 t_28 ad_text v_typed ad_books ad_numberA ad_numberB ad_draftTouches v_draftOne v_oneTold v_at v_start v_sort v_value v_fault ad_now ad_isKept ad_near ad_seenDays ad_seenBook ad_seenIs v_seen v_sets v_inEach v_inSome), (ad_books, .inl (cI, 2, .inl a_books)), (ad_numberA, .inl (cI, 12, .inl a_numberA)), (ad_numberB, .inl (cI, 12, .inl a_numberB)), (ad_now, .inl (cI, 498, .inl a_now))] H := hP
      have hD : va_D A [(ad0, oX8 t_28 ad_text v_typed ad_books ad_numberA ad_numberB ad_draftTouches v_draftOne v_oneTold v_at v_start v_sort v_value v_fault ad_now ad_isKept ad_near ad_seenDays ad_seenBook ad_seenIs v_seen v_sets v_inEach v_inSome), (ad_books, .inl (cI, 2, .inl a_books)), (ad_numberA, .inl (cI, 12, .inl a_numberA)), (ad_numberB, .inl (cI, 12, .inl a_numberB)), (ad_now, .inl (cI, 498, .inl a_now))] := hD
      refine lv_iload_n hx hb (dt uX8_mark_1 27 rfl) rfl (lv_at hl 0 rfl) ?_
      refine lv_aload_n hx hb (dt uX8_mark_1 28 rfl) rfl (lv_at hl 1 rfl) ?_
      refine va_get (D := (dC, dI)) (ci := 8) (v := .ref ad_now) (C := RX8) (T := TX8) (N := 24) hx hb hts inU8 hown hK hP 0 rfl rfl 14 (by decide) (hts _ tw_369) (fun _ h9 => h9) rfl (dt uX8_mark_1 29 rfl) ?_
      refine lv_bipush (v := (14 : Int32)) hx hb (dt uX8_mark_1 30 rfl) (by decide) ?_
      refine va_iald hx hb hK hP 4 0 rfl rfl (vp_in_iff.mpr (by decide)) (dt uX8_mark_1 31 rfl) ?_
      refine lv_iadd hx hb (dt uX8_mark_1 32 rfl) ?_
      have hf := Option.some.inj hf
      subst hf
      rw [hQ]
      exact vret_i C hP hD hS (dt uX8_mark_1 33 rfl)
    · have hf := vif_t c_4 hf
      refine lv_ldc (v := (-1000000 : Int32)) hx hb hown (hts _ tw_485) (dt uX8_mark_0 9 rfl) ?_
      have hf := Option.some.inj hf
      subst hf
      rw [hQ]
      exact vret_i C hP hD hS (dt uX8_mark_0 10 rfl)
abbrev rX8_keep : Room := { frames := 1, cells := 0, slots := 0, locals := 22 }
abbrev wX8_keep : List Cond := Cond.code yX8_keep cX8_keep 3 (some .int) :: VT
set_option maxHeartbeats 4000000 in
set_option maxRecDepth 100000 in
theorem kX8_keep (ad0 : Nat) (ad_text : Nat) (ad_books : Nat) (ad_numberA : Nat) (ad_numberB : Nat) (ad_draftTouches : Nat) (ad_now : Nat) (ad_isKept : Nat) (ad_near : Nat) (ad_seenDays : Nat) (ad_seenBook : Nat) (ad_seenIs : Nat) (v_trace : Int64) (v_typed : Int32) (v_draftOne : Int32) (v_oneTold : Int32) (v_at : Int32) (v_start : Int32) (v_sort : Int32) (v_value : Int32) (v_fault : Int32) (v_seen : Int32) (v_sets : Int32) (v_inEach : Int32) (v_inSome : Int32) (a_now : Nat → Int32) (a_isKept : Nat → Int32) (p1 : Int32) (N : Nat) (q0 : (Int32 × (Nat → Int32) × (Nat → Int32))) (hf : fX8_keep N a_now a_isKept p1 = some q0) : Ki l yX8_keep wX8_keep rX8_keep (dC, dI) (vTy cI cJ cB cZ) [.ref ad0, .int p1] [(ad0, oX8 v_trace ad_text v_typed ad_books ad_numberA ad_numberB ad_draftTouches v_draftOne v_oneTold v_at v_start v_sort v_value v_fault ad_now ad_isKept ad_near ad_seenDays ad_seenBook ad_seenIs v_seen v_sets v_inEach v_inSome), (ad_now, .inl (cI, 498, .inl a_now)), (ad_isKept, .inl (cZ, 2, .inl a_isKept))] [(ad0, oX8 v_trace ad_text v_typed ad_books ad_numberA ad_numberB ad_draftTouches v_draftOne v_oneTold v_at v_start v_sort v_value v_fault ad_now ad_isKept ad_near ad_seenDays ad_seenBook ad_seenIs v_seen v_sets v_inEach v_inSome), (ad_now, .inl (cI, 498, .inl q0.2.1)), (ad_isKept, .inl (cZ, 2, .inl q0.2.2))] q0.1 := by
  refine Ki.mk (cc := cX8_keep) (maxL := 3) (ret := some .int) (by decide) (Nat.le_of_ble_eq_true rfl) ?_
  intro p e s m args below meth c A Q H locs C hQ hP hD hS ls hl
  obtain ⟨hx, hb, -, hml, hts, hown, -, hK, hN, hA⟩ := id C
  have hown : s.vm.findClass RX8 = some m.cls := hown
  have hl : lv_has ls 3 [(0, .ref ad0), (1, .int p1)] := hl
  unfold fX8_keep at hf
  refine lv_iload_n hx hb (dt uX8_keep 0 rfl) rfl (lv_at hl 1 rfl) ?_
  refine lv_iconst (v := (0 : Int32)) hx hb (dt uX8_keep 1 rfl) (by decide) ?_
  refine lv_iconst (v := (1 : Int32)) hx hb (dt uX8_keep 2 rfl) (by decide) ?_
  refine vk_z0 [] (va_runS (As := [.int p1, .int (0 : Int32), .int (1 : Int32)]) (rest := []) ⟨hx, hb, hml, hown, hts⟩ (kX8_in p1 (0 : Int32) (1 : Int32) _ rfl H.size) (vcwS hts tw_338 tw_339 tw_336 tw_337 hd_X8_in rfl rfl ⟨Nat.le_of_ble_eq_true rfl, Nat.le_of_ble_eq_true rfl⟩) (vpreS hK hN hP hD [] rfl (by decide)) rfl rfl hl.1 rfl (lv_room (Nat.le_of_ble_eq_true rfl)) (dt uX8_keep 3 rfl) ⟨Nat.zero_le _, Nat.zero_le _⟩) hA hP hD hS rfl (by decide) (fun hz_1 H locs hP hD hS => ?_)
  refine lv_if_ne (tgt := 11) hx hb (dt uX8_keep 4 rfl) (by decide) (fun c_2 => ?_) (fun c_2 => ?_)
  · have hf := vif_f c_2 hf
    refine lv_iconst (v := (0 : Int32)) hx hb (dt uX8_keep 7 rfl) (by decide) ?_
    refine lv_istore_n (lv' := [(2, .int (0 : Int32)), (0, .ref ad0), (1, .int p1)]) hx hb (dt uX8_keep 8 rfl) rfl hl (by decide) rfl (fun ls hl => ?_)
    have hL13 : ∀ (n13 : Nat), ∀ (x2_3 : Int32) (w_4 : Nat → Int32) (H : Heap) (locs : List Loc) (ls : Array Slot), fX8_keep_L13 a_isKept p1 n13 x2_3 w_4 = some q0 → va_P (dC, dI) vwCl [(ad0, oX8 v_trace ad_text v_typed ad_books ad_numberA ad_numberB ad_draftTouches v_draftOne v_oneTold v_at v_start v_sort v_value v_fault ad_now ad_isKept ad_near ad_seenDays ad_seenBook ad_seenIs v_seen v_sets v_inEach v_inSome), (ad_now, .inl (cI, 498, .inl w_4)), (ad_isKept, .inl (cZ, 2, .inl a_isKept))] H → va_D A [(ad0, oX8 v_trace ad_text v_typed ad_books ad_numberA ad_numberB ad_draftTouches v_draftOne v_oneTold v_at v_start v_sort v_value v_fault ad_now ad_isKept ad_near ad_seenDays ad_seenBook ad_seenIs v_seen v_sets v_inEach v_inSome), (ad_now, .inl (cI, 498, .inl w_4)), (ad_isKept, .inl (cZ, 2, .inl a_isKept))] → va_S A s.heap H locs → lv_has ls 3 [(0, .ref ad0), (1, .int p1), (2, .int x2_3)] → W p l e rX8_keep s m args below meth c H locs 0 0 Q (F0 m 13 ls []) := by
      intro n13
      induction n13 with
      | zero => intro x2_3 w_4 H locs ls hf hP hD hS hl; cases hf
      | succ n13 ih13 =>
        intro x2_3 w_4 H locs ls hf hP hD hS hl
        rw [fX8_keep_L13] at hf
        refine lv_iload_n hx hb (dt uX8_keep 9 rfl) rfl (lv_at hl 2 rfl) ?_
        refine lv_sipush (v := (166 : Int32)) hx hb (dt uX8_keep 10 rfl) (by decide) ?_
        refine lv_icmp_ge (tgt := 46) hx hb (dt uX8_keep 11 rfl) (by decide) (fun c_5 => ?_) (fun c_5 => ?_)
        · have hf := vif_t c_5 hf
          refine lv_aload_n hx hb (dt uX8_keep 28 rfl) rfl (lv_at hl 0 rfl) ?_
          refine va_get (D := (dC, dI)) (ci := 8) (v := .ref ad_isKept) (C := RX8) (T := TX8) (N := 24) hx hb hts inU8 hown hK hP 0 rfl rfl 15 (by decide) (hts _ tw_371) (fun _ h9 => h9) rfl (dt uX8_keep 29 rfl) ?_
          refine lv_iload_n hx hb (dt uX8_keep 30 rfl) rfl (lv_at hl 1 rfl) ?_
          refine lv_iconst (v := (1 : Int32)) hx hb (dt uX8_keep 31 rfl) (by decide) ?_
          obtain ⟨hi_6, hf⟩ := vg_some hf
          refine va_zast hx hb hK hP hD hS 2 3 rfl rfl hi_6 (dt uX8_keep 32 rfl) (fun H locs hP hD hS => ?_)
          have hP : va_P (dC, dI) vwCl [(ad0, oX8 v_trace ad_text v_typed ad_books ad_numberA ad_numberB ad_draftTouches v_draftOne v_oneTold v_at v_start v_sort v_value v_fault ad_now ad_isKept ad_near ad_seenDays ad_seenBook ad_seenIs v_seen v_sets v_inEach v_inSome), (ad_now, .inl (cI, 498, .inl w_4)), (ad_isKept, .inl (cZ, 2, .inl (upd a_isKept p1.toNatClampNeg (vp_nar .boolean (1 : Int32)))))] H := hP
          have hD : va_D A [(ad0, oX8 v_trace ad_text v_typed ad_books ad_numberA ad_numberB ad_draftTouches v_draftOne v_oneTold v_at v_start v_sort v_value v_fault ad_now ad_isKept ad_near ad_seenDays ad_seenBook ad_seenIs v_seen v_sets v_inEach v_inSome), (ad_now, .inl (cI, 498, .inl w_4)), (ad_isKept, .inl (cZ, 2, .inl (upd a_isKept p1.toNatClampNeg (vp_nar .boolean (1 : Int32)))))] := hD
          refine lv_aload_n hx hb (dt uX8_keep 33 rfl) rfl (lv_at hl 0 rfl) ?_
          refine va_get (D := (dC, dI)) (ci := 8) (v := .ref ad_now) (C := RX8) (T := TX8) (N := 24) hx hb hts inU8 hown hK hP 0 rfl rfl 14 (by decide) (hts _ tw_369) (fun _ h9 => h9) rfl (dt uX8_keep 34 rfl) ?_
          refine lv_bipush (v := (14 : Int32)) hx hb (dt uX8_keep 35 rfl) (by decide) ?_
          refine va_iald hx hb hK hP 1 0 rfl rfl (vp_in_iff.mpr (by decide)) (dt uX8_keep 36 rfl) ?_
          have hf := Option.some.inj hf
          subst hf
          rw [hQ]
          exact vret_i C hP hD hS (dt uX8_keep 37 rfl)
        · have hf := vif_f c_5 hf
          refine lv_aload_n hx hb (dt uX8_keep 12 rfl) rfl (lv_at hl 0 rfl) ?_
          refine va_get (D := (dC, dI)) (ci := 8) (v := .ref ad_now) (C := RX8) (T := TX8) (N := 24) hx hb hts inU8 hown hK hP 0 rfl rfl 14 (by decide) (hts _ tw_369) (fun _ h9 => h9) rfl (dt uX8_keep 13 rfl) ?_
          refine lv_sipush (v := (166 : Int32)) hx hb (dt uX8_keep 14 rfl) (by decide) ?_
          refine lv_iconst (v := (1 : Int32)) hx hb (dt uX8_keep 15 rfl) (by decide) ?_
          refine lv_iload_n hx hb (dt uX8_keep 16 rfl) rfl (lv_at hl 1 rfl) ?_
          refine lv_iadd hx hb (dt uX8_keep 17 rfl) ?_
          refine lv_imul hx hb (dt uX8_keep 18 rfl) ?_
          refine lv_iload_n hx hb (dt uX8_keep 19 rfl) rfl (lv_at hl 2 rfl) ?_
          refine lv_iadd hx hb (dt uX8_keep 20 rfl) ?_
          refine lv_aload_n hx hb (dt uX8_keep 21 rfl) rfl (lv_at hl 0 rfl) ?_
          refine va_get (D := (dC, dI)) (ci := 8) (v := .ref ad_now) (C := RX8) (T := TX8) (N := 24) hx hb hts inU8 hown hK hP 0 rfl rfl 14 (by decide) (hts _ tw_369) (fun _ h9 => h9) rfl (dt uX8_keep 22 rfl) ?_
          refine lv_iload_n hx hb (dt uX8_keep 23 rfl) rfl (lv_at hl 2 rfl) ?_
          obtain ⟨hi_7, hf⟩ := vg_some hf
          refine va_iald hx hb hK hP 1 0 rfl rfl hi_7 (dt uX8_keep 24 rfl) ?_
          obtain ⟨hi_8, hf⟩ := vg_some hf
          refine va_iast hx hb hK hP hD hS 1 0 rfl rfl hi_8 (dt uX8_keep 25 rfl) (fun H locs hP hD hS => ?_)
          have hP : va_P (dC, dI) vwCl [(ad0, oX8 v_trace ad_text v_typed ad_books ad_numberA ad_numberB ad_draftTouches v_draftOne v_oneTold v_at v_start v_sort v_value v_fault ad_now ad_isKept ad_near ad_seenDays ad_seenBook ad_seenIs v_seen v_sets v_inEach v_inSome), (ad_now, .inl (cI, 498, .inl (upd w_4 (((166 : Int32) * ((1 : Int32) + p1)) + x2_3).toNatClampNeg (w_4 x2_3.toNatClampNeg)))), (ad_isKept, .inl (cZ, 2, .inl a_isKept))] H := hP
          have hD : va_D A [(ad0, oX8 v_trace ad_text v_typed ad_books ad_numberA ad_numberB ad_draftTouches v_draftOne v_oneTold v_at v_start v_sort v_value v_fault ad_now ad_isKept ad_near ad_seenDays ad_seenBook ad_seenIs v_seen v_sets v_inEach v_inSome), (ad_now, .inl (cI, 498, .inl (upd w_4 (((166 : Int32) * ((1 : Int32) + p1)) + x2_3).toNatClampNeg (w_4 x2_3.toNatClampNeg)))), (ad_isKept, .inl (cZ, 2, .inl a_isKept))] := hD
          refine lv_iinc (v := x2_3 + 1) (lv' := [(2, .int (x2_3 + 1)), (0, .ref ad0), (1, .int p1)]) hx hb (dt uX8_keep 26 rfl) hl (k := 2) rfl rfl (by decide) rfl (fun ls hl => ?_)
          refine lv_goto (tgt := 13) hx hb (dt uX8_keep 27 rfl) (by decide) ?_
          exact ih13 (x2_3 + 1) (upd w_4 (((166 : Int32) * ((1 : Int32) + p1)) + x2_3).toNatClampNeg (w_4 x2_3.toNatClampNeg)) _ _ _ hf hP hD hS (lv_sub hl [1, 2, 0] rfl)
    exact hL13 N (0 : Int32) a_now _ _ _ hf hP hD hS (lv_sub hl [1, 2, 0] rfl)
  · have hf := vif_t c_2 hf
    refine lv_iconst (v := (-1 : Int32)) hx hb (dt uX8_keep 5 rfl) (by decide) ?_
    have hf := Option.some.inj hf
    subst hf
    rw [hQ]
    exact vret_i C hP hD hS (dt uX8_keep 6 rfl)
abbrev rX8_back : Room := { frames := 1, cells := 0, slots := 0, locals := 22 }
abbrev wX8_back : List Cond := Cond.code yX8_back cX8_back 3 (some .int) :: VT
set_option maxHeartbeats 4000000 in
set_option maxRecDepth 100000 in
theorem kX8_back (ad0 : Nat) (ad_text : Nat) (ad_books : Nat) (ad_numberA : Nat) (ad_numberB : Nat) (ad_draftTouches : Nat) (ad_now : Nat) (ad_isKept : Nat) (ad_near : Nat) (ad_seenDays : Nat) (ad_seenBook : Nat) (ad_seenIs : Nat) (v_trace : Int64) (v_typed : Int32) (v_draftOne : Int32) (v_oneTold : Int32) (v_at : Int32) (v_start : Int32) (v_sort : Int32) (v_value : Int32) (v_fault : Int32) (v_seen : Int32) (v_sets : Int32) (v_inEach : Int32) (v_inSome : Int32) (a_now : Nat → Int32) (a_isKept : Nat → Int32) (p1 : Int32) (N : Nat) (q0 : (Int32 × (Nat → Int32))) (hf : fX8_back N a_now a_isKept p1 = some q0) : Ki l yX8_back wX8_back rX8_back (dC, dI) (vTy cI cJ cB cZ) [.ref ad0, .int p1] [(ad0, oX8 v_trace ad_text v_typed ad_books ad_numberA ad_numberB ad_draftTouches v_draftOne v_oneTold v_at v_start v_sort v_value v_fault ad_now ad_isKept ad_near ad_seenDays ad_seenBook ad_seenIs v_seen v_sets v_inEach v_inSome), (ad_now, .inl (cI, 498, .inl a_now)), (ad_isKept, .inl (cZ, 2, .inl a_isKept))] [(ad0, oX8 v_trace ad_text v_typed ad_books ad_numberA ad_numberB ad_draftTouches v_draftOne v_oneTold v_at v_start v_sort v_value v_fault ad_now ad_isKept ad_near ad_seenDays ad_seenBook ad_seenIs v_seen v_sets v_inEach v_inSome), (ad_now, .inl (cI, 498, .inl q0.2)), (ad_isKept, .inl (cZ, 2, .inl a_isKept))] q0.1 := by
  refine Ki.mk (cc := cX8_back) (maxL := 3) (ret := some .int) (by decide) (Nat.le_of_ble_eq_true rfl) ?_
  intro p e s m args below meth c A Q H locs C hQ hP hD hS ls hl
  obtain ⟨hx, hb, -, hml, hts, hown, -, hK, hN, hA⟩ := id C
  have hown : s.vm.findClass RX8 = some m.cls := hown
  have hl : lv_has ls 3 [(0, .ref ad0), (1, .int p1)] := hl
  unfold fX8_back at hf
  refine lv_iload_n hx hb (dt uX8_back 0 rfl) rfl (lv_at hl 1 rfl) ?_
  refine lv_iconst (v := (0 : Int32)) hx hb (dt uX8_back 1 rfl) (by decide) ?_
  refine lv_iconst (v := (1 : Int32)) hx hb (dt uX8_back 2 rfl) (by decide) ?_
  refine vk_z0 [] (va_runS (As := [.int p1, .int (0 : Int32), .int (1 : Int32)]) (rest := []) ⟨hx, hb, hml, hown, hts⟩ (kX8_in p1 (0 : Int32) (1 : Int32) _ rfl H.size) (vcwS hts tw_338 tw_339 tw_336 tw_337 hd_X8_in rfl rfl ⟨Nat.le_of_ble_eq_true rfl, Nat.le_of_ble_eq_true rfl⟩) (vpreS hK hN hP hD [] rfl (by decide)) rfl rfl hl.1 rfl (lv_room (Nat.le_of_ble_eq_true rfl)) (dt uX8_back 3 rfl) ⟨Nat.zero_le _, Nat.zero_le _⟩) hA hP hD hS rfl (by decide) (fun hz_1 H locs hP hD hS => ?_)
  refine lv_if_ne (tgt := 11) hx hb (dt uX8_back 4 rfl) (by decide) (fun c_2 => ?_) (fun c_2 => ?_)
  · have hf := vif_f c_2 hf
    refine lv_aload_n hx hb (dt uX8_back 7 rfl) rfl (lv_at hl 0 rfl) ?_
    refine va_get (D := (dC, dI)) (ci := 8) (v := .ref ad_isKept) (C := RX8) (T := TX8) (N := 24) hx hb hts inU8 hown hK hP 0 rfl rfl 15 (by decide) (hts _ tw_371) (fun _ h9 => h9) rfl (dt uX8_back 8 rfl) ?_
    refine lv_iload_n hx hb (dt uX8_back 9 rfl) rfl (lv_at hl 1 rfl) ?_
    obtain ⟨hi_3, hf⟩ := vg_some hf
    refine va_zald hx hb hK hP 2 3 rfl rfl hi_3 (dt uX8_back 10 rfl) ?_
    refine lv_if_ne (tgt := 23) hx hb (dt uX8_back 11 rfl) (by decide) (fun c_4 => ?_) (fun c_4 => ?_)
    · have hf := vif_f c_4 hf
      refine lv_iconst (v := (0 : Int32)) hx hb (dt uX8_back 14 rfl) (by decide) ?_
      refine lv_istore_n (lv' := [(2, .int (0 : Int32)), (0, .ref ad0), (1, .int p1)]) hx hb (dt uX8_back 15 rfl) rfl hl (by decide) rfl (fun ls hl => ?_)
      have hL25 : ∀ (n25 : Nat), ∀ (x2_5 : Int32) (w_6 : Nat → Int32) (H : Heap) (locs : List Loc) (ls : Array Slot), fX8_back_L25 p1 n25 x2_5 w_6 = some q0 → va_P (dC, dI) vwCl [(ad0, oX8 v_trace ad_text v_typed ad_books ad_numberA ad_numberB ad_draftTouches v_draftOne v_oneTold v_at v_start v_sort v_value v_fault ad_now ad_isKept ad_near ad_seenDays ad_seenBook ad_seenIs v_seen v_sets v_inEach v_inSome), (ad_now, .inl (cI, 498, .inl w_6)), (ad_isKept, .inl (cZ, 2, .inl a_isKept))] H → va_D A [(ad0, oX8 v_trace ad_text v_typed ad_books ad_numberA ad_numberB ad_draftTouches v_draftOne v_oneTold v_at v_start v_sort v_value v_fault ad_now ad_isKept ad_near ad_seenDays ad_seenBook ad_seenIs v_seen v_sets v_inEach v_inSome), (ad_now, .inl (cI, 498, .inl w_6)), (ad_isKept, .inl (cZ, 2, .inl a_isKept))] → va_S A s.heap H locs → lv_has ls 3 [(0, .ref ad0), (1, .int p1), (2, .int x2_5)] → W p l e rX8_back s m args below meth c H locs 0 0 Q (F0 m 25 ls []) := by
        intro n25
        induction n25 with
        | zero => intro x2_5 w_6 H locs ls hf hP hD hS hl; cases hf
        | succ n25 ih25 =>
          intro x2_5 w_6 H locs ls hf hP hD hS hl
          rw [fX8_back_L25] at hf
          refine lv_iload_n hx hb (dt uX8_back 16 rfl) rfl (lv_at hl 2 rfl) ?_
          refine lv_sipush (v := (166 : Int32)) hx hb (dt uX8_back 17 rfl) (by decide) ?_
          refine lv_icmp_ge (tgt := 58) hx hb (dt uX8_back 18 rfl) (by decide) (fun c_7 => ?_) (fun c_7 => ?_)
          · have hf := vif_t c_7 hf
            refine lv_aload_n hx hb (dt uX8_back 35 rfl) rfl (lv_at hl 0 rfl) ?_
            refine va_get (D := (dC, dI)) (ci := 8) (v := .ref ad_now) (C := RX8) (T := TX8) (N := 24) hx hb hts inU8 hown hK hP 0 rfl rfl 14 (by decide) (hts _ tw_369) (fun _ h9 => h9) rfl (dt uX8_back 36 rfl) ?_
            refine lv_bipush (v := (14 : Int32)) hx hb (dt uX8_back 37 rfl) (by decide) ?_
            refine va_iald hx hb hK hP 1 0 rfl rfl (vp_in_iff.mpr (by decide)) (dt uX8_back 38 rfl) ?_
            have hf := Option.some.inj hf
            subst hf
            rw [hQ]
            exact vret_i C hP hD hS (dt uX8_back 39 rfl)
          · have hf := vif_f c_7 hf
            refine lv_aload_n hx hb (dt uX8_back 19 rfl) rfl (lv_at hl 0 rfl) ?_
            refine va_get (D := (dC, dI)) (ci := 8) (v := .ref ad_now) (C := RX8) (T := TX8) (N := 24) hx hb hts inU8 hown hK hP 0 rfl rfl 14 (by decide) (hts _ tw_369) (fun _ h9 => h9) rfl (dt uX8_back 20 rfl) ?_
            refine lv_iload_n hx hb (dt uX8_back 21 rfl) rfl (lv_at hl 2 rfl) ?_
            refine lv_aload_n hx hb (dt uX8_back 22 rfl) rfl (lv_at hl 0 rfl) ?_
            refine va_get (D := (dC, dI)) (ci := 8) (v := .ref ad_now) (C := RX8) (T := TX8) (N := 24) hx hb hts inU8 hown hK hP 0 rfl rfl 14 (by decide) (hts _ tw_369) (fun _ h9 => h9) rfl (dt uX8_back 23 rfl) ?_
            refine lv_sipush (v := (166 : Int32)) hx hb (dt uX8_back 24 rfl) (by decide) ?_
            refine lv_iconst (v := (1 : Int32)) hx hb (dt uX8_back 25 rfl) (by decide) ?_
            refine lv_iload_n hx hb (dt uX8_back 26 rfl) rfl (lv_at hl 1 rfl) ?_
            refine lv_iadd hx hb (dt uX8_back 27 rfl) ?_
            refine lv_imul hx hb (dt uX8_back 28 rfl) ?_
            refine lv_iload_n hx hb (dt uX8_back 29 rfl) rfl (lv_at hl 2 rfl) ?_
            refine lv_iadd hx hb (dt uX8_back 30 rfl) ?_
            obtain ⟨hi_8, hf⟩ := vg_some hf
            refine va_iald hx hb hK hP 1 0 rfl rfl hi_8 (dt uX8_back 31 rfl) ?_
            obtain ⟨hi_9, hf⟩ := vg_some hf
            refine va_iast hx hb hK hP hD hS 1 0 rfl rfl hi_9 (dt uX8_back 32 rfl) (fun H locs hP hD hS => ?_)
            have hP : va_P (dC, dI) vwCl [(ad0, oX8 v_trace ad_text v_typed ad_books ad_numberA ad_numberB ad_draftTouches v_draftOne v_oneTold v_at v_start v_sort v_value v_fault ad_now ad_isKept ad_near ad_seenDays ad_seenBook ad_seenIs v_seen v_sets v_inEach v_inSome), (ad_now, .inl (cI, 498, .inl (upd w_6 x2_5.toNatClampNeg (w_6 (((166 : Int32) * ((1 : Int32) + p1)) + x2_5).toNatClampNeg)))), (ad_isKept, .inl (cZ, 2, .inl a_isKept))] H := hP
            have hD : va_D A [(ad0, oX8 v_trace ad_text v_typed ad_books ad_numberA ad_numberB ad_draftTouches v_draftOne v_oneTold v_at v_start v_sort v_value v_fault ad_now ad_isKept ad_near ad_seenDays ad_seenBook ad_seenIs v_seen v_sets v_inEach v_inSome), (ad_now, .inl (cI, 498, .inl (upd w_6 x2_5.toNatClampNeg (w_6 (((166 : Int32) * ((1 : Int32) + p1)) + x2_5).toNatClampNeg)))), (ad_isKept, .inl (cZ, 2, .inl a_isKept))] := hD
            refine lv_iinc (v := x2_5 + 1) (lv' := [(2, .int (x2_5 + 1)), (0, .ref ad0), (1, .int p1)]) hx hb (dt uX8_back 33 rfl) hl (k := 2) rfl rfl (by decide) rfl (fun ls hl => ?_)
            refine lv_goto (tgt := 25) hx hb (dt uX8_back 34 rfl) (by decide) ?_
            exact ih25 (x2_5 + 1) (upd w_6 x2_5.toNatClampNeg (w_6 (((166 : Int32) * ((1 : Int32) + p1)) + x2_5).toNatClampNeg)) _ _ _ hf hP hD hS (lv_sub hl [1, 2, 0] rfl)
      exact hL25 N (0 : Int32) a_now _ _ _ hf hP hD hS (lv_sub hl [1, 2, 0] rfl)
    · have hf := vif_t c_4 hf
      refine lv_bipush (v := (-2 : Int32)) hx hb (dt uX8_back 12 rfl) (by decide) ?_
      have hf := Option.some.inj hf
      subst hf
      rw [hQ]
      exact vret_i C hP hD hS (dt uX8_back 13 rfl)
  · have hf := vif_t c_2 hf
    refine lv_iconst (v := (-1 : Int32)) hx hb (dt uX8_back 5 rfl) (by decide) ?_
    have hf := Option.some.inj hf
    subst hf
    rw [hQ]
    exact vret_i C hP hD hS (dt uX8_back 6 rfl)
abbrev rX8_count : Room := { frames := 1, cells := 0, slots := 0, locals := 22 }
abbrev wX8_count : List Cond := Cond.code yX8_count cX8_count 2 (some .int) :: VT
set_option maxHeartbeats 4000000 in
set_option maxRecDepth 100000 in
theorem kX8_count (ad0 : Nat) (ad_text : Nat) (ad_books : Nat) (ad_numberA : Nat) (ad_numberB : Nat) (ad_draftTouches : Nat) (ad_now : Nat) (ad_isKept : Nat) (ad_near : Nat) (ad_seenDays : Nat) (ad_seenBook : Nat) (ad_seenIs : Nat) (v_trace : Int64) (v_typed : Int32) (v_draftOne : Int32) (v_oneTold : Int32) (v_at : Int32) (v_start : Int32) (v_sort : Int32) (v_value : Int32) (v_fault : Int32) (v_seen : Int32) (v_sets : Int32) (v_inEach : Int32) (v_inSome : Int32) (a_books : Nat → Int32) (a_now : Nat → Int32) (p1 : Int32) (N : Nat) (q0 : Int32) (hf : fX8_count N a_books a_now v_typed v_seen p1 = some q0) : Ki l yX8_count wX8_count rX8_count (dC, dI) (vTy cI cJ cB cZ) [.ref ad0, .int p1] [(ad0, oX8 v_trace ad_text v_typed ad_books ad_numberA ad_numberB ad_draftTouches v_draftOne v_oneTold v_at v_start v_sort v_value v_fault ad_now ad_isKept ad_near ad_seenDays ad_seenBook ad_seenIs v_seen v_sets v_inEach v_inSome), (ad_books, .inl (cI, 2, .inl a_books)), (ad_now, .inl (cI, 498, .inl a_now))] [(ad0, oX8 v_trace ad_text v_typed ad_books ad_numberA ad_numberB ad_draftTouches v_draftOne v_oneTold v_at v_start v_sort v_value v_fault ad_now ad_isKept ad_near ad_seenDays ad_seenBook ad_seenIs v_seen v_sets v_inEach v_inSome), (ad_books, .inl (cI, 2, .inl a_books)), (ad_now, .inl (cI, 498, .inl a_now))] q0 := by
  refine Ki.mk (cc := cX8_count) (maxL := 2) (ret := some .int) (by decide) (Nat.le_of_ble_eq_true rfl) ?_
  intro p e s m args below meth c A Q H locs C hQ hP hD hS ls hl
  obtain ⟨hx, hb, -, hml, hts, hown, -, hK, hN, hA⟩ := id C
  have hown : s.vm.findClass RX8 = some m.cls := hown
  have hl : lv_has ls 2 [(0, .ref ad0), (1, .int p1)] := hl
  unfold fX8_count at hf
  refine lv_iload_n hx hb (dt uX8_count 0 rfl) rfl (lv_at hl 1 rfl) ?_
  by_cases c_1 : p1 = (0 : Int32)
  · have hf := vif_t c_1 hf
    refine lv_tableIn (off := 35) (tgt := 36) hx hb (dt uX8_count 1 rfl) (by rw [c_1]; decide) (by rw [c_1]; decide) (by rw [c_1]; rfl) (by decide) ?_
    refine lv_aload_n hx hb (dt uX8_count 2 rfl) rfl (lv_at hl 0 rfl) ?_
    refine va_get (D := (dC, dI)) (ci := 8) (v := .ref ad_books) (C := RX8) (T := TX8) (N := 24) hx hb hts inU8 hown hK hP 0 rfl rfl 3 (by decide) (hts _ tw_360) (fun _ h9 => h9) rfl (dt uX8_count 3 rfl) ?_
    refine lv_iconst (v := (0 : Int32)) hx hb (dt uX8_count 4 rfl) (by decide) ?_
    refine va_iald hx hb hK hP 1 0 rfl rfl (vp_in_iff.mpr (by decide)) (dt uX8_count 5 rfl) ?_
    have hf := Option.some.inj hf
    subst hf
    rw [hQ]
    exact vret_i C hP hD hS (dt uX8_count 6 rfl)
  have hf := vif_f c_1 hf
  by_cases c_2 : p1 = (1 : Int32)
  · have hf := vif_t c_2 hf
    refine lv_tableIn (off := 42) (tgt := 43) hx hb (dt uX8_count 1 rfl) (by rw [c_2]; decide) (by rw [c_2]; decide) (by rw [c_2]; rfl) (by decide) ?_
    refine lv_aload_n hx hb (dt uX8_count 7 rfl) rfl (lv_at hl 0 rfl) ?_
    refine va_get (D := (dC, dI)) (ci := 8) (v := .ref ad_now) (C := RX8) (T := TX8) (N := 24) hx hb hts inU8 hown hK hP 0 rfl rfl 14 (by decide) (hts _ tw_369) (fun _ h9 => h9) rfl (dt uX8_count 8 rfl) ?_
    refine lv_bipush (v := (12 : Int32)) hx hb (dt uX8_count 9 rfl) (by decide) ?_
    refine va_iald hx hb hK hP 2 0 rfl rfl (vp_in_iff.mpr (by decide)) (dt uX8_count 10 rfl) ?_
    obtain ⟨q_3, hq_4, hf⟩ := vbd hf
    refine vk_i0 [] (va_runS (As := [.int (a_now (12 : Int32).toNatClampNeg)]) (rest := []) ⟨hx, hb, hml, hown, hts⟩ (kX8_manyOf (a_now (12 : Int32).toNatClampNeg) N q_3 hq_4 H.size) (vcwS hts tw_400 tw_401 tw_336 tw_399 hd_X8_manyOf rfl rfl ⟨Nat.le_of_ble_eq_true rfl, Nat.le_of_ble_eq_true rfl⟩) (vpreS hK hN hP hD [] rfl (by decide)) rfl rfl hl.1 rfl (lv_room (Nat.le_of_ble_eq_true rfl)) (dt uX8_count 11 rfl) ⟨Nat.zero_le _, Nat.zero_le _⟩) hA hP hD hS rfl (by decide) (fun H locs hP hD hS => ?_)
    have hf := Option.some.inj hf
    subst hf
    rw [hQ]
    exact vret_i C hP hD hS (dt uX8_count 12 rfl)
  have hf := vif_f c_2 hf
  by_cases c_5 : p1 = (2 : Int32)
  · have hf := vif_t c_5 hf
    refine lv_tableIn (off := 53) (tgt := 54) hx hb (dt uX8_count 1 rfl) (by rw [c_5]; decide) (by rw [c_5]; decide) (by rw [c_5]; rfl) (by decide) ?_
    refine lv_aload_n hx hb (dt uX8_count 13 rfl) rfl (lv_at hl 0 rfl) ?_
    refine va_get (D := (dC, dI)) (ci := 8) (v := .int v_seen) (C := RX8) (T := TX8) (N := 24) hx hb hts inU8 hown hK hP 0 rfl rfl 20 (by decide) (hts _ tw_370) (fun _ h9 => h9) rfl (dt uX8_count 14 rfl) ?_
    have hf := Option.some.inj hf
    subst hf
    rw [hQ]
    exact vret_i C hP hD hS (dt uX8_count 15 rfl)
  have hf := vif_f c_5 hf
  by_cases c_6 : p1 = (3 : Int32)
  · have hf := vif_t c_6 hf
    refine lv_tableIn (off := 58) (tgt := 59) hx hb (dt uX8_count 1 rfl) (by rw [c_6]; decide) (by rw [c_6]; decide) (by rw [c_6]; rfl) (by decide) ?_
    refine lv_aload_n hx hb (dt uX8_count 16 rfl) rfl (lv_at hl 0 rfl) ?_
    refine va_get (D := (dC, dI)) (ci := 8) (v := .ref ad_now) (C := RX8) (T := TX8) (N := 24) hx hb hts inU8 hown hK hP 0 rfl rfl 14 (by decide) (hts _ tw_369) (fun _ h9 => h9) rfl (dt uX8_count 17 rfl) ?_
    refine lv_bipush (v := (15 : Int32)) hx hb (dt uX8_count 18 rfl) (by decide) ?_
    refine va_iald hx hb hK hP 2 0 rfl rfl (vp_in_iff.mpr (by decide)) (dt uX8_count 19 rfl) ?_
    have hf := Option.some.inj hf
    subst hf
    rw [hQ]
    exact vret_i C hP hD hS (dt uX8_count 20 rfl)
  have hf := vif_f c_6 hf
  by_cases c_7 : p1 = (4 : Int32)
  · have hf := vif_t c_7 hf
    refine lv_tableIn (off := 66) (tgt := 67) hx hb (dt uX8_count 1 rfl) (by rw [c_7]; decide) (by rw [c_7]; decide) (by rw [c_7]; rfl) (by decide) ?_
    refine lv_aload_n hx hb (dt uX8_count 21 rfl) rfl (lv_at hl 0 rfl) ?_
    refine va_get (D := (dC, dI)) (ci := 8) (v := .int v_typed) (C := RX8) (T := TX8) (N := 24) hx hb hts inU8 hown hK hP 0 rfl rfl 2 (by decide) (hts _ tw_340) (fun _ h9 => h9) rfl (dt uX8_count 22 rfl) ?_
    have hf := Option.some.inj hf
    subst hf
    rw [hQ]
    exact vret_i C hP hD hS (dt uX8_count 23 rfl)
  have hf := vif_f c_7 hf
  have e_8 : ∀ k : Int, (0 : Int) ≤ k → k ≤ 4 → (p1).toInt ≠ k := by
    intro k h1 h2
    have e : k = 0 ∨ k = 1 ∨ k = 2 ∨ k = 3 ∨ k = 4 := by omega
    rcases e with rfl | rfl | rfl | rfl | rfl
    · exact vne_toInt c_1
    · exact vne_toInt c_2
    · exact vne_toInt c_5
    · exact vne_toInt c_6
    · exact vne_toInt c_7
  refine lv_tableOut (tgt := 72) hx hb (dt uX8_count 1 rfl) (vtab_out e_8) (by decide) ?_
  refine lv_iconst (v := (-1 : Int32)) hx hb (dt uX8_count 24 rfl) (by decide) ?_
  have hf := Option.some.inj hf
  subst hf
  rw [hQ]
  exact vret_i C hP hD hS (dt uX8_count 25 rfl)
abbrev rX8_trace : Room := { frames := 0, cells := 0, slots := 0, locals := 0 }
abbrev wX8_trace : List Cond := Cond.code yX8_trace cX8_trace 1 (some .long) :: VT
set_option maxHeartbeats 4000000 in
set_option maxRecDepth 100000 in
theorem kX8_trace (ad0 : Nat) (ad_text : Nat) (ad_books : Nat) (ad_numberA : Nat) (ad_numberB : Nat) (ad_draftTouches : Nat) (ad_now : Nat) (ad_isKept : Nat) (ad_near : Nat) (ad_seenDays : Nat) (ad_seenBook : Nat) (ad_seenIs : Nat) (v_trace : Int64) (v_typed : Int32) (v_draftOne : Int32) (v_oneTold : Int32) (v_at : Int32) (v_start : Int32) (v_sort : Int32) (v_value : Int32) (v_fault : Int32) (v_seen : Int32) (v_sets : Int32) (v_inEach : Int32) (v_inSome : Int32) (q0 : Int64) (hf : fX8_trace v_trace = q0) : Kl l yX8_trace wX8_trace rX8_trace (dC, dI) (vTy cI cJ cB cZ) [.ref ad0] [(ad0, oX8 v_trace ad_text v_typed ad_books ad_numberA ad_numberB ad_draftTouches v_draftOne v_oneTold v_at v_start v_sort v_value v_fault ad_now ad_isKept ad_near ad_seenDays ad_seenBook ad_seenIs v_seen v_sets v_inEach v_inSome)] [(ad0, oX8 v_trace ad_text v_typed ad_books ad_numberA ad_numberB ad_draftTouches v_draftOne v_oneTold v_at v_start v_sort v_value v_fault ad_now ad_isKept ad_near ad_seenDays ad_seenBook ad_seenIs v_seen v_sets v_inEach v_inSome)] q0 := by
  refine Kl.mk (cc := cX8_trace) (maxL := 1) (ret := some .long) (by decide) (Nat.le_of_ble_eq_true rfl) ?_
  intro p e s m args below meth c A Q H locs C hQ hP hD hS ls hl
  obtain ⟨hx, hb, -, hml, hts, hown, -, hK, hN, hA⟩ := id C
  have hown : s.vm.findClass RX8 = some m.cls := hown
  have hl : lv_has ls 1 [(0, .ref ad0)] := hl
  unfold fX8_trace at hf
  refine lv_aload_n hx hb (dt uX8_trace 0 rfl) rfl (lv_at hl 0 rfl) ?_
  refine va_get (D := (dC, dI)) (ci := 8) (v := .long v_trace) (C := RX8) (T := TX8) (N := 24) hx hb hts inU8 hown hK hP 0 rfl rfl 0 (by decide) (hts _ tw_486) (fun _ h9 => h9) rfl (dt uX8_trace 1 rfl) ?_
  subst hf
  rw [hQ]
  exact vret_l C hP hD hS (dt uX8_trace 2 rfl)
abbrev rX7_imageOfA : Room := { frames := 0, cells := 0, slots := 0, locals := 0 }
abbrev wX7_imageOfA : List Cond := Cond.code yX7_imageOf cX7_imageOf 2 (some (.object "CarriedOne$Image")) :: VT
set_option maxHeartbeats 4000000 in
set_option maxRecDepth 100000 in
theorem kX7_imageOfA (ad0 : Nat) (ad_text : Nat) (ad_draft : Nat) (ad_told : Nat) (ad_now : Nat) (ad_history : Nat) (ad_firstImage : Nat) (ad_secondImage : Nat) (ad_seen : Nat) (ad_ways : Nat) (v_traced : Int64) (p1 : Int32) (hv : p1 = 0) : Kr l yX7_imageOf wX7_imageOfA rX7_imageOfA (dC, dI) (vTy cI cJ cB cZ) [.ref ad0, .int p1] [(ad0, oX7 ad_text ad_draft ad_told ad_now ad_history ad_firstImage ad_secondImage ad_seen ad_ways v_traced)] [(ad0, oX7 ad_text ad_draft ad_told ad_now ad_history ad_firstImage ad_secondImage ad_seen ad_ways v_traced)] ad_firstImage := by
  refine Kr.mk (cc := cX7_imageOf) (maxL := 2) (ret := some (.object "CarriedOne$Image")) (by decide) (Nat.le_of_ble_eq_true rfl) ?_
  intro p e s m args below meth c A Q H locs C hQ hP hD hS ls hl
  obtain ⟨hx, hb, -, hml, hts, hown, -, hK, hN, hA⟩ := id C
  have hown : s.vm.findClass RX7 = some m.cls := hown
  have hl : lv_has ls 2 [(0, .ref ad0), (1, .int p1)] := hl
  refine lv_iload_n hx hb (dt uX7_imageOf 0 rfl) rfl (lv_at hl 1 rfl) ?_
  refine lv_if_ne (tgt := 11) hx hb (dt uX7_imageOf 1 rfl) (by decide) (fun c_1 => absurd hv c_1) (fun c_1 => ?_)
  refine lv_aload_n hx hb (dt uX7_imageOf 2 rfl) rfl (lv_at hl 0 rfl) ?_
  refine va_get (D := (dC, dI)) (ci := 7) (v := .ref ad_firstImage) (C := RX7) (T := TX7) (N := 10) hx hb hts inU7 hown hK hP 0 rfl rfl 5 (by decide) (hts _ tw_127) (fun _ h9 => h9) rfl (dt uX7_imageOf 3 rfl) ?_
  refine lv_goto (tgt := 15) hx hb (dt uX7_imageOf 4 rfl) (by decide) ?_
  rw [hQ]
  exact vret_r C hP hD hS (dt uX7_imageOf 7 rfl)
abbrev rX7_imageOfB : Room := { frames := 0, cells := 0, slots := 0, locals := 0 }
abbrev wX7_imageOfB : List Cond := Cond.code yX7_imageOf cX7_imageOf 2 (some (.object "CarriedOne$Image")) :: VT
set_option maxHeartbeats 4000000 in
set_option maxRecDepth 100000 in
theorem kX7_imageOfB (ad0 : Nat) (ad_text : Nat) (ad_draft : Nat) (ad_told : Nat) (ad_now : Nat) (ad_history : Nat) (ad_firstImage : Nat) (ad_secondImage : Nat) (ad_seen : Nat) (ad_ways : Nat) (v_traced : Int64) (p1 : Int32) (hv : ¬ p1 = 0) : Kr l yX7_imageOf wX7_imageOfB rX7_imageOfB (dC, dI) (vTy cI cJ cB cZ) [.ref ad0, .int p1] [(ad0, oX7 ad_text ad_draft ad_told ad_now ad_history ad_firstImage ad_secondImage ad_seen ad_ways v_traced)] [(ad0, oX7 ad_text ad_draft ad_told ad_now ad_history ad_firstImage ad_secondImage ad_seen ad_ways v_traced)] ad_secondImage := by
  refine Kr.mk (cc := cX7_imageOf) (maxL := 2) (ret := some (.object "CarriedOne$Image")) (by decide) (Nat.le_of_ble_eq_true rfl) ?_
  intro p e s m args below meth c A Q H locs C hQ hP hD hS ls hl
  obtain ⟨hx, hb, -, hml, hts, hown, -, hK, hN, hA⟩ := id C
  have hown : s.vm.findClass RX7 = some m.cls := hown
  have hl : lv_has ls 2 [(0, .ref ad0), (1, .int p1)] := hl
  refine lv_iload_n hx hb (dt uX7_imageOf 0 rfl) rfl (lv_at hl 1 rfl) ?_
  refine lv_if_ne (tgt := 11) hx hb (dt uX7_imageOf 1 rfl) (by decide) (fun c_1 => ?_) (fun c_1 => absurd c_1 hv)
  refine lv_aload_n hx hb (dt uX7_imageOf 5 rfl) rfl (lv_at hl 0 rfl) ?_
  refine va_get (D := (dC, dI)) (ci := 7) (v := .ref ad_secondImage) (C := RX7) (T := TX7) (N := 10) hx hb hts inU7 hown hK hP 0 rfl rfl 6 (by decide) (hts _ tw_128) (fun _ h9 => h9) rfl (dt uX7_imageOf 6 rfl) ?_
  rw [hQ]
  exact vret_r C hP hD hS (dt uX7_imageOf 7 rfl)
abbrev rX7_keepA : Room := { frames := 3, cells := 0, slots := 0, locals := 61 }
abbrev wX7_keepA : List Cond := Cond.code yX7_keep cX7_keep 2 (some .int) :: VT
set_option maxHeartbeats 4000000 in
set_option maxRecDepth 100000 in
theorem kX7_keepA (ad0 : Nat) (ad_text : Nat) (ad_draft : Nat) (ad_told : Nat) (ad_now : Nat) (ad_history : Nat) (ad_history_steps : Nat) (ad_firstImage : Nat) (ad_firstImage_history : Nat) (ad_firstImage_history_steps : Nat) (ad_secondImage : Nat) (ad_seen : Nat) (ad_ways : Nat) (v_traced : Int64) (v_now_forgotten : Int32) (v_now_touches : Int32) (v_now_trapped : Int32) (v_now_one : Int32) (v_now_date : Int32) (v_history_known : Int32) (a_history_steps : Nat → Int64) (v_firstImage_packed : Int64) (v_firstImage_kept : Int32) (v_firstImage_history_known : Int32) (a_firstImage_history_steps : Nat → Int64) (p1 : Int32) (q0 : (Int32 × (Nat → Int64) × Int32 × Int64 × Int32)) (hf : fX7_keepA v_now_forgotten v_now_touches v_now_trapped v_now_one v_now_date a_history_steps v_history_known a_firstImage_history_steps v_firstImage_history_known v_firstImage_packed v_firstImage_kept p1 = q0) (hv : p1 = 0) : Ki l yX7_keep wX7_keepA rX7_keepA (dC, dI) (vTy cI cJ cB cZ) [.ref ad0, .int p1] [(ad0, oX7 ad_text ad_draft ad_told ad_now ad_history ad_firstImage ad_secondImage ad_seen ad_ways v_traced), (ad_now, oX3 v_now_forgotten v_now_touches v_now_trapped v_now_one v_now_date), (ad_history, oX1 ad_history_steps v_history_known), (ad_history_steps, .inl (cJ, 10, .inr (.inl a_history_steps))), (ad_firstImage, oX2 ad_firstImage_history v_firstImage_packed v_firstImage_kept), (ad_firstImage_history, oX1 ad_firstImage_history_steps v_firstImage_history_known), (ad_firstImage_history_steps, .inl (cJ, 10, .inr (.inl a_firstImage_history_steps)))] [(ad0, oX7 ad_text ad_draft ad_told ad_now ad_history ad_firstImage ad_secondImage ad_seen ad_ways v_traced), (ad_now, oX3 v_now_forgotten v_now_touches v_now_trapped v_now_one v_now_date), (ad_history, oX1 ad_history_steps v_history_known), (ad_history_steps, .inl (cJ, 10, .inr (.inl a_history_steps))), (ad_firstImage, oX2 ad_firstImage_history q0.2.2.2.1 q0.2.2.2.2), (ad_firstImage_history, oX1 ad_firstImage_history_steps q0.2.2.1), (ad_firstImage_history_steps, .inl (cJ, 10, .inr (.inl q0.2.1)))] q0.1 := by
  refine Ki.mk (cc := cX7_keep) (maxL := 2) (ret := some .int) (by decide) (Nat.le_of_ble_eq_true rfl) ?_
  intro p e s m args below meth c A Q H locs C hQ hP hD hS ls hl
  obtain ⟨hx, hb, -, hml, hts, hown, -, hK, hN, hA⟩ := id C
  have hown : s.vm.findClass RX7 = some m.cls := hown
  have hl : lv_has ls 2 [(0, .ref ad0), (1, .int p1)] := hl
  unfold fX7_keepA at hf
  refine lv_iload_n hx hb (dt uX7_keep 0 rfl) rfl (lv_at hl 1 rfl) ?_
  refine lv_iconst (v := (0 : Int32)) hx hb (dt uX7_keep 1 rfl) (by decide) ?_
  refine lv_iconst (v := (1 : Int32)) hx hb (dt uX7_keep 2 rfl) (by decide) ?_
  refine vk_z0 [] (va_runS (As := [.int p1, .int (0 : Int32), .int (1 : Int32)]) (rest := []) ⟨hx, hb, hml, hown, hts⟩ (kX7_within p1 (0 : Int32) (1 : Int32) _ rfl H.size) (vcwS hts tw_106 tw_43 tw_41 tw_42 hd_X7_within rfl rfl ⟨Nat.le_of_ble_eq_true rfl, Nat.le_of_ble_eq_true rfl⟩) (vpreS hK hN hP hD [] rfl (by decide)) rfl rfl hl.1 rfl (lv_room (Nat.le_of_ble_eq_true rfl)) (dt uX7_keep 3 rfl) ⟨Nat.zero_le _, Nat.zero_le _⟩) hA hP hD hS rfl (by decide) (fun hz_1 H locs hP hD hS => ?_)
  refine lv_if_ne (tgt := 11) hx hb (dt uX7_keep 4 rfl) (by decide) (fun c_2 => ?_) (fun c_2 => ?_)
  · have hf := vif_f c_2 hf
    refine lv_aload_n hx hb (dt uX7_keep 7 rfl) rfl (lv_at hl 0 rfl) ?_
    refine lv_iload_n hx hb (dt uX7_keep 8 rfl) rfl (lv_at hl 1 rfl) ?_
    refine vk_r0 [0] (va_runV (As := [.int p1]) (rest := []) ⟨hx, hb, hml, hown, hts⟩ (kX7_imageOfA ad0 ad_text ad_draft ad_told ad_now ad_history ad_firstImage ad_secondImage ad_seen ad_ways v_traced p1 hv H.size) (vcwV hts tw_493 tw_494 tw_495 tw_41 tw_492 hd_X7_imageOf rfl rfl ⟨Nat.le_of_ble_eq_true rfl, Nat.le_of_ble_eq_true rfl⟩) (vpreV hK hN hP hD [0] rfl (by decide) (ci := 7) (q0 := 0) rfl rfl) rfl rfl hl.1 rfl (lv_room (Nat.le_of_ble_eq_true rfl)) (dt uX7_keep 9 rfl) ⟨Nat.zero_le _, Nat.zero_le _⟩) hA hP hD hS rfl (by decide) (fun H locs hP hD hS => ?_)
    refine lv_aload_n hx hb (dt uX7_keep 10 rfl) rfl (lv_at hl 0 rfl) ?_
    refine va_get (D := (dC, dI)) (ci := 7) (v := .ref ad_now) (C := RX7) (T := TX7) (N := 10) hx hb hts inU7 hown hK hP 0 rfl rfl 3 (by decide) (hts _ tw_122) (fun _ h9 => h9) rfl (dt uX7_keep 11 rfl) ?_
    refine lv_aload_n hx hb (dt uX7_keep 12 rfl) rfl (lv_at hl 0 rfl) ?_
    refine va_get (D := (dC, dI)) (ci := 7) (v := .ref ad_history) (C := RX7) (T := TX7) (N := 10) hx hb hts inU7 hown hK hP 0 rfl rfl 4 (by decide) (hts _ tw_126) (fun _ h9 => h9) rfl (dt uX7_keep 13 rfl) ?_
    refine vk_v [4, 5, 6, 1, 2, 3] (ws2 := [(ad0, oX7 ad_text ad_draft ad_told ad_now ad_history ad_firstImage ad_secondImage ad_seen ad_ways v_traced), (ad_now, oX3 v_now_forgotten v_now_touches v_now_trapped v_now_one v_now_date), (ad_history, oX1 ad_history_steps v_history_known), (ad_history_steps, .inl (cJ, 10, .inr (.inl a_history_steps))), (ad_firstImage, oX2 ad_firstImage_history ((fX2_fill a_firstImage_history_steps v_firstImage_history_known v_firstImage_packed v_firstImage_kept v_now_forgotten v_now_touches v_now_trapped v_now_one v_now_date a_history_steps v_history_known).2.2.1) ((fX2_fill a_firstImage_history_steps v_firstImage_history_known v_firstImage_packed v_firstImage_kept v_now_forgotten v_now_touches v_now_trapped v_now_one v_now_date a_history_steps v_history_known).2.2.2)), (ad_firstImage_history, oX1 ad_firstImage_history_steps ((fX2_fill a_firstImage_history_steps v_firstImage_history_known v_firstImage_packed v_firstImage_kept v_now_forgotten v_now_touches v_now_trapped v_now_one v_now_date a_history_steps v_history_known).2.1)), (ad_firstImage_history_steps, .inl (cJ, 10, .inr (.inl ((fX2_fill a_firstImage_history_steps v_firstImage_history_known v_firstImage_packed v_firstImage_kept v_now_forgotten v_now_touches v_now_trapped v_now_one v_now_date a_history_steps v_history_known).1))))]) (va_runVN (As := [.ref ad_now, .ref ad_history]) (rest := []) ⟨hx, hb, hml, hown, hts⟩ (kX2_fill ad_firstImage ad_firstImage_history ad_firstImage_history_steps ad_now ad_history ad_history_steps v_firstImage_packed v_firstImage_kept v_firstImage_history_known a_firstImage_history_steps v_now_forgotten v_now_touches v_now_trapped v_now_one v_now_date v_history_known a_history_steps _ rfl H.size) (vcwVN hts (nm_55 hN) tw_498 tw_499 tw_496 tw_497 hd_X2_fill rfl rfl ⟨Nat.le_of_ble_eq_true rfl, Nat.le_of_ble_eq_true rfl⟩) (vpreV hK hN hP hD [4, 5, 6, 1, 2, 3] rfl (by decide) (ci := 2) (q0 := 4) rfl rfl) rfl rfl hl.1 rfl (lv_room (Nat.le_of_ble_eq_true rfl)) (dt uX7_keep 14 rfl) ⟨Nat.zero_le _, Nat.zero_le _⟩) hA hP hD hS rfl (by decide) rfl rfl (fun H locs hP hD hS => ?_)
    refine lv_aload_n hx hb (dt uX7_keep 15 rfl) rfl (lv_at hl 0 rfl) ?_
    refine va_get (D := (dC, dI)) (ci := 7) (v := .ref ad_now) (C := RX7) (T := TX7) (N := 10) hx hb hts inU7 hown hK hP 0 rfl rfl 3 (by decide) (hts _ tw_122) (fun _ h9 => h9) rfl (dt uX7_keep 16 rfl) ?_
    refine va_getN (D := (dC, dI)) (ci := 3) (v := .int v_now_date) (C := RX3) (T := TX3) (N := 5) hx hb hts inU3 hown hK hP 1 rfl rfl 4 (by decide) (nw_17 hN) (fun _ h9 => h9) rfl (dt uX7_keep 17 rfl) ?_
    subst hf
    rw [hQ]
    exact vret_i C hP hD hS (dt uX7_keep 18 rfl)
  · have hf := vif_t c_2 hf
    refine lv_iconst (v := (-1 : Int32)) hx hb (dt uX7_keep 5 rfl) (by decide) ?_
    subst hf
    rw [hQ]
    exact vret_i C hP hD hS (dt uX7_keep 6 rfl)
abbrev rX7_keepB : Room := { frames := 3, cells := 0, slots := 0, locals := 61 }
abbrev wX7_keepB : List Cond := Cond.code yX7_keep cX7_keep 2 (some .int) :: VT
set_option maxHeartbeats 4000000 in
set_option maxRecDepth 100000 in
theorem kX7_keepB (ad0 : Nat) (ad_text : Nat) (ad_draft : Nat) (ad_told : Nat) (ad_now : Nat) (ad_history : Nat) (ad_history_steps : Nat) (ad_firstImage : Nat) (ad_secondImage : Nat) (ad_secondImage_history : Nat) (ad_secondImage_history_steps : Nat) (ad_seen : Nat) (ad_ways : Nat) (v_traced : Int64) (v_now_forgotten : Int32) (v_now_touches : Int32) (v_now_trapped : Int32) (v_now_one : Int32) (v_now_date : Int32) (v_history_known : Int32) (a_history_steps : Nat → Int64) (v_secondImage_packed : Int64) (v_secondImage_kept : Int32) (v_secondImage_history_known : Int32) (a_secondImage_history_steps : Nat → Int64) (p1 : Int32) (q0 : (Int32 × (Nat → Int64) × Int32 × Int64 × Int32)) (hf : fX7_keepB v_now_forgotten v_now_touches v_now_trapped v_now_one v_now_date a_history_steps v_history_known a_secondImage_history_steps v_secondImage_history_known v_secondImage_packed v_secondImage_kept p1 = q0) (hv : ¬ p1 = 0) : Ki l yX7_keep wX7_keepB rX7_keepB (dC, dI) (vTy cI cJ cB cZ) [.ref ad0, .int p1] [(ad0, oX7 ad_text ad_draft ad_told ad_now ad_history ad_firstImage ad_secondImage ad_seen ad_ways v_traced), (ad_now, oX3 v_now_forgotten v_now_touches v_now_trapped v_now_one v_now_date), (ad_history, oX1 ad_history_steps v_history_known), (ad_history_steps, .inl (cJ, 10, .inr (.inl a_history_steps))), (ad_secondImage, oX2 ad_secondImage_history v_secondImage_packed v_secondImage_kept), (ad_secondImage_history, oX1 ad_secondImage_history_steps v_secondImage_history_known), (ad_secondImage_history_steps, .inl (cJ, 10, .inr (.inl a_secondImage_history_steps)))] [(ad0, oX7 ad_text ad_draft ad_told ad_now ad_history ad_firstImage ad_secondImage ad_seen ad_ways v_traced), (ad_now, oX3 v_now_forgotten v_now_touches v_now_trapped v_now_one v_now_date), (ad_history, oX1 ad_history_steps v_history_known), (ad_history_steps, .inl (cJ, 10, .inr (.inl a_history_steps))), (ad_secondImage, oX2 ad_secondImage_history q0.2.2.2.1 q0.2.2.2.2), (ad_secondImage_history, oX1 ad_secondImage_history_steps q0.2.2.1), (ad_secondImage_history_steps, .inl (cJ, 10, .inr (.inl q0.2.1)))] q0.1 := by
  refine Ki.mk (cc := cX7_keep) (maxL := 2) (ret := some .int) (by decide) (Nat.le_of_ble_eq_true rfl) ?_
  intro p e s m args below meth c A Q H locs C hQ hP hD hS ls hl
  obtain ⟨hx, hb, -, hml, hts, hown, -, hK, hN, hA⟩ := id C
  have hown : s.vm.findClass RX7 = some m.cls := hown
  have hl : lv_has ls 2 [(0, .ref ad0), (1, .int p1)] := hl
  unfold fX7_keepB at hf
  refine lv_iload_n hx hb (dt uX7_keep 0 rfl) rfl (lv_at hl 1 rfl) ?_
  refine lv_iconst (v := (0 : Int32)) hx hb (dt uX7_keep 1 rfl) (by decide) ?_
  refine lv_iconst (v := (1 : Int32)) hx hb (dt uX7_keep 2 rfl) (by decide) ?_
  refine vk_z0 [] (va_runS (As := [.int p1, .int (0 : Int32), .int (1 : Int32)]) (rest := []) ⟨hx, hb, hml, hown, hts⟩ (kX7_within p1 (0 : Int32) (1 : Int32) _ rfl H.size) (vcwS hts tw_106 tw_43 tw_41 tw_42 hd_X7_within rfl rfl ⟨Nat.le_of_ble_eq_true rfl, Nat.le_of_ble_eq_true rfl⟩) (vpreS hK hN hP hD [] rfl (by decide)) rfl rfl hl.1 rfl (lv_room (Nat.le_of_ble_eq_true rfl)) (dt uX7_keep 3 rfl) ⟨Nat.zero_le _, Nat.zero_le _⟩) hA hP hD hS rfl (by decide) (fun hz_1 H locs hP hD hS => ?_)
  refine lv_if_ne (tgt := 11) hx hb (dt uX7_keep 4 rfl) (by decide) (fun c_2 => ?_) (fun c_2 => ?_)
  · have hf := vif_f c_2 hf
    refine lv_aload_n hx hb (dt uX7_keep 7 rfl) rfl (lv_at hl 0 rfl) ?_
    refine lv_iload_n hx hb (dt uX7_keep 8 rfl) rfl (lv_at hl 1 rfl) ?_
    refine vk_r0 [0] (va_runV (As := [.int p1]) (rest := []) ⟨hx, hb, hml, hown, hts⟩ (kX7_imageOfB ad0 ad_text ad_draft ad_told ad_now ad_history ad_firstImage ad_secondImage ad_seen ad_ways v_traced p1 hv H.size) (vcwV hts tw_493 tw_494 tw_495 tw_41 tw_492 hd_X7_imageOf rfl rfl ⟨Nat.le_of_ble_eq_true rfl, Nat.le_of_ble_eq_true rfl⟩) (vpreV hK hN hP hD [0] rfl (by decide) (ci := 7) (q0 := 0) rfl rfl) rfl rfl hl.1 rfl (lv_room (Nat.le_of_ble_eq_true rfl)) (dt uX7_keep 9 rfl) ⟨Nat.zero_le _, Nat.zero_le _⟩) hA hP hD hS rfl (by decide) (fun H locs hP hD hS => ?_)
    refine lv_aload_n hx hb (dt uX7_keep 10 rfl) rfl (lv_at hl 0 rfl) ?_
    refine va_get (D := (dC, dI)) (ci := 7) (v := .ref ad_now) (C := RX7) (T := TX7) (N := 10) hx hb hts inU7 hown hK hP 0 rfl rfl 3 (by decide) (hts _ tw_122) (fun _ h9 => h9) rfl (dt uX7_keep 11 rfl) ?_
    refine lv_aload_n hx hb (dt uX7_keep 12 rfl) rfl (lv_at hl 0 rfl) ?_
    refine va_get (D := (dC, dI)) (ci := 7) (v := .ref ad_history) (C := RX7) (T := TX7) (N := 10) hx hb hts inU7 hown hK hP 0 rfl rfl 4 (by decide) (hts _ tw_126) (fun _ h9 => h9) rfl (dt uX7_keep 13 rfl) ?_
    refine vk_v [4, 5, 6, 1, 2, 3] (ws2 := [(ad0, oX7 ad_text ad_draft ad_told ad_now ad_history ad_firstImage ad_secondImage ad_seen ad_ways v_traced), (ad_now, oX3 v_now_forgotten v_now_touches v_now_trapped v_now_one v_now_date), (ad_history, oX1 ad_history_steps v_history_known), (ad_history_steps, .inl (cJ, 10, .inr (.inl a_history_steps))), (ad_secondImage, oX2 ad_secondImage_history ((fX2_fill a_secondImage_history_steps v_secondImage_history_known v_secondImage_packed v_secondImage_kept v_now_forgotten v_now_touches v_now_trapped v_now_one v_now_date a_history_steps v_history_known).2.2.1) ((fX2_fill a_secondImage_history_steps v_secondImage_history_known v_secondImage_packed v_secondImage_kept v_now_forgotten v_now_touches v_now_trapped v_now_one v_now_date a_history_steps v_history_known).2.2.2)), (ad_secondImage_history, oX1 ad_secondImage_history_steps ((fX2_fill a_secondImage_history_steps v_secondImage_history_known v_secondImage_packed v_secondImage_kept v_now_forgotten v_now_touches v_now_trapped v_now_one v_now_date a_history_steps v_history_known).2.1)), (ad_secondImage_history_steps, .inl (cJ, 10, .inr (.inl ((fX2_fill a_secondImage_history_steps v_secondImage_history_known v_secondImage_packed v_secondImage_kept v_now_forgotten v_now_touches v_now_trapped v_now_one v_now_date a_history_steps v_history_known).1))))]) (va_runVN (As := [.ref ad_now, .ref ad_history]) (rest := []) ⟨hx, hb, hml, hown, hts⟩ (kX2_fill ad_secondImage ad_secondImage_history ad_secondImage_history_steps ad_now ad_history ad_history_steps v_secondImage_packed v_secondImage_kept v_secondImage_history_known a_secondImage_history_steps v_now_forgotten v_now_touches v_now_trapped v_now_one v_now_date v_history_known a_history_steps _ rfl H.size) (vcwVN hts (nm_55 hN) tw_498 tw_499 tw_496 tw_497 hd_X2_fill rfl rfl ⟨Nat.le_of_ble_eq_true rfl, Nat.le_of_ble_eq_true rfl⟩) (vpreV hK hN hP hD [4, 5, 6, 1, 2, 3] rfl (by decide) (ci := 2) (q0 := 4) rfl rfl) rfl rfl hl.1 rfl (lv_room (Nat.le_of_ble_eq_true rfl)) (dt uX7_keep 14 rfl) ⟨Nat.zero_le _, Nat.zero_le _⟩) hA hP hD hS rfl (by decide) rfl rfl (fun H locs hP hD hS => ?_)
    refine lv_aload_n hx hb (dt uX7_keep 15 rfl) rfl (lv_at hl 0 rfl) ?_
    refine va_get (D := (dC, dI)) (ci := 7) (v := .ref ad_now) (C := RX7) (T := TX7) (N := 10) hx hb hts inU7 hown hK hP 0 rfl rfl 3 (by decide) (hts _ tw_122) (fun _ h9 => h9) rfl (dt uX7_keep 16 rfl) ?_
    refine va_getN (D := (dC, dI)) (ci := 3) (v := .int v_now_date) (C := RX3) (T := TX3) (N := 5) hx hb hts inU3 hown hK hP 1 rfl rfl 4 (by decide) (nw_17 hN) (fun _ h9 => h9) rfl (dt uX7_keep 17 rfl) ?_
    subst hf
    rw [hQ]
    exact vret_i C hP hD hS (dt uX7_keep 18 rfl)
  · have hf := vif_t c_2 hf
    refine lv_iconst (v := (-1 : Int32)) hx hb (dt uX7_keep 5 rfl) (by decide) ?_
    subst hf
    rw [hQ]
    exact vret_i C hP hD hS (dt uX7_keep 6 rfl)
abbrev rX7_backA : Room := { frames := 3, cells := 0, slots := 0, locals := 68 }
abbrev wX7_backA : List Cond := Cond.code yX7_back cX7_back 2 (some .int) :: VT
set_option maxHeartbeats 4000000 in
set_option maxRecDepth 100000 in
theorem kX7_backA (ad0 : Nat) (ad_text : Nat) (ad_draft : Nat) (ad_told : Nat) (ad_now : Nat) (ad_history : Nat) (ad_history_steps : Nat) (ad_firstImage : Nat) (ad_firstImage_history : Nat) (ad_firstImage_history_steps : Nat) (ad_secondImage : Nat) (ad_seen : Nat) (ad_ways : Nat) (v_traced : Int64) (v_now_forgotten : Int32) (v_now_touches : Int32) (v_now_trapped : Int32) (v_now_one : Int32) (v_now_date : Int32) (v_history_known : Int32) (a_history_steps : Nat → Int64) (v_firstImage_packed : Int64) (v_firstImage_kept : Int32) (v_firstImage_history_known : Int32) (a_firstImage_history_steps : Nat → Int64) (p1 : Int32) (q0 : (Int32 × Int32 × Int32 × Int32 × Int32 × Int32 × (Nat → Int64) × Int32)) (hf : fX7_backA v_now_forgotten v_now_touches v_now_trapped v_now_one v_now_date a_history_steps v_history_known a_firstImage_history_steps v_firstImage_history_known v_firstImage_packed v_firstImage_kept p1 = q0) (hv : p1 = 0) : Ki l yX7_back wX7_backA rX7_backA (dC, dI) (vTy cI cJ cB cZ) [.ref ad0, .int p1] [(ad0, oX7 ad_text ad_draft ad_told ad_now ad_history ad_firstImage ad_secondImage ad_seen ad_ways v_traced), (ad_now, oX3 v_now_forgotten v_now_touches v_now_trapped v_now_one v_now_date), (ad_history, oX1 ad_history_steps v_history_known), (ad_history_steps, .inl (cJ, 10, .inr (.inl a_history_steps))), (ad_firstImage, oX2 ad_firstImage_history v_firstImage_packed v_firstImage_kept), (ad_firstImage_history, oX1 ad_firstImage_history_steps v_firstImage_history_known), (ad_firstImage_history_steps, .inl (cJ, 10, .inr (.inl a_firstImage_history_steps)))] [(ad0, oX7 ad_text ad_draft ad_told ad_now ad_history ad_firstImage ad_secondImage ad_seen ad_ways v_traced), (ad_now, oX3 q0.2.1 q0.2.2.1 q0.2.2.2.1 q0.2.2.2.2.1 q0.2.2.2.2.2.1), (ad_history, oX1 ad_history_steps q0.2.2.2.2.2.2.2), (ad_history_steps, .inl (cJ, 10, .inr (.inl q0.2.2.2.2.2.2.1))), (ad_firstImage, oX2 ad_firstImage_history v_firstImage_packed v_firstImage_kept), (ad_firstImage_history, oX1 ad_firstImage_history_steps v_firstImage_history_known), (ad_firstImage_history_steps, .inl (cJ, 10, .inr (.inl a_firstImage_history_steps)))] q0.1 := by
  refine Ki.mk (cc := cX7_back) (maxL := 2) (ret := some .int) (by decide) (Nat.le_of_ble_eq_true rfl) ?_
  intro p e s m args below meth c A Q H locs C hQ hP hD hS ls hl
  obtain ⟨hx, hb, -, hml, hts, hown, -, hK, hN, hA⟩ := id C
  have hown : s.vm.findClass RX7 = some m.cls := hown
  have hl : lv_has ls 2 [(0, .ref ad0), (1, .int p1)] := hl
  unfold fX7_backA at hf
  refine lv_iload_n hx hb (dt uX7_back 0 rfl) rfl (lv_at hl 1 rfl) ?_
  refine lv_iconst (v := (0 : Int32)) hx hb (dt uX7_back 1 rfl) (by decide) ?_
  refine lv_iconst (v := (1 : Int32)) hx hb (dt uX7_back 2 rfl) (by decide) ?_
  refine vk_z0 [] (va_runS (As := [.int p1, .int (0 : Int32), .int (1 : Int32)]) (rest := []) ⟨hx, hb, hml, hown, hts⟩ (kX7_within p1 (0 : Int32) (1 : Int32) _ rfl H.size) (vcwS hts tw_106 tw_43 tw_41 tw_42 hd_X7_within rfl rfl ⟨Nat.le_of_ble_eq_true rfl, Nat.le_of_ble_eq_true rfl⟩) (vpreS hK hN hP hD [] rfl (by decide)) rfl rfl hl.1 rfl (lv_room (Nat.le_of_ble_eq_true rfl)) (dt uX7_back 3 rfl) ⟨Nat.zero_le _, Nat.zero_le _⟩) hA hP hD hS rfl (by decide) (fun hz_1 H locs hP hD hS => ?_)
  refine lv_if_ne (tgt := 11) hx hb (dt uX7_back 4 rfl) (by decide) (fun c_2 => ?_) (fun c_2 => ?_)
  · have hf := vif_f c_2 hf
    refine lv_aload_n hx hb (dt uX7_back 7 rfl) rfl (lv_at hl 0 rfl) ?_
    refine lv_iload_n hx hb (dt uX7_back 8 rfl) rfl (lv_at hl 1 rfl) ?_
    refine vk_r0 [0] (va_runV (As := [.int p1]) (rest := []) ⟨hx, hb, hml, hown, hts⟩ (kX7_imageOfA ad0 ad_text ad_draft ad_told ad_now ad_history ad_firstImage ad_secondImage ad_seen ad_ways v_traced p1 hv H.size) (vcwV hts tw_493 tw_494 tw_495 tw_41 tw_492 hd_X7_imageOf rfl rfl ⟨Nat.le_of_ble_eq_true rfl, Nat.le_of_ble_eq_true rfl⟩) (vpreV hK hN hP hD [0] rfl (by decide) (ci := 7) (q0 := 0) rfl rfl) rfl rfl hl.1 rfl (lv_room (Nat.le_of_ble_eq_true rfl)) (dt uX7_back 9 rfl) ⟨Nat.zero_le _, Nat.zero_le _⟩) hA hP hD hS rfl (by decide) (fun H locs hP hD hS => ?_)
    refine va_getN (D := (dC, dI)) (ci := 2) (v := .int v_firstImage_kept) (C := RX2) (T := TX2) (N := 3) hx hb hts inU2 hown hK hP 4 rfl rfl 2 (by decide) (nw_22 hN) (fun _ h9 => h9) rfl (dt uX7_back 10 rfl) ?_
    refine lv_if_ne (tgt := 25) hx hb (dt uX7_back 11 rfl) (by decide) (fun c_3 => ?_) (fun c_3 => ?_)
    · have hf := vif_f c_3 hf
      refine lv_aload_n hx hb (dt uX7_back 14 rfl) rfl (lv_at hl 0 rfl) ?_
      refine lv_iload_n hx hb (dt uX7_back 15 rfl) rfl (lv_at hl 1 rfl) ?_
      refine vk_r0 [0] (va_runV (As := [.int p1]) (rest := []) ⟨hx, hb, hml, hown, hts⟩ (kX7_imageOfA ad0 ad_text ad_draft ad_told ad_now ad_history ad_firstImage ad_secondImage ad_seen ad_ways v_traced p1 hv H.size) (vcwV hts tw_493 tw_494 tw_495 tw_41 tw_492 hd_X7_imageOf rfl rfl ⟨Nat.le_of_ble_eq_true rfl, Nat.le_of_ble_eq_true rfl⟩) (vpreV hK hN hP hD [0] rfl (by decide) (ci := 7) (q0 := 0) rfl rfl) rfl rfl hl.1 rfl (lv_room (Nat.le_of_ble_eq_true rfl)) (dt uX7_back 16 rfl) ⟨Nat.zero_le _, Nat.zero_le _⟩) hA hP hD hS rfl (by decide) (fun H locs hP hD hS => ?_)
      refine lv_aload_n hx hb (dt uX7_back 17 rfl) rfl (lv_at hl 0 rfl) ?_
      refine va_get (D := (dC, dI)) (ci := 7) (v := .ref ad_now) (C := RX7) (T := TX7) (N := 10) hx hb hts inU7 hown hK hP 0 rfl rfl 3 (by decide) (hts _ tw_122) (fun _ h9 => h9) rfl (dt uX7_back 18 rfl) ?_
      refine lv_aload_n hx hb (dt uX7_back 19 rfl) rfl (lv_at hl 0 rfl) ?_
      refine va_get (D := (dC, dI)) (ci := 7) (v := .ref ad_history) (C := RX7) (T := TX7) (N := 10) hx hb hts inU7 hown hK hP 0 rfl rfl 4 (by decide) (hts _ tw_126) (fun _ h9 => h9) rfl (dt uX7_back 20 rfl) ?_
      refine vk_v [4, 5, 6, 1, 2, 3] (ws2 := [(ad0, oX7 ad_text ad_draft ad_told ad_now ad_history ad_firstImage ad_secondImage ad_seen ad_ways v_traced), (ad_now, oX3 ((fX2_restore a_firstImage_history_steps v_firstImage_history_known v_firstImage_packed v_now_forgotten v_now_touches v_now_trapped v_now_one v_now_date a_history_steps v_history_known).1) ((fX2_restore a_firstImage_history_steps v_firstImage_history_known v_firstImage_packed v_now_forgotten v_now_touches v_now_trapped v_now_one v_now_date a_history_steps v_history_known).2.1) ((fX2_restore a_firstImage_history_steps v_firstImage_history_known v_firstImage_packed v_now_forgotten v_now_touches v_now_trapped v_now_one v_now_date a_history_steps v_history_known).2.2.1) ((fX2_restore a_firstImage_history_steps v_firstImage_history_known v_firstImage_packed v_now_forgotten v_now_touches v_now_trapped v_now_one v_now_date a_history_steps v_history_known).2.2.2.1) ((fX2_restore a_firstImage_history_steps v_firstImage_history_known v_firstImage_packed v_now_forgotten v_now_touches v_now_trapped v_now_one v_now_date a_history_steps v_history_known).2.2.2.2.1)), (ad_history, oX1 ad_history_steps ((fX2_restore a_firstImage_history_steps v_firstImage_history_known v_firstImage_packed v_now_forgotten v_now_touches v_now_trapped v_now_one v_now_date a_history_steps v_history_known).2.2.2.2.2.2)), (ad_history_steps, .inl (cJ, 10, .inr (.inl ((fX2_restore a_firstImage_history_steps v_firstImage_history_known v_firstImage_packed v_now_forgotten v_now_touches v_now_trapped v_now_one v_now_date a_history_steps v_history_known).2.2.2.2.2.1)))), (ad_firstImage, oX2 ad_firstImage_history v_firstImage_packed v_firstImage_kept), (ad_firstImage_history, oX1 ad_firstImage_history_steps v_firstImage_history_known), (ad_firstImage_history_steps, .inl (cJ, 10, .inr (.inl a_firstImage_history_steps)))]) (va_runVN (As := [.ref ad_now, .ref ad_history]) (rest := []) ⟨hx, hb, hml, hown, hts⟩ (kX2_restore ad_firstImage ad_firstImage_history ad_firstImage_history_steps ad_now ad_history ad_history_steps v_firstImage_packed v_firstImage_kept v_firstImage_history_known a_firstImage_history_steps v_now_forgotten v_now_touches v_now_trapped v_now_one v_now_date v_history_known a_history_steps _ rfl H.size) (vcwVN hts (nm_58 hN) tw_501 tw_502 tw_496 tw_500 hd_X2_restore rfl rfl ⟨Nat.le_of_ble_eq_true rfl, Nat.le_of_ble_eq_true rfl⟩) (vpreV hK hN hP hD [4, 5, 6, 1, 2, 3] rfl (by decide) (ci := 2) (q0 := 4) rfl rfl) rfl rfl hl.1 rfl (lv_room (Nat.le_of_ble_eq_true rfl)) (dt uX7_back 21 rfl) ⟨Nat.zero_le _, Nat.zero_le _⟩) hA hP hD hS rfl (by decide) rfl rfl (fun H locs hP hD hS => ?_)
      refine lv_aload_n hx hb (dt uX7_back 22 rfl) rfl (lv_at hl 0 rfl) ?_
      refine va_get (D := (dC, dI)) (ci := 7) (v := .ref ad_now) (C := RX7) (T := TX7) (N := 10) hx hb hts inU7 hown hK hP 0 rfl rfl 3 (by decide) (hts _ tw_122) (fun _ h9 => h9) rfl (dt uX7_back 23 rfl) ?_
      refine va_getN (D := (dC, dI)) (ci := 3) (v := .int ((fX2_restore a_firstImage_history_steps v_firstImage_history_known v_firstImage_packed v_now_forgotten v_now_touches v_now_trapped v_now_one v_now_date a_history_steps v_history_known).2.2.2.2.1)) (C := RX3) (T := TX3) (N := 5) hx hb hts inU3 hown hK hP 1 rfl rfl 4 (by decide) (nw_17 hN) (fun _ h9 => h9) rfl (dt uX7_back 24 rfl) ?_
      subst hf
      rw [hQ]
      exact vret_i C hP hD hS (dt uX7_back 25 rfl)
    · have hf := vif_t c_3 hf
      refine lv_bipush (v := (-2 : Int32)) hx hb (dt uX7_back 12 rfl) (by decide) ?_
      subst hf
      rw [hQ]
      exact vret_i C hP hD hS (dt uX7_back 13 rfl)
  · have hf := vif_t c_2 hf
    refine lv_iconst (v := (-1 : Int32)) hx hb (dt uX7_back 5 rfl) (by decide) ?_
    subst hf
    rw [hQ]
    exact vret_i C hP hD hS (dt uX7_back 6 rfl)
abbrev rX7_backB : Room := { frames := 3, cells := 0, slots := 0, locals := 68 }
abbrev wX7_backB : List Cond := Cond.code yX7_back cX7_back 2 (some .int) :: VT
set_option maxHeartbeats 4000000 in
set_option maxRecDepth 100000 in
theorem kX7_backB (ad0 : Nat) (ad_text : Nat) (ad_draft : Nat) (ad_told : Nat) (ad_now : Nat) (ad_history : Nat) (ad_history_steps : Nat) (ad_firstImage : Nat) (ad_secondImage : Nat) (ad_secondImage_history : Nat) (ad_secondImage_history_steps : Nat) (ad_seen : Nat) (ad_ways : Nat) (v_traced : Int64) (v_now_forgotten : Int32) (v_now_touches : Int32) (v_now_trapped : Int32) (v_now_one : Int32) (v_now_date : Int32) (v_history_known : Int32) (a_history_steps : Nat → Int64) (v_secondImage_packed : Int64) (v_secondImage_kept : Int32) (v_secondImage_history_known : Int32) (a_secondImage_history_steps : Nat → Int64) (p1 : Int32) (q0 : (Int32 × Int32 × Int32 × Int32 × Int32 × Int32 × (Nat → Int64) × Int32)) (hf : fX7_backB v_now_forgotten v_now_touches v_now_trapped v_now_one v_now_date a_history_steps v_history_known a_secondImage_history_steps v_secondImage_history_known v_secondImage_packed v_secondImage_kept p1 = q0) (hv : ¬ p1 = 0) : Ki l yX7_back wX7_backB rX7_backB (dC, dI) (vTy cI cJ cB cZ) [.ref ad0, .int p1] [(ad0, oX7 ad_text ad_draft ad_told ad_now ad_history ad_firstImage ad_secondImage ad_seen ad_ways v_traced), (ad_now, oX3 v_now_forgotten v_now_touches v_now_trapped v_now_one v_now_date), (ad_history, oX1 ad_history_steps v_history_known), (ad_history_steps, .inl (cJ, 10, .inr (.inl a_history_steps))), (ad_secondImage, oX2 ad_secondImage_history v_secondImage_packed v_secondImage_kept), (ad_secondImage_history, oX1 ad_secondImage_history_steps v_secondImage_history_known), (ad_secondImage_history_steps, .inl (cJ, 10, .inr (.inl a_secondImage_history_steps)))] [(ad0, oX7 ad_text ad_draft ad_told ad_now ad_history ad_firstImage ad_secondImage ad_seen ad_ways v_traced), (ad_now, oX3 q0.2.1 q0.2.2.1 q0.2.2.2.1 q0.2.2.2.2.1 q0.2.2.2.2.2.1), (ad_history, oX1 ad_history_steps q0.2.2.2.2.2.2.2), (ad_history_steps, .inl (cJ, 10, .inr (.inl q0.2.2.2.2.2.2.1))), (ad_secondImage, oX2 ad_secondImage_history v_secondImage_packed v_secondImage_kept), (ad_secondImage_history, oX1 ad_secondImage_history_steps v_secondImage_history_known), (ad_secondImage_history_steps, .inl (cJ, 10, .inr (.inl a_secondImage_history_steps)))] q0.1 := by
  refine Ki.mk (cc := cX7_back) (maxL := 2) (ret := some .int) (by decide) (Nat.le_of_ble_eq_true rfl) ?_
  intro p e s m args below meth c A Q H locs C hQ hP hD hS ls hl
  obtain ⟨hx, hb, -, hml, hts, hown, -, hK, hN, hA⟩ := id C
  have hown : s.vm.findClass RX7 = some m.cls := hown
  have hl : lv_has ls 2 [(0, .ref ad0), (1, .int p1)] := hl
  unfold fX7_backB at hf
  refine lv_iload_n hx hb (dt uX7_back 0 rfl) rfl (lv_at hl 1 rfl) ?_
  refine lv_iconst (v := (0 : Int32)) hx hb (dt uX7_back 1 rfl) (by decide) ?_
  refine lv_iconst (v := (1 : Int32)) hx hb (dt uX7_back 2 rfl) (by decide) ?_
  refine vk_z0 [] (va_runS (As := [.int p1, .int (0 : Int32), .int (1 : Int32)]) (rest := []) ⟨hx, hb, hml, hown, hts⟩ (kX7_within p1 (0 : Int32) (1 : Int32) _ rfl H.size) (vcwS hts tw_106 tw_43 tw_41 tw_42 hd_X7_within rfl rfl ⟨Nat.le_of_ble_eq_true rfl, Nat.le_of_ble_eq_true rfl⟩) (vpreS hK hN hP hD [] rfl (by decide)) rfl rfl hl.1 rfl (lv_room (Nat.le_of_ble_eq_true rfl)) (dt uX7_back 3 rfl) ⟨Nat.zero_le _, Nat.zero_le _⟩) hA hP hD hS rfl (by decide) (fun hz_1 H locs hP hD hS => ?_)
  refine lv_if_ne (tgt := 11) hx hb (dt uX7_back 4 rfl) (by decide) (fun c_2 => ?_) (fun c_2 => ?_)
  · have hf := vif_f c_2 hf
    refine lv_aload_n hx hb (dt uX7_back 7 rfl) rfl (lv_at hl 0 rfl) ?_
    refine lv_iload_n hx hb (dt uX7_back 8 rfl) rfl (lv_at hl 1 rfl) ?_
    refine vk_r0 [0] (va_runV (As := [.int p1]) (rest := []) ⟨hx, hb, hml, hown, hts⟩ (kX7_imageOfB ad0 ad_text ad_draft ad_told ad_now ad_history ad_firstImage ad_secondImage ad_seen ad_ways v_traced p1 hv H.size) (vcwV hts tw_493 tw_494 tw_495 tw_41 tw_492 hd_X7_imageOf rfl rfl ⟨Nat.le_of_ble_eq_true rfl, Nat.le_of_ble_eq_true rfl⟩) (vpreV hK hN hP hD [0] rfl (by decide) (ci := 7) (q0 := 0) rfl rfl) rfl rfl hl.1 rfl (lv_room (Nat.le_of_ble_eq_true rfl)) (dt uX7_back 9 rfl) ⟨Nat.zero_le _, Nat.zero_le _⟩) hA hP hD hS rfl (by decide) (fun H locs hP hD hS => ?_)
    refine va_getN (D := (dC, dI)) (ci := 2) (v := .int v_secondImage_kept) (C := RX2) (T := TX2) (N := 3) hx hb hts inU2 hown hK hP 4 rfl rfl 2 (by decide) (nw_22 hN) (fun _ h9 => h9) rfl (dt uX7_back 10 rfl) ?_
    refine lv_if_ne (tgt := 25) hx hb (dt uX7_back 11 rfl) (by decide) (fun c_3 => ?_) (fun c_3 => ?_)
    · have hf := vif_f c_3 hf
      refine lv_aload_n hx hb (dt uX7_back 14 rfl) rfl (lv_at hl 0 rfl) ?_
      refine lv_iload_n hx hb (dt uX7_back 15 rfl) rfl (lv_at hl 1 rfl) ?_
      refine vk_r0 [0] (va_runV (As := [.int p1]) (rest := []) ⟨hx, hb, hml, hown, hts⟩ (kX7_imageOfB ad0 ad_text ad_draft ad_told ad_now ad_history ad_firstImage ad_secondImage ad_seen ad_ways v_traced p1 hv H.size) (vcwV hts tw_493 tw_494 tw_495 tw_41 tw_492 hd_X7_imageOf rfl rfl ⟨Nat.le_of_ble_eq_true rfl, Nat.le_of_ble_eq_true rfl⟩) (vpreV hK hN hP hD [0] rfl (by decide) (ci := 7) (q0 := 0) rfl rfl) rfl rfl hl.1 rfl (lv_room (Nat.le_of_ble_eq_true rfl)) (dt uX7_back 16 rfl) ⟨Nat.zero_le _, Nat.zero_le _⟩) hA hP hD hS rfl (by decide) (fun H locs hP hD hS => ?_)
      refine lv_aload_n hx hb (dt uX7_back 17 rfl) rfl (lv_at hl 0 rfl) ?_
      refine va_get (D := (dC, dI)) (ci := 7) (v := .ref ad_now) (C := RX7) (T := TX7) (N := 10) hx hb hts inU7 hown hK hP 0 rfl rfl 3 (by decide) (hts _ tw_122) (fun _ h9 => h9) rfl (dt uX7_back 18 rfl) ?_
      refine lv_aload_n hx hb (dt uX7_back 19 rfl) rfl (lv_at hl 0 rfl) ?_
      refine va_get (D := (dC, dI)) (ci := 7) (v := .ref ad_history) (C := RX7) (T := TX7) (N := 10) hx hb hts inU7 hown hK hP 0 rfl rfl 4 (by decide) (hts _ tw_126) (fun _ h9 => h9) rfl (dt uX7_back 20 rfl) ?_
      refine vk_v [4, 5, 6, 1, 2, 3] (ws2 := [(ad0, oX7 ad_text ad_draft ad_told ad_now ad_history ad_firstImage ad_secondImage ad_seen ad_ways v_traced), (ad_now, oX3 ((fX2_restore a_secondImage_history_steps v_secondImage_history_known v_secondImage_packed v_now_forgotten v_now_touches v_now_trapped v_now_one v_now_date a_history_steps v_history_known).1) ((fX2_restore a_secondImage_history_steps v_secondImage_history_known v_secondImage_packed v_now_forgotten v_now_touches v_now_trapped v_now_one v_now_date a_history_steps v_history_known).2.1) ((fX2_restore a_secondImage_history_steps v_secondImage_history_known v_secondImage_packed v_now_forgotten v_now_touches v_now_trapped v_now_one v_now_date a_history_steps v_history_known).2.2.1) ((fX2_restore a_secondImage_history_steps v_secondImage_history_known v_secondImage_packed v_now_forgotten v_now_touches v_now_trapped v_now_one v_now_date a_history_steps v_history_known).2.2.2.1) ((fX2_restore a_secondImage_history_steps v_secondImage_history_known v_secondImage_packed v_now_forgotten v_now_touches v_now_trapped v_now_one v_now_date a_history_steps v_history_known).2.2.2.2.1)), (ad_history, oX1 ad_history_steps ((fX2_restore a_secondImage_history_steps v_secondImage_history_known v_secondImage_packed v_now_forgotten v_now_touches v_now_trapped v_now_one v_now_date a_history_steps v_history_known).2.2.2.2.2.2)), (ad_history_steps, .inl (cJ, 10, .inr (.inl ((fX2_restore a_secondImage_history_steps v_secondImage_history_known v_secondImage_packed v_now_forgotten v_now_touches v_now_trapped v_now_one v_now_date a_history_steps v_history_known).2.2.2.2.2.1)))), (ad_secondImage, oX2 ad_secondImage_history v_secondImage_packed v_secondImage_kept), (ad_secondImage_history, oX1 ad_secondImage_history_steps v_secondImage_history_known), (ad_secondImage_history_steps, .inl (cJ, 10, .inr (.inl a_secondImage_history_steps)))]) (va_runVN (As := [.ref ad_now, .ref ad_history]) (rest := []) ⟨hx, hb, hml, hown, hts⟩ (kX2_restore ad_secondImage ad_secondImage_history ad_secondImage_history_steps ad_now ad_history ad_history_steps v_secondImage_packed v_secondImage_kept v_secondImage_history_known a_secondImage_history_steps v_now_forgotten v_now_touches v_now_trapped v_now_one v_now_date v_history_known a_history_steps _ rfl H.size) (vcwVN hts (nm_58 hN) tw_501 tw_502 tw_496 tw_500 hd_X2_restore rfl rfl ⟨Nat.le_of_ble_eq_true rfl, Nat.le_of_ble_eq_true rfl⟩) (vpreV hK hN hP hD [4, 5, 6, 1, 2, 3] rfl (by decide) (ci := 2) (q0 := 4) rfl rfl) rfl rfl hl.1 rfl (lv_room (Nat.le_of_ble_eq_true rfl)) (dt uX7_back 21 rfl) ⟨Nat.zero_le _, Nat.zero_le _⟩) hA hP hD hS rfl (by decide) rfl rfl (fun H locs hP hD hS => ?_)
      refine lv_aload_n hx hb (dt uX7_back 22 rfl) rfl (lv_at hl 0 rfl) ?_
      refine va_get (D := (dC, dI)) (ci := 7) (v := .ref ad_now) (C := RX7) (T := TX7) (N := 10) hx hb hts inU7 hown hK hP 0 rfl rfl 3 (by decide) (hts _ tw_122) (fun _ h9 => h9) rfl (dt uX7_back 23 rfl) ?_
      refine va_getN (D := (dC, dI)) (ci := 3) (v := .int ((fX2_restore a_secondImage_history_steps v_secondImage_history_known v_secondImage_packed v_now_forgotten v_now_touches v_now_trapped v_now_one v_now_date a_history_steps v_history_known).2.2.2.2.1)) (C := RX3) (T := TX3) (N := 5) hx hb hts inU3 hown hK hP 1 rfl rfl 4 (by decide) (nw_17 hN) (fun _ h9 => h9) rfl (dt uX7_back 24 rfl) ?_
      subst hf
      rw [hQ]
      exact vret_i C hP hD hS (dt uX7_back 25 rfl)
    · have hf := vif_t c_3 hf
      refine lv_bipush (v := (-2 : Int32)) hx hb (dt uX7_back 12 rfl) (by decide) ?_
      subst hf
      rw [hQ]
      exact vret_i C hP hD hS (dt uX7_back 13 rfl)
  · have hf := vif_t c_2 hf
    refine lv_iconst (v := (-1 : Int32)) hx hb (dt uX7_back 5 rfl) (by decide) ?_
    subst hf
    rw [hQ]
    exact vret_i C hP hD hS (dt uX7_back 6 rfl)
end WALKS
