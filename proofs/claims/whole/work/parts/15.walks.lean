section WALKS
variable {l : Launch} {dC : Nat → ClassId} {dI : Nat → Nat → Nat} {cI cJ cB cZ : ClassId}
abbrev rX8_manyOf : Room := { frames := 0, cells := 0, slots := 0, locals := 0 }
abbrev wX8_manyOf : List Cond := Cond.code yX8_manyOf cX8_manyOf 3 (some .int) :: VT
set_option maxHeartbeats 4000000 in
set_option maxRecDepth 100000 in
theorem kX8_manyOf (p1 : Int32) (N : Nat) (q0 : Int32) (hf : fX8_manyOf N p1 = some q0) : Ki l yX8_manyOf wX8_manyOf rX8_manyOf (dC, dI) (vTy cI cJ cB cZ) [.int p1] [] [] q0 := by
  refine Ki.mk (cc := cX8_manyOf) (maxL := 3) (ret := some .int) (by decide) (Nat.le_of_ble_eq_true rfl) ?_
  intro p e s m args below meth c A Q H locs C hQ hP hD hS ls hl
  obtain ⟨hx, hb, -, hml, hts, hown, -, hK, hN, hA⟩ := id C
  have hown : s.vm.findClass RX8 = some m.cls := hown
  have hl : lv_has ls 3 [(0, .int p1)] := hl
  unfold fX8_manyOf at hf
  refine lv_iconst (v := (0 : Int32)) hx hb (dt uX8_manyOf 0 rfl) (by decide) ?_
  refine lv_istore_n (lv' := [(1, .int (0 : Int32)), (0, .int p1)]) hx hb (dt uX8_manyOf 1 rfl) rfl hl (by decide) rfl (fun ls hl => ?_)
  refine lv_iconst (v := (0 : Int32)) hx hb (dt uX8_manyOf 2 rfl) (by decide) ?_
  refine lv_istore_n (lv' := [(2, .int (0 : Int32)), (1, .int (0 : Int32)), (0, .int p1)]) hx hb (dt uX8_manyOf 3 rfl) rfl hl (by decide) rfl (fun ls hl => ?_)
  have hL4 : ∀ (n4 : Nat), ∀ (x1_1 : Int32) (x2_2 : Int32) (H : Heap) (locs : List Loc) (ls : Array Slot), fX8_manyOf_L4 p1 n4 x1_1 x2_2 = some q0 → va_P (dC, dI) vwCl [] H → va_D A [] → va_S A s.heap H locs → lv_has ls 3 [(0, .int p1), (1, .int x1_1), (2, .int x2_2)] → W p l e rX8_manyOf s m args below meth c H locs 0 0 Q (F0 m 4 ls []) := by
    intro n4
    induction n4 with
    | zero => intro x1_1 x2_2 H locs ls hf hP hD hS hl; cases hf
    | succ n4 ih4 =>
      intro x1_1 x2_2 H locs ls hf hP hD hS hl
      rw [fX8_manyOf_L4] at hf
      refine lv_iload_n hx hb (dt uX8_manyOf 4 rfl) rfl (lv_at hl 2 rfl) ?_
      refine lv_bipush (v := (16 : Int32)) hx hb (dt uX8_manyOf 5 rfl) (by decide) ?_
      refine lv_icmp_ge (tgt := 24) hx hb (dt uX8_manyOf 6 rfl) (by decide) (fun c_3 => ?_) (fun c_3 => ?_)
      · have hf := vif_t c_3 hf
        refine lv_iload_n hx hb (dt uX8_manyOf 17 rfl) rfl (lv_at hl 1 rfl) ?_
        have hf := Option.some.inj hf
        subst hf
        rw [hQ]
        exact vret_i C hP hD hS (dt uX8_manyOf 18 rfl)
      · have hf := vif_f c_3 hf
        refine lv_iload_n hx hb (dt uX8_manyOf 7 rfl) rfl (lv_at hl 1 rfl) ?_
        refine lv_iload_n hx hb (dt uX8_manyOf 8 rfl) rfl (lv_at hl 0 rfl) ?_
        refine lv_iload_n hx hb (dt uX8_manyOf 9 rfl) rfl (lv_at hl 2 rfl) ?_
        refine lv_ishr hx hb (dt uX8_manyOf 10 rfl) ?_
        refine lv_iconst (v := (1 : Int32)) hx hb (dt uX8_manyOf 11 rfl) (by decide) ?_
        refine lv_iand hx hb (dt uX8_manyOf 12 rfl) ?_
        refine lv_iadd hx hb (dt uX8_manyOf 13 rfl) ?_
        refine lv_istore_n (lv' := [(1, .int (x1_1 + ((p1 >>> (x2_2 &&& 31)) &&& (1 : Int32)))), (0, .int p1), (2, .int x2_2)]) hx hb (dt uX8_manyOf 14 rfl) rfl hl (by decide) rfl (fun ls hl => ?_)
        refine lv_iinc (v := x2_2 + 1) (lv' := [(2, .int (x2_2 + 1)), (1, .int (x1_1 + ((p1 >>> (x2_2 &&& 31)) &&& (1 : Int32)))), (0, .int p1)]) hx hb (dt uX8_manyOf 15 rfl) hl (k := 2) rfl rfl (by decide) rfl (fun ls hl => ?_)
        refine lv_goto (tgt := 4) hx hb (dt uX8_manyOf 16 rfl) (by decide) ?_
        exact ih4 (x1_1 + ((p1 >>> (x2_2 &&& 31)) &&& (1 : Int32))) (x2_2 + 1) _ _ _ hf hP hD hS (lv_sub hl [2, 1, 0] rfl)
  exact hL4 N (0 : Int32) (0 : Int32) _ _ _ hf hP hD hS (lv_sub hl [2, 1, 0] rfl)
abbrev rX8_touches : Room := { frames := 1, cells := 0, slots := 0, locals := 22 }
abbrev wX8_touches : List Cond := Cond.code yX8_touches cX8_touches 3 (some .int) :: VT
set_option maxHeartbeats 4000000 in
set_option maxRecDepth 100000 in
theorem kX8_touches (ad0 : Nat) (ad_text : Nat) (ad_books : Nat) (ad_numberA : Nat) (ad_numberB : Nat) (ad_draftTouches : Nat) (ad_now : Nat) (ad_isKept : Nat) (ad_near : Nat) (ad_seenDays : Nat) (ad_seenBook : Nat) (ad_seenIs : Nat) (v_trace : Int64) (v_typed : Int32) (v_draftOne : Int32) (v_oneTold : Int32) (v_at : Int32) (v_start : Int32) (v_sort : Int32) (v_value : Int32) (v_fault : Int32) (v_seen : Int32) (v_sets : Int32) (v_inEach : Int32) (v_inSome : Int32) (a_now : Nat → Int32) (N : Nat) (q0 : Int32) (hf : fX8_touches N a_now = some q0) : Ki l yX8_touches wX8_touches rX8_touches (dC, dI) (vTy cI cJ cB cZ) [.ref ad0] [(ad0, oX8 v_trace ad_text v_typed ad_books ad_numberA ad_numberB ad_draftTouches v_draftOne v_oneTold v_at v_start v_sort v_value v_fault ad_now ad_isKept ad_near ad_seenDays ad_seenBook ad_seenIs v_seen v_sets v_inEach v_inSome), (ad_now, .inl (cI, 498, .inl a_now))] [(ad0, oX8 v_trace ad_text v_typed ad_books ad_numberA ad_numberB ad_draftTouches v_draftOne v_oneTold v_at v_start v_sort v_value v_fault ad_now ad_isKept ad_near ad_seenDays ad_seenBook ad_seenIs v_seen v_sets v_inEach v_inSome), (ad_now, .inl (cI, 498, .inl a_now))] q0 := by
  refine Ki.mk (cc := cX8_touches) (maxL := 3) (ret := some .int) (by decide) (Nat.le_of_ble_eq_true rfl) ?_
  intro p e s m args below meth c A Q H locs C hQ hP hD hS ls hl
  obtain ⟨hx, hb, -, hml, hts, hown, -, hK, hN, hA⟩ := id C
  have hown : s.vm.findClass RX8 = some m.cls := hown
  have hl : lv_has ls 3 [(0, .ref ad0)] := hl
  unfold fX8_touches at hf
  refine lv_iconst (v := (0 : Int32)) hx hb (dt uX8_touches 0 rfl) (by decide) ?_
  refine lv_istore_n (lv' := [(1, .int (0 : Int32)), (0, .ref ad0)]) hx hb (dt uX8_touches 1 rfl) rfl hl (by decide) rfl (fun ls hl => ?_)
  refine lv_iconst (v := (0 : Int32)) hx hb (dt uX8_touches 2 rfl) (by decide) ?_
  refine lv_istore_n (lv' := [(2, .int (0 : Int32)), (1, .int (0 : Int32)), (0, .ref ad0)]) hx hb (dt uX8_touches 3 rfl) rfl hl (by decide) rfl (fun ls hl => ?_)
  have hL4 : ∀ (n4 : Nat), ∀ (x1_1 : Int32) (x2_2 : Int32) (H : Heap) (locs : List Loc) (ls : Array Slot), fX8_touches_L4 N a_now n4 x1_1 x2_2 = some q0 → va_P (dC, dI) vwCl [(ad0, oX8 v_trace ad_text v_typed ad_books ad_numberA ad_numberB ad_draftTouches v_draftOne v_oneTold v_at v_start v_sort v_value v_fault ad_now ad_isKept ad_near ad_seenDays ad_seenBook ad_seenIs v_seen v_sets v_inEach v_inSome), (ad_now, .inl (cI, 498, .inl a_now))] H → va_D A [(ad0, oX8 v_trace ad_text v_typed ad_books ad_numberA ad_numberB ad_draftTouches v_draftOne v_oneTold v_at v_start v_sort v_value v_fault ad_now ad_isKept ad_near ad_seenDays ad_seenBook ad_seenIs v_seen v_sets v_inEach v_inSome), (ad_now, .inl (cI, 498, .inl a_now))] → va_S A s.heap H locs → lv_has ls 3 [(0, .ref ad0), (1, .int x1_1), (2, .int x2_2)] → W p l e rX8_touches s m args below meth c H locs 0 0 Q (F0 m 4 ls []) := by
    intro n4
    induction n4 with
    | zero => intro x1_1 x2_2 H locs ls hf hP hD hS hl; cases hf
    | succ n4 ih4 =>
      intro x1_1 x2_2 H locs ls hf hP hD hS hl
      rw [fX8_touches_L4] at hf
      refine lv_iload_n hx hb (dt uX8_touches 4 rfl) rfl (lv_at hl 2 rfl) ?_
      refine lv_bipush (v := (6 : Int32)) hx hb (dt uX8_touches 5 rfl) (by decide) ?_
      refine lv_icmp_ge (tgt := 31) hx hb (dt uX8_touches 6 rfl) (by decide) (fun c_3 => ?_) (fun c_3 => ?_)
      · have hf := vif_t c_3 hf
        refine lv_iload_n hx hb (dt uX8_touches 19 rfl) rfl (lv_at hl 1 rfl) ?_
        refine lv_iconst (v := (2 : Int32)) hx hb (dt uX8_touches 20 rfl) (by decide) ?_
        refine lv_idiv hx hb (dt uX8_touches 21 rfl) (by decide) ?_
        have hf := Option.some.inj hf
        subst hf
        rw [hQ]
        exact vret_i C hP hD hS (dt uX8_touches 22 rfl)
      · have hf := vif_f c_3 hf
        refine lv_iload_n hx hb (dt uX8_touches 7 rfl) rfl (lv_at hl 1 rfl) ?_
        refine lv_aload_n hx hb (dt uX8_touches 8 rfl) rfl (lv_at hl 0 rfl) ?_
        refine va_get (D := (dC, dI)) (ci := 8) (v := .ref ad_now) (C := RX8) (T := TX8) (N := 24) hx hb hts inU8 hown hK hP 0 rfl rfl 14 (by decide) (hts _ tw_369) (fun _ h9 => h9) rfl (dt uX8_touches 9 rfl) ?_
        refine lv_bipush (v := (6 : Int32)) hx hb (dt uX8_touches 10 rfl) (by decide) ?_
        refine lv_iload_n hx hb (dt uX8_touches 11 rfl) rfl (lv_at hl 2 rfl) ?_
        refine lv_iadd hx hb (dt uX8_touches 12 rfl) ?_
        obtain ⟨hi_4, hf⟩ := vg_some hf
        refine va_iald hx hb hK hP 1 0 rfl rfl hi_4 (dt uX8_touches 13 rfl) ?_
        obtain ⟨q_5, hq_6, hf⟩ := vbd hf
        refine vk_i0 [] (va_runS (As := [.int (a_now ((6 : Int32) + x2_2).toNatClampNeg)]) (rest := [.int x1_1]) ⟨hx, hb, hml, hown, hts⟩ (kX8_manyOf (a_now ((6 : Int32) + x2_2).toNatClampNeg) N q_5 hq_6 H.size) (vcwS hts tw_400 tw_401 tw_336 tw_399 hd_X8_manyOf rfl rfl ⟨Nat.le_of_ble_eq_true rfl, Nat.le_of_ble_eq_true rfl⟩) (vpreS hK hN hP hD [] rfl (by decide)) rfl rfl hl.1 rfl (lv_room (Nat.le_of_ble_eq_true rfl)) (dt uX8_touches 14 rfl) ⟨Nat.zero_le _, Nat.zero_le _⟩) hA hP hD hS rfl (by decide) (fun H locs hP hD hS => ?_)
        refine lv_iadd hx hb (dt uX8_touches 15 rfl) ?_
        refine lv_istore_n (lv' := [(1, .int (x1_1 + q_5)), (0, .ref ad0), (2, .int x2_2)]) hx hb (dt uX8_touches 16 rfl) rfl hl (by decide) rfl (fun ls hl => ?_)
        refine lv_iinc (v := x2_2 + 1) (lv' := [(2, .int (x2_2 + 1)), (1, .int (x1_1 + q_5)), (0, .ref ad0)]) hx hb (dt uX8_touches 17 rfl) hl (k := 2) rfl rfl (by decide) rfl (fun ls hl => ?_)
        refine lv_goto (tgt := 4) hx hb (dt uX8_touches 18 rfl) (by decide) ?_
        exact ih4 (x1_1 + q_5) (x2_2 + 1) _ _ _ hf hP hD hS (lv_sub hl [2, 1, 0] rfl)
  exact hL4 N (0 : Int32) (0 : Int32) _ _ _ hf hP hD hS (lv_sub hl [2, 1, 0] rfl)
abbrev rX8_book : Room := { frames := 3, cells := 0, slots := 0, locals := 64 }
abbrev wX8_book : List Cond := Cond.code yX8_book cX8_book 3 (some .int) :: VT
set_option maxHeartbeats 4000000 in
set_option maxRecDepth 100000 in
theorem kX8_book (ad0 : Nat) (ad_text : Nat) (ad_books : Nat) (ad_numberA : Nat) (ad_numberB : Nat) (ad_draftTouches : Nat) (ad_now : Nat) (ad_isKept : Nat) (ad_near : Nat) (ad_seenDays : Nat) (ad_seenBook : Nat) (ad_seenIs : Nat) (v_trace : Int64) (v_typed : Int32) (v_draftOne : Int32) (v_oneTold : Int32) (v_at : Int32) (v_start : Int32) (v_sort : Int32) (v_value : Int32) (v_fault : Int32) (v_seen : Int32) (v_sets : Int32) (v_inEach : Int32) (v_inSome : Int32) (a_books : Nat → Int32) (a_numberA : Nat → Int32) (a_numberB : Nat → Int32) (a_now : Nat → Int32) (p1 : Int32) (p2 : Int32) (N : Nat) (q0 : Int32) (hf : fX8_book N a_books a_numberA a_numberB a_now p1 p2 = some q0) : Ki l yX8_book wX8_book rX8_book (dC, dI) (vTy cI cJ cB cZ) [.ref ad0, .int p1, .int p2] [(ad0, oX8 v_trace ad_text v_typed ad_books ad_numberA ad_numberB ad_draftTouches v_draftOne v_oneTold v_at v_start v_sort v_value v_fault ad_now ad_isKept ad_near ad_seenDays ad_seenBook ad_seenIs v_seen v_sets v_inEach v_inSome), (ad_books, .inl (cI, 2, .inl a_books)), (ad_numberA, .inl (cI, 12, .inl a_numberA)), (ad_numberB, .inl (cI, 12, .inl a_numberB)), (ad_now, .inl (cI, 498, .inl a_now))] [(ad0, oX8 v_trace ad_text v_typed ad_books ad_numberA ad_numberB ad_draftTouches v_draftOne v_oneTold v_at v_start v_sort v_value v_fault ad_now ad_isKept ad_near ad_seenDays ad_seenBook ad_seenIs v_seen v_sets v_inEach v_inSome), (ad_books, .inl (cI, 2, .inl a_books)), (ad_numberA, .inl (cI, 12, .inl a_numberA)), (ad_numberB, .inl (cI, 12, .inl a_numberB)), (ad_now, .inl (cI, 498, .inl a_now))] q0 := by
  refine Ki.mk (cc := cX8_book) (maxL := 3) (ret := some .int) (by decide) (Nat.le_of_ble_eq_true rfl) ?_
  intro p e s m args below meth c A Q H locs C hQ hP hD hS ls hl
  obtain ⟨hx, hb, -, hml, hts, hown, -, hK, hN, hA⟩ := id C
  have hown : s.vm.findClass RX8 = some m.cls := hown
  have hl : lv_has ls 3 [(0, .ref ad0), (1, .int p1), (2, .int p2)] := hl
  unfold fX8_book at hf
  refine lv_aload_n hx hb (dt uX8_book 0 rfl) rfl (lv_at hl 0 rfl) ?_
  refine lv_iload_n hx hb (dt uX8_book 1 rfl) rfl (lv_at hl 1 rfl) ?_
  refine vk_z0 [0, 1] (va_runV (As := [.int p1]) (rest := []) ⟨hx, hb, hml, hown, hts⟩ (kX8_isBook ad0 ad_text ad_books ad_numberA ad_numberB ad_draftTouches ad_now ad_isKept ad_near ad_seenDays ad_seenBook ad_seenIs v_trace v_typed v_draftOne v_oneTold v_at v_start v_sort v_value v_fault v_seen v_sets v_inEach v_inSome a_books p1 _ rfl H.size) (vcwV hts tw_403 tw_404 tw_405 tw_336 tw_402 hd_X8_isBook rfl rfl ⟨Nat.le_of_ble_eq_true rfl, Nat.le_of_ble_eq_true rfl⟩) (vpreV hK hN hP hD [0, 1] rfl (by decide) (ci := 8) (q0 := 0) rfl rfl) rfl rfl hl.1 rfl (lv_room (Nat.le_of_ble_eq_true rfl)) (dt uX8_book 2 rfl) ⟨Nat.zero_le _, Nat.zero_le _⟩) hA hP hD hS rfl (by decide) (fun hz_1 H locs hP hD hS => ?_)
  refine lv_if_ne (tgt := 10) hx hb (dt uX8_book 3 rfl) (by decide) (fun c_2 => ?_) (fun c_2 => ?_)
  · have hf := vif_f c_2 hf
    refine lv_iload_n hx hb (dt uX8_book 6 rfl) rfl (lv_at hl 2 rfl) ?_
    by_cases c_3 : p2 = (0 : Int32)
    · have hf := vif_t c_3 hf
      refine lv_tableIn (off := 45) (tgt := 56) hx hb (dt uX8_book 7 rfl) (by rw [c_3]; decide) (by rw [c_3]; decide) (by rw [c_3]; rfl) (by decide) ?_
      refine lv_aload_n hx hb (dt uX8_book 8 rfl) rfl (lv_at hl 0 rfl) ?_
      refine va_get (D := (dC, dI)) (ci := 8) (v := .ref ad_numberA) (C := RX8) (T := TX8) (N := 24) hx hb hts inU8 hown hK hP 0 rfl rfl 4 (by decide) (hts _ tw_367) (fun _ h9 => h9) rfl (dt uX8_book 9 rfl) ?_
      refine lv_iload_n hx hb (dt uX8_book 10 rfl) rfl (lv_at hl 1 rfl) ?_
      obtain ⟨hi_4, hf⟩ := vg_some hf
      refine va_iald hx hb hK hP 2 0 rfl rfl hi_4 (dt uX8_book 11 rfl) ?_
      have hf := Option.some.inj hf
      subst hf
      rw [hQ]
      exact vret_i C hP hD hS (dt uX8_book 12 rfl)
    have hf := vif_f c_3 hf
    by_cases c_5 : p2 = (1 : Int32)
    · have hf := vif_t c_5 hf
      refine lv_tableIn (off := 52) (tgt := 63) hx hb (dt uX8_book 7 rfl) (by rw [c_5]; decide) (by rw [c_5]; decide) (by rw [c_5]; rfl) (by decide) ?_
      refine lv_aload_n hx hb (dt uX8_book 13 rfl) rfl (lv_at hl 0 rfl) ?_
      refine va_get (D := (dC, dI)) (ci := 8) (v := .ref ad_numberB) (C := RX8) (T := TX8) (N := 24) hx hb hts inU8 hown hK hP 0 rfl rfl 5 (by decide) (hts _ tw_368) (fun _ h9 => h9) rfl (dt uX8_book 14 rfl) ?_
      refine lv_iload_n hx hb (dt uX8_book 15 rfl) rfl (lv_at hl 1 rfl) ?_
      obtain ⟨hi_6, hf⟩ := vg_some hf
      refine va_iald hx hb hK hP 3 0 rfl rfl hi_6 (dt uX8_book 16 rfl) ?_
      have hf := Option.some.inj hf
      subst hf
      rw [hQ]
      exact vret_i C hP hD hS (dt uX8_book 17 rfl)
    have hf := vif_f c_5 hf
    by_cases c_7 : p2 = (2 : Int32)
    · have hf := vif_t c_7 hf
      refine lv_tableIn (off := 59) (tgt := 70) hx hb (dt uX8_book 7 rfl) (by rw [c_7]; decide) (by rw [c_7]; decide) (by rw [c_7]; rfl) (by decide) ?_
      refine lv_aload_n hx hb (dt uX8_book 18 rfl) rfl (lv_at hl 0 rfl) ?_
      refine lv_iload_n hx hb (dt uX8_book 19 rfl) rfl (lv_at hl 1 rfl) ?_
      obtain ⟨q_8, hq_9, hf⟩ := vbd hf
      refine vk_i0 [0, 2, 3, 4] (va_runV (As := [.int p1]) (rest := []) ⟨hx, hb, hml, hown, hts⟩ (kX8_written ad0 ad_text ad_books ad_numberA ad_numberB ad_draftTouches ad_now ad_isKept ad_near ad_seenDays ad_seenBook ad_seenIs v_trace v_typed v_draftOne v_oneTold v_at v_start v_sort v_value v_fault v_seen v_sets v_inEach v_inSome a_numberA a_numberB a_now p1 q_8 hq_9 H.size) (vcwV hts tw_396 tw_397 tw_398 tw_336 tw_395 hd_X8_written rfl rfl ⟨Nat.le_of_ble_eq_true rfl, Nat.le_of_ble_eq_true rfl⟩) (vpreV hK hN hP hD [0, 2, 3, 4] rfl (by decide) (ci := 8) (q0 := 0) rfl rfl) rfl rfl hl.1 rfl (lv_room (Nat.le_of_ble_eq_true rfl)) (dt uX8_book 20 rfl) ⟨Nat.zero_le _, Nat.zero_le _⟩) hA hP hD hS rfl (by decide) (fun H locs hP hD hS => ?_)
      have hf := Option.some.inj hf
      subst hf
      rw [hQ]
      exact vret_i C hP hD hS (dt uX8_book 21 rfl)
    have hf := vif_f c_7 hf
    by_cases c_10 : p2 = (3 : Int32)
    · have hf := vif_t c_10 hf
      refine lv_tableIn (off := 65) (tgt := 76) hx hb (dt uX8_book 7 rfl) (by rw [c_10]; decide) (by rw [c_10]; decide) (by rw [c_10]; rfl) (by decide) ?_
      refine lv_aload_n hx hb (dt uX8_book 22 rfl) rfl (lv_at hl 0 rfl) ?_
      refine lv_iload_n hx hb (dt uX8_book 23 rfl) rfl (lv_at hl 1 rfl) ?_
      obtain ⟨q_11, hq_12, hf⟩ := vbd hf
      refine vk_i0 [0, 2, 3, 4] (va_runV (As := [.int p1]) (rest := []) ⟨hx, hb, hml, hown, hts⟩ (kX8_shown ad0 ad_text ad_books ad_numberA ad_numberB ad_draftTouches ad_now ad_isKept ad_near ad_seenDays ad_seenBook ad_seenIs v_trace v_typed v_draftOne v_oneTold v_at v_start v_sort v_value v_fault v_seen v_sets v_inEach v_inSome a_numberA a_numberB a_now p1 q_11 hq_12 H.size) (vcwV hts tw_407 tw_408 tw_409 tw_336 tw_406 hd_X8_shown rfl rfl ⟨Nat.le_of_ble_eq_true rfl, Nat.le_of_ble_eq_true rfl⟩) (vpreV hK hN hP hD [0, 2, 3, 4] rfl (by decide) (ci := 8) (q0 := 0) rfl rfl) rfl rfl hl.1 rfl (lv_room (Nat.le_of_ble_eq_true rfl)) (dt uX8_book 24 rfl) ⟨Nat.zero_le _, Nat.zero_le _⟩) hA hP hD hS rfl (by decide) (fun H locs hP hD hS => ?_)
      have hf := Option.some.inj hf
      subst hf
      rw [hQ]
      exact vret_i C hP hD hS (dt uX8_book 25 rfl)
    have hf := vif_f c_10 hf
    by_cases c_13 : p2 = (4 : Int32)
    · have hf := vif_t c_13 hf
      refine lv_tableIn (off := 71) (tgt := 82) hx hb (dt uX8_book 7 rfl) (by rw [c_13]; decide) (by rw [c_13]; decide) (by rw [c_13]; rfl) (by decide) ?_
      refine lv_aload_n hx hb (dt uX8_book 26 rfl) rfl (lv_at hl 0 rfl) ?_
      refine lv_iload_n hx hb (dt uX8_book 27 rfl) rfl (lv_at hl 1 rfl) ?_
      obtain ⟨q_14, hq_15, hf⟩ := vbd hf
      refine vk_i0 [0, 2, 3] (va_runV (As := [.int p1]) (rest := []) ⟨hx, hb, hml, hown, hts⟩ (kX8_carries ad0 ad_text ad_books ad_numberA ad_numberB ad_draftTouches ad_now ad_isKept ad_near ad_seenDays ad_seenBook ad_seenIs v_trace v_typed v_draftOne v_oneTold v_at v_start v_sort v_value v_fault v_seen v_sets v_inEach v_inSome a_numberA a_numberB p1 N q_14 hq_15 H.size) (vcwV hts tw_411 tw_412 tw_413 tw_336 tw_410 hd_X8_carries rfl rfl ⟨Nat.le_of_ble_eq_true rfl, Nat.le_of_ble_eq_true rfl⟩) (vpreV hK hN hP hD [0, 2, 3] rfl (by decide) (ci := 8) (q0 := 0) rfl rfl) rfl rfl hl.1 rfl (lv_room (Nat.le_of_ble_eq_true rfl)) (dt uX8_book 28 rfl) ⟨Nat.zero_le _, Nat.zero_le _⟩) hA hP hD hS rfl (by decide) (fun H locs hP hD hS => ?_)
      have hf := Option.some.inj hf
      subst hf
      rw [hQ]
      exact vret_i C hP hD hS (dt uX8_book 29 rfl)
    have hf := vif_f c_13 hf
    by_cases c_16 : p2 = (5 : Int32)
    · have hf := vif_t c_16 hf
      refine lv_tableIn (off := 77) (tgt := 88) hx hb (dt uX8_book 7 rfl) (by rw [c_16]; decide) (by rw [c_16]; decide) (by rw [c_16]; rfl) (by decide) ?_
      refine lv_aload_n hx hb (dt uX8_book 30 rfl) rfl (lv_at hl 0 rfl) ?_
      refine va_get (D := (dC, dI)) (ci := 8) (v := .ref ad_now) (C := RX8) (T := TX8) (N := 24) hx hb hts inU8 hown hK hP 0 rfl rfl 14 (by decide) (hts _ tw_369) (fun _ h9 => h9) rfl (dt uX8_book 31 rfl) ?_
      refine lv_iconst (v := (0 : Int32)) hx hb (dt uX8_book 32 rfl) (by decide) ?_
      refine lv_iload_n hx hb (dt uX8_book 33 rfl) rfl (lv_at hl 1 rfl) ?_
      refine lv_iadd hx hb (dt uX8_book 34 rfl) ?_
      obtain ⟨hi_17, hf⟩ := vg_some hf
      refine va_iald hx hb hK hP 4 0 rfl rfl hi_17 (dt uX8_book 35 rfl) ?_
      have hf := Option.some.inj hf
      subst hf
      rw [hQ]
      exact vret_i C hP hD hS (dt uX8_book 36 rfl)
    have hf := vif_f c_16 hf
    by_cases c_18 : p2 = (6 : Int32)
    · have hf := vif_t c_18 hf
      refine lv_tableIn (off := 86) (tgt := 97) hx hb (dt uX8_book 7 rfl) (by rw [c_18]; decide) (by rw [c_18]; decide) (by rw [c_18]; rfl) (by decide) ?_
      refine lv_aload_n hx hb (dt uX8_book 37 rfl) rfl (lv_at hl 0 rfl) ?_
      refine va_get (D := (dC, dI)) (ci := 8) (v := .ref ad_now) (C := RX8) (T := TX8) (N := 24) hx hb hts inU8 hown hK hP 0 rfl rfl 14 (by decide) (hts _ tw_369) (fun _ h9 => h9) rfl (dt uX8_book 38 rfl) ?_
      refine lv_bipush (v := (6 : Int32)) hx hb (dt uX8_book 39 rfl) (by decide) ?_
      refine lv_iload_n hx hb (dt uX8_book 40 rfl) rfl (lv_at hl 1 rfl) ?_
      refine lv_iadd hx hb (dt uX8_book 41 rfl) ?_
      obtain ⟨hi_19, hf⟩ := vg_some hf
      refine va_iald hx hb hK hP 4 0 rfl rfl hi_19 (dt uX8_book 42 rfl) ?_
      have hf := Option.some.inj hf
      subst hf
      rw [hQ]
      exact vret_i C hP hD hS (dt uX8_book 43 rfl)
    have hf := vif_f c_18 hf
    by_cases c_20 : p2 = (7 : Int32)
    · have hf := vif_t c_20 hf
      refine lv_tableIn (off := 96) (tgt := 107) hx hb (dt uX8_book 7 rfl) (by rw [c_20]; decide) (by rw [c_20]; decide) (by rw [c_20]; rfl) (by decide) ?_
      refine lv_aload_n hx hb (dt uX8_book 44 rfl) rfl (lv_at hl 0 rfl) ?_
      refine va_get (D := (dC, dI)) (ci := 8) (v := .ref ad_now) (C := RX8) (T := TX8) (N := 24) hx hb hts inU8 hown hK hP 0 rfl rfl 14 (by decide) (hts _ tw_369) (fun _ h9 => h9) rfl (dt uX8_book 45 rfl) ?_
      refine lv_bipush (v := (12 : Int32)) hx hb (dt uX8_book 46 rfl) (by decide) ?_
      refine va_iald hx hb hK hP 4 0 rfl rfl (vp_in_iff.mpr (by decide)) (dt uX8_book 47 rfl) ?_
      refine lv_iload_n hx hb (dt uX8_book 48 rfl) rfl (lv_at hl 1 rfl) ?_
      refine lv_ishr hx hb (dt uX8_book 49 rfl) ?_
      refine lv_iconst (v := (1 : Int32)) hx hb (dt uX8_book 50 rfl) (by decide) ?_
      refine lv_iand hx hb (dt uX8_book 51 rfl) ?_
      have hf := Option.some.inj hf
      subst hf
      rw [hQ]
      exact vret_i C hP hD hS (dt uX8_book 52 rfl)
    have hf := vif_f c_20 hf
    have e_21 : ∀ k : Int, (0 : Int) ≤ k → k ≤ 7 → (p2).toInt ≠ k := by
      intro k h1 h2
      have e : k = 0 ∨ k = 1 ∨ k = 2 ∨ k = 3 ∨ k = 4 ∨ k = 5 ∨ k = 6 ∨ k = 7 := by omega
      rcases e with rfl | rfl | rfl | rfl | rfl | rfl | rfl | rfl
      · exact vne_toInt c_3
      · exact vne_toInt c_5
      · exact vne_toInt c_7
      · exact vne_toInt c_10
      · exact vne_toInt c_13
      · exact vne_toInt c_16
      · exact vne_toInt c_18
      · exact vne_toInt c_20
    refine lv_tableOut (tgt := 119) hx hb (dt uX8_book 7 rfl) (vtab_out e_21) (by decide) ?_
    refine lv_iconst (v := (-1 : Int32)) hx hb (dt uX8_book 53 rfl) (by decide) ?_
    have hf := Option.some.inj hf
    subst hf
    rw [hQ]
    exact vret_i C hP hD hS (dt uX8_book 54 rfl)
  · have hf := vif_t c_2 hf
    refine lv_iconst (v := (-1 : Int32)) hx hb (dt uX8_book 4 rfl) (by decide) ?_
    have hf := Option.some.inj hf
    subst hf
    rw [hQ]
    exact vret_i C hP hD hS (dt uX8_book 5 rfl)
abbrev rX8_know : Room := { frames := 0, cells := 0, slots := 0, locals := 0 }
abbrev wX8_know : List Cond := Cond.code yX8_know cX8_know 2 none :: VT
set_option maxHeartbeats 4000000 in
set_option maxRecDepth 100000 in
theorem kX8_know (ad0 : Nat) (ad_text : Nat) (ad_books : Nat) (ad_numberA : Nat) (ad_numberB : Nat) (ad_draftTouches : Nat) (ad_now : Nat) (ad_isKept : Nat) (ad_near : Nat) (ad_seenDays : Nat) (ad_seenBook : Nat) (ad_seenIs : Nat) (v_trace : Int64) (v_typed : Int32) (v_draftOne : Int32) (v_oneTold : Int32) (v_at : Int32) (v_start : Int32) (v_sort : Int32) (v_value : Int32) (v_fault : Int32) (v_seen : Int32) (v_sets : Int32) (v_inEach : Int32) (v_inSome : Int32) (a_now : Nat → Int32) (N : Nat) (q0 : (Nat → Int32)) (hf : fX8_know N a_now = some q0) : Kv l yX8_know wX8_know rX8_know (dC, dI) (vTy cI cJ cB cZ) [.ref ad0] [(ad0, oX8 v_trace ad_text v_typed ad_books ad_numberA ad_numberB ad_draftTouches v_draftOne v_oneTold v_at v_start v_sort v_value v_fault ad_now ad_isKept ad_near ad_seenDays ad_seenBook ad_seenIs v_seen v_sets v_inEach v_inSome), (ad_now, .inl (cI, 498, .inl a_now))] [(ad0, oX8 v_trace ad_text v_typed ad_books ad_numberA ad_numberB ad_draftTouches v_draftOne v_oneTold v_at v_start v_sort v_value v_fault ad_now ad_isKept ad_near ad_seenDays ad_seenBook ad_seenIs v_seen v_sets v_inEach v_inSome), (ad_now, .inl (cI, 498, .inl q0))] := by
  refine Kv.mk (cc := cX8_know) (maxL := 2) (ret := none) (by decide) (Nat.le_of_ble_eq_true rfl) ?_
  intro p e s m args below meth c A Q H locs C hQ hP hD hS ls hl
  obtain ⟨hx, hb, -, hml, hts, hown, -, hK, hN, hA⟩ := id C
  have hown : s.vm.findClass RX8 = some m.cls := hown
  have hl : lv_has ls 2 [(0, .ref ad0)] := hl
  unfold fX8_know at hf
  refine lv_aload_n hx hb (dt uX8_know_0 0 rfl) rfl (lv_at hl 0 rfl) ?_
  refine va_get (D := (dC, dI)) (ci := 8) (v := .ref ad_now) (C := RX8) (T := TX8) (N := 24) hx hb hts inU8 hown hK hP 0 rfl rfl 14 (by decide) (hts _ tw_369) (fun _ h9 => h9) rfl (dt uX8_know_0 1 rfl) ?_
  refine lv_bipush (v := (15 : Int32)) hx hb (dt uX8_know_0 2 rfl) (by decide) ?_
  refine va_iald hx hb hK hP 1 0 rfl rfl (vp_in_iff.mpr (by decide)) (dt uX8_know_0 3 rfl) ?_
  refine lv_bipush (v := (10 : Int32)) hx hb (dt uX8_know_0 4 rfl) (by decide) ?_
  have hJ56 : ∀ (w_5 : Nat → Int32) (H : Heap) (locs : List Loc) (ls : Array Slot), fX8_know_J56 N w_5 = some q0 → va_P (dC, dI) vwCl [(ad0, oX8 v_trace ad_text v_typed ad_books ad_numberA ad_numberB ad_draftTouches v_draftOne v_oneTold v_at v_start v_sort v_value v_fault ad_now ad_isKept ad_near ad_seenDays ad_seenBook ad_seenIs v_seen v_sets v_inEach v_inSome), (ad_now, .inl (cI, 498, .inl w_5))] H → va_D A [(ad0, oX8 v_trace ad_text v_typed ad_books ad_numberA ad_numberB ad_draftTouches v_draftOne v_oneTold v_at v_start v_sort v_value v_fault ad_now ad_isKept ad_near ad_seenDays ad_seenBook ad_seenIs v_seen v_sets v_inEach v_inSome), (ad_now, .inl (cI, 498, .inl w_5))] → va_S A s.heap H locs → lv_has ls 2 [(0, .ref ad0)] → W p l e rX8_know s m args below meth c H locs 0 0 Q (F0 m 56 ls []) := by
    intro w_5 H locs ls hf hP hD hS hl
    unfold fX8_know_J56 at hf
    refine lv_iconst (v := (0 : Int32)) hx hb (dt uX8_know_0 33 rfl) (by decide) ?_
    refine lv_istore_n (lv' := [(1, .int (0 : Int32)), (0, .ref ad0)]) hx hb (dt uX8_know_0 34 rfl) rfl hl (by decide) rfl (fun ls hl => ?_)
    have hL58 : ∀ (n58 : Nat), ∀ (x1_6 : Int32) (w_7 : Nat → Int32) (H : Heap) (locs : List Loc) (ls : Array Slot), fX8_know_L58 n58 x1_6 w_7 = some q0 → va_P (dC, dI) vwCl [(ad0, oX8 v_trace ad_text v_typed ad_books ad_numberA ad_numberB ad_draftTouches v_draftOne v_oneTold v_at v_start v_sort v_value v_fault ad_now ad_isKept ad_near ad_seenDays ad_seenBook ad_seenIs v_seen v_sets v_inEach v_inSome), (ad_now, .inl (cI, 498, .inl w_7))] H → va_D A [(ad0, oX8 v_trace ad_text v_typed ad_books ad_numberA ad_numberB ad_draftTouches v_draftOne v_oneTold v_at v_start v_sort v_value v_fault ad_now ad_isKept ad_near ad_seenDays ad_seenBook ad_seenIs v_seen v_sets v_inEach v_inSome), (ad_now, .inl (cI, 498, .inl w_7))] → va_S A s.heap H locs → lv_has ls 2 [(0, .ref ad0), (1, .int x1_6)] → W p l e rX8_know s m args below meth c H locs 0 0 Q (F0 m 58 ls []) := by
      intro n58
      induction n58 with
      | zero => intro x1_6 w_7 H locs ls hf hP hD hS hl; cases hf
      | succ n58 ih58 =>
        intro x1_6 w_7 H locs ls hf hP hD hS hl
        rw [fX8_know_L58] at hf
        refine lv_iload_n hx hb (dt uX8_know_0 35 rfl) rfl (lv_at hl 1 rfl) ?_
        refine lv_bipush (v := (15 : Int32)) hx hb (dt uX8_know_0 36 rfl) (by decide) ?_
        refine lv_icmp_ge (tgt := 96) hx hb (dt uX8_know_0 37 rfl) (by decide) (fun c_8 => ?_) (fun c_8 => ?_)
        · have hf := vif_t c_8 hf
          refine lv_aload_n hx hb (dt uX8_know_0 57 rfl) rfl (lv_at hl 0 rfl) ?_
          refine va_get (D := (dC, dI)) (ci := 8) (v := .ref ad_now) (C := RX8) (T := TX8) (N := 24) hx hb hts inU8 hown hK hP 0 rfl rfl 14 (by decide) (hts _ tw_369) (fun _ h9 => h9) rfl (dt uX8_know_0 58 rfl) ?_
          refine lv_bipush (v := (15 : Int32)) hx hb (dt uX8_know_0 59 rfl) (by decide) ?_
          refine lv_dup2_11 hx hb (dt uX8_know_1 0 rfl) rfl rfl ?_
          refine va_iald hx hb hK hP 1 0 rfl rfl (vp_in_iff.mpr (by decide)) (dt uX8_know_1 1 rfl) ?_
          refine lv_iconst (v := (1 : Int32)) hx hb (dt uX8_know_1 2 rfl) (by decide) ?_
          refine lv_iadd hx hb (dt uX8_know_1 3 rfl) ?_
          refine va_iast hx hb hK hP hD hS 1 0 rfl rfl (vp_in_iff.mpr (by decide)) (dt uX8_know_1 4 rfl) (fun H locs hP hD hS => ?_)
          have hP : va_P (dC, dI) vwCl [(ad0, oX8 v_trace ad_text v_typed ad_books ad_numberA ad_numberB ad_draftTouches v_draftOne v_oneTold v_at v_start v_sort v_value v_fault ad_now ad_isKept ad_near ad_seenDays ad_seenBook ad_seenIs v_seen v_sets v_inEach v_inSome), (ad_now, .inl (cI, 498, .inl (upd w_7 (15 : Int32).toNatClampNeg ((w_7 (15 : Int32).toNatClampNeg) + (1 : Int32)))))] H := hP
          have hD : va_D A [(ad0, oX8 v_trace ad_text v_typed ad_books ad_numberA ad_numberB ad_draftTouches v_draftOne v_oneTold v_at v_start v_sort v_value v_fault ad_now ad_isKept ad_near ad_seenDays ad_seenBook ad_seenIs v_seen v_sets v_inEach v_inSome), (ad_now, .inl (cI, 498, .inl (upd w_7 (15 : Int32).toNatClampNeg ((w_7 (15 : Int32).toNatClampNeg) + (1 : Int32)))))] := hD
          have hf := Option.some.inj hf
          subst hf
          rw [hQ]
          exact vret_v C hP hD hS (dt uX8_know_1 5 rfl)
        · have hf := vif_f c_8 hf
          refine lv_aload_n hx hb (dt uX8_know_0 38 rfl) rfl (lv_at hl 0 rfl) ?_
          refine va_get (D := (dC, dI)) (ci := 8) (v := .ref ad_now) (C := RX8) (T := TX8) (N := 24) hx hb hts inU8 hown hK hP 0 rfl rfl 14 (by decide) (hts _ tw_369) (fun _ h9 => h9) rfl (dt uX8_know_0 39 rfl) ?_
          refine lv_bipush (v := (16 : Int32)) hx hb (dt uX8_know_0 40 rfl) (by decide) ?_
          refine lv_bipush (v := (15 : Int32)) hx hb (dt uX8_know_0 41 rfl) (by decide) ?_
          refine lv_aload_n hx hb (dt uX8_know_0 42 rfl) rfl (lv_at hl 0 rfl) ?_
          refine va_get (D := (dC, dI)) (ci := 8) (v := .ref ad_now) (C := RX8) (T := TX8) (N := 24) hx hb hts inU8 hown hK hP 0 rfl rfl 14 (by decide) (hts _ tw_369) (fun _ h9 => h9) rfl (dt uX8_know_0 43 rfl) ?_
          refine lv_bipush (v := (15 : Int32)) hx hb (dt uX8_know_0 44 rfl) (by decide) ?_
          refine va_iald hx hb hK hP 1 0 rfl rfl (vp_in_iff.mpr (by decide)) (dt uX8_know_0 45 rfl) ?_
          refine lv_imul hx hb (dt uX8_know_0 46 rfl) ?_
          refine lv_iadd hx hb (dt uX8_know_0 47 rfl) ?_
          refine lv_iload_n hx hb (dt uX8_know_0 48 rfl) rfl (lv_at hl 1 rfl) ?_
          refine lv_iadd hx hb (dt uX8_know_0 49 rfl) ?_
          refine lv_aload_n hx hb (dt uX8_know_0 50 rfl) rfl (lv_at hl 0 rfl) ?_
          refine va_get (D := (dC, dI)) (ci := 8) (v := .ref ad_now) (C := RX8) (T := TX8) (N := 24) hx hb hts inU8 hown hK hP 0 rfl rfl 14 (by decide) (hts _ tw_369) (fun _ h9 => h9) rfl (dt uX8_know_0 51 rfl) ?_
          refine lv_iload_n hx hb (dt uX8_know_0 52 rfl) rfl (lv_at hl 1 rfl) ?_
          obtain ⟨hi_9, hf⟩ := vg_some hf
          refine va_iald hx hb hK hP 1 0 rfl rfl hi_9 (dt uX8_know_0 53 rfl) ?_
          obtain ⟨hi_10, hf⟩ := vg_some hf
          refine va_iast hx hb hK hP hD hS 1 0 rfl rfl hi_10 (dt uX8_know_0 54 rfl) (fun H locs hP hD hS => ?_)
          have hP : va_P (dC, dI) vwCl [(ad0, oX8 v_trace ad_text v_typed ad_books ad_numberA ad_numberB ad_draftTouches v_draftOne v_oneTold v_at v_start v_sort v_value v_fault ad_now ad_isKept ad_near ad_seenDays ad_seenBook ad_seenIs v_seen v_sets v_inEach v_inSome), (ad_now, .inl (cI, 498, .inl (upd w_7 (((16 : Int32) + ((15 : Int32) * (w_7 (15 : Int32).toNatClampNeg))) + x1_6).toNatClampNeg (w_7 x1_6.toNatClampNeg))))] H := hP
          have hD : va_D A [(ad0, oX8 v_trace ad_text v_typed ad_books ad_numberA ad_numberB ad_draftTouches v_draftOne v_oneTold v_at v_start v_sort v_value v_fault ad_now ad_isKept ad_near ad_seenDays ad_seenBook ad_seenIs v_seen v_sets v_inEach v_inSome), (ad_now, .inl (cI, 498, .inl (upd w_7 (((16 : Int32) + ((15 : Int32) * (w_7 (15 : Int32).toNatClampNeg))) + x1_6).toNatClampNeg (w_7 x1_6.toNatClampNeg))))] := hD
          refine lv_iinc (v := x1_6 + 1) (lv' := [(1, .int (x1_6 + 1)), (0, .ref ad0)]) hx hb (dt uX8_know_0 55 rfl) hl (k := 1) rfl rfl (by decide) rfl (fun ls hl => ?_)
          refine lv_goto (tgt := 58) hx hb (dt uX8_know_0 56 rfl) (by decide) ?_
          exact ih58 (x1_6 + 1) (upd w_7 (((16 : Int32) + ((15 : Int32) * (w_7 (15 : Int32).toNatClampNeg))) + x1_6).toNatClampNeg (w_7 x1_6.toNatClampNeg)) _ _ _ hf hP hD hS (lv_sub hl [1, 0] rfl)
    exact hL58 N (0 : Int32) w_5 _ _ _ hf hP hD hS (lv_sub hl [1, 0] rfl)
  refine lv_icmp_ne (tgt := 56) hx hb (dt uX8_know_0 5 rfl) (by decide) (fun c_11 => ?_) (fun c_11 => ?_)
  · have hf := vif_f c_11 hf
    exact hJ56 a_now _ _ _ hf hP hD hS (lv_sub hl [0] rfl)
  · have hf := vif_t c_11 hf
    refine lv_iconst (v := (0 : Int32)) hx hb (dt uX8_know_0 6 rfl) (by decide) ?_
    refine lv_istore_n (lv' := [(1, .int (0 : Int32)), (0, .ref ad0)]) hx hb (dt uX8_know_0 7 rfl) rfl hl (by decide) rfl (fun ls hl => ?_)
    have hL14 : ∀ (n14 : Nat), ∀ (x1_12 : Int32) (w_13 : Nat → Int32) (H : Heap) (locs : List Loc) (ls : Array Slot), fX8_know_L14 N n14 x1_12 w_13 = some q0 → va_P (dC, dI) vwCl [(ad0, oX8 v_trace ad_text v_typed ad_books ad_numberA ad_numberB ad_draftTouches v_draftOne v_oneTold v_at v_start v_sort v_value v_fault ad_now ad_isKept ad_near ad_seenDays ad_seenBook ad_seenIs v_seen v_sets v_inEach v_inSome), (ad_now, .inl (cI, 498, .inl w_13))] H → va_D A [(ad0, oX8 v_trace ad_text v_typed ad_books ad_numberA ad_numberB ad_draftTouches v_draftOne v_oneTold v_at v_start v_sort v_value v_fault ad_now ad_isKept ad_near ad_seenDays ad_seenBook ad_seenIs v_seen v_sets v_inEach v_inSome), (ad_now, .inl (cI, 498, .inl w_13))] → va_S A s.heap H locs → lv_has ls 2 [(0, .ref ad0), (1, .int x1_12)] → W p l e rX8_know s m args below meth c H locs 0 0 Q (F0 m 14 ls []) := by
      intro n14
      induction n14 with
      | zero => intro x1_12 w_13 H locs ls hf hP hD hS hl; cases hf
      | succ n14 ih14 =>
        intro x1_12 w_13 H locs ls hf hP hD hS hl
        rw [fX8_know_L14] at hf
        refine lv_iload_n hx hb (dt uX8_know_0 8 rfl) rfl (lv_at hl 1 rfl) ?_
        refine lv_sipush (v := (135 : Int32)) hx hb (dt uX8_know_0 9 rfl) (by decide) ?_
        refine lv_icmp_ge (tgt := 45) hx hb (dt uX8_know_0 10 rfl) (by decide) (fun c_14 => ?_) (fun c_14 => ?_)
        · have hf := vif_t c_14 hf
          refine lv_aload_n hx hb (dt uX8_know_0 25 rfl) rfl (lv_at hl 0 rfl) ?_
          refine va_get (D := (dC, dI)) (ci := 8) (v := .ref ad_now) (C := RX8) (T := TX8) (N := 24) hx hb hts inU8 hown hK hP 0 rfl rfl 14 (by decide) (hts _ tw_369) (fun _ h9 => h9) rfl (dt uX8_know_0 26 rfl) ?_
          refine lv_bipush (v := (15 : Int32)) hx hb (dt uX8_know_0 27 rfl) (by decide) ?_
          refine lv_dup2_11 hx hb (dt uX8_know_0 28 rfl) rfl rfl ?_
          refine va_iald hx hb hK hP 1 0 rfl rfl (vp_in_iff.mpr (by decide)) (dt uX8_know_0 29 rfl) ?_
          refine lv_iconst (v := (1 : Int32)) hx hb (dt uX8_know_0 30 rfl) (by decide) ?_
          refine lv_isub hx hb (dt uX8_know_0 31 rfl) ?_
          refine va_iast hx hb hK hP hD hS 1 0 rfl rfl (vp_in_iff.mpr (by decide)) (dt uX8_know_0 32 rfl) (fun H locs hP hD hS => ?_)
          have hP : va_P (dC, dI) vwCl [(ad0, oX8 v_trace ad_text v_typed ad_books ad_numberA ad_numberB ad_draftTouches v_draftOne v_oneTold v_at v_start v_sort v_value v_fault ad_now ad_isKept ad_near ad_seenDays ad_seenBook ad_seenIs v_seen v_sets v_inEach v_inSome), (ad_now, .inl (cI, 498, .inl (upd w_13 (15 : Int32).toNatClampNeg ((w_13 (15 : Int32).toNatClampNeg) - (1 : Int32)))))] H := hP
          have hD : va_D A [(ad0, oX8 v_trace ad_text v_typed ad_books ad_numberA ad_numberB ad_draftTouches v_draftOne v_oneTold v_at v_start v_sort v_value v_fault ad_now ad_isKept ad_near ad_seenDays ad_seenBook ad_seenIs v_seen v_sets v_inEach v_inSome), (ad_now, .inl (cI, 498, .inl (upd w_13 (15 : Int32).toNatClampNeg ((w_13 (15 : Int32).toNatClampNeg) - (1 : Int32)))))] := hD
          exact hJ56 (upd w_13 (15 : Int32).toNatClampNeg ((w_13 (15 : Int32).toNatClampNeg) - (1 : Int32))) _ _ _ hf hP hD hS (lv_sub hl [0] rfl)
        · have hf := vif_f c_14 hf
          refine lv_aload_n hx hb (dt uX8_know_0 11 rfl) rfl (lv_at hl 0 rfl) ?_
          refine va_get (D := (dC, dI)) (ci := 8) (v := .ref ad_now) (C := RX8) (T := TX8) (N := 24) hx hb hts inU8 hown hK hP 0 rfl rfl 14 (by decide) (hts _ tw_369) (fun _ h9 => h9) rfl (dt uX8_know_0 12 rfl) ?_
          refine lv_bipush (v := (16 : Int32)) hx hb (dt uX8_know_0 13 rfl) (by decide) ?_
          refine lv_iload_n hx hb (dt uX8_know_0 14 rfl) rfl (lv_at hl 1 rfl) ?_
          refine lv_iadd hx hb (dt uX8_know_0 15 rfl) ?_
          refine lv_aload_n hx hb (dt uX8_know_0 16 rfl) rfl (lv_at hl 0 rfl) ?_
          refine va_get (D := (dC, dI)) (ci := 8) (v := .ref ad_now) (C := RX8) (T := TX8) (N := 24) hx hb hts inU8 hown hK hP 0 rfl rfl 14 (by decide) (hts _ tw_369) (fun _ h9 => h9) rfl (dt uX8_know_0 17 rfl) ?_
          refine lv_bipush (v := (31 : Int32)) hx hb (dt uX8_know_0 18 rfl) (by decide) ?_
          refine lv_iload_n hx hb (dt uX8_know_0 19 rfl) rfl (lv_at hl 1 rfl) ?_
          refine lv_iadd hx hb (dt uX8_know_0 20 rfl) ?_
          obtain ⟨hi_15, hf⟩ := vg_some hf
          refine va_iald hx hb hK hP 1 0 rfl rfl hi_15 (dt uX8_know_0 21 rfl) ?_
          obtain ⟨hi_16, hf⟩ := vg_some hf
          refine va_iast hx hb hK hP hD hS 1 0 rfl rfl hi_16 (dt uX8_know_0 22 rfl) (fun H locs hP hD hS => ?_)
          have hP : va_P (dC, dI) vwCl [(ad0, oX8 v_trace ad_text v_typed ad_books ad_numberA ad_numberB ad_draftTouches v_draftOne v_oneTold v_at v_start v_sort v_value v_fault ad_now ad_isKept ad_near ad_seenDays ad_seenBook ad_seenIs v_seen v_sets v_inEach v_inSome), (ad_now, .inl (cI, 498, .inl (upd w_13 ((16 : Int32) + x1_12).toNatClampNeg (w_13 ((31 : Int32) + x1_12).toNatClampNeg))))] H := hP
          have hD : va_D A [(ad0, oX8 v_trace ad_text v_typed ad_books ad_numberA ad_numberB ad_draftTouches v_draftOne v_oneTold v_at v_start v_sort v_value v_fault ad_now ad_isKept ad_near ad_seenDays ad_seenBook ad_seenIs v_seen v_sets v_inEach v_inSome), (ad_now, .inl (cI, 498, .inl (upd w_13 ((16 : Int32) + x1_12).toNatClampNeg (w_13 ((31 : Int32) + x1_12).toNatClampNeg))))] := hD
          refine lv_iinc (v := x1_12 + 1) (lv' := [(1, .int (x1_12 + 1)), (0, .ref ad0)]) hx hb (dt uX8_know_0 23 rfl) hl (k := 1) rfl rfl (by decide) rfl (fun ls hl => ?_)
          refine lv_goto (tgt := 14) hx hb (dt uX8_know_0 24 rfl) (by decide) ?_
          exact ih14 (x1_12 + 1) (upd w_13 ((16 : Int32) + x1_12).toNatClampNeg (w_13 ((31 : Int32) + x1_12).toNatClampNeg)) _ _ _ hf hP hD hS (lv_sub hl [1, 0] rfl)
    exact hL14 N (0 : Int32) a_now _ _ _ hf hP hD hS (lv_sub hl [1, 0] rfl)
abbrev rX8_forgets : Room := { frames := 2, cells := 0, slots := 0, locals := 46 }
abbrev wX8_forgets : List Cond := Cond.code yX8_forgets cX8_forgets 3 (some .int) :: VT
set_option maxHeartbeats 4000000 in
set_option maxRecDepth 100000 in
theorem kX8_forgets (ad0 : Nat) (ad_text : Nat) (ad_books : Nat) (ad_numberA : Nat) (ad_numberB : Nat) (ad_draftTouches : Nat) (ad_now : Nat) (ad_isKept : Nat) (ad_near : Nat) (ad_seenDays : Nat) (ad_seenBook : Nat) (ad_seenIs : Nat) (v_trace : Int64) (v_typed : Int32) (v_draftOne : Int32) (v_oneTold : Int32) (v_at : Int32) (v_start : Int32) (v_sort : Int32) (v_value : Int32) (v_fault : Int32) (v_seen : Int32) (v_sets : Int32) (v_inEach : Int32) (v_inSome : Int32) (a_books : Nat → Int32) (a_numberA : Nat → Int32) (a_numberB : Nat → Int32) (a_now : Nat → Int32) (p1 : Int32) (p2 : Int32) (N : Nat) (q0 : (Int32 × (Nat → Int32))) (hf : fX8_forgets N a_books a_numberA a_numberB a_now p1 p2 = some q0) : Ki l yX8_forgets wX8_forgets rX8_forgets (dC, dI) (vTy cI cJ cB cZ) [.ref ad0, .int p1, .int p2] [(ad0, oX8 v_trace ad_text v_typed ad_books ad_numberA ad_numberB ad_draftTouches v_draftOne v_oneTold v_at v_start v_sort v_value v_fault ad_now ad_isKept ad_near ad_seenDays ad_seenBook ad_seenIs v_seen v_sets v_inEach v_inSome), (ad_books, .inl (cI, 2, .inl a_books)), (ad_numberA, .inl (cI, 12, .inl a_numberA)), (ad_numberB, .inl (cI, 12, .inl a_numberB)), (ad_now, .inl (cI, 498, .inl a_now))] [(ad0, oX8 v_trace ad_text v_typed ad_books ad_numberA ad_numberB ad_draftTouches v_draftOne v_oneTold v_at v_start v_sort v_value v_fault ad_now ad_isKept ad_near ad_seenDays ad_seenBook ad_seenIs v_seen v_sets v_inEach v_inSome), (ad_books, .inl (cI, 2, .inl a_books)), (ad_numberA, .inl (cI, 12, .inl a_numberA)), (ad_numberB, .inl (cI, 12, .inl a_numberB)), (ad_now, .inl (cI, 498, .inl q0.2))] q0.1 := by
  refine Ki.mk (cc := cX8_forgets) (maxL := 3) (ret := some .int) (by decide) (Nat.le_of_ble_eq_true rfl) ?_
  intro p e s m args below meth c A Q H locs C hQ hP hD hS ls hl
  obtain ⟨hx, hb, -, hml, hts, hown, -, hK, hN, hA⟩ := id C
  have hown : s.vm.findClass RX8 = some m.cls := hown
  have hl : lv_has ls 3 [(0, .ref ad0), (1, .int p1), (2, .int p2)] := hl
  unfold fX8_forgets at hf
  refine lv_aload_n hx hb (dt uX8_forgets 0 rfl) rfl (lv_at hl 0 rfl) ?_
  refine lv_iload_n hx hb (dt uX8_forgets 1 rfl) rfl (lv_at hl 1 rfl) ?_
  refine vk_z0 [0, 1] (va_runV (As := [.int p1]) (rest := []) ⟨hx, hb, hml, hown, hts⟩ (kX8_isBook ad0 ad_text ad_books ad_numberA ad_numberB ad_draftTouches ad_now ad_isKept ad_near ad_seenDays ad_seenBook ad_seenIs v_trace v_typed v_draftOne v_oneTold v_at v_start v_sort v_value v_fault v_seen v_sets v_inEach v_inSome a_books p1 _ rfl H.size) (vcwV hts tw_403 tw_404 tw_405 tw_336 tw_402 hd_X8_isBook rfl rfl ⟨Nat.le_of_ble_eq_true rfl, Nat.le_of_ble_eq_true rfl⟩) (vpreV hK hN hP hD [0, 1] rfl (by decide) (ci := 8) (q0 := 0) rfl rfl) rfl rfl hl.1 rfl (lv_room (Nat.le_of_ble_eq_true rfl)) (dt uX8_forgets 2 rfl) ⟨Nat.zero_le _, Nat.zero_le _⟩) hA hP hD hS rfl (by decide) (fun hz_1 H locs hP hD hS => ?_)
  refine lv_if_eq (tgt := 17) hx hb (dt uX8_forgets 3 rfl) (by decide) (fun c_2 => ?_) (fun c_2 => ?_)
  · have hf := vif_t c_2 hf
    refine lv_iconst (v := (-1 : Int32)) hx hb (dt uX8_forgets 9 rfl) (by decide) ?_
    have hf := Option.some.inj hf
    subst hf
    rw [hQ]
    exact vret_i C hP hD hS (dt uX8_forgets 10 rfl)
  · have hf := vif_f c_2 hf
    refine lv_iload_n hx hb (dt uX8_forgets 4 rfl) rfl (lv_at hl 2 rfl) ?_
    refine lv_iconst (v := (0 : Int32)) hx hb (dt uX8_forgets 5 rfl) (by decide) ?_
    refine lv_iconst (v := (1 : Int32)) hx hb (dt uX8_forgets 6 rfl) (by decide) ?_
    refine vk_z0 [] (va_runS (As := [.int p2, .int (0 : Int32), .int (1 : Int32)]) (rest := []) ⟨hx, hb, hml, hown, hts⟩ (kX8_in p2 (0 : Int32) (1 : Int32) _ rfl H.size) (vcwS hts tw_338 tw_339 tw_336 tw_337 hd_X8_in rfl rfl ⟨Nat.le_of_ble_eq_true rfl, Nat.le_of_ble_eq_true rfl⟩) (vpreS hK hN hP hD [] rfl (by decide)) rfl rfl hl.1 rfl (lv_room (Nat.le_of_ble_eq_true rfl)) (dt uX8_forgets 7 rfl) ⟨Nat.zero_le _, Nat.zero_le _⟩) hA hP hD hS rfl (by decide) (fun hz_3 H locs hP hD hS => ?_)
    refine lv_if_ne (tgt := 19) hx hb (dt uX8_forgets 8 rfl) (by decide) (fun c_4 => ?_) (fun c_4 => ?_)
    · have hf := vif_f c_4 hf
      refine lv_aload_n hx hb (dt uX8_forgets 11 rfl) rfl (lv_at hl 0 rfl) ?_
      refine lv_iload_n hx hb (dt uX8_forgets 12 rfl) rfl (lv_at hl 1 rfl) ?_
      obtain ⟨q_5, hq_6, hf⟩ := vbd hf
      refine vk_i0 [0, 2, 3] (va_runV (As := [.int p1]) (rest := []) ⟨hx, hb, hml, hown, hts⟩ (kX8_carries ad0 ad_text ad_books ad_numberA ad_numberB ad_draftTouches ad_now ad_isKept ad_near ad_seenDays ad_seenBook ad_seenIs v_trace v_typed v_draftOne v_oneTold v_at v_start v_sort v_value v_fault v_seen v_sets v_inEach v_inSome a_numberA a_numberB p1 N q_5 hq_6 H.size) (vcwV hts tw_411 tw_412 tw_413 tw_336 tw_410 hd_X8_carries rfl rfl ⟨Nat.le_of_ble_eq_true rfl, Nat.le_of_ble_eq_true rfl⟩) (vpreV hK hN hP hD [0, 2, 3] rfl (by decide) (ci := 8) (q0 := 0) rfl rfl) rfl rfl hl.1 rfl (lv_room (Nat.le_of_ble_eq_true rfl)) (dt uX8_forgets 13 rfl) ⟨Nat.zero_le _, Nat.zero_le _⟩) hA hP hD hS rfl (by decide) (fun H locs hP hD hS => ?_)
      refine lv_iload_n hx hb (dt uX8_forgets 14 rfl) rfl (lv_at hl 2 rfl) ?_
      refine lv_ishr hx hb (dt uX8_forgets 15 rfl) ?_
      refine lv_iconst (v := (1 : Int32)) hx hb (dt uX8_forgets 16 rfl) (by decide) ?_
      refine lv_iand hx hb (dt uX8_forgets 17 rfl) ?_
      refine lv_if_eq (tgt := 47) hx hb (dt uX8_forgets 18 rfl) (by decide) (fun c_7 => ?_) (fun c_7 => ?_)
      · have hf := vif_t c_7 hf
        refine lv_bipush (v := (-2 : Int32)) hx hb (dt uX8_forgets 31 rfl) (by decide) ?_
        have hf := Option.some.inj hf
        subst hf
        rw [hQ]
        exact vret_i C hP hD hS (dt uX8_forgets 32 rfl)
      · have hf := vif_f c_7 hf
        refine lv_aload_n hx hb (dt uX8_forgets 19 rfl) rfl (lv_at hl 0 rfl) ?_
        refine va_get (D := (dC, dI)) (ci := 8) (v := .ref ad_now) (C := RX8) (T := TX8) (N := 24) hx hb hts inU8 hown hK hP 0 rfl rfl 14 (by decide) (hts _ tw_369) (fun _ h9 => h9) rfl (dt uX8_forgets 20 rfl) ?_
        refine lv_iconst (v := (0 : Int32)) hx hb (dt uX8_forgets 21 rfl) (by decide) ?_
        refine lv_iload_n hx hb (dt uX8_forgets 22 rfl) rfl (lv_at hl 1 rfl) ?_
        refine lv_iadd hx hb (dt uX8_forgets 23 rfl) ?_
        obtain ⟨hi_8, hf⟩ := vg_some hf
        refine va_iald hx hb hK hP 4 0 rfl rfl hi_8 (dt uX8_forgets 24 rfl) ?_
        refine lv_iload_n hx hb (dt uX8_forgets 25 rfl) rfl (lv_at hl 2 rfl) ?_
        refine lv_ishr hx hb (dt uX8_forgets 26 rfl) ?_
        refine lv_iconst (v := (1 : Int32)) hx hb (dt uX8_forgets 27 rfl) (by decide) ?_
        refine lv_iand hx hb (dt uX8_forgets 28 rfl) ?_
        refine lv_iconst (v := (1 : Int32)) hx hb (dt uX8_forgets 29 rfl) (by decide) ?_
        refine lv_icmp_ne (tgt := 50) hx hb (dt uX8_forgets 30 rfl) (by decide) (fun c_9 => ?_) (fun c_9 => ?_)
        · have hf := vif_f c_9 hf
          refine lv_aload_n hx hb (dt uX8_forgets 33 rfl) rfl (lv_at hl 0 rfl) ?_
          obtain ⟨q_10, hq_11, hf⟩ := vbd hf
          refine vk_v [0, 4] (ws2 := [(ad0, oX8 v_trace ad_text v_typed ad_books ad_numberA ad_numberB ad_draftTouches v_draftOne v_oneTold v_at v_start v_sort v_value v_fault ad_now ad_isKept ad_near ad_seenDays ad_seenBook ad_seenIs v_seen v_sets v_inEach v_inSome), (ad_books, .inl (cI, 2, .inl a_books)), (ad_numberA, .inl (cI, 12, .inl a_numberA)), (ad_numberB, .inl (cI, 12, .inl a_numberB)), (ad_now, .inl (cI, 498, .inl q_10))]) (va_runV (As := []) (rest := []) ⟨hx, hb, hml, hown, hts⟩ (kX8_know ad0 ad_text ad_books ad_numberA ad_numberB ad_draftTouches ad_now ad_isKept ad_near ad_seenDays ad_seenBook ad_seenIs v_trace v_typed v_draftOne v_oneTold v_at v_start v_sort v_value v_fault v_seen v_sets v_inEach v_inSome a_now N q_10 hq_11 H.size) (vcwV hts tw_415 tw_416 tw_417 tw_336 tw_414 hd_X8_know rfl rfl ⟨Nat.le_of_ble_eq_true rfl, Nat.le_of_ble_eq_true rfl⟩) (vpreV hK hN hP hD [0, 4] rfl (by decide) (ci := 8) (q0 := 0) rfl rfl) rfl rfl hl.1 rfl (lv_room (Nat.le_of_ble_eq_true rfl)) (dt uX8_forgets 34 rfl) ⟨Nat.zero_le _, Nat.zero_le _⟩) hA hP hD hS rfl (by decide) rfl rfl (fun H locs hP hD hS => ?_)
          refine lv_aload_n hx hb (dt uX8_forgets 35 rfl) rfl (lv_at hl 0 rfl) ?_
          refine va_get (D := (dC, dI)) (ci := 8) (v := .ref ad_now) (C := RX8) (T := TX8) (N := 24) hx hb hts inU8 hown hK hP 0 rfl rfl 14 (by decide) (hts _ tw_369) (fun _ h9 => h9) rfl (dt uX8_forgets 36 rfl) ?_
          refine lv_iconst (v := (0 : Int32)) hx hb (dt uX8_forgets 37 rfl) (by decide) ?_
          refine lv_iload_n hx hb (dt uX8_forgets 38 rfl) rfl (lv_at hl 1 rfl) ?_
          refine lv_iadd hx hb (dt uX8_forgets 39 rfl) ?_
          refine lv_dup2_11 hx hb (dt uX8_forgets 40 rfl) rfl rfl ?_
          obtain ⟨hi_12, hf⟩ := vg_some hf
          refine va_iald hx hb hK hP 4 0 rfl rfl hi_12 (dt uX8_forgets 41 rfl) ?_
          refine lv_iconst (v := (1 : Int32)) hx hb (dt uX8_forgets 42 rfl) (by decide) ?_
          refine lv_iload_n hx hb (dt uX8_forgets 43 rfl) rfl (lv_at hl 2 rfl) ?_
          refine lv_ishl hx hb (dt uX8_forgets 44 rfl) ?_
          refine lv_ior hx hb (dt uX8_forgets 45 rfl) ?_
          obtain ⟨hi_13, hf⟩ := vg_some hf
          refine va_iast hx hb hK hP hD hS 4 0 rfl rfl hi_13 (dt uX8_forgets 46 rfl) (fun H locs hP hD hS => ?_)
          have hP : va_P (dC, dI) vwCl [(ad0, oX8 v_trace ad_text v_typed ad_books ad_numberA ad_numberB ad_draftTouches v_draftOne v_oneTold v_at v_start v_sort v_value v_fault ad_now ad_isKept ad_near ad_seenDays ad_seenBook ad_seenIs v_seen v_sets v_inEach v_inSome), (ad_books, .inl (cI, 2, .inl a_books)), (ad_numberA, .inl (cI, 12, .inl a_numberA)), (ad_numberB, .inl (cI, 12, .inl a_numberB)), (ad_now, .inl (cI, 498, .inl (upd q_10 ((0 : Int32) + p1).toNatClampNeg ((q_10 ((0 : Int32) + p1).toNatClampNeg) ||| ((1 : Int32) <<< (p2 &&& 31))))))] H := hP
          have hD : va_D A [(ad0, oX8 v_trace ad_text v_typed ad_books ad_numberA ad_numberB ad_draftTouches v_draftOne v_oneTold v_at v_start v_sort v_value v_fault ad_now ad_isKept ad_near ad_seenDays ad_seenBook ad_seenIs v_seen v_sets v_inEach v_inSome), (ad_books, .inl (cI, 2, .inl a_books)), (ad_numberA, .inl (cI, 12, .inl a_numberA)), (ad_numberB, .inl (cI, 12, .inl a_numberB)), (ad_now, .inl (cI, 498, .inl (upd q_10 ((0 : Int32) + p1).toNatClampNeg ((q_10 ((0 : Int32) + p1).toNatClampNeg) ||| ((1 : Int32) <<< (p2 &&& 31))))))] := hD
          refine lv_aload_n hx hb (dt uX8_forgets 47 rfl) rfl (lv_at hl 0 rfl) ?_
          refine lv_iload_n hx hb (dt uX8_forgets 48 rfl) rfl (lv_at hl 1 rfl) ?_
          obtain ⟨q_14, hq_15, hf⟩ := vbd hf
          refine vk_i0 [0, 2, 3, 4] (va_runV (As := [.int p1]) (rest := []) ⟨hx, hb, hml, hown, hts⟩ (kX8_written ad0 ad_text ad_books ad_numberA ad_numberB ad_draftTouches ad_now ad_isKept ad_near ad_seenDays ad_seenBook ad_seenIs v_trace v_typed v_draftOne v_oneTold v_at v_start v_sort v_value v_fault v_seen v_sets v_inEach v_inSome a_numberA a_numberB (upd q_10 ((0 : Int32) + p1).toNatClampNeg ((q_10 ((0 : Int32) + p1).toNatClampNeg) ||| ((1 : Int32) <<< (p2 &&& 31)))) p1 q_14 hq_15 H.size) (vcwV hts tw_396 tw_397 tw_398 tw_336 tw_395 hd_X8_written rfl rfl ⟨Nat.le_of_ble_eq_true rfl, Nat.le_of_ble_eq_true rfl⟩) (vpreV hK hN hP hD [0, 2, 3, 4] rfl (by decide) (ci := 8) (q0 := 0) rfl rfl) rfl rfl hl.1 rfl (lv_room (Nat.le_of_ble_eq_true rfl)) (dt uX8_forgets 49 rfl) ⟨Nat.zero_le _, Nat.zero_le _⟩) hA hP hD hS rfl (by decide) (fun H locs hP hD hS => ?_)
          have hf := Option.some.inj hf
          subst hf
          rw [hQ]
          exact vret_i C hP hD hS (dt uX8_forgets 50 rfl)
        · have hf := vif_t c_9 hf
          refine lv_bipush (v := (-2 : Int32)) hx hb (dt uX8_forgets 31 rfl) (by decide) ?_
          have hf := Option.some.inj hf
          subst hf
          rw [hQ]
          exact vret_i C hP hD hS (dt uX8_forgets 32 rfl)
    · have hf := vif_t c_4 hf
      refine lv_iconst (v := (-1 : Int32)) hx hb (dt uX8_forgets 9 rfl) (by decide) ?_
      have hf := Option.some.inj hf
      subst hf
      rw [hQ]
      exact vret_i C hP hD hS (dt uX8_forgets 10 rfl)
abbrev rX8_rights : Room := { frames := 2, cells := 0, slots := 0, locals := 43 }
abbrev wX8_rights : List Cond := Cond.code yX8_rights cX8_rights 3 (some .int) :: VT
set_option maxHeartbeats 4000000 in
set_option maxRecDepth 100000 in
theorem kX8_rights (ad0 : Nat) (ad_text : Nat) (ad_books : Nat) (ad_numberA : Nat) (ad_numberB : Nat) (ad_draftTouches : Nat) (ad_now : Nat) (ad_isKept : Nat) (ad_near : Nat) (ad_seenDays : Nat) (ad_seenBook : Nat) (ad_seenIs : Nat) (v_trace : Int64) (v_typed : Int32) (v_draftOne : Int32) (v_oneTold : Int32) (v_at : Int32) (v_start : Int32) (v_sort : Int32) (v_value : Int32) (v_fault : Int32) (v_seen : Int32) (v_sets : Int32) (v_inEach : Int32) (v_inSome : Int32) (a_books : Nat → Int32) (a_now : Nat → Int32) (p1 : Int32) (N : Nat) (q0 : (Int32 × (Nat → Int32))) (hf : fX8_rights N a_books a_now p1 = some q0) : Ki l yX8_rights wX8_rights rX8_rights (dC, dI) (vTy cI cJ cB cZ) [.ref ad0, .int p1] [(ad0, oX8 v_trace ad_text v_typed ad_books ad_numberA ad_numberB ad_draftTouches v_draftOne v_oneTold v_at v_start v_sort v_value v_fault ad_now ad_isKept ad_near ad_seenDays ad_seenBook ad_seenIs v_seen v_sets v_inEach v_inSome), (ad_books, .inl (cI, 2, .inl a_books)), (ad_now, .inl (cI, 498, .inl a_now))] [(ad0, oX8 v_trace ad_text v_typed ad_books ad_numberA ad_numberB ad_draftTouches v_draftOne v_oneTold v_at v_start v_sort v_value v_fault ad_now ad_isKept ad_near ad_seenDays ad_seenBook ad_seenIs v_seen v_sets v_inEach v_inSome), (ad_books, .inl (cI, 2, .inl a_books)), (ad_now, .inl (cI, 498, .inl q0.2))] q0.1 := by
  refine Ki.mk (cc := cX8_rights) (maxL := 3) (ret := some .int) (by decide) (Nat.le_of_ble_eq_true rfl) ?_
  intro p e s m args below meth c A Q H locs C hQ hP hD hS ls hl
  obtain ⟨hx, hb, -, hml, hts, hown, -, hK, hN, hA⟩ := id C
  have hown : s.vm.findClass RX8 = some m.cls := hown
  have hl : lv_has ls 3 [(0, .ref ad0), (1, .int p1)] := hl
  unfold fX8_rights at hf
  refine lv_aload_n hx hb (dt uX8_rights 0 rfl) rfl (lv_at hl 0 rfl) ?_
  refine lv_iload_n hx hb (dt uX8_rights 1 rfl) rfl (lv_at hl 1 rfl) ?_
  refine vk_z0 [0, 1] (va_runV (As := [.int p1]) (rest := []) ⟨hx, hb, hml, hown, hts⟩ (kX8_isBook ad0 ad_text ad_books ad_numberA ad_numberB ad_draftTouches ad_now ad_isKept ad_near ad_seenDays ad_seenBook ad_seenIs v_trace v_typed v_draftOne v_oneTold v_at v_start v_sort v_value v_fault v_seen v_sets v_inEach v_inSome a_books p1 _ rfl H.size) (vcwV hts tw_403 tw_404 tw_405 tw_336 tw_402 hd_X8_isBook rfl rfl ⟨Nat.le_of_ble_eq_true rfl, Nat.le_of_ble_eq_true rfl⟩) (vpreV hK hN hP hD [0, 1] rfl (by decide) (ci := 8) (q0 := 0) rfl rfl) rfl rfl hl.1 rfl (lv_room (Nat.le_of_ble_eq_true rfl)) (dt uX8_rights 2 rfl) ⟨Nat.zero_le _, Nat.zero_le _⟩) hA hP hD hS rfl (by decide) (fun hz_1 H locs hP hD hS => ?_)
  refine lv_if_ne (tgt := 10) hx hb (dt uX8_rights 3 rfl) (by decide) (fun c_2 => ?_) (fun c_2 => ?_)
  · have hf := vif_f c_2 hf
    refine lv_aload_n hx hb (dt uX8_rights 6 rfl) rfl (lv_at hl 0 rfl) ?_
    refine va_get (D := (dC, dI)) (ci := 8) (v := .ref ad_now) (C := RX8) (T := TX8) (N := 24) hx hb hts inU8 hown hK hP 0 rfl rfl 14 (by decide) (hts _ tw_369) (fun _ h9 => h9) rfl (dt uX8_rights 7 rfl) ?_
    refine lv_iconst (v := (0 : Int32)) hx hb (dt uX8_rights 8 rfl) (by decide) ?_
    refine lv_iload_n hx hb (dt uX8_rights 9 rfl) rfl (lv_at hl 1 rfl) ?_
    refine lv_iadd hx hb (dt uX8_rights 10 rfl) ?_
    obtain ⟨hi_3, hf⟩ := vg_some hf
    refine va_iald hx hb hK hP 2 0 rfl rfl hi_3 (dt uX8_rights 11 rfl) ?_
    obtain ⟨q_4, hq_5, hf⟩ := vbd hf
    refine vk_i0 [] (va_runS (As := [.int (a_now ((0 : Int32) + p1).toNatClampNeg)]) (rest := []) ⟨hx, hb, hml, hown, hts⟩ (kX8_manyOf (a_now ((0 : Int32) + p1).toNatClampNeg) N q_4 hq_5 H.size) (vcwS hts tw_400 tw_401 tw_336 tw_399 hd_X8_manyOf rfl rfl ⟨Nat.le_of_ble_eq_true rfl, Nat.le_of_ble_eq_true rfl⟩) (vpreS hK hN hP hD [] rfl (by decide)) rfl rfl hl.1 rfl (lv_room (Nat.le_of_ble_eq_true rfl)) (dt uX8_rights 12 rfl) ⟨Nat.zero_le _, Nat.zero_le _⟩) hA hP hD hS rfl (by decide) (fun H locs hP hD hS => ?_)
    refine lv_istore_n (lv' := [(2, .int q_4), (0, .ref ad0), (1, .int p1)]) hx hb (dt uX8_rights 13 rfl) rfl hl (by decide) rfl (fun ls hl => ?_)
    refine lv_iload_n hx hb (dt uX8_rights 14 rfl) rfl (lv_at hl 0 rfl) ?_
    refine lv_if_ne (tgt := 29) hx hb (dt uX8_rights 15 rfl) (by decide) (fun c_6 => ?_) (fun c_6 => ?_)
    · have hf := vif_f c_6 hf
      refine lv_aload_n hx hb (dt uX8_rights 18 rfl) rfl (lv_at hl 1 rfl) ?_
      obtain ⟨q_7, hq_8, hf⟩ := vbd hf
      refine vk_v [0, 2] (ws2 := [(ad0, oX8 v_trace ad_text v_typed ad_books ad_numberA ad_numberB ad_draftTouches v_draftOne v_oneTold v_at v_start v_sort v_value v_fault ad_now ad_isKept ad_near ad_seenDays ad_seenBook ad_seenIs v_seen v_sets v_inEach v_inSome), (ad_books, .inl (cI, 2, .inl a_books)), (ad_now, .inl (cI, 498, .inl q_7))]) (va_runV (As := []) (rest := []) ⟨hx, hb, hml, hown, hts⟩ (kX8_know ad0 ad_text ad_books ad_numberA ad_numberB ad_draftTouches ad_now ad_isKept ad_near ad_seenDays ad_seenBook ad_seenIs v_trace v_typed v_draftOne v_oneTold v_at v_start v_sort v_value v_fault v_seen v_sets v_inEach v_inSome a_now N q_7 hq_8 H.size) (vcwV hts tw_415 tw_416 tw_417 tw_336 tw_414 hd_X8_know rfl rfl ⟨Nat.le_of_ble_eq_true rfl, Nat.le_of_ble_eq_true rfl⟩) (vpreV hK hN hP hD [0, 2] rfl (by decide) (ci := 8) (q0 := 0) rfl rfl) rfl rfl hl.1 rfl (lv_room (Nat.le_of_ble_eq_true rfl)) (dt uX8_rights 19 rfl) ⟨Nat.zero_le _, Nat.zero_le _⟩) hA hP hD hS rfl (by decide) rfl rfl (fun H locs hP hD hS => ?_)
      refine lv_aload_n hx hb (dt uX8_rights 20 rfl) rfl (lv_at hl 1 rfl) ?_
      refine va_get (D := (dC, dI)) (ci := 8) (v := .ref ad_now) (C := RX8) (T := TX8) (N := 24) hx hb hts inU8 hown hK hP 0 rfl rfl 14 (by decide) (hts _ tw_369) (fun _ h9 => h9) rfl (dt uX8_rights 21 rfl) ?_
      refine lv_iconst (v := (0 : Int32)) hx hb (dt uX8_rights 22 rfl) (by decide) ?_
      refine lv_iload_n hx hb (dt uX8_rights 23 rfl) rfl (lv_at hl 2 rfl) ?_
      refine lv_iadd hx hb (dt uX8_rights 24 rfl) ?_
      refine lv_iconst (v := (0 : Int32)) hx hb (dt uX8_rights 25 rfl) (by decide) ?_
      obtain ⟨hi_9, hf⟩ := vg_some hf
      refine va_iast hx hb hK hP hD hS 2 0 rfl rfl hi_9 (dt uX8_rights 26 rfl) (fun H locs hP hD hS => ?_)
      have hP : va_P (dC, dI) vwCl [(ad0, oX8 v_trace ad_text v_typed ad_books ad_numberA ad_numberB ad_draftTouches v_draftOne v_oneTold v_at v_start v_sort v_value v_fault ad_now ad_isKept ad_near ad_seenDays ad_seenBook ad_seenIs v_seen v_sets v_inEach v_inSome), (ad_books, .inl (cI, 2, .inl a_books)), (ad_now, .inl (cI, 498, .inl (upd q_7 ((0 : Int32) + p1).toNatClampNeg (0 : Int32))))] H := hP
      have hD : va_D A [(ad0, oX8 v_trace ad_text v_typed ad_books ad_numberA ad_numberB ad_draftTouches v_draftOne v_oneTold v_at v_start v_sort v_value v_fault ad_now ad_isKept ad_near ad_seenDays ad_seenBook ad_seenIs v_seen v_sets v_inEach v_inSome), (ad_books, .inl (cI, 2, .inl a_books)), (ad_now, .inl (cI, 498, .inl (upd q_7 ((0 : Int32) + p1).toNatClampNeg (0 : Int32))))] := hD
      refine lv_iload_n hx hb (dt uX8_rights 27 rfl) rfl (lv_at hl 0 rfl) ?_
      have hf := Option.some.inj hf
      subst hf
      rw [hQ]
      exact vret_i C hP hD hS (dt uX8_rights 28 rfl)
    · have hf := vif_t c_6 hf
      refine lv_bipush (v := (-2 : Int32)) hx hb (dt uX8_rights 16 rfl) (by decide) ?_
      have hf := Option.some.inj hf
      subst hf
      rw [hQ]
      exact vret_i C hP hD hS (dt uX8_rights 17 rfl)
  · have hf := vif_t c_2 hf
    refine lv_iconst (v := (-1 : Int32)) hx hb (dt uX8_rights 4 rfl) (by decide) ?_
    have hf := Option.some.inj hf
    subst hf
    rw [hQ]
    exact vret_i C hP hD hS (dt uX8_rights 5 rfl)
abbrev rX8_puts : Room := { frames := 2, cells := 0, slots := 0, locals := 43 }
abbrev wX8_puts : List Cond := Cond.code yX8_puts cX8_puts 3 (some .int) :: VT
set_option maxHeartbeats 4000000 in
set_option maxRecDepth 100000 in
theorem kX8_puts (ad0 : Nat) (ad_text : Nat) (ad_books : Nat) (ad_numberA : Nat) (ad_numberB : Nat) (ad_draftTouches : Nat) (ad_now : Nat) (ad_isKept : Nat) (ad_near : Nat) (ad_seenDays : Nat) (ad_seenBook : Nat) (ad_seenIs : Nat) (v_trace : Int64) (v_typed : Int32) (v_draftOne : Int32) (v_oneTold : Int32) (v_at : Int32) (v_start : Int32) (v_sort : Int32) (v_value : Int32) (v_fault : Int32) (v_seen : Int32) (v_sets : Int32) (v_inEach : Int32) (v_inSome : Int32) (a_books : Nat → Int32) (a_now : Nat → Int32) (p1 : Int32) (N : Nat) (q0 : (Int32 × (Nat → Int32))) (hf : fX8_puts N a_books a_now p1 = some q0) : Ki l yX8_puts wX8_puts rX8_puts (dC, dI) (vTy cI cJ cB cZ) [.ref ad0, .int p1] [(ad0, oX8 v_trace ad_text v_typed ad_books ad_numberA ad_numberB ad_draftTouches v_draftOne v_oneTold v_at v_start v_sort v_value v_fault ad_now ad_isKept ad_near ad_seenDays ad_seenBook ad_seenIs v_seen v_sets v_inEach v_inSome), (ad_books, .inl (cI, 2, .inl a_books)), (ad_now, .inl (cI, 498, .inl a_now))] [(ad0, oX8 v_trace ad_text v_typed ad_books ad_numberA ad_numberB ad_draftTouches v_draftOne v_oneTold v_at v_start v_sort v_value v_fault ad_now ad_isKept ad_near ad_seenDays ad_seenBook ad_seenIs v_seen v_sets v_inEach v_inSome), (ad_books, .inl (cI, 2, .inl a_books)), (ad_now, .inl (cI, 498, .inl q0.2))] q0.1 := by
  refine Ki.mk (cc := cX8_puts) (maxL := 3) (ret := some .int) (by decide) (Nat.le_of_ble_eq_true rfl) ?_
  intro p e s m args below meth c A Q H locs C hQ hP hD hS ls hl
  obtain ⟨hx, hb, -, hml, hts, hown, -, hK, hN, hA⟩ := id C
  have hown : s.vm.findClass RX8 = some m.cls := hown
  have hl : lv_has ls 3 [(0, .ref ad0), (1, .int p1)] := hl
  unfold fX8_puts at hf
  refine lv_aload_n hx hb (dt uX8_puts 0 rfl) rfl (lv_at hl 0 rfl) ?_
  refine lv_iload_n hx hb (dt uX8_puts 1 rfl) rfl (lv_at hl 1 rfl) ?_
  refine vk_z0 [0, 1] (va_runV (As := [.int p1]) (rest := []) ⟨hx, hb, hml, hown, hts⟩ (kX8_isBook ad0 ad_text ad_books ad_numberA ad_numberB ad_draftTouches ad_now ad_isKept ad_near ad_seenDays ad_seenBook ad_seenIs v_trace v_typed v_draftOne v_oneTold v_at v_start v_sort v_value v_fault v_seen v_sets v_inEach v_inSome a_books p1 _ rfl H.size) (vcwV hts tw_403 tw_404 tw_405 tw_336 tw_402 hd_X8_isBook rfl rfl ⟨Nat.le_of_ble_eq_true rfl, Nat.le_of_ble_eq_true rfl⟩) (vpreV hK hN hP hD [0, 1] rfl (by decide) (ci := 8) (q0 := 0) rfl rfl) rfl rfl hl.1 rfl (lv_room (Nat.le_of_ble_eq_true rfl)) (dt uX8_puts 2 rfl) ⟨Nat.zero_le _, Nat.zero_le _⟩) hA hP hD hS rfl (by decide) (fun hz_1 H locs hP hD hS => ?_)
  refine lv_if_ne (tgt := 10) hx hb (dt uX8_puts 3 rfl) (by decide) (fun c_2 => ?_) (fun c_2 => ?_)
  · have hf := vif_f c_2 hf
    refine lv_aload_n hx hb (dt uX8_puts 6 rfl) rfl (lv_at hl 0 rfl) ?_
    refine va_get (D := (dC, dI)) (ci := 8) (v := .ref ad_now) (C := RX8) (T := TX8) (N := 24) hx hb hts inU8 hown hK hP 0 rfl rfl 14 (by decide) (hts _ tw_369) (fun _ h9 => h9) rfl (dt uX8_puts 7 rfl) ?_
    refine lv_bipush (v := (13 : Int32)) hx hb (dt uX8_puts 8 rfl) (by decide) ?_
    refine va_iald hx hb hK hP 2 0 rfl rfl (vp_in_iff.mpr (by decide)) (dt uX8_puts 9 rfl) ?_
    refine lv_iload_n hx hb (dt uX8_puts 10 rfl) rfl (lv_at hl 1 rfl) ?_
    refine lv_icmp_ne (tgt := 24) hx hb (dt uX8_puts 11 rfl) (by decide) (fun c_3 => ?_) (fun c_3 => ?_)
    · have hf := vif_f c_3 hf
      refine lv_aload_n hx hb (dt uX8_puts 14 rfl) rfl (lv_at hl 0 rfl) ?_
      obtain ⟨q_4, hq_5, hf⟩ := vbd hf
      refine vk_v [0, 2] (ws2 := [(ad0, oX8 v_trace ad_text v_typed ad_books ad_numberA ad_numberB ad_draftTouches v_draftOne v_oneTold v_at v_start v_sort v_value v_fault ad_now ad_isKept ad_near ad_seenDays ad_seenBook ad_seenIs v_seen v_sets v_inEach v_inSome), (ad_books, .inl (cI, 2, .inl a_books)), (ad_now, .inl (cI, 498, .inl q_4))]) (va_runV (As := []) (rest := []) ⟨hx, hb, hml, hown, hts⟩ (kX8_know ad0 ad_text ad_books ad_numberA ad_numberB ad_draftTouches ad_now ad_isKept ad_near ad_seenDays ad_seenBook ad_seenIs v_trace v_typed v_draftOne v_oneTold v_at v_start v_sort v_value v_fault v_seen v_sets v_inEach v_inSome a_now N q_4 hq_5 H.size) (vcwV hts tw_415 tw_416 tw_417 tw_336 tw_414 hd_X8_know rfl rfl ⟨Nat.le_of_ble_eq_true rfl, Nat.le_of_ble_eq_true rfl⟩) (vpreV hK hN hP hD [0, 2] rfl (by decide) (ci := 8) (q0 := 0) rfl rfl) rfl rfl hl.1 rfl (lv_room (Nat.le_of_ble_eq_true rfl)) (dt uX8_puts 15 rfl) ⟨Nat.zero_le _, Nat.zero_le _⟩) hA hP hD hS rfl (by decide) rfl rfl (fun H locs hP hD hS => ?_)
      refine lv_aload_n hx hb (dt uX8_puts 16 rfl) rfl (lv_at hl 0 rfl) ?_
      refine va_get (D := (dC, dI)) (ci := 8) (v := .ref ad_now) (C := RX8) (T := TX8) (N := 24) hx hb hts inU8 hown hK hP 0 rfl rfl 14 (by decide) (hts _ tw_369) (fun _ h9 => h9) rfl (dt uX8_puts 17 rfl) ?_
      refine lv_bipush (v := (13 : Int32)) hx hb (dt uX8_puts 18 rfl) (by decide) ?_
      refine va_iald hx hb hK hP 2 0 rfl rfl (vp_in_iff.mpr (by decide)) (dt uX8_puts 19 rfl) ?_
      refine lv_istore_n (lv' := [(2, .int (q_4 (13 : Int32).toNatClampNeg)), (0, .ref ad0), (1, .int p1)]) hx hb (dt uX8_puts 20 rfl) rfl hl (by decide) rfl (fun ls hl => ?_)
      refine lv_aload_n hx hb (dt uX8_puts 21 rfl) rfl (lv_at hl 1 rfl) ?_
      refine va_get (D := (dC, dI)) (ci := 8) (v := .ref ad_now) (C := RX8) (T := TX8) (N := 24) hx hb hts inU8 hown hK hP 0 rfl rfl 14 (by decide) (hts _ tw_369) (fun _ h9 => h9) rfl (dt uX8_puts 22 rfl) ?_
      refine lv_bipush (v := (13 : Int32)) hx hb (dt uX8_puts 23 rfl) (by decide) ?_
      refine lv_iload_n hx hb (dt uX8_puts 24 rfl) rfl (lv_at hl 2 rfl) ?_
      refine va_iast hx hb hK hP hD hS 2 0 rfl rfl (vp_in_iff.mpr (by decide)) (dt uX8_puts 25 rfl) (fun H locs hP hD hS => ?_)
      have hP : va_P (dC, dI) vwCl [(ad0, oX8 v_trace ad_text v_typed ad_books ad_numberA ad_numberB ad_draftTouches v_draftOne v_oneTold v_at v_start v_sort v_value v_fault ad_now ad_isKept ad_near ad_seenDays ad_seenBook ad_seenIs v_seen v_sets v_inEach v_inSome), (ad_books, .inl (cI, 2, .inl a_books)), (ad_now, .inl (cI, 498, .inl (upd q_4 (13 : Int32).toNatClampNeg p1)))] H := hP
      have hD : va_D A [(ad0, oX8 v_trace ad_text v_typed ad_books ad_numberA ad_numberB ad_draftTouches v_draftOne v_oneTold v_at v_start v_sort v_value v_fault ad_now ad_isKept ad_near ad_seenDays ad_seenBook ad_seenIs v_seen v_sets v_inEach v_inSome), (ad_books, .inl (cI, 2, .inl a_books)), (ad_now, .inl (cI, 498, .inl (upd q_4 (13 : Int32).toNatClampNeg p1)))] := hD
      refine lv_iload_n hx hb (dt uX8_puts 26 rfl) rfl (lv_at hl 0 rfl) ?_
      have hf := Option.some.inj hf
      subst hf
      rw [hQ]
      exact vret_i C hP hD hS (dt uX8_puts 27 rfl)
    · have hf := vif_t c_3 hf
      refine lv_bipush (v := (-2 : Int32)) hx hb (dt uX8_puts 12 rfl) (by decide) ?_
      have hf := Option.some.inj hf
      subst hf
      rw [hQ]
      exact vret_i C hP hD hS (dt uX8_puts 13 rfl)
  · have hf := vif_t c_2 hf
    refine lv_iconst (v := (-1 : Int32)) hx hb (dt uX8_puts 4 rfl) (by decide) ?_
    have hf := Option.some.inj hf
    subst hf
    rw [hQ]
    exact vret_i C hP hD hS (dt uX8_puts 5 rfl)
abbrev rX8_lays : Room := { frames := 2, cells := 0, slots := 0, locals := 44 }
abbrev wX8_lays : List Cond := Cond.code yX8_lays cX8_lays 4 (some .int) :: VT
set_option maxHeartbeats 4000000 in
set_option maxRecDepth 100000 in
theorem kX8_lays (ad0 : Nat) (ad_text : Nat) (ad_books : Nat) (ad_numberA : Nat) (ad_numberB : Nat) (ad_draftTouches : Nat) (ad_now : Nat) (ad_isKept : Nat) (ad_near : Nat) (ad_seenDays : Nat) (ad_seenBook : Nat) (ad_seenIs : Nat) (v_trace : Int64) (v_typed : Int32) (v_draftOne : Int32) (v_oneTold : Int32) (v_at : Int32) (v_start : Int32) (v_sort : Int32) (v_value : Int32) (v_fault : Int32) (v_seen : Int32) (v_sets : Int32) (v_inEach : Int32) (v_inSome : Int32) (a_books : Nat → Int32) (a_now : Nat → Int32) (p1 : Int32) (p2 : Int32) (p3 : Int32) (N : Nat) (q0 : (Int32 × (Nat → Int32))) (hf : fX8_lays N a_books a_now p1 p2 p3 = some q0) : Ki l yX8_lays wX8_lays rX8_lays (dC, dI) (vTy cI cJ cB cZ) [.ref ad0, .int p1, .int p2, .int p3] [(ad0, oX8 v_trace ad_text v_typed ad_books ad_numberA ad_numberB ad_draftTouches v_draftOne v_oneTold v_at v_start v_sort v_value v_fault ad_now ad_isKept ad_near ad_seenDays ad_seenBook ad_seenIs v_seen v_sets v_inEach v_inSome), (ad_books, .inl (cI, 2, .inl a_books)), (ad_now, .inl (cI, 498, .inl a_now))] [(ad0, oX8 v_trace ad_text v_typed ad_books ad_numberA ad_numberB ad_draftTouches v_draftOne v_oneTold v_at v_start v_sort v_value v_fault ad_now ad_isKept ad_near ad_seenDays ad_seenBook ad_seenIs v_seen v_sets v_inEach v_inSome), (ad_books, .inl (cI, 2, .inl a_books)), (ad_now, .inl (cI, 498, .inl q0.2))] q0.1 := by
  refine Ki.mk (cc := cX8_lays) (maxL := 4) (ret := some .int) (by decide) (Nat.le_of_ble_eq_true rfl) ?_
  intro p e s m args below meth c A Q H locs C hQ hP hD hS ls hl
  obtain ⟨hx, hb, -, hml, hts, hown, -, hK, hN, hA⟩ := id C
  have hown : s.vm.findClass RX8 = some m.cls := hown
  have hl : lv_has ls 4 [(0, .ref ad0), (1, .int p1), (2, .int p2), (3, .int p3)] := hl
  unfold fX8_lays at hf
  refine lv_aload_n hx hb (dt uX8_lays_0 0 rfl) rfl (lv_at hl 0 rfl) ?_
  refine lv_iload_n hx hb (dt uX8_lays_0 1 rfl) rfl (lv_at hl 1 rfl) ?_
  refine vk_z0 [0, 1] (va_runV (As := [.int p1]) (rest := []) ⟨hx, hb, hml, hown, hts⟩ (kX8_isBook ad0 ad_text ad_books ad_numberA ad_numberB ad_draftTouches ad_now ad_isKept ad_near ad_seenDays ad_seenBook ad_seenIs v_trace v_typed v_draftOne v_oneTold v_at v_start v_sort v_value v_fault v_seen v_sets v_inEach v_inSome a_books p1 _ rfl H.size) (vcwV hts tw_403 tw_404 tw_405 tw_336 tw_402 hd_X8_isBook rfl rfl ⟨Nat.le_of_ble_eq_true rfl, Nat.le_of_ble_eq_true rfl⟩) (vpreV hK hN hP hD [0, 1] rfl (by decide) (ci := 8) (q0 := 0) rfl rfl) rfl rfl hl.1 rfl (lv_room (Nat.le_of_ble_eq_true rfl)) (dt uX8_lays_0 2 rfl) ⟨Nat.zero_le _, Nat.zero_le _⟩) hA hP hD hS rfl (by decide) (fun hz_1 H locs hP hD hS => ?_)
  refine lv_if_eq (tgt := 30) hx hb (dt uX8_lays_0 3 rfl) (by decide) (fun c_2 => ?_) (fun c_2 => ?_)
  · have hf := vif_t c_2 hf
    refine lv_iconst (v := (-1 : Int32)) hx hb (dt uX8_lays_0 16 rfl) (by decide) ?_
    have hf := Option.some.inj hf
    subst hf
    rw [hQ]
    exact vret_i C hP hD hS (dt uX8_lays_0 17 rfl)
  · have hf := vif_f c_2 hf
    refine lv_aload_n hx hb (dt uX8_lays_0 4 rfl) rfl (lv_at hl 0 rfl) ?_
    refine lv_iload_n hx hb (dt uX8_lays_0 5 rfl) rfl (lv_at hl 2 rfl) ?_
    refine vk_z0 [0, 1] (va_runV (As := [.int p2]) (rest := []) ⟨hx, hb, hml, hown, hts⟩ (kX8_isBook ad0 ad_text ad_books ad_numberA ad_numberB ad_draftTouches ad_now ad_isKept ad_near ad_seenDays ad_seenBook ad_seenIs v_trace v_typed v_draftOne v_oneTold v_at v_start v_sort v_value v_fault v_seen v_sets v_inEach v_inSome a_books p2 _ rfl H.size) (vcwV hts tw_403 tw_404 tw_405 tw_336 tw_402 hd_X8_isBook rfl rfl ⟨Nat.le_of_ble_eq_true rfl, Nat.le_of_ble_eq_true rfl⟩) (vpreV hK hN hP hD [0, 1] rfl (by decide) (ci := 8) (q0 := 0) rfl rfl) rfl rfl hl.1 rfl (lv_room (Nat.le_of_ble_eq_true rfl)) (dt uX8_lays_0 6 rfl) ⟨Nat.zero_le _, Nat.zero_le _⟩) hA hP hD hS rfl (by decide) (fun hz_3 H locs hP hD hS => ?_)
    refine lv_if_eq (tgt := 30) hx hb (dt uX8_lays_0 7 rfl) (by decide) (fun c_4 => ?_) (fun c_4 => ?_)
    · have hf := vif_t c_4 hf
      refine lv_iconst (v := (-1 : Int32)) hx hb (dt uX8_lays_0 16 rfl) (by decide) ?_
      have hf := Option.some.inj hf
      subst hf
      rw [hQ]
      exact vret_i C hP hD hS (dt uX8_lays_0 17 rfl)
    · have hf := vif_f c_4 hf
      refine lv_iload_n hx hb (dt uX8_lays_0 8 rfl) rfl (lv_at hl 1 rfl) ?_
      refine lv_iload_n hx hb (dt uX8_lays_0 9 rfl) rfl (lv_at hl 2 rfl) ?_
      refine lv_icmp_eq (tgt := 30) hx hb (dt uX8_lays_0 10 rfl) (by decide) (fun c_5 => ?_) (fun c_5 => ?_)
      · have hf := vif_t c_5 hf
        refine lv_iconst (v := (-1 : Int32)) hx hb (dt uX8_lays_0 16 rfl) (by decide) ?_
        have hf := Option.some.inj hf
        subst hf
        rw [hQ]
        exact vret_i C hP hD hS (dt uX8_lays_0 17 rfl)
      · have hf := vif_f c_5 hf
        refine lv_iload_n hx hb (dt uX8_lays_0 11 rfl) rfl (lv_at hl 3 rfl) ?_
        refine lv_iconst (v := (0 : Int32)) hx hb (dt uX8_lays_0 12 rfl) (by decide) ?_
        refine lv_iconst (v := (1 : Int32)) hx hb (dt uX8_lays_0 13 rfl) (by decide) ?_
        refine vk_z0 [] (va_runS (As := [.int p3, .int (0 : Int32), .int (1 : Int32)]) (rest := []) ⟨hx, hb, hml, hown, hts⟩ (kX8_in p3 (0 : Int32) (1 : Int32) _ rfl H.size) (vcwS hts tw_338 tw_339 tw_336 tw_337 hd_X8_in rfl rfl ⟨Nat.le_of_ble_eq_true rfl, Nat.le_of_ble_eq_true rfl⟩) (vpreS hK hN hP hD [] rfl (by decide)) rfl rfl hl.1 rfl (lv_room (Nat.le_of_ble_eq_true rfl)) (dt uX8_lays_0 14 rfl) ⟨Nat.zero_le _, Nat.zero_le _⟩) hA hP hD hS rfl (by decide) (fun hz_6 H locs hP hD hS => ?_)
        refine lv_if_ne (tgt := 32) hx hb (dt uX8_lays_0 15 rfl) (by decide) (fun c_7 => ?_) (fun c_7 => ?_)
        · have hf := vif_f c_7 hf
          refine lv_aload_n hx hb (dt uX8_lays_0 18 rfl) rfl (lv_at hl 0 rfl) ?_
          refine va_get (D := (dC, dI)) (ci := 8) (v := .ref ad_now) (C := RX8) (T := TX8) (N := 24) hx hb hts inU8 hown hK hP 0 rfl rfl 14 (by decide) (hts _ tw_369) (fun _ h9 => h9) rfl (dt uX8_lays_0 19 rfl) ?_
          refine lv_bipush (v := (6 : Int32)) hx hb (dt uX8_lays_0 20 rfl) (by decide) ?_
          refine lv_iload_n hx hb (dt uX8_lays_0 21 rfl) rfl (lv_at hl 1 rfl) ?_
          refine lv_iadd hx hb (dt uX8_lays_0 22 rfl) ?_
          obtain ⟨hi_8, hf⟩ := vg_some hf
          refine va_iald hx hb hK hP 2 0 rfl rfl hi_8 (dt uX8_lays_0 23 rfl) ?_
          refine lv_iload_n hx hb (dt uX8_lays_0 24 rfl) rfl (lv_at hl 2 rfl) ?_
          refine lv_ishr hx hb (dt uX8_lays_0 25 rfl) ?_
          refine lv_iconst (v := (1 : Int32)) hx hb (dt uX8_lays_0 26 rfl) (by decide) ?_
          refine lv_iand hx hb (dt uX8_lays_0 27 rfl) ?_
          refine lv_iload_n hx hb (dt uX8_lays_0 28 rfl) rfl (lv_at hl 3 rfl) ?_
          refine lv_icmp_ne (tgt := 52) hx hb (dt uX8_lays_0 29 rfl) (by decide) (fun c_9 => ?_) (fun c_9 => ?_)
          · have hf := vif_f c_9 hf
            refine lv_aload_n hx hb (dt uX8_lays_0 32 rfl) rfl (lv_at hl 0 rfl) ?_
            obtain ⟨q_10, hq_11, hf⟩ := vbd hf
            refine vk_v [0, 2] (ws2 := [(ad0, oX8 v_trace ad_text v_typed ad_books ad_numberA ad_numberB ad_draftTouches v_draftOne v_oneTold v_at v_start v_sort v_value v_fault ad_now ad_isKept ad_near ad_seenDays ad_seenBook ad_seenIs v_seen v_sets v_inEach v_inSome), (ad_books, .inl (cI, 2, .inl a_books)), (ad_now, .inl (cI, 498, .inl q_10))]) (va_runV (As := []) (rest := []) ⟨hx, hb, hml, hown, hts⟩ (kX8_know ad0 ad_text ad_books ad_numberA ad_numberB ad_draftTouches ad_now ad_isKept ad_near ad_seenDays ad_seenBook ad_seenIs v_trace v_typed v_draftOne v_oneTold v_at v_start v_sort v_value v_fault v_seen v_sets v_inEach v_inSome a_now N q_10 hq_11 H.size) (vcwV hts tw_415 tw_416 tw_417 tw_336 tw_414 hd_X8_know rfl rfl ⟨Nat.le_of_ble_eq_true rfl, Nat.le_of_ble_eq_true rfl⟩) (vpreV hK hN hP hD [0, 2] rfl (by decide) (ci := 8) (q0 := 0) rfl rfl) rfl rfl hl.1 rfl (lv_room (Nat.le_of_ble_eq_true rfl)) (dt uX8_lays_0 33 rfl) ⟨Nat.zero_le _, Nat.zero_le _⟩) hA hP hD hS rfl (by decide) rfl rfl (fun H locs hP hD hS => ?_)
            refine lv_aload_n hx hb (dt uX8_lays_0 34 rfl) rfl (lv_at hl 0 rfl) ?_
            refine va_get (D := (dC, dI)) (ci := 8) (v := .ref ad_now) (C := RX8) (T := TX8) (N := 24) hx hb hts inU8 hown hK hP 0 rfl rfl 14 (by decide) (hts _ tw_369) (fun _ h9 => h9) rfl (dt uX8_lays_0 35 rfl) ?_
            refine lv_bipush (v := (6 : Int32)) hx hb (dt uX8_lays_0 36 rfl) (by decide) ?_
            refine lv_iload_n hx hb (dt uX8_lays_0 37 rfl) rfl (lv_at hl 1 rfl) ?_
            refine lv_iadd hx hb (dt uX8_lays_0 38 rfl) ?_
            refine lv_dup2_11 hx hb (dt uX8_lays_0 39 rfl) rfl rfl ?_
            obtain ⟨hi_12, hf⟩ := vg_some hf
            refine va_iald hx hb hK hP 2 0 rfl rfl hi_12 (dt uX8_lays_0 40 rfl) ?_
            refine lv_iconst (v := (1 : Int32)) hx hb (dt uX8_lays_0 41 rfl) (by decide) ?_
            refine lv_iload_n hx hb (dt uX8_lays_0 42 rfl) rfl (lv_at hl 2 rfl) ?_
            refine lv_ishl hx hb (dt uX8_lays_0 43 rfl) ?_
            refine lv_ixor hx hb (dt uX8_lays_0 44 rfl) ?_
            obtain ⟨hi_13, hf⟩ := vg_some hf
            refine va_iast hx hb hK hP hD hS 2 0 rfl rfl hi_13 (dt uX8_lays_0 45 rfl) (fun H locs hP hD hS => ?_)
            have hP : va_P (dC, dI) vwCl [(ad0, oX8 v_trace ad_text v_typed ad_books ad_numberA ad_numberB ad_draftTouches v_draftOne v_oneTold v_at v_start v_sort v_value v_fault ad_now ad_isKept ad_near ad_seenDays ad_seenBook ad_seenIs v_seen v_sets v_inEach v_inSome), (ad_books, .inl (cI, 2, .inl a_books)), (ad_now, .inl (cI, 498, .inl (upd q_10 ((6 : Int32) + p1).toNatClampNeg ((q_10 ((6 : Int32) + p1).toNatClampNeg) ^^^ ((1 : Int32) <<< (p2 &&& 31))))))] H := hP
            have hD : va_D A [(ad0, oX8 v_trace ad_text v_typed ad_books ad_numberA ad_numberB ad_draftTouches v_draftOne v_oneTold v_at v_start v_sort v_value v_fault ad_now ad_isKept ad_near ad_seenDays ad_seenBook ad_seenIs v_seen v_sets v_inEach v_inSome), (ad_books, .inl (cI, 2, .inl a_books)), (ad_now, .inl (cI, 498, .inl (upd q_10 ((6 : Int32) + p1).toNatClampNeg ((q_10 ((6 : Int32) + p1).toNatClampNeg) ^^^ ((1 : Int32) <<< (p2 &&& 31))))))] := hD
            refine lv_aload_n hx hb (dt uX8_lays_0 46 rfl) rfl (lv_at hl 0 rfl) ?_
            refine va_get (D := (dC, dI)) (ci := 8) (v := .ref ad_now) (C := RX8) (T := TX8) (N := 24) hx hb hts inU8 hown hK hP 0 rfl rfl 14 (by decide) (hts _ tw_369) (fun _ h9 => h9) rfl (dt uX8_lays_0 47 rfl) ?_
            refine lv_bipush (v := (6 : Int32)) hx hb (dt uX8_lays_0 48 rfl) (by decide) ?_
            refine lv_iload_n hx hb (dt uX8_lays_0 49 rfl) rfl (lv_at hl 2 rfl) ?_
            refine lv_iadd hx hb (dt uX8_lays_0 50 rfl) ?_
            refine lv_dup2_11 hx hb (dt uX8_lays_0 51 rfl) rfl rfl ?_
            obtain ⟨hi_14, hf⟩ := vg_some hf
            refine va_iald hx hb hK hP 2 0 rfl rfl hi_14 (dt uX8_lays_0 52 rfl) ?_
            refine lv_iconst (v := (1 : Int32)) hx hb (dt uX8_lays_0 53 rfl) (by decide) ?_
            refine lv_iload_n hx hb (dt uX8_lays_0 54 rfl) rfl (lv_at hl 1 rfl) ?_
            refine lv_ishl hx hb (dt uX8_lays_0 55 rfl) ?_
            refine lv_ixor hx hb (dt uX8_lays_0 56 rfl) ?_
            obtain ⟨hi_15, hf⟩ := vg_some hf
            refine va_iast hx hb hK hP hD hS 2 0 rfl rfl hi_15 (dt uX8_lays_0 57 rfl) (fun H locs hP hD hS => ?_)
            have hP : va_P (dC, dI) vwCl [(ad0, oX8 v_trace ad_text v_typed ad_books ad_numberA ad_numberB ad_draftTouches v_draftOne v_oneTold v_at v_start v_sort v_value v_fault ad_now ad_isKept ad_near ad_seenDays ad_seenBook ad_seenIs v_seen v_sets v_inEach v_inSome), (ad_books, .inl (cI, 2, .inl a_books)), (ad_now, .inl (cI, 498, .inl (upd (upd q_10 ((6 : Int32) + p1).toNatClampNeg ((q_10 ((6 : Int32) + p1).toNatClampNeg) ^^^ ((1 : Int32) <<< (p2 &&& 31)))) ((6 : Int32) + p2).toNatClampNeg (((upd q_10 ((6 : Int32) + p1).toNatClampNeg ((q_10 ((6 : Int32) + p1).toNatClampNeg) ^^^ ((1 : Int32) <<< (p2 &&& 31)))) ((6 : Int32) + p2).toNatClampNeg) ^^^ ((1 : Int32) <<< (p1 &&& 31))))))] H := hP
            have hD : va_D A [(ad0, oX8 v_trace ad_text v_typed ad_books ad_numberA ad_numberB ad_draftTouches v_draftOne v_oneTold v_at v_start v_sort v_value v_fault ad_now ad_isKept ad_near ad_seenDays ad_seenBook ad_seenIs v_seen v_sets v_inEach v_inSome), (ad_books, .inl (cI, 2, .inl a_books)), (ad_now, .inl (cI, 498, .inl (upd (upd q_10 ((6 : Int32) + p1).toNatClampNeg ((q_10 ((6 : Int32) + p1).toNatClampNeg) ^^^ ((1 : Int32) <<< (p2 &&& 31)))) ((6 : Int32) + p2).toNatClampNeg (((upd q_10 ((6 : Int32) + p1).toNatClampNeg ((q_10 ((6 : Int32) + p1).toNatClampNeg) ^^^ ((1 : Int32) <<< (p2 &&& 31)))) ((6 : Int32) + p2).toNatClampNeg) ^^^ ((1 : Int32) <<< (p1 &&& 31))))))] := hD
            refine lv_aload_n hx hb (dt uX8_lays_0 58 rfl) rfl (lv_at hl 0 rfl) ?_
            obtain ⟨q_16, hq_17, hf⟩ := vbd hf
            refine vk_i0 [0, 2] (va_runV (As := []) (rest := []) ⟨hx, hb, hml, hown, hts⟩ (kX8_touches ad0 ad_text ad_books ad_numberA ad_numberB ad_draftTouches ad_now ad_isKept ad_near ad_seenDays ad_seenBook ad_seenIs v_trace v_typed v_draftOne v_oneTold v_at v_start v_sort v_value v_fault v_seen v_sets v_inEach v_inSome (upd (upd q_10 ((6 : Int32) + p1).toNatClampNeg ((q_10 ((6 : Int32) + p1).toNatClampNeg) ^^^ ((1 : Int32) <<< (p2 &&& 31)))) ((6 : Int32) + p2).toNatClampNeg (((upd q_10 ((6 : Int32) + p1).toNatClampNeg ((q_10 ((6 : Int32) + p1).toNatClampNeg) ^^^ ((1 : Int32) <<< (p2 &&& 31)))) ((6 : Int32) + p2).toNatClampNeg) ^^^ ((1 : Int32) <<< (p1 &&& 31)))) N q_16 hq_17 H.size) (vcwV hts tw_419 tw_420 tw_421 tw_336 tw_418 hd_X8_touches rfl rfl ⟨Nat.le_of_ble_eq_true rfl, Nat.le_of_ble_eq_true rfl⟩) (vpreV hK hN hP hD [0, 2] rfl (by decide) (ci := 8) (q0 := 0) rfl rfl) rfl rfl hl.1 rfl (lv_room (Nat.le_of_ble_eq_true rfl)) (dt uX8_lays_0 59 rfl) ⟨Nat.zero_le _, Nat.zero_le _⟩) hA hP hD hS rfl (by decide) (fun H locs hP hD hS => ?_)
            have hf := Option.some.inj hf
            subst hf
            rw [hQ]
            exact vret_i C hP hD hS (dt uX8_lays_1 0 rfl)
          · have hf := vif_t c_9 hf
            refine lv_bipush (v := (-2 : Int32)) hx hb (dt uX8_lays_0 30 rfl) (by decide) ?_
            have hf := Option.some.inj hf
            subst hf
            rw [hQ]
            exact vret_i C hP hD hS (dt uX8_lays_0 31 rfl)
        · have hf := vif_t c_7 hf
          refine lv_iconst (v := (-1 : Int32)) hx hb (dt uX8_lays_0 16 rfl) (by decide) ?_
          have hf := Option.some.inj hf
          subst hf
          rw [hQ]
          exact vret_i C hP hD hS (dt uX8_lays_0 17 rfl)
abbrev rX8_traps : Room := { frames := 2, cells := 0, slots := 0, locals := 43 }
abbrev wX8_traps : List Cond := Cond.code yX8_traps cX8_traps 3 (some .int) :: VT
set_option maxHeartbeats 4000000 in
set_option maxRecDepth 100000 in
theorem kX8_traps (ad0 : Nat) (ad_text : Nat) (ad_books : Nat) (ad_numberA : Nat) (ad_numberB : Nat) (ad_draftTouches : Nat) (ad_now : Nat) (ad_isKept : Nat) (ad_near : Nat) (ad_seenDays : Nat) (ad_seenBook : Nat) (ad_seenIs : Nat) (v_trace : Int64) (v_typed : Int32) (v_draftOne : Int32) (v_oneTold : Int32) (v_at : Int32) (v_start : Int32) (v_sort : Int32) (v_value : Int32) (v_fault : Int32) (v_seen : Int32) (v_sets : Int32) (v_inEach : Int32) (v_inSome : Int32) (a_books : Nat → Int32) (a_now : Nat → Int32) (p1 : Int32) (p2 : Int32) (N : Nat) (q0 : (Int32 × (Nat → Int32))) (hf : fX8_traps N a_books a_now p1 p2 = some q0) : Ki l yX8_traps wX8_traps rX8_traps (dC, dI) (vTy cI cJ cB cZ) [.ref ad0, .int p1, .int p2] [(ad0, oX8 v_trace ad_text v_typed ad_books ad_numberA ad_numberB ad_draftTouches v_draftOne v_oneTold v_at v_start v_sort v_value v_fault ad_now ad_isKept ad_near ad_seenDays ad_seenBook ad_seenIs v_seen v_sets v_inEach v_inSome), (ad_books, .inl (cI, 2, .inl a_books)), (ad_now, .inl (cI, 498, .inl a_now))] [(ad0, oX8 v_trace ad_text v_typed ad_books ad_numberA ad_numberB ad_draftTouches v_draftOne v_oneTold v_at v_start v_sort v_value v_fault ad_now ad_isKept ad_near ad_seenDays ad_seenBook ad_seenIs v_seen v_sets v_inEach v_inSome), (ad_books, .inl (cI, 2, .inl a_books)), (ad_now, .inl (cI, 498, .inl q0.2))] q0.1 := by
  refine Ki.mk (cc := cX8_traps) (maxL := 3) (ret := some .int) (by decide) (Nat.le_of_ble_eq_true rfl) ?_
  intro p e s m args below meth c A Q H locs C hQ hP hD hS ls hl
  obtain ⟨hx, hb, -, hml, hts, hown, -, hK, hN, hA⟩ := id C
  have hown : s.vm.findClass RX8 = some m.cls := hown
  have hl : lv_has ls 3 [(0, .ref ad0), (1, .int p1), (2, .int p2)] := hl
  unfold fX8_traps at hf
  refine lv_aload_n hx hb (dt uX8_traps 0 rfl) rfl (lv_at hl 0 rfl) ?_
  refine lv_iload_n hx hb (dt uX8_traps 1 rfl) rfl (lv_at hl 1 rfl) ?_
  refine vk_z0 [0, 1] (va_runV (As := [.int p1]) (rest := []) ⟨hx, hb, hml, hown, hts⟩ (kX8_isBook ad0 ad_text ad_books ad_numberA ad_numberB ad_draftTouches ad_now ad_isKept ad_near ad_seenDays ad_seenBook ad_seenIs v_trace v_typed v_draftOne v_oneTold v_at v_start v_sort v_value v_fault v_seen v_sets v_inEach v_inSome a_books p1 _ rfl H.size) (vcwV hts tw_403 tw_404 tw_405 tw_336 tw_402 hd_X8_isBook rfl rfl ⟨Nat.le_of_ble_eq_true rfl, Nat.le_of_ble_eq_true rfl⟩) (vpreV hK hN hP hD [0, 1] rfl (by decide) (ci := 8) (q0 := 0) rfl rfl) rfl rfl hl.1 rfl (lv_room (Nat.le_of_ble_eq_true rfl)) (dt uX8_traps 2 rfl) ⟨Nat.zero_le _, Nat.zero_le _⟩) hA hP hD hS rfl (by decide) (fun hz_1 H locs hP hD hS => ?_)
  refine lv_if_eq (tgt := 17) hx hb (dt uX8_traps 3 rfl) (by decide) (fun c_2 => ?_) (fun c_2 => ?_)
  · have hf := vif_t c_2 hf
    refine lv_iconst (v := (-1 : Int32)) hx hb (dt uX8_traps 9 rfl) (by decide) ?_
    have hf := Option.some.inj hf
    subst hf
    rw [hQ]
    exact vret_i C hP hD hS (dt uX8_traps 10 rfl)
  · have hf := vif_f c_2 hf
    refine lv_iload_n hx hb (dt uX8_traps 4 rfl) rfl (lv_at hl 2 rfl) ?_
    refine lv_iconst (v := (0 : Int32)) hx hb (dt uX8_traps 5 rfl) (by decide) ?_
    refine lv_iconst (v := (1 : Int32)) hx hb (dt uX8_traps 6 rfl) (by decide) ?_
    refine vk_z0 [] (va_runS (As := [.int p2, .int (0 : Int32), .int (1 : Int32)]) (rest := []) ⟨hx, hb, hml, hown, hts⟩ (kX8_in p2 (0 : Int32) (1 : Int32) _ rfl H.size) (vcwS hts tw_338 tw_339 tw_336 tw_337 hd_X8_in rfl rfl ⟨Nat.le_of_ble_eq_true rfl, Nat.le_of_ble_eq_true rfl⟩) (vpreS hK hN hP hD [] rfl (by decide)) rfl rfl hl.1 rfl (lv_room (Nat.le_of_ble_eq_true rfl)) (dt uX8_traps 7 rfl) ⟨Nat.zero_le _, Nat.zero_le _⟩) hA hP hD hS rfl (by decide) (fun hz_3 H locs hP hD hS => ?_)
    refine lv_if_ne (tgt := 19) hx hb (dt uX8_traps 8 rfl) (by decide) (fun c_4 => ?_) (fun c_4 => ?_)
    · have hf := vif_f c_4 hf
      refine lv_aload_n hx hb (dt uX8_traps 11 rfl) rfl (lv_at hl 0 rfl) ?_
      refine va_get (D := (dC, dI)) (ci := 8) (v := .ref ad_now) (C := RX8) (T := TX8) (N := 24) hx hb hts inU8 hown hK hP 0 rfl rfl 14 (by decide) (hts _ tw_369) (fun _ h9 => h9) rfl (dt uX8_traps 12 rfl) ?_
      refine lv_bipush (v := (12 : Int32)) hx hb (dt uX8_traps 13 rfl) (by decide) ?_
      refine va_iald hx hb hK hP 2 0 rfl rfl (vp_in_iff.mpr (by decide)) (dt uX8_traps 14 rfl) ?_
      refine lv_iload_n hx hb (dt uX8_traps 15 rfl) rfl (lv_at hl 1 rfl) ?_
      refine lv_ishr hx hb (dt uX8_traps 16 rfl) ?_
      refine lv_iconst (v := (1 : Int32)) hx hb (dt uX8_traps 17 rfl) (by decide) ?_
      refine lv_iand hx hb (dt uX8_traps 18 rfl) ?_
      refine lv_iload_n hx hb (dt uX8_traps 19 rfl) rfl (lv_at hl 2 rfl) ?_
      refine lv_icmp_ne (tgt := 37) hx hb (dt uX8_traps 20 rfl) (by decide) (fun c_5 => ?_) (fun c_5 => ?_)
      · have hf := vif_f c_5 hf
        refine lv_aload_n hx hb (dt uX8_traps 23 rfl) rfl (lv_at hl 0 rfl) ?_
        obtain ⟨q_6, hq_7, hf⟩ := vbd hf
        refine vk_v [0, 2] (ws2 := [(ad0, oX8 v_trace ad_text v_typed ad_books ad_numberA ad_numberB ad_draftTouches v_draftOne v_oneTold v_at v_start v_sort v_value v_fault ad_now ad_isKept ad_near ad_seenDays ad_seenBook ad_seenIs v_seen v_sets v_inEach v_inSome), (ad_books, .inl (cI, 2, .inl a_books)), (ad_now, .inl (cI, 498, .inl q_6))]) (va_runV (As := []) (rest := []) ⟨hx, hb, hml, hown, hts⟩ (kX8_know ad0 ad_text ad_books ad_numberA ad_numberB ad_draftTouches ad_now ad_isKept ad_near ad_seenDays ad_seenBook ad_seenIs v_trace v_typed v_draftOne v_oneTold v_at v_start v_sort v_value v_fault v_seen v_sets v_inEach v_inSome a_now N q_6 hq_7 H.size) (vcwV hts tw_415 tw_416 tw_417 tw_336 tw_414 hd_X8_know rfl rfl ⟨Nat.le_of_ble_eq_true rfl, Nat.le_of_ble_eq_true rfl⟩) (vpreV hK hN hP hD [0, 2] rfl (by decide) (ci := 8) (q0 := 0) rfl rfl) rfl rfl hl.1 rfl (lv_room (Nat.le_of_ble_eq_true rfl)) (dt uX8_traps 24 rfl) ⟨Nat.zero_le _, Nat.zero_le _⟩) hA hP hD hS rfl (by decide) rfl rfl (fun H locs hP hD hS => ?_)
        refine lv_aload_n hx hb (dt uX8_traps 25 rfl) rfl (lv_at hl 0 rfl) ?_
        refine va_get (D := (dC, dI)) (ci := 8) (v := .ref ad_now) (C := RX8) (T := TX8) (N := 24) hx hb hts inU8 hown hK hP 0 rfl rfl 14 (by decide) (hts _ tw_369) (fun _ h9 => h9) rfl (dt uX8_traps 26 rfl) ?_
        refine lv_bipush (v := (12 : Int32)) hx hb (dt uX8_traps 27 rfl) (by decide) ?_
        refine lv_dup2_11 hx hb (dt uX8_traps 28 rfl) rfl rfl ?_
        refine va_iald hx hb hK hP 2 0 rfl rfl (vp_in_iff.mpr (by decide)) (dt uX8_traps 29 rfl) ?_
        refine lv_iconst (v := (1 : Int32)) hx hb (dt uX8_traps 30 rfl) (by decide) ?_
        refine lv_iload_n hx hb (dt uX8_traps 31 rfl) rfl (lv_at hl 1 rfl) ?_
        refine lv_ishl hx hb (dt uX8_traps 32 rfl) ?_
        refine lv_ixor hx hb (dt uX8_traps 33 rfl) ?_
        refine va_iast hx hb hK hP hD hS 2 0 rfl rfl (vp_in_iff.mpr (by decide)) (dt uX8_traps 34 rfl) (fun H locs hP hD hS => ?_)
        have hP : va_P (dC, dI) vwCl [(ad0, oX8 v_trace ad_text v_typed ad_books ad_numberA ad_numberB ad_draftTouches v_draftOne v_oneTold v_at v_start v_sort v_value v_fault ad_now ad_isKept ad_near ad_seenDays ad_seenBook ad_seenIs v_seen v_sets v_inEach v_inSome), (ad_books, .inl (cI, 2, .inl a_books)), (ad_now, .inl (cI, 498, .inl (upd q_6 (12 : Int32).toNatClampNeg ((q_6 (12 : Int32).toNatClampNeg) ^^^ ((1 : Int32) <<< (p1 &&& 31))))))] H := hP
        have hD : va_D A [(ad0, oX8 v_trace ad_text v_typed ad_books ad_numberA ad_numberB ad_draftTouches v_draftOne v_oneTold v_at v_start v_sort v_value v_fault ad_now ad_isKept ad_near ad_seenDays ad_seenBook ad_seenIs v_seen v_sets v_inEach v_inSome), (ad_books, .inl (cI, 2, .inl a_books)), (ad_now, .inl (cI, 498, .inl (upd q_6 (12 : Int32).toNatClampNeg ((q_6 (12 : Int32).toNatClampNeg) ^^^ ((1 : Int32) <<< (p1 &&& 31))))))] := hD
        refine lv_aload_n hx hb (dt uX8_traps 35 rfl) rfl (lv_at hl 0 rfl) ?_
        refine va_get (D := (dC, dI)) (ci := 8) (v := .ref ad_now) (C := RX8) (T := TX8) (N := 24) hx hb hts inU8 hown hK hP 0 rfl rfl 14 (by decide) (hts _ tw_369) (fun _ h9 => h9) rfl (dt uX8_traps 36 rfl) ?_
        refine lv_bipush (v := (12 : Int32)) hx hb (dt uX8_traps 37 rfl) (by decide) ?_
        refine va_iald hx hb hK hP 2 0 rfl rfl (vp_in_iff.mpr (by decide)) (dt uX8_traps 38 rfl) ?_
        obtain ⟨q_8, hq_9, hf⟩ := vbd hf
        refine vk_i0 [] (va_runS (As := [.int ((upd q_6 (12 : Int32).toNatClampNeg ((q_6 (12 : Int32).toNatClampNeg) ^^^ ((1 : Int32) <<< (p1 &&& 31)))) (12 : Int32).toNatClampNeg)]) (rest := []) ⟨hx, hb, hml, hown, hts⟩ (kX8_manyOf ((upd q_6 (12 : Int32).toNatClampNeg ((q_6 (12 : Int32).toNatClampNeg) ^^^ ((1 : Int32) <<< (p1 &&& 31)))) (12 : Int32).toNatClampNeg) N q_8 hq_9 H.size) (vcwS hts tw_400 tw_401 tw_336 tw_399 hd_X8_manyOf rfl rfl ⟨Nat.le_of_ble_eq_true rfl, Nat.le_of_ble_eq_true rfl⟩) (vpreS hK hN hP hD [] rfl (by decide)) rfl rfl hl.1 rfl (lv_room (Nat.le_of_ble_eq_true rfl)) (dt uX8_traps 39 rfl) ⟨Nat.zero_le _, Nat.zero_le _⟩) hA hP hD hS rfl (by decide) (fun H locs hP hD hS => ?_)
        have hf := Option.some.inj hf
        subst hf
        rw [hQ]
        exact vret_i C hP hD hS (dt uX8_traps 40 rfl)
      · have hf := vif_t c_5 hf
        refine lv_bipush (v := (-2 : Int32)) hx hb (dt uX8_traps 21 rfl) (by decide) ?_
        have hf := Option.some.inj hf
        subst hf
        rw [hQ]
        exact vret_i C hP hD hS (dt uX8_traps 22 rfl)
    · have hf := vif_t c_4 hf
      refine lv_iconst (v := (-1 : Int32)) hx hb (dt uX8_traps 9 rfl) (by decide) ?_
      have hf := Option.some.inj hf
      subst hf
      rw [hQ]
      exact vret_i C hP hD hS (dt uX8_traps 10 rfl)
abbrev rX8_takeNear : Room := { frames := 0, cells := 0, slots := 0, locals := 0 }
abbrev wX8_takeNear : List Cond := Cond.code yX8_takeNear cX8_takeNear 2 none :: VT
set_option maxHeartbeats 4000000 in
set_option maxRecDepth 100000 in
theorem kX8_takeNear (ad0 : Nat) (ad_text : Nat) (ad_books : Nat) (ad_numberA : Nat) (ad_numberB : Nat) (ad_draftTouches : Nat) (ad_now : Nat) (ad_isKept : Nat) (ad_near : Nat) (ad_seenDays : Nat) (ad_seenBook : Nat) (ad_seenIs : Nat) (v_trace : Int64) (v_typed : Int32) (v_draftOne : Int32) (v_oneTold : Int32) (v_at : Int32) (v_start : Int32) (v_sort : Int32) (v_value : Int32) (v_fault : Int32) (v_seen : Int32) (v_sets : Int32) (v_inEach : Int32) (v_inSome : Int32) (a_now : Nat → Int32) (a_near : Nat → Int32) (N : Nat) (q0 : (Nat → Int32)) (hf : fX8_takeNear N a_now a_near = some q0) : Kv l yX8_takeNear wX8_takeNear rX8_takeNear (dC, dI) (vTy cI cJ cB cZ) [.ref ad0] [(ad0, oX8 v_trace ad_text v_typed ad_books ad_numberA ad_numberB ad_draftTouches v_draftOne v_oneTold v_at v_start v_sort v_value v_fault ad_now ad_isKept ad_near ad_seenDays ad_seenBook ad_seenIs v_seen v_sets v_inEach v_inSome), (ad_now, .inl (cI, 498, .inl a_now)), (ad_near, .inl (cI, 6, .inl a_near))] [(ad0, oX8 v_trace ad_text v_typed ad_books ad_numberA ad_numberB ad_draftTouches v_draftOne v_oneTold v_at v_start v_sort v_value v_fault ad_now ad_isKept ad_near ad_seenDays ad_seenBook ad_seenIs v_seen v_sets v_inEach v_inSome), (ad_now, .inl (cI, 498, .inl a_now)), (ad_near, .inl (cI, 6, .inl q0))] := by
  refine Kv.mk (cc := cX8_takeNear) (maxL := 2) (ret := none) (by decide) (Nat.le_of_ble_eq_true rfl) ?_
  intro p e s m args below meth c A Q H locs C hQ hP hD hS ls hl
  obtain ⟨hx, hb, -, hml, hts, hown, -, hK, hN, hA⟩ := id C
  have hown : s.vm.findClass RX8 = some m.cls := hown
  have hl : lv_has ls 2 [(0, .ref ad0)] := hl
  unfold fX8_takeNear at hf
  refine lv_iconst (v := (0 : Int32)) hx hb (dt uX8_takeNear 0 rfl) (by decide) ?_
  refine lv_istore_n (lv' := [(1, .int (0 : Int32)), (0, .ref ad0)]) hx hb (dt uX8_takeNear 1 rfl) rfl hl (by decide) rfl (fun ls hl => ?_)
  have hL2 : ∀ (n2 : Nat), ∀ (x1_1 : Int32) (w_2 : Nat → Int32) (H : Heap) (locs : List Loc) (ls : Array Slot), fX8_takeNear_L2 a_now n2 x1_1 w_2 = some q0 → va_P (dC, dI) vwCl [(ad0, oX8 v_trace ad_text v_typed ad_books ad_numberA ad_numberB ad_draftTouches v_draftOne v_oneTold v_at v_start v_sort v_value v_fault ad_now ad_isKept ad_near ad_seenDays ad_seenBook ad_seenIs v_seen v_sets v_inEach v_inSome), (ad_now, .inl (cI, 498, .inl a_now)), (ad_near, .inl (cI, 6, .inl w_2))] H → va_D A [(ad0, oX8 v_trace ad_text v_typed ad_books ad_numberA ad_numberB ad_draftTouches v_draftOne v_oneTold v_at v_start v_sort v_value v_fault ad_now ad_isKept ad_near ad_seenDays ad_seenBook ad_seenIs v_seen v_sets v_inEach v_inSome), (ad_now, .inl (cI, 498, .inl a_now)), (ad_near, .inl (cI, 6, .inl w_2))] → va_S A s.heap H locs → lv_has ls 2 [(0, .ref ad0), (1, .int x1_1)] → W p l e rX8_takeNear s m args below meth c H locs 0 0 Q (F0 m 2 ls []) := by
    intro n2
    induction n2 with
    | zero => intro x1_1 w_2 H locs ls hf hP hD hS hl; cases hf
    | succ n2 ih2 =>
      intro x1_1 w_2 H locs ls hf hP hD hS hl
      rw [fX8_takeNear_L2] at hf
      refine lv_iload_n hx hb (dt uX8_takeNear 2 rfl) rfl (lv_at hl 1 rfl) ?_
      refine lv_bipush (v := (6 : Int32)) hx hb (dt uX8_takeNear 3 rfl) (by decide) ?_
      refine lv_icmp_ge (tgt := 29) hx hb (dt uX8_takeNear 4 rfl) (by decide) (fun c_3 => ?_) (fun c_3 => ?_)
      · have hf := vif_t c_3 hf
        have hf := Option.some.inj hf
        subst hf
        rw [hQ]
        exact vret_v C hP hD hS (dt uX8_takeNear 17 rfl)
      · have hf := vif_f c_3 hf
        refine lv_aload_n hx hb (dt uX8_takeNear 5 rfl) rfl (lv_at hl 0 rfl) ?_
        refine va_get (D := (dC, dI)) (ci := 8) (v := .ref ad_near) (C := RX8) (T := TX8) (N := 24) hx hb hts inU8 hown hK hP 0 rfl rfl 16 (by decide) (hts _ tw_422) (fun _ h9 => h9) rfl (dt uX8_takeNear 6 rfl) ?_
        refine lv_iload_n hx hb (dt uX8_takeNear 7 rfl) rfl (lv_at hl 1 rfl) ?_
        refine lv_aload_n hx hb (dt uX8_takeNear 8 rfl) rfl (lv_at hl 0 rfl) ?_
        refine va_get (D := (dC, dI)) (ci := 8) (v := .ref ad_now) (C := RX8) (T := TX8) (N := 24) hx hb hts inU8 hown hK hP 0 rfl rfl 14 (by decide) (hts _ tw_369) (fun _ h9 => h9) rfl (dt uX8_takeNear 9 rfl) ?_
        refine lv_bipush (v := (6 : Int32)) hx hb (dt uX8_takeNear 10 rfl) (by decide) ?_
        refine lv_iload_n hx hb (dt uX8_takeNear 11 rfl) rfl (lv_at hl 1 rfl) ?_
        refine lv_iadd hx hb (dt uX8_takeNear 12 rfl) ?_
        obtain ⟨hi_4, hf⟩ := vg_some hf
        refine va_iald hx hb hK hP 1 0 rfl rfl hi_4 (dt uX8_takeNear 13 rfl) ?_
        obtain ⟨hi_5, hf⟩ := vg_some hf
        refine va_iast hx hb hK hP hD hS 2 0 rfl rfl hi_5 (dt uX8_takeNear 14 rfl) (fun H locs hP hD hS => ?_)
        have hP : va_P (dC, dI) vwCl [(ad0, oX8 v_trace ad_text v_typed ad_books ad_numberA ad_numberB ad_draftTouches v_draftOne v_oneTold v_at v_start v_sort v_value v_fault ad_now ad_isKept ad_near ad_seenDays ad_seenBook ad_seenIs v_seen v_sets v_inEach v_inSome), (ad_now, .inl (cI, 498, .inl a_now)), (ad_near, .inl (cI, 6, .inl (upd w_2 x1_1.toNatClampNeg (a_now ((6 : Int32) + x1_1).toNatClampNeg))))] H := hP
        have hD : va_D A [(ad0, oX8 v_trace ad_text v_typed ad_books ad_numberA ad_numberB ad_draftTouches v_draftOne v_oneTold v_at v_start v_sort v_value v_fault ad_now ad_isKept ad_near ad_seenDays ad_seenBook ad_seenIs v_seen v_sets v_inEach v_inSome), (ad_now, .inl (cI, 498, .inl a_now)), (ad_near, .inl (cI, 6, .inl (upd w_2 x1_1.toNatClampNeg (a_now ((6 : Int32) + x1_1).toNatClampNeg))))] := hD
        refine lv_iinc (v := x1_1 + 1) (lv' := [(1, .int (x1_1 + 1)), (0, .ref ad0)]) hx hb (dt uX8_takeNear 15 rfl) hl (k := 1) rfl rfl (by decide) rfl (fun ls hl => ?_)
        refine lv_goto (tgt := 2) hx hb (dt uX8_takeNear 16 rfl) (by decide) ?_
        exact ih2 (x1_1 + 1) (upd w_2 x1_1.toNatClampNeg (a_now ((6 : Int32) + x1_1).toNatClampNeg)) _ _ _ hf hP hD hS (lv_sub hl [1, 0] rfl)
  exact hL2 N (0 : Int32) a_near _ _ _ hf hP hD hS (lv_sub hl [1, 0] rfl)
abbrev rX8_goesTo : Room := { frames := 2, cells := 0, slots := 0, locals := 43 }
abbrev wX8_goesTo : List Cond := Cond.code yX8_goesTo cX8_goesTo 6 (some .int) :: VT
set_option maxHeartbeats 4000000 in
set_option maxRecDepth 100000 in
theorem kX8_goesTo (ad0 : Nat) (ad_text : Nat) (ad_books : Nat) (ad_numberA : Nat) (ad_numberB : Nat) (ad_draftTouches : Nat) (ad_now : Nat) (ad_isKept : Nat) (ad_near : Nat) (ad_seenDays : Nat) (ad_seenBook : Nat) (ad_seenIs : Nat) (v_trace : Int64) (v_typed : Int32) (v_draftOne : Int32) (v_oneTold : Int32) (v_at : Int32) (v_start : Int32) (v_sort : Int32) (v_value : Int32) (v_fault : Int32) (v_seen : Int32) (v_sets : Int32) (v_inEach : Int32) (v_inSome : Int32) (a_books : Nat → Int32) (a_numberA : Nat → Int32) (a_numberB : Nat → Int32) (a_now : Nat → Int32) (a_near : Nat → Int32) (p1 : Int32) (N : Nat) (q0 : Int32) (hf : fX8_goesTo N a_books a_numberA a_numberB a_now a_near p1 = some q0) : Ki l yX8_goesTo wX8_goesTo rX8_goesTo (dC, dI) (vTy cI cJ cB cZ) [.ref ad0, .int p1] [(ad0, oX8 v_trace ad_text v_typed ad_books ad_numberA ad_numberB ad_draftTouches v_draftOne v_oneTold v_at v_start v_sort v_value v_fault ad_now ad_isKept ad_near ad_seenDays ad_seenBook ad_seenIs v_seen v_sets v_inEach v_inSome), (ad_books, .inl (cI, 2, .inl a_books)), (ad_numberA, .inl (cI, 12, .inl a_numberA)), (ad_numberB, .inl (cI, 12, .inl a_numberB)), (ad_now, .inl (cI, 498, .inl a_now)), (ad_near, .inl (cI, 6, .inl a_near))] [(ad0, oX8 v_trace ad_text v_typed ad_books ad_numberA ad_numberB ad_draftTouches v_draftOne v_oneTold v_at v_start v_sort v_value v_fault ad_now ad_isKept ad_near ad_seenDays ad_seenBook ad_seenIs v_seen v_sets v_inEach v_inSome), (ad_books, .inl (cI, 2, .inl a_books)), (ad_numberA, .inl (cI, 12, .inl a_numberA)), (ad_numberB, .inl (cI, 12, .inl a_numberB)), (ad_now, .inl (cI, 498, .inl a_now)), (ad_near, .inl (cI, 6, .inl a_near))] q0 := by
  refine Ki.mk (cc := cX8_goesTo) (maxL := 6) (ret := some .int) (by decide) (Nat.le_of_ble_eq_true rfl) ?_
  intro p e s m args below meth c A Q H locs C hQ hP hD hS ls hl
  obtain ⟨hx, hb, -, hml, hts, hown, -, hK, hN, hA⟩ := id C
  have hown : s.vm.findClass RX8 = some m.cls := hown
  have hl : lv_has ls 6 [(0, .ref ad0), (1, .int p1)] := hl
  unfold fX8_goesTo at hf
  refine lv_bipush (v := (-9 : Int32)) hx hb (dt uX8_goesTo 0 rfl) (by decide) ?_
  refine lv_istore_n (lv' := [(2, .int (-9 : Int32)), (0, .ref ad0), (1, .int p1)]) hx hb (dt uX8_goesTo 1 rfl) rfl hl (by decide) rfl (fun ls hl => ?_)
  refine lv_iconst (v := (-1 : Int32)) hx hb (dt uX8_goesTo 2 rfl) (by decide) ?_
  refine lv_istore_n (lv' := [(3, .int (-1 : Int32)), (2, .int (-9 : Int32)), (0, .ref ad0), (1, .int p1)]) hx hb (dt uX8_goesTo 3 rfl) rfl hl (by decide) rfl (fun ls hl => ?_)
  refine lv_iconst (v := (0 : Int32)) hx hb (dt uX8_goesTo 4 rfl) (by decide) ?_
  refine lv_istore (lv' := [(4, .int (0 : Int32)), (3, .int (-1 : Int32)), (2, .int (-9 : Int32)), (0, .ref ad0), (1, .int p1)]) hx hb (dt uX8_goesTo 5 rfl) hl (by decide) rfl (fun ls hl => ?_)
  have hL8 : ∀ (n8 : Nat), ∀ (x2_1 : Int32) (x3_2 : Int32) (x4_3 : Int32) (H : Heap) (locs : List Loc) (ls : Array Slot), fX8_goesTo_L8 N a_books a_numberA a_numberB a_now a_near p1 n8 x2_1 x3_2 x4_3 = some q0 → va_P (dC, dI) vwCl [(ad0, oX8 v_trace ad_text v_typed ad_books ad_numberA ad_numberB ad_draftTouches v_draftOne v_oneTold v_at v_start v_sort v_value v_fault ad_now ad_isKept ad_near ad_seenDays ad_seenBook ad_seenIs v_seen v_sets v_inEach v_inSome), (ad_books, .inl (cI, 2, .inl a_books)), (ad_numberA, .inl (cI, 12, .inl a_numberA)), (ad_numberB, .inl (cI, 12, .inl a_numberB)), (ad_now, .inl (cI, 498, .inl a_now)), (ad_near, .inl (cI, 6, .inl a_near))] H → va_D A [(ad0, oX8 v_trace ad_text v_typed ad_books ad_numberA ad_numberB ad_draftTouches v_draftOne v_oneTold v_at v_start v_sort v_value v_fault ad_now ad_isKept ad_near ad_seenDays ad_seenBook ad_seenIs v_seen v_sets v_inEach v_inSome), (ad_books, .inl (cI, 2, .inl a_books)), (ad_numberA, .inl (cI, 12, .inl a_numberA)), (ad_numberB, .inl (cI, 12, .inl a_numberB)), (ad_now, .inl (cI, 498, .inl a_now)), (ad_near, .inl (cI, 6, .inl a_near))] → va_S A s.heap H locs → lv_has ls 6 [(0, .ref ad0), (1, .int p1), (2, .int x2_1), (3, .int x3_2), (4, .int x4_3)] → W p l e rX8_goesTo s m args below meth c H locs 0 0 Q (F0 m 8 ls []) := by
    intro n8
    induction n8 with
    | zero => intro x2_1 x3_2 x4_3 H locs ls hf hP hD hS hl; cases hf
    | succ n8 ih8 =>
      intro x2_1 x3_2 x4_3 H locs ls hf hP hD hS hl
      rw [fX8_goesTo_L8] at hf
      refine lv_iload hx hb (dt uX8_goesTo 6 rfl) (lv_at hl 4 rfl) ?_
      refine lv_aload_n hx hb (dt uX8_goesTo 7 rfl) rfl (lv_at hl 0 rfl) ?_
      refine va_get (D := (dC, dI)) (ci := 8) (v := .ref ad_books) (C := RX8) (T := TX8) (N := 24) hx hb hts inU8 hown hK hP 0 rfl rfl 3 (by decide) (hts _ tw_360) (fun _ h9 => h9) rfl (dt uX8_goesTo 8 rfl) ?_
      refine lv_iconst (v := (0 : Int32)) hx hb (dt uX8_goesTo 9 rfl) (by decide) ?_
      refine va_iald hx hb hK hP 1 0 rfl rfl (vp_in_iff.mpr (by decide)) (dt uX8_goesTo 10 rfl) ?_
      refine lv_icmp_ge (tgt := 63) hx hb (dt uX8_goesTo 11 rfl) (by decide) (fun c_4 => ?_) (fun c_4 => ?_)
      · have hf := vif_t c_4 hf
        refine lv_iload_n hx hb (dt uX8_goesTo 36 rfl) rfl (lv_at hl 2 rfl) ?_
        refine lv_bipush (v := (-9 : Int32)) hx hb (dt uX8_goesTo 37 rfl) (by decide) ?_
        refine lv_icmp_eq (tgt := 84) hx hb (dt uX8_goesTo 38 rfl) (by decide) (fun c_5 => ?_) (fun c_5 => ?_)
        · have hf := vif_t c_5 hf
          refine lv_iload_n hx hb (dt uX8_goesTo 49 rfl) rfl (lv_at hl 1 rfl) ?_
          refine lv_goto (tgt := 89) hx hb (dt uX8_goesTo 50 rfl) (by decide) ?_
          have hf := Option.some.inj hf
          subst hf
          rw [hQ]
          exact vret_i C hP hD hS (dt uX8_goesTo 52 rfl)
        · have hf := vif_f c_5 hf
          refine lv_aload_n hx hb (dt uX8_goesTo 39 rfl) rfl (lv_at hl 0 rfl) ?_
          refine va_get (D := (dC, dI)) (ci := 8) (v := .ref ad_now) (C := RX8) (T := TX8) (N := 24) hx hb hts inU8 hown hK hP 0 rfl rfl 14 (by decide) (hts _ tw_369) (fun _ h9 => h9) rfl (dt uX8_goesTo 40 rfl) ?_
          refine lv_bipush (v := (12 : Int32)) hx hb (dt uX8_goesTo 41 rfl) (by decide) ?_
          refine va_iald hx hb hK hP 4 0 rfl rfl (vp_in_iff.mpr (by decide)) (dt uX8_goesTo 42 rfl) ?_
          refine lv_iload_n hx hb (dt uX8_goesTo 43 rfl) rfl (lv_at hl 1 rfl) ?_
          refine lv_ishr hx hb (dt uX8_goesTo 44 rfl) ?_
          refine lv_iconst (v := (1 : Int32)) hx hb (dt uX8_goesTo 45 rfl) (by decide) ?_
          refine lv_iand hx hb (dt uX8_goesTo 46 rfl) ?_
          refine lv_iconst (v := (1 : Int32)) hx hb (dt uX8_goesTo 47 rfl) (by decide) ?_
          refine lv_icmp_ne (tgt := 88) hx hb (dt uX8_goesTo 48 rfl) (by decide) (fun c_6 => ?_) (fun c_6 => ?_)
          · have hf := vif_f c_6 hf
            refine lv_iload_n hx hb (dt uX8_goesTo 51 rfl) rfl (lv_at hl 2 rfl) ?_
            have hf := Option.some.inj hf
            subst hf
            rw [hQ]
            exact vret_i C hP hD hS (dt uX8_goesTo 52 rfl)
          · have hf := vif_t c_6 hf
            refine lv_iload_n hx hb (dt uX8_goesTo 49 rfl) rfl (lv_at hl 1 rfl) ?_
            refine lv_goto (tgt := 89) hx hb (dt uX8_goesTo 50 rfl) (by decide) ?_
            have hf := Option.some.inj hf
            subst hf
            rw [hQ]
            exact vret_i C hP hD hS (dt uX8_goesTo 52 rfl)
      · have hf := vif_f c_4 hf
        refine lv_aload_n hx hb (dt uX8_goesTo 12 rfl) rfl (lv_at hl 0 rfl) ?_
        refine lv_iload hx hb (dt uX8_goesTo 13 rfl) (lv_at hl 4 rfl) ?_
        obtain ⟨q_7, hq_8, hf⟩ := vbd hf
        refine vk_i0 [0, 2, 3, 4] (va_runV (As := [.int x4_3]) (rest := []) ⟨hx, hb, hml, hown, hts⟩ (kX8_written ad0 ad_text ad_books ad_numberA ad_numberB ad_draftTouches ad_now ad_isKept ad_near ad_seenDays ad_seenBook ad_seenIs v_trace v_typed v_draftOne v_oneTold v_at v_start v_sort v_value v_fault v_seen v_sets v_inEach v_inSome a_numberA a_numberB a_now x4_3 q_7 hq_8 H.size) (vcwV hts tw_396 tw_397 tw_398 tw_336 tw_395 hd_X8_written rfl rfl ⟨Nat.le_of_ble_eq_true rfl, Nat.le_of_ble_eq_true rfl⟩) (vpreV hK hN hP hD [0, 2, 3, 4] rfl (by decide) (ci := 8) (q0 := 0) rfl rfl) rfl rfl hl.1 rfl (lv_room (Nat.le_of_ble_eq_true rfl)) (dt uX8_goesTo 14 rfl) ⟨Nat.zero_le _, Nat.zero_le _⟩) hA hP hD hS rfl (by decide) (fun H locs hP hD hS => ?_)
        obtain ⟨q_9, hq_10, hf⟩ := vbd hf
        refine vk_i0 [] (va_runS (As := [.int q_7]) (rest := []) ⟨hx, hb, hml, hown, hts⟩ (kX8_tens q_7 N q_9 hq_10 H.size) (vcwS hts tw_424 tw_425 tw_336 tw_423 hd_X8_tens rfl rfl ⟨Nat.le_of_ble_eq_true rfl, Nat.le_of_ble_eq_true rfl⟩) (vpreS hK hN hP hD [] rfl (by decide)) rfl rfl hl.1 rfl (lv_room (Nat.le_of_ble_eq_true rfl)) (dt uX8_goesTo 15 rfl) ⟨Nat.zero_le _, Nat.zero_le _⟩) hA hP hD hS rfl (by decide) (fun H locs hP hD hS => ?_)
        refine lv_istore (lv' := [(5, .int q_9), (0, .ref ad0), (1, .int p1), (2, .int x2_1), (3, .int x3_2), (4, .int x4_3)]) hx hb (dt uX8_goesTo 16 rfl) hl (by decide) rfl (fun ls hl => ?_)
        refine lv_aload_n hx hb (dt uX8_goesTo 17 rfl) rfl (lv_at hl 1 rfl) ?_
        refine va_get (D := (dC, dI)) (ci := 8) (v := .ref ad_near) (C := RX8) (T := TX8) (N := 24) hx hb hts inU8 hown hK hP 0 rfl rfl 16 (by decide) (hts _ tw_422) (fun _ h9 => h9) rfl (dt uX8_goesTo 18 rfl) ?_
        refine lv_iload_n hx hb (dt uX8_goesTo 19 rfl) rfl (lv_at hl 2 rfl) ?_
        obtain ⟨hi_11, hf⟩ := vg_some hf
        refine va_iald hx hb hK hP 5 0 rfl rfl hi_11 (dt uX8_goesTo 20 rfl) ?_
        refine lv_iload hx hb (dt uX8_goesTo 21 rfl) (lv_at hl 5 rfl) ?_
        refine lv_ishr hx hb (dt uX8_goesTo 22 rfl) ?_
        refine lv_iconst (v := (1 : Int32)) hx hb (dt uX8_goesTo 23 rfl) (by decide) ?_
        refine lv_iand hx hb (dt uX8_goesTo 24 rfl) ?_
        refine lv_iconst (v := (1 : Int32)) hx hb (dt uX8_goesTo 25 rfl) (by decide) ?_
        refine lv_icmp_ne (tgt := 57) hx hb (dt uX8_goesTo 26 rfl) (by decide) (fun c_12 => ?_) (fun c_12 => ?_)
        · have hf := vif_f c_12 hf
          refine lv_iinc (v := x4_3 + 1) (lv' := [(4, .int (x4_3 + 1)), (5, .int q_9), (0, .ref ad0), (1, .int p1), (2, .int x2_1), (3, .int x3_2)]) hx hb (dt uX8_goesTo 34 rfl) hl (k := 5) rfl rfl (by decide) rfl (fun ls hl => ?_)
          refine lv_goto (tgt := 8) hx hb (dt uX8_goesTo 35 rfl) (by decide) ?_
          exact ih8 x2_1 x3_2 (x4_3 + 1) _ _ _ hf hP hD hS (lv_sub hl [2, 3, 4, 5, 0] rfl)
        · have hf := vif_t c_12 hf
          refine lv_iload hx hb (dt uX8_goesTo 27 rfl) (lv_at hl 0 rfl) ?_
          refine lv_iload_n hx hb (dt uX8_goesTo 28 rfl) rfl (lv_at hl 4 rfl) ?_
          refine lv_icmp_le (tgt := 57) hx hb (dt uX8_goesTo 29 rfl) (by decide) (fun c_13 => ?_) (fun c_13 => ?_)
          · have hf := vif_t c_13 hf
            refine lv_iinc (v := x4_3 + 1) (lv' := [(4, .int (x4_3 + 1)), (5, .int q_9), (0, .ref ad0), (1, .int p1), (2, .int x2_1), (3, .int x3_2)]) hx hb (dt uX8_goesTo 34 rfl) hl (k := 5) rfl rfl (by decide) rfl (fun ls hl => ?_)
            refine lv_goto (tgt := 8) hx hb (dt uX8_goesTo 35 rfl) (by decide) ?_
            exact ih8 x2_1 x3_2 (x4_3 + 1) _ _ _ hf hP hD hS (lv_sub hl [2, 3, 4, 5, 0] rfl)
          · have hf := vif_f c_13 hf
            refine lv_iload hx hb (dt uX8_goesTo 30 rfl) (lv_at hl 5 rfl) ?_
            refine lv_istore_n (lv' := [(2, .int x4_3), (5, .int q_9), (0, .ref ad0), (1, .int p1), (3, .int x3_2), (4, .int x4_3)]) hx hb (dt uX8_goesTo 31 rfl) rfl hl (by decide) rfl (fun ls hl => ?_)
            refine lv_iload hx hb (dt uX8_goesTo 32 rfl) (lv_at hl 1 rfl) ?_
            refine lv_istore_n (lv' := [(3, .int q_9), (2, .int x4_3), (5, .int q_9), (0, .ref ad0), (1, .int p1), (4, .int x4_3)]) hx hb (dt uX8_goesTo 33 rfl) rfl hl (by decide) rfl (fun ls hl => ?_)
            refine lv_iinc (v := x4_3 + 1) (lv' := [(4, .int (x4_3 + 1)), (3, .int q_9), (2, .int x4_3), (5, .int q_9), (0, .ref ad0), (1, .int p1)]) hx hb (dt uX8_goesTo 34 rfl) hl (k := 5) rfl rfl (by decide) rfl (fun ls hl => ?_)
            refine lv_goto (tgt := 8) hx hb (dt uX8_goesTo 35 rfl) (by decide) ?_
            exact ih8 x4_3 q_9 (x4_3 + 1) _ _ _ hf hP hD hS (lv_sub hl [4, 5, 2, 1, 0] rfl)
  exact hL8 N (-9 : Int32) (-1 : Int32) (0 : Int32) _ _ _ hf hP hD hS (lv_sub hl [3, 4, 2, 1, 0] rfl)
abbrev rX8_goesIn : Room := { frames := 3, cells := 0, slots := 0, locals := 68 }
abbrev wX8_goesIn : List Cond := Cond.code yX8_goesIn cX8_goesIn 5 (some .int) :: VT
set_option maxHeartbeats 4000000 in
set_option maxRecDepth 100000 in
theorem kX8_goesIn (ad0 : Nat) (ad_text : Nat) (ad_books : Nat) (ad_numberA : Nat) (ad_numberB : Nat) (ad_draftTouches : Nat) (ad_now : Nat) (ad_isKept : Nat) (ad_near : Nat) (ad_seenDays : Nat) (ad_seenBook : Nat) (ad_seenIs : Nat) (v_trace : Int64) (v_typed : Int32) (v_draftOne : Int32) (v_oneTold : Int32) (v_at : Int32) (v_start : Int32) (v_sort : Int32) (v_value : Int32) (v_fault : Int32) (v_seen : Int32) (v_sets : Int32) (v_inEach : Int32) (v_inSome : Int32) (a_books : Nat → Int32) (a_numberA : Nat → Int32) (a_numberB : Nat → Int32) (a_now : Nat → Int32) (a_near : Nat → Int32) (p1 : Int32) (p2 : Int32) (N : Nat) (q0 : Int32) (hf : fX8_goesIn N a_books a_numberA a_numberB a_now a_near p1 p2 = some q0) : Ki l yX8_goesIn wX8_goesIn rX8_goesIn (dC, dI) (vTy cI cJ cB cZ) [.ref ad0, .int p1, .int p2] [(ad0, oX8 v_trace ad_text v_typed ad_books ad_numberA ad_numberB ad_draftTouches v_draftOne v_oneTold v_at v_start v_sort v_value v_fault ad_now ad_isKept ad_near ad_seenDays ad_seenBook ad_seenIs v_seen v_sets v_inEach v_inSome), (ad_books, .inl (cI, 2, .inl a_books)), (ad_numberA, .inl (cI, 12, .inl a_numberA)), (ad_numberB, .inl (cI, 12, .inl a_numberB)), (ad_now, .inl (cI, 498, .inl a_now)), (ad_near, .inl (cI, 6, .inl a_near))] [(ad0, oX8 v_trace ad_text v_typed ad_books ad_numberA ad_numberB ad_draftTouches v_draftOne v_oneTold v_at v_start v_sort v_value v_fault ad_now ad_isKept ad_near ad_seenDays ad_seenBook ad_seenIs v_seen v_sets v_inEach v_inSome), (ad_books, .inl (cI, 2, .inl a_books)), (ad_numberA, .inl (cI, 12, .inl a_numberA)), (ad_numberB, .inl (cI, 12, .inl a_numberB)), (ad_now, .inl (cI, 498, .inl a_now)), (ad_near, .inl (cI, 6, .inl a_near))] q0 := by
  refine Ki.mk (cc := cX8_goesIn) (maxL := 5) (ret := some .int) (by decide) (Nat.le_of_ble_eq_true rfl) ?_
  intro p e s m args below meth c A Q H locs C hQ hP hD hS ls hl
  obtain ⟨hx, hb, -, hml, hts, hown, -, hK, hN, hA⟩ := id C
  have hown : s.vm.findClass RX8 = some m.cls := hown
  have hl : lv_has ls 5 [(0, .ref ad0), (1, .int p1), (2, .int p2)] := hl
  unfold fX8_goesIn at hf
  refine lv_iload_n hx hb (dt uX8_goesIn 0 rfl) rfl (lv_at hl 1 rfl) ?_
  refine lv_istore_n (lv' := [(3, .int p1), (0, .ref ad0), (1, .int p1), (2, .int p2)]) hx hb (dt uX8_goesIn 1 rfl) rfl hl (by decide) rfl (fun ls hl => ?_)
  refine lv_iconst (v := (0 : Int32)) hx hb (dt uX8_goesIn 2 rfl) (by decide) ?_
  refine lv_istore (lv' := [(4, .int (0 : Int32)), (3, .int p1), (0, .ref ad0), (1, .int p1), (2, .int p2)]) hx hb (dt uX8_goesIn 3 rfl) hl (by decide) rfl (fun ls hl => ?_)
  have hL5 : ∀ (n5 : Nat), ∀ (x3_1 : Int32) (x4_2 : Int32) (H : Heap) (locs : List Loc) (ls : Array Slot), fX8_goesIn_L5 N a_books a_numberA a_numberB a_now a_near p2 n5 x3_1 x4_2 = some q0 → va_P (dC, dI) vwCl [(ad0, oX8 v_trace ad_text v_typed ad_books ad_numberA ad_numberB ad_draftTouches v_draftOne v_oneTold v_at v_start v_sort v_value v_fault ad_now ad_isKept ad_near ad_seenDays ad_seenBook ad_seenIs v_seen v_sets v_inEach v_inSome), (ad_books, .inl (cI, 2, .inl a_books)), (ad_numberA, .inl (cI, 12, .inl a_numberA)), (ad_numberB, .inl (cI, 12, .inl a_numberB)), (ad_now, .inl (cI, 498, .inl a_now)), (ad_near, .inl (cI, 6, .inl a_near))] H → va_D A [(ad0, oX8 v_trace ad_text v_typed ad_books ad_numberA ad_numberB ad_draftTouches v_draftOne v_oneTold v_at v_start v_sort v_value v_fault ad_now ad_isKept ad_near ad_seenDays ad_seenBook ad_seenIs v_seen v_sets v_inEach v_inSome), (ad_books, .inl (cI, 2, .inl a_books)), (ad_numberA, .inl (cI, 12, .inl a_numberA)), (ad_numberB, .inl (cI, 12, .inl a_numberB)), (ad_now, .inl (cI, 498, .inl a_now)), (ad_near, .inl (cI, 6, .inl a_near))] → va_S A s.heap H locs → lv_has ls 5 [(0, .ref ad0), (2, .int p2), (3, .int x3_1), (4, .int x4_2)] → W p l e rX8_goesIn s m args below meth c H locs 0 0 Q (F0 m 5 ls []) := by
    intro n5
    induction n5 with
    | zero => intro x3_1 x4_2 H locs ls hf hP hD hS hl; cases hf
    | succ n5 ih5 =>
      intro x3_1 x4_2 H locs ls hf hP hD hS hl
      rw [fX8_goesIn_L5] at hf
      refine lv_iload hx hb (dt uX8_goesIn 4 rfl) (lv_at hl 3 rfl) ?_
      refine lv_iload_n hx hb (dt uX8_goesIn 5 rfl) rfl (lv_at hl 1 rfl) ?_
      refine lv_icmp_ge (tgt := 23) hx hb (dt uX8_goesIn 6 rfl) (by decide) (fun c_3 => ?_) (fun c_3 => ?_)
      · have hf := vif_t c_3 hf
        refine lv_iload_n hx hb (dt uX8_goesIn 13 rfl) rfl (lv_at hl 2 rfl) ?_
        have hf := Option.some.inj hf
        subst hf
        rw [hQ]
        exact vret_i C hP hD hS (dt uX8_goesIn 14 rfl)
      · have hf := vif_f c_3 hf
        refine lv_aload_n hx hb (dt uX8_goesIn 7 rfl) rfl (lv_at hl 0 rfl) ?_
        refine lv_iload_n hx hb (dt uX8_goesIn 8 rfl) rfl (lv_at hl 2 rfl) ?_
        obtain ⟨q_4, hq_5, hf⟩ := vbd hf
        refine vk_i0 [0, 1, 2, 3, 4, 5] (va_runV (As := [.int x3_1]) (rest := []) ⟨hx, hb, hml, hown, hts⟩ (kX8_goesTo ad0 ad_text ad_books ad_numberA ad_numberB ad_draftTouches ad_now ad_isKept ad_near ad_seenDays ad_seenBook ad_seenIs v_trace v_typed v_draftOne v_oneTold v_at v_start v_sort v_value v_fault v_seen v_sets v_inEach v_inSome a_books a_numberA a_numberB a_now a_near x3_1 N q_4 hq_5 H.size) (vcwV hts tw_427 tw_428 tw_429 tw_336 tw_426 hd_X8_goesTo rfl rfl ⟨Nat.le_of_ble_eq_true rfl, Nat.le_of_ble_eq_true rfl⟩) (vpreV hK hN hP hD [0, 1, 2, 3, 4, 5] rfl (by decide) (ci := 8) (q0 := 0) rfl rfl) rfl rfl hl.1 rfl (lv_room (Nat.le_of_ble_eq_true rfl)) (dt uX8_goesIn 9 rfl) ⟨Nat.zero_le _, Nat.zero_le _⟩) hA hP hD hS rfl (by decide) (fun H locs hP hD hS => ?_)
        refine lv_istore_n (lv' := [(3, .int q_4), (0, .ref ad0), (2, .int p2), (4, .int x4_2)]) hx hb (dt uX8_goesIn 10 rfl) rfl hl (by decide) rfl (fun ls hl => ?_)
        refine lv_iinc (v := x4_2 + 1) (lv' := [(4, .int (x4_2 + 1)), (3, .int q_4), (0, .ref ad0), (2, .int p2)]) hx hb (dt uX8_goesIn 11 rfl) hl (k := 3) rfl rfl (by decide) rfl (fun ls hl => ?_)
        refine lv_goto (tgt := 5) hx hb (dt uX8_goesIn 12 rfl) (by decide) ?_
        exact ih5 q_4 (x4_2 + 1) _ _ _ hf hP hD hS (lv_sub hl [2, 3, 1, 0] rfl)
  exact hL5 N p1 (0 : Int32) _ _ _ hf hP hD hS (lv_sub hl [2, 4, 1, 0] rfl)
abbrev rX8_day : Room := { frames := 3, cells := 0, slots := 0, locals := 68 }
abbrev wX8_day : List Cond := Cond.code yX8_day cX8_day 1 (some .int) :: VT
set_option maxHeartbeats 4000000 in
set_option maxRecDepth 100000 in
theorem kX8_day (ad0 : Nat) (ad_text : Nat) (ad_books : Nat) (ad_numberA : Nat) (ad_numberB : Nat) (ad_draftTouches : Nat) (ad_now : Nat) (ad_isKept : Nat) (ad_near : Nat) (ad_seenDays : Nat) (ad_seenBook : Nat) (ad_seenIs : Nat) (v_trace : Int64) (v_typed : Int32) (v_draftOne : Int32) (v_oneTold : Int32) (v_at : Int32) (v_start : Int32) (v_sort : Int32) (v_value : Int32) (v_fault : Int32) (v_seen : Int32) (v_sets : Int32) (v_inEach : Int32) (v_inSome : Int32) (a_books : Nat → Int32) (a_numberA : Nat → Int32) (a_numberB : Nat → Int32) (a_now : Nat → Int32) (a_near : Nat → Int32) (N : Nat) (q0 : (Int32 × (Nat → Int32) × (Nat → Int32))) (hf : fX8_day N a_books a_numberA a_numberB a_now a_near = some q0) : Ki l yX8_day wX8_day rX8_day (dC, dI) (vTy cI cJ cB cZ) [.ref ad0] [(ad0, oX8 v_trace ad_text v_typed ad_books ad_numberA ad_numberB ad_draftTouches v_draftOne v_oneTold v_at v_start v_sort v_value v_fault ad_now ad_isKept ad_near ad_seenDays ad_seenBook ad_seenIs v_seen v_sets v_inEach v_inSome), (ad_books, .inl (cI, 2, .inl a_books)), (ad_numberA, .inl (cI, 12, .inl a_numberA)), (ad_numberB, .inl (cI, 12, .inl a_numberB)), (ad_now, .inl (cI, 498, .inl a_now)), (ad_near, .inl (cI, 6, .inl a_near))] [(ad0, oX8 v_trace ad_text v_typed ad_books ad_numberA ad_numberB ad_draftTouches v_draftOne v_oneTold v_at v_start v_sort v_value v_fault ad_now ad_isKept ad_near ad_seenDays ad_seenBook ad_seenIs v_seen v_sets v_inEach v_inSome), (ad_books, .inl (cI, 2, .inl a_books)), (ad_numberA, .inl (cI, 12, .inl a_numberA)), (ad_numberB, .inl (cI, 12, .inl a_numberB)), (ad_now, .inl (cI, 498, .inl q0.2.1)), (ad_near, .inl (cI, 6, .inl q0.2.2))] q0.1 := by
  refine Ki.mk (cc := cX8_day) (maxL := 1) (ret := some .int) (by decide) (Nat.le_of_ble_eq_true rfl) ?_
  intro p e s m args below meth c A Q H locs C hQ hP hD hS ls hl
  obtain ⟨hx, hb, -, hml, hts, hown, -, hK, hN, hA⟩ := id C
  have hown : s.vm.findClass RX8 = some m.cls := hown
  have hl : lv_has ls 1 [(0, .ref ad0)] := hl
  unfold fX8_day at hf
  refine lv_aload_n hx hb (dt uX8_day 0 rfl) rfl (lv_at hl 0 rfl) ?_
  refine va_get (D := (dC, dI)) (ci := 8) (v := .ref ad_now) (C := RX8) (T := TX8) (N := 24) hx hb hts inU8 hown hK hP 0 rfl rfl 14 (by decide) (hts _ tw_369) (fun _ h9 => h9) rfl (dt uX8_day 1 rfl) ?_
  refine lv_bipush (v := (14 : Int32)) hx hb (dt uX8_day 2 rfl) (by decide) ?_
  refine va_iald hx hb hK hP 4 0 rfl rfl (vp_in_iff.mpr (by decide)) (dt uX8_day 3 rfl) ?_
  refine lv_sipush (v := (999 : Int32)) hx hb (dt uX8_day 4 rfl) (by decide) ?_
  refine lv_icmp_ne (tgt := 16) hx hb (dt uX8_day 5 rfl) (by decide) (fun c_1 => ?_) (fun c_1 => ?_)
  · have hf := vif_f c_1 hf
    refine lv_aload_n hx hb (dt uX8_day 8 rfl) rfl (lv_at hl 0 rfl) ?_
    obtain ⟨q_2, hq_3, hf⟩ := vbd hf
    refine vk_v [0, 4] (ws2 := [(ad0, oX8 v_trace ad_text v_typed ad_books ad_numberA ad_numberB ad_draftTouches v_draftOne v_oneTold v_at v_start v_sort v_value v_fault ad_now ad_isKept ad_near ad_seenDays ad_seenBook ad_seenIs v_seen v_sets v_inEach v_inSome), (ad_books, .inl (cI, 2, .inl a_books)), (ad_numberA, .inl (cI, 12, .inl a_numberA)), (ad_numberB, .inl (cI, 12, .inl a_numberB)), (ad_now, .inl (cI, 498, .inl q_2)), (ad_near, .inl (cI, 6, .inl a_near))]) (va_runV (As := []) (rest := []) ⟨hx, hb, hml, hown, hts⟩ (kX8_know ad0 ad_text ad_books ad_numberA ad_numberB ad_draftTouches ad_now ad_isKept ad_near ad_seenDays ad_seenBook ad_seenIs v_trace v_typed v_draftOne v_oneTold v_at v_start v_sort v_value v_fault v_seen v_sets v_inEach v_inSome a_now N q_2 hq_3 H.size) (vcwV hts tw_415 tw_416 tw_417 tw_336 tw_414 hd_X8_know rfl rfl ⟨Nat.le_of_ble_eq_true rfl, Nat.le_of_ble_eq_true rfl⟩) (vpreV hK hN hP hD [0, 4] rfl (by decide) (ci := 8) (q0 := 0) rfl rfl) rfl rfl hl.1 rfl (lv_room (Nat.le_of_ble_eq_true rfl)) (dt uX8_day 9 rfl) ⟨Nat.zero_le _, Nat.zero_le _⟩) hA hP hD hS rfl (by decide) rfl rfl (fun H locs hP hD hS => ?_)
    refine lv_aload_n hx hb (dt uX8_day 10 rfl) rfl (lv_at hl 0 rfl) ?_
    obtain ⟨q_4, hq_5, hf⟩ := vbd hf
    refine vk_v [0, 4, 5] (ws2 := [(ad0, oX8 v_trace ad_text v_typed ad_books ad_numberA ad_numberB ad_draftTouches v_draftOne v_oneTold v_at v_start v_sort v_value v_fault ad_now ad_isKept ad_near ad_seenDays ad_seenBook ad_seenIs v_seen v_sets v_inEach v_inSome), (ad_books, .inl (cI, 2, .inl a_books)), (ad_numberA, .inl (cI, 12, .inl a_numberA)), (ad_numberB, .inl (cI, 12, .inl a_numberB)), (ad_now, .inl (cI, 498, .inl q_2)), (ad_near, .inl (cI, 6, .inl q_4))]) (va_runV (As := []) (rest := []) ⟨hx, hb, hml, hown, hts⟩ (kX8_takeNear ad0 ad_text ad_books ad_numberA ad_numberB ad_draftTouches ad_now ad_isKept ad_near ad_seenDays ad_seenBook ad_seenIs v_trace v_typed v_draftOne v_oneTold v_at v_start v_sort v_value v_fault v_seen v_sets v_inEach v_inSome q_2 a_near N q_4 hq_5 H.size) (vcwV hts tw_431 tw_432 tw_433 tw_336 tw_430 hd_X8_takeNear rfl rfl ⟨Nat.le_of_ble_eq_true rfl, Nat.le_of_ble_eq_true rfl⟩) (vpreV hK hN hP hD [0, 4, 5] rfl (by decide) (ci := 8) (q0 := 0) rfl rfl) rfl rfl hl.1 rfl (lv_room (Nat.le_of_ble_eq_true rfl)) (dt uX8_day 11 rfl) ⟨Nat.zero_le _, Nat.zero_le _⟩) hA hP hD hS rfl (by decide) rfl rfl (fun H locs hP hD hS => ?_)
    refine lv_aload_n hx hb (dt uX8_day 12 rfl) rfl (lv_at hl 0 rfl) ?_
    refine va_get (D := (dC, dI)) (ci := 8) (v := .ref ad_now) (C := RX8) (T := TX8) (N := 24) hx hb hts inU8 hown hK hP 0 rfl rfl 14 (by decide) (hts _ tw_369) (fun _ h9 => h9) rfl (dt uX8_day 13 rfl) ?_
    refine lv_bipush (v := (13 : Int32)) hx hb (dt uX8_day 14 rfl) (by decide) ?_
    refine lv_aload_n hx hb (dt uX8_day 15 rfl) rfl (lv_at hl 0 rfl) ?_
    refine va_get (D := (dC, dI)) (ci := 8) (v := .ref ad_now) (C := RX8) (T := TX8) (N := 24) hx hb hts inU8 hown hK hP 0 rfl rfl 14 (by decide) (hts _ tw_369) (fun _ h9 => h9) rfl (dt uX8_day 16 rfl) ?_
    refine lv_bipush (v := (13 : Int32)) hx hb (dt uX8_day 17 rfl) (by decide) ?_
    refine va_iald hx hb hK hP 4 0 rfl rfl (vp_in_iff.mpr (by decide)) (dt uX8_day 18 rfl) ?_
    refine lv_bipush (v := (-9 : Int32)) hx hb (dt uX8_day 19 rfl) (by decide) ?_
    have hJ58 : ∀ (y2_8 : Int32) (H : Heap) (locs : List Loc) (ls : Array Slot), fX8_day_J58 q_2 q_4 y2_8 = some q0 → va_P (dC, dI) vwCl [(ad0, oX8 v_trace ad_text v_typed ad_books ad_numberA ad_numberB ad_draftTouches v_draftOne v_oneTold v_at v_start v_sort v_value v_fault ad_now ad_isKept ad_near ad_seenDays ad_seenBook ad_seenIs v_seen v_sets v_inEach v_inSome), (ad_books, .inl (cI, 2, .inl a_books)), (ad_numberA, .inl (cI, 12, .inl a_numberA)), (ad_numberB, .inl (cI, 12, .inl a_numberB)), (ad_now, .inl (cI, 498, .inl q_2)), (ad_near, .inl (cI, 6, .inl q_4))] H → va_D A [(ad0, oX8 v_trace ad_text v_typed ad_books ad_numberA ad_numberB ad_draftTouches v_draftOne v_oneTold v_at v_start v_sort v_value v_fault ad_now ad_isKept ad_near ad_seenDays ad_seenBook ad_seenIs v_seen v_sets v_inEach v_inSome), (ad_books, .inl (cI, 2, .inl a_books)), (ad_numberA, .inl (cI, 12, .inl a_numberA)), (ad_numberB, .inl (cI, 12, .inl a_numberB)), (ad_now, .inl (cI, 498, .inl q_2)), (ad_near, .inl (cI, 6, .inl q_4))] → va_S A s.heap H locs → lv_has ls 1 [(0, .ref ad0)] → W p l e rX8_day s m args below meth c H locs 0 0 Q (F0 m 58 ls [.int y2_8, .int (13 : Int32), .ref ad_now]) := by
      intro y2_8 H locs ls hf hP hD hS hl
      unfold fX8_day_J58 at hf
      refine va_iast hx hb hK hP hD hS 4 0 rfl rfl (vp_in_iff.mpr (by decide)) (dt uX8_day 29 rfl) (fun H locs hP hD hS => ?_)
      have hP : va_P (dC, dI) vwCl [(ad0, oX8 v_trace ad_text v_typed ad_books ad_numberA ad_numberB ad_draftTouches v_draftOne v_oneTold v_at v_start v_sort v_value v_fault ad_now ad_isKept ad_near ad_seenDays ad_seenBook ad_seenIs v_seen v_sets v_inEach v_inSome), (ad_books, .inl (cI, 2, .inl a_books)), (ad_numberA, .inl (cI, 12, .inl a_numberA)), (ad_numberB, .inl (cI, 12, .inl a_numberB)), (ad_now, .inl (cI, 498, .inl (upd q_2 (13 : Int32).toNatClampNeg y2_8))), (ad_near, .inl (cI, 6, .inl q_4))] H := hP
      have hD : va_D A [(ad0, oX8 v_trace ad_text v_typed ad_books ad_numberA ad_numberB ad_draftTouches v_draftOne v_oneTold v_at v_start v_sort v_value v_fault ad_now ad_isKept ad_near ad_seenDays ad_seenBook ad_seenIs v_seen v_sets v_inEach v_inSome), (ad_books, .inl (cI, 2, .inl a_books)), (ad_numberA, .inl (cI, 12, .inl a_numberA)), (ad_numberB, .inl (cI, 12, .inl a_numberB)), (ad_now, .inl (cI, 498, .inl (upd q_2 (13 : Int32).toNatClampNeg y2_8))), (ad_near, .inl (cI, 6, .inl q_4))] := hD
      refine lv_aload_n hx hb (dt uX8_day 30 rfl) rfl (lv_at hl 0 rfl) ?_
      refine va_get (D := (dC, dI)) (ci := 8) (v := .ref ad_now) (C := RX8) (T := TX8) (N := 24) hx hb hts inU8 hown hK hP 0 rfl rfl 14 (by decide) (hts _ tw_369) (fun _ h9 => h9) rfl (dt uX8_day 31 rfl) ?_
      refine lv_bipush (v := (14 : Int32)) hx hb (dt uX8_day 32 rfl) (by decide) ?_
      refine lv_dup2_11 hx hb (dt uX8_day 33 rfl) rfl rfl ?_
      refine va_iald hx hb hK hP 4 0 rfl rfl (vp_in_iff.mpr (by decide)) (dt uX8_day 34 rfl) ?_
      refine lv_iconst (v := (1 : Int32)) hx hb (dt uX8_day 35 rfl) (by decide) ?_
      refine lv_iadd hx hb (dt uX8_day 36 rfl) ?_
      refine va_iast hx hb hK hP hD hS 4 0 rfl rfl (vp_in_iff.mpr (by decide)) (dt uX8_day 37 rfl) (fun H locs hP hD hS => ?_)
      have hP : va_P (dC, dI) vwCl [(ad0, oX8 v_trace ad_text v_typed ad_books ad_numberA ad_numberB ad_draftTouches v_draftOne v_oneTold v_at v_start v_sort v_value v_fault ad_now ad_isKept ad_near ad_seenDays ad_seenBook ad_seenIs v_seen v_sets v_inEach v_inSome), (ad_books, .inl (cI, 2, .inl a_books)), (ad_numberA, .inl (cI, 12, .inl a_numberA)), (ad_numberB, .inl (cI, 12, .inl a_numberB)), (ad_now, .inl (cI, 498, .inl (upd (upd q_2 (13 : Int32).toNatClampNeg y2_8) (14 : Int32).toNatClampNeg (((upd q_2 (13 : Int32).toNatClampNeg y2_8) (14 : Int32).toNatClampNeg) + (1 : Int32))))), (ad_near, .inl (cI, 6, .inl q_4))] H := hP
      have hD : va_D A [(ad0, oX8 v_trace ad_text v_typed ad_books ad_numberA ad_numberB ad_draftTouches v_draftOne v_oneTold v_at v_start v_sort v_value v_fault ad_now ad_isKept ad_near ad_seenDays ad_seenBook ad_seenIs v_seen v_sets v_inEach v_inSome), (ad_books, .inl (cI, 2, .inl a_books)), (ad_numberA, .inl (cI, 12, .inl a_numberA)), (ad_numberB, .inl (cI, 12, .inl a_numberB)), (ad_now, .inl (cI, 498, .inl (upd (upd q_2 (13 : Int32).toNatClampNeg y2_8) (14 : Int32).toNatClampNeg (((upd q_2 (13 : Int32).toNatClampNeg y2_8) (14 : Int32).toNatClampNeg) + (1 : Int32))))), (ad_near, .inl (cI, 6, .inl q_4))] := hD
      refine lv_aload_n hx hb (dt uX8_day 38 rfl) rfl (lv_at hl 0 rfl) ?_
      refine va_get (D := (dC, dI)) (ci := 8) (v := .ref ad_now) (C := RX8) (T := TX8) (N := 24) hx hb hts inU8 hown hK hP 0 rfl rfl 14 (by decide) (hts _ tw_369) (fun _ h9 => h9) rfl (dt uX8_day 39 rfl) ?_
      refine lv_bipush (v := (13 : Int32)) hx hb (dt uX8_day 40 rfl) (by decide) ?_
      refine va_iald hx hb hK hP 4 0 rfl rfl (vp_in_iff.mpr (by decide)) (dt uX8_day 41 rfl) ?_
      have hf := Option.some.inj hf
      subst hf
      rw [hQ]
      exact vret_i C hP hD hS (dt uX8_day 42 rfl)
    refine lv_icmp_ne (tgt := 47) hx hb (dt uX8_day 20 rfl) (by decide) (fun c_9 => ?_) (fun c_9 => ?_)
    · have hf := vif_f c_9 hf
      refine lv_aload_n hx hb (dt uX8_day 23 rfl) rfl (lv_at hl 0 rfl) ?_
      refine lv_aload_n hx hb (dt uX8_day 24 rfl) rfl (lv_at hl 0 rfl) ?_
      refine va_get (D := (dC, dI)) (ci := 8) (v := .ref ad_now) (C := RX8) (T := TX8) (N := 24) hx hb hts inU8 hown hK hP 0 rfl rfl 14 (by decide) (hts _ tw_369) (fun _ h9 => h9) rfl (dt uX8_day 25 rfl) ?_
      refine lv_bipush (v := (13 : Int32)) hx hb (dt uX8_day 26 rfl) (by decide) ?_
      refine va_iald hx hb hK hP 4 0 rfl rfl (vp_in_iff.mpr (by decide)) (dt uX8_day 27 rfl) ?_
      obtain ⟨q_10, hq_11, hf⟩ := vbd hf
      refine vk_i0 [0, 1, 2, 3, 4, 5] (va_runV (As := [.int (q_2 (13 : Int32).toNatClampNeg)]) (rest := [.int (13 : Int32), .ref ad_now]) ⟨hx, hb, hml, hown, hts⟩ (kX8_goesTo ad0 ad_text ad_books ad_numberA ad_numberB ad_draftTouches ad_now ad_isKept ad_near ad_seenDays ad_seenBook ad_seenIs v_trace v_typed v_draftOne v_oneTold v_at v_start v_sort v_value v_fault v_seen v_sets v_inEach v_inSome a_books a_numberA a_numberB q_2 q_4 (q_2 (13 : Int32).toNatClampNeg) N q_10 hq_11 H.size) (vcwV hts tw_427 tw_428 tw_429 tw_336 tw_426 hd_X8_goesTo rfl rfl ⟨Nat.le_of_ble_eq_true rfl, Nat.le_of_ble_eq_true rfl⟩) (vpreV hK hN hP hD [0, 1, 2, 3, 4, 5] rfl (by decide) (ci := 8) (q0 := 0) rfl rfl) rfl rfl hl.1 rfl (lv_room (Nat.le_of_ble_eq_true rfl)) (dt uX8_day 28 rfl) ⟨Nat.zero_le _, Nat.zero_le _⟩) hA hP hD hS rfl (by decide) (fun H locs hP hD hS => ?_)
      exact hJ58 q_10 _ _ _ hf hP hD hS (lv_sub hl [0] rfl)
    · have hf := vif_t c_9 hf
      refine lv_bipush (v := (-9 : Int32)) hx hb (dt uX8_day 21 rfl) (by decide) ?_
      refine lv_goto (tgt := 58) hx hb (dt uX8_day 22 rfl) (by decide) ?_
      exact hJ58 (-9 : Int32) _ _ _ hf hP hD hS (lv_sub hl [0] rfl)
  · have hf := vif_t c_1 hf
    refine lv_bipush (v := (-2 : Int32)) hx hb (dt uX8_day 6 rfl) (by decide) ?_
    have hf := Option.some.inj hf
    subst hf
    rw [hQ]
    exact vret_i C hP hD hS (dt uX8_day 7 rfl)
abbrev rX8_undo : Room := { frames := 0, cells := 0, slots := 0, locals := 0 }
abbrev wX8_undo : List Cond := Cond.code yX8_undo cX8_undo 2 (some .int) :: VT
set_option maxHeartbeats 4000000 in
set_option maxRecDepth 100000 in
theorem kX8_undo (ad0 : Nat) (ad_text : Nat) (ad_books : Nat) (ad_numberA : Nat) (ad_numberB : Nat) (ad_draftTouches : Nat) (ad_now : Nat) (ad_isKept : Nat) (ad_near : Nat) (ad_seenDays : Nat) (ad_seenBook : Nat) (ad_seenIs : Nat) (v_trace : Int64) (v_typed : Int32) (v_draftOne : Int32) (v_oneTold : Int32) (v_at : Int32) (v_start : Int32) (v_sort : Int32) (v_value : Int32) (v_fault : Int32) (v_seen : Int32) (v_sets : Int32) (v_inEach : Int32) (v_inSome : Int32) (a_now : Nat → Int32) (N : Nat) (q0 : (Int32 × (Nat → Int32))) (hf : fX8_undo N a_now = some q0) : Ki l yX8_undo wX8_undo rX8_undo (dC, dI) (vTy cI cJ cB cZ) [.ref ad0] [(ad0, oX8 v_trace ad_text v_typed ad_books ad_numberA ad_numberB ad_draftTouches v_draftOne v_oneTold v_at v_start v_sort v_value v_fault ad_now ad_isKept ad_near ad_seenDays ad_seenBook ad_seenIs v_seen v_sets v_inEach v_inSome), (ad_now, .inl (cI, 498, .inl a_now))] [(ad0, oX8 v_trace ad_text v_typed ad_books ad_numberA ad_numberB ad_draftTouches v_draftOne v_oneTold v_at v_start v_sort v_value v_fault ad_now ad_isKept ad_near ad_seenDays ad_seenBook ad_seenIs v_seen v_sets v_inEach v_inSome), (ad_now, .inl (cI, 498, .inl q0.2))] q0.1 := by
  refine Ki.mk (cc := cX8_undo) (maxL := 2) (ret := some .int) (by decide) (Nat.le_of_ble_eq_true rfl) ?_
  intro p e s m args below meth c A Q H locs C hQ hP hD hS ls hl
  obtain ⟨hx, hb, -, hml, hts, hown, -, hK, hN, hA⟩ := id C
  have hown : s.vm.findClass RX8 = some m.cls := hown
  have hl : lv_has ls 2 [(0, .ref ad0)] := hl
  unfold fX8_undo at hf
  refine lv_aload_n hx hb (dt uX8_undo 0 rfl) rfl (lv_at hl 0 rfl) ?_
  refine va_get (D := (dC, dI)) (ci := 8) (v := .ref ad_now) (C := RX8) (T := TX8) (N := 24) hx hb hts inU8 hown hK hP 0 rfl rfl 14 (by decide) (hts _ tw_369) (fun _ h9 => h9) rfl (dt uX8_undo 1 rfl) ?_
  refine lv_bipush (v := (15 : Int32)) hx hb (dt uX8_undo 2 rfl) (by decide) ?_
  refine va_iald hx hb hK hP 1 0 rfl rfl (vp_in_iff.mpr (by decide)) (dt uX8_undo 3 rfl) ?_
  refine lv_if_ne (tgt := 13) hx hb (dt uX8_undo 4 rfl) (by decide) (fun c_1 => ?_) (fun c_1 => ?_)
  · have hf := vif_f c_1 hf
    refine lv_aload_n hx hb (dt uX8_undo 7 rfl) rfl (lv_at hl 0 rfl) ?_
    refine va_get (D := (dC, dI)) (ci := 8) (v := .ref ad_now) (C := RX8) (T := TX8) (N := 24) hx hb hts inU8 hown hK hP 0 rfl rfl 14 (by decide) (hts _ tw_369) (fun _ h9 => h9) rfl (dt uX8_undo 8 rfl) ?_
    refine lv_bipush (v := (15 : Int32)) hx hb (dt uX8_undo 9 rfl) (by decide) ?_
    refine lv_dup2_11 hx hb (dt uX8_undo 10 rfl) rfl rfl ?_
    refine va_iald hx hb hK hP 1 0 rfl rfl (vp_in_iff.mpr (by decide)) (dt uX8_undo 11 rfl) ?_
    refine lv_iconst (v := (1 : Int32)) hx hb (dt uX8_undo 12 rfl) (by decide) ?_
    refine lv_isub hx hb (dt uX8_undo 13 rfl) ?_
    refine va_iast hx hb hK hP hD hS 1 0 rfl rfl (vp_in_iff.mpr (by decide)) (dt uX8_undo 14 rfl) (fun H locs hP hD hS => ?_)
    have hP : va_P (dC, dI) vwCl [(ad0, oX8 v_trace ad_text v_typed ad_books ad_numberA ad_numberB ad_draftTouches v_draftOne v_oneTold v_at v_start v_sort v_value v_fault ad_now ad_isKept ad_near ad_seenDays ad_seenBook ad_seenIs v_seen v_sets v_inEach v_inSome), (ad_now, .inl (cI, 498, .inl (upd a_now (15 : Int32).toNatClampNeg ((a_now (15 : Int32).toNatClampNeg) - (1 : Int32)))))] H := hP
    have hD : va_D A [(ad0, oX8 v_trace ad_text v_typed ad_books ad_numberA ad_numberB ad_draftTouches v_draftOne v_oneTold v_at v_start v_sort v_value v_fault ad_now ad_isKept ad_near ad_seenDays ad_seenBook ad_seenIs v_seen v_sets v_inEach v_inSome), (ad_now, .inl (cI, 498, .inl (upd a_now (15 : Int32).toNatClampNeg ((a_now (15 : Int32).toNatClampNeg) - (1 : Int32)))))] := hD
    refine lv_iconst (v := (0 : Int32)) hx hb (dt uX8_undo 15 rfl) (by decide) ?_
    refine lv_istore_n (lv' := [(1, .int (0 : Int32)), (0, .ref ad0)]) hx hb (dt uX8_undo 16 rfl) rfl hl (by decide) rfl (fun ls hl => ?_)
    have hL26 : ∀ (n26 : Nat), ∀ (x1_2 : Int32) (w_3 : Nat → Int32) (H : Heap) (locs : List Loc) (ls : Array Slot), fX8_undo_L26 n26 x1_2 w_3 = some q0 → va_P (dC, dI) vwCl [(ad0, oX8 v_trace ad_text v_typed ad_books ad_numberA ad_numberB ad_draftTouches v_draftOne v_oneTold v_at v_start v_sort v_value v_fault ad_now ad_isKept ad_near ad_seenDays ad_seenBook ad_seenIs v_seen v_sets v_inEach v_inSome), (ad_now, .inl (cI, 498, .inl w_3))] H → va_D A [(ad0, oX8 v_trace ad_text v_typed ad_books ad_numberA ad_numberB ad_draftTouches v_draftOne v_oneTold v_at v_start v_sort v_value v_fault ad_now ad_isKept ad_near ad_seenDays ad_seenBook ad_seenIs v_seen v_sets v_inEach v_inSome), (ad_now, .inl (cI, 498, .inl w_3))] → va_S A s.heap H locs → lv_has ls 2 [(0, .ref ad0), (1, .int x1_2)] → W p l e rX8_undo s m args below meth c H locs 0 0 Q (F0 m 26 ls []) := by
      intro n26
      induction n26 with
      | zero => intro x1_2 w_3 H locs ls hf hP hD hS hl; cases hf
      | succ n26 ih26 =>
        intro x1_2 w_3 H locs ls hf hP hD hS hl
        rw [fX8_undo_L26] at hf
        refine lv_iload_n hx hb (dt uX8_undo 17 rfl) rfl (lv_at hl 1 rfl) ?_
        refine lv_bipush (v := (15 : Int32)) hx hb (dt uX8_undo 18 rfl) (by decide) ?_
        refine lv_icmp_ge (tgt := 64) hx hb (dt uX8_undo 19 rfl) (by decide) (fun c_4 => ?_) (fun c_4 => ?_)
        · have hf := vif_t c_4 hf
          refine lv_aload_n hx hb (dt uX8_undo 39 rfl) rfl (lv_at hl 0 rfl) ?_
          refine va_get (D := (dC, dI)) (ci := 8) (v := .ref ad_now) (C := RX8) (T := TX8) (N := 24) hx hb hts inU8 hown hK hP 0 rfl rfl 14 (by decide) (hts _ tw_369) (fun _ h9 => h9) rfl (dt uX8_undo 40 rfl) ?_
          refine lv_bipush (v := (15 : Int32)) hx hb (dt uX8_undo 41 rfl) (by decide) ?_
          refine va_iald hx hb hK hP 1 0 rfl rfl (vp_in_iff.mpr (by decide)) (dt uX8_undo 42 rfl) ?_
          have hf := Option.some.inj hf
          subst hf
          rw [hQ]
          exact vret_i C hP hD hS (dt uX8_undo 43 rfl)
        · have hf := vif_f c_4 hf
          refine lv_aload_n hx hb (dt uX8_undo 20 rfl) rfl (lv_at hl 0 rfl) ?_
          refine va_get (D := (dC, dI)) (ci := 8) (v := .ref ad_now) (C := RX8) (T := TX8) (N := 24) hx hb hts inU8 hown hK hP 0 rfl rfl 14 (by decide) (hts _ tw_369) (fun _ h9 => h9) rfl (dt uX8_undo 21 rfl) ?_
          refine lv_iload_n hx hb (dt uX8_undo 22 rfl) rfl (lv_at hl 1 rfl) ?_
          refine lv_aload_n hx hb (dt uX8_undo 23 rfl) rfl (lv_at hl 0 rfl) ?_
          refine va_get (D := (dC, dI)) (ci := 8) (v := .ref ad_now) (C := RX8) (T := TX8) (N := 24) hx hb hts inU8 hown hK hP 0 rfl rfl 14 (by decide) (hts _ tw_369) (fun _ h9 => h9) rfl (dt uX8_undo 24 rfl) ?_
          refine lv_bipush (v := (16 : Int32)) hx hb (dt uX8_undo 25 rfl) (by decide) ?_
          refine lv_bipush (v := (15 : Int32)) hx hb (dt uX8_undo 26 rfl) (by decide) ?_
          refine lv_aload_n hx hb (dt uX8_undo 27 rfl) rfl (lv_at hl 0 rfl) ?_
          refine va_get (D := (dC, dI)) (ci := 8) (v := .ref ad_now) (C := RX8) (T := TX8) (N := 24) hx hb hts inU8 hown hK hP 0 rfl rfl 14 (by decide) (hts _ tw_369) (fun _ h9 => h9) rfl (dt uX8_undo 28 rfl) ?_
          refine lv_bipush (v := (15 : Int32)) hx hb (dt uX8_undo 29 rfl) (by decide) ?_
          refine va_iald hx hb hK hP 1 0 rfl rfl (vp_in_iff.mpr (by decide)) (dt uX8_undo 30 rfl) ?_
          refine lv_imul hx hb (dt uX8_undo 31 rfl) ?_
          refine lv_iadd hx hb (dt uX8_undo 32 rfl) ?_
          refine lv_iload_n hx hb (dt uX8_undo 33 rfl) rfl (lv_at hl 1 rfl) ?_
          refine lv_iadd hx hb (dt uX8_undo 34 rfl) ?_
          obtain ⟨hi_5, hf⟩ := vg_some hf
          refine va_iald hx hb hK hP 1 0 rfl rfl hi_5 (dt uX8_undo 35 rfl) ?_
          obtain ⟨hi_6, hf⟩ := vg_some hf
          refine va_iast hx hb hK hP hD hS 1 0 rfl rfl hi_6 (dt uX8_undo 36 rfl) (fun H locs hP hD hS => ?_)
          have hP : va_P (dC, dI) vwCl [(ad0, oX8 v_trace ad_text v_typed ad_books ad_numberA ad_numberB ad_draftTouches v_draftOne v_oneTold v_at v_start v_sort v_value v_fault ad_now ad_isKept ad_near ad_seenDays ad_seenBook ad_seenIs v_seen v_sets v_inEach v_inSome), (ad_now, .inl (cI, 498, .inl (upd w_3 x1_2.toNatClampNeg (w_3 (((16 : Int32) + ((15 : Int32) * (w_3 (15 : Int32).toNatClampNeg))) + x1_2).toNatClampNeg))))] H := hP
          have hD : va_D A [(ad0, oX8 v_trace ad_text v_typed ad_books ad_numberA ad_numberB ad_draftTouches v_draftOne v_oneTold v_at v_start v_sort v_value v_fault ad_now ad_isKept ad_near ad_seenDays ad_seenBook ad_seenIs v_seen v_sets v_inEach v_inSome), (ad_now, .inl (cI, 498, .inl (upd w_3 x1_2.toNatClampNeg (w_3 (((16 : Int32) + ((15 : Int32) * (w_3 (15 : Int32).toNatClampNeg))) + x1_2).toNatClampNeg))))] := hD
          refine lv_iinc (v := x1_2 + 1) (lv' := [(1, .int (x1_2 + 1)), (0, .ref ad0)]) hx hb (dt uX8_undo 37 rfl) hl (k := 1) rfl rfl (by decide) rfl (fun ls hl => ?_)
          refine lv_goto (tgt := 26) hx hb (dt uX8_undo 38 rfl) (by decide) ?_
          exact ih26 (x1_2 + 1) (upd w_3 x1_2.toNatClampNeg (w_3 (((16 : Int32) + ((15 : Int32) * (w_3 (15 : Int32).toNatClampNeg))) + x1_2).toNatClampNeg)) _ _ _ hf hP hD hS (lv_sub hl [1, 0] rfl)
    exact hL26 N (0 : Int32) (upd a_now (15 : Int32).toNatClampNeg ((a_now (15 : Int32).toNatClampNeg) - (1 : Int32))) _ _ _ hf hP hD hS (lv_sub hl [1, 0] rfl)
  · have hf := vif_t c_1 hf
    refine lv_bipush (v := (-2 : Int32)) hx hb (dt uX8_undo 5 rfl) (by decide) ?_
    have hf := Option.some.inj hf
    subst hf
    rw [hQ]
    exact vret_i C hP hD hS (dt uX8_undo 6 rfl)
abbrev rX8_now : Room := { frames := 3, cells := 0, slots := 0, locals := 64 }
abbrev wX8_now : List Cond := Cond.code yX8_now cX8_now 8 (some .int) :: VT
set_option maxHeartbeats 4000000 in
set_option maxRecDepth 100000 in
theorem kX8_now (ad0 : Nat) (ad_text : Nat) (ad_books : Nat) (ad_numberA : Nat) (ad_numberB : Nat) (ad_draftTouches : Nat) (ad_now : Nat) (ad_isKept : Nat) (ad_near : Nat) (ad_seenDays : Nat) (ad_seenBook : Nat) (ad_seenIs : Nat) (v_trace : Int64) (v_typed : Int32) (v_draftOne : Int32) (v_oneTold : Int32) (v_at : Int32) (v_start : Int32) (v_sort : Int32) (v_value : Int32) (v_fault : Int32) (v_seen : Int32) (v_sets : Int32) (v_inEach : Int32) (v_inSome : Int32) (a_books : Nat → Int32) (a_numberA : Nat → Int32) (a_numberB : Nat → Int32) (a_now : Nat → Int32) (p1 : Int32) (N : Nat) (q0 : Int32) (hf : fX8_now N a_books a_numberA a_numberB a_now p1 = some q0) : Ki l yX8_now wX8_now rX8_now (dC, dI) (vTy cI cJ cB cZ) [.ref ad0, .int p1] [(ad0, oX8 v_trace ad_text v_typed ad_books ad_numberA ad_numberB ad_draftTouches v_draftOne v_oneTold v_at v_start v_sort v_value v_fault ad_now ad_isKept ad_near ad_seenDays ad_seenBook ad_seenIs v_seen v_sets v_inEach v_inSome), (ad_books, .inl (cI, 2, .inl a_books)), (ad_numberA, .inl (cI, 12, .inl a_numberA)), (ad_numberB, .inl (cI, 12, .inl a_numberB)), (ad_now, .inl (cI, 498, .inl a_now))] [(ad0, oX8 v_trace ad_text v_typed ad_books ad_numberA ad_numberB ad_draftTouches v_draftOne v_oneTold v_at v_start v_sort v_value v_fault ad_now ad_isKept ad_near ad_seenDays ad_seenBook ad_seenIs v_seen v_sets v_inEach v_inSome), (ad_books, .inl (cI, 2, .inl a_books)), (ad_numberA, .inl (cI, 12, .inl a_numberA)), (ad_numberB, .inl (cI, 12, .inl a_numberB)), (ad_now, .inl (cI, 498, .inl a_now))] q0 := by
  refine Ki.mk (cc := cX8_now) (maxL := 8) (ret := some .int) (by decide) (Nat.le_of_ble_eq_true rfl) ?_
  intro p e s m args below meth c A Q H locs C hQ hP hD hS ls hl
  obtain ⟨hx, hb, -, hml, hts, hown, -, hK, hN, hA⟩ := id C
  have hown : s.vm.findClass RX8 = some m.cls := hown
  have hl : lv_has ls 8 [(0, .ref ad0), (1, .int p1)] := hl
  unfold fX8_now at hf
  refine lv_iconst (v := (0 : Int32)) hx hb (dt uX8_now_0 0 rfl) (by decide) ?_
  refine lv_istore_n (lv' := [(2, .int (0 : Int32)), (0, .ref ad0), (1, .int p1)]) hx hb (dt uX8_now_0 1 rfl) rfl hl (by decide) rfl (fun ls hl => ?_)
  refine lv_iconst (v := (0 : Int32)) hx hb (dt uX8_now_0 2 rfl) (by decide) ?_
  refine lv_istore_n (lv' := [(3, .int (0 : Int32)), (2, .int (0 : Int32)), (0, .ref ad0), (1, .int p1)]) hx hb (dt uX8_now_0 3 rfl) rfl hl (by decide) rfl (fun ls hl => ?_)
  refine lv_iconst (v := (0 : Int32)) hx hb (dt uX8_now_0 4 rfl) (by decide) ?_
  refine lv_istore (lv' := [(4, .int (0 : Int32)), (3, .int (0 : Int32)), (2, .int (0 : Int32)), (0, .ref ad0), (1, .int p1)]) hx hb (dt uX8_now_0 5 rfl) hl (by decide) rfl (fun ls hl => ?_)
  refine lv_iconst (v := (0 : Int32)) hx hb (dt uX8_now_0 6 rfl) (by decide) ?_
  refine lv_istore (lv' := [(5, .int (0 : Int32)), (4, .int (0 : Int32)), (3, .int (0 : Int32)), (2, .int (0 : Int32)), (0, .ref ad0), (1, .int p1)]) hx hb (dt uX8_now_0 7 rfl) hl (by decide) rfl (fun ls hl => ?_)
  refine lv_iconst (v := (0 : Int32)) hx hb (dt uX8_now_0 8 rfl) (by decide) ?_
  refine lv_istore (lv' := [(6, .int (0 : Int32)), (5, .int (0 : Int32)), (4, .int (0 : Int32)), (3, .int (0 : Int32)), (2, .int (0 : Int32)), (0, .ref ad0), (1, .int p1)]) hx hb (dt uX8_now_0 9 rfl) hl (by decide) rfl (fun ls hl => ?_)
  have hL13 : ∀ (n13 : Nat), ∀ (x2_1 : Int32) (x3_2 : Int32) (x4_3 : Int32) (x5_4 : Int32) (x6_5 : Int32) (H : Heap) (locs : List Loc) (ls : Array Slot), fX8_now_L13 N a_books a_numberA a_numberB a_now p1 n13 x2_1 x3_2 x4_3 x5_4 x6_5 = some q0 → va_P (dC, dI) vwCl [(ad0, oX8 v_trace ad_text v_typed ad_books ad_numberA ad_numberB ad_draftTouches v_draftOne v_oneTold v_at v_start v_sort v_value v_fault ad_now ad_isKept ad_near ad_seenDays ad_seenBook ad_seenIs v_seen v_sets v_inEach v_inSome), (ad_books, .inl (cI, 2, .inl a_books)), (ad_numberA, .inl (cI, 12, .inl a_numberA)), (ad_numberB, .inl (cI, 12, .inl a_numberB)), (ad_now, .inl (cI, 498, .inl a_now))] H → va_D A [(ad0, oX8 v_trace ad_text v_typed ad_books ad_numberA ad_numberB ad_draftTouches v_draftOne v_oneTold v_at v_start v_sort v_value v_fault ad_now ad_isKept ad_near ad_seenDays ad_seenBook ad_seenIs v_seen v_sets v_inEach v_inSome), (ad_books, .inl (cI, 2, .inl a_books)), (ad_numberA, .inl (cI, 12, .inl a_numberA)), (ad_numberB, .inl (cI, 12, .inl a_numberB)), (ad_now, .inl (cI, 498, .inl a_now))] → va_S A s.heap H locs → lv_has ls 8 [(0, .ref ad0), (1, .int p1), (2, .int x2_1), (3, .int x3_2), (4, .int x4_3), (5, .int x5_4), (6, .int x6_5)] → W p l e rX8_now s m args below meth c H locs 0 0 Q (F0 m 13 ls []) := by
    intro n13
    induction n13 with
    | zero => intro x2_1 x3_2 x4_3 x5_4 x6_5 H locs ls hf hP hD hS hl; cases hf
    | succ n13 ih13 =>
      intro x2_1 x3_2 x4_3 x5_4 x6_5 H locs ls hf hP hD hS hl
      rw [fX8_now_L13] at hf
      refine lv_iload hx hb (dt uX8_now_0 10 rfl) (lv_at hl 6 rfl) ?_
      refine lv_aload_n hx hb (dt uX8_now_0 11 rfl) rfl (lv_at hl 0 rfl) ?_
      refine va_get (D := (dC, dI)) (ci := 8) (v := .ref ad_books) (C := RX8) (T := TX8) (N := 24) hx hb hts inU8 hown hK hP 0 rfl rfl 3 (by decide) (hts _ tw_360) (fun _ h9 => h9) rfl (dt uX8_now_0 12 rfl) ?_
      refine lv_iconst (v := (0 : Int32)) hx hb (dt uX8_now_0 13 rfl) (by decide) ?_
      refine va_iald hx hb hK hP 1 0 rfl rfl (vp_in_iff.mpr (by decide)) (dt uX8_now_0 14 rfl) ?_
      refine lv_icmp_ge (tgt := 105) hx hb (dt uX8_now_0 15 rfl) (by decide) (fun c_6 => ?_) (fun c_6 => ?_)
      · have hf := vif_t c_6 hf
        refine lv_iload_n hx hb (dt uX8_now_1 2 rfl) rfl (lv_at hl 1 rfl) ?_
        by_cases c_7 : p1 = (0 : Int32)
        · have hf := vif_t c_7 hf
          refine lv_tableIn (off := 42) (tgt := 148) hx hb (dt uX8_now_1 3 rfl) (by rw [c_7]; decide) (by rw [c_7]; decide) (by rw [c_7]; rfl) (by decide) ?_
          refine lv_aload_n hx hb (dt uX8_now_1 4 rfl) rfl (lv_at hl 0 rfl) ?_
          refine va_get (D := (dC, dI)) (ci := 8) (v := .ref ad_now) (C := RX8) (T := TX8) (N := 24) hx hb hts inU8 hown hK hP 0 rfl rfl 14 (by decide) (hts _ tw_369) (fun _ h9 => h9) rfl (dt uX8_now_1 5 rfl) ?_
          refine lv_bipush (v := (14 : Int32)) hx hb (dt uX8_now_1 6 rfl) (by decide) ?_
          refine va_iald hx hb hK hP 4 0 rfl rfl (vp_in_iff.mpr (by decide)) (dt uX8_now_1 7 rfl) ?_
          have hf := Option.some.inj hf
          subst hf
          rw [hQ]
          exact vret_i C hP hD hS (dt uX8_now_1 8 rfl)
        have hf := vif_f c_7 hf
        by_cases c_8 : p1 = (1 : Int32)
        · have hf := vif_t c_8 hf
          refine lv_tableIn (off := 50) (tgt := 156) hx hb (dt uX8_now_1 3 rfl) (by rw [c_8]; decide) (by rw [c_8]; decide) (by rw [c_8]; rfl) (by decide) ?_
          refine lv_aload_n hx hb (dt uX8_now_1 9 rfl) rfl (lv_at hl 0 rfl) ?_
          refine va_get (D := (dC, dI)) (ci := 8) (v := .ref ad_now) (C := RX8) (T := TX8) (N := 24) hx hb hts inU8 hown hK hP 0 rfl rfl 14 (by decide) (hts _ tw_369) (fun _ h9 => h9) rfl (dt uX8_now_1 10 rfl) ?_
          refine lv_bipush (v := (13 : Int32)) hx hb (dt uX8_now_1 11 rfl) (by decide) ?_
          refine va_iald hx hb hK hP 4 0 rfl rfl (vp_in_iff.mpr (by decide)) (dt uX8_now_1 12 rfl) ?_
          have hf := Option.some.inj hf
          subst hf
          rw [hQ]
          exact vret_i C hP hD hS (dt uX8_now_1 13 rfl)
        have hf := vif_f c_8 hf
        by_cases c_9 : p1 = (2 : Int32)
        · have hf := vif_t c_9 hf
          refine lv_tableIn (off := 58) (tgt := 164) hx hb (dt uX8_now_1 3 rfl) (by rw [c_9]; decide) (by rw [c_9]; decide) (by rw [c_9]; rfl) (by decide) ?_
          refine lv_iload_n hx hb (dt uX8_now_1 14 rfl) rfl (lv_at hl 2 rfl) ?_
          have hf := Option.some.inj hf
          subst hf
          rw [hQ]
          exact vret_i C hP hD hS (dt uX8_now_1 15 rfl)
        have hf := vif_f c_9 hf
        by_cases c_10 : p1 = (3 : Int32)
        · have hf := vif_t c_10 hf
          refine lv_tableIn (off := 60) (tgt := 166) hx hb (dt uX8_now_1 3 rfl) (by rw [c_10]; decide) (by rw [c_10]; decide) (by rw [c_10]; rfl) (by decide) ?_
          refine lv_iload_n hx hb (dt uX8_now_1 16 rfl) rfl (lv_at hl 3 rfl) ?_
          have hf := Option.some.inj hf
          subst hf
          rw [hQ]
          exact vret_i C hP hD hS (dt uX8_now_1 17 rfl)
        have hf := vif_f c_10 hf
        by_cases c_11 : p1 = (4 : Int32)
        · have hf := vif_t c_11 hf
          refine lv_tableIn (off := 62) (tgt := 168) hx hb (dt uX8_now_1 3 rfl) (by rw [c_11]; decide) (by rw [c_11]; decide) (by rw [c_11]; rfl) (by decide) ?_
          refine lv_iload hx hb (dt uX8_now_1 18 rfl) (lv_at hl 4 rfl) ?_
          have hf := Option.some.inj hf
          subst hf
          rw [hQ]
          exact vret_i C hP hD hS (dt uX8_now_1 19 rfl)
        have hf := vif_f c_11 hf
        by_cases c_12 : p1 = (5 : Int32)
        · have hf := vif_t c_12 hf
          refine lv_tableIn (off := 65) (tgt := 171) hx hb (dt uX8_now_1 3 rfl) (by rw [c_12]; decide) (by rw [c_12]; decide) (by rw [c_12]; rfl) (by decide) ?_
          refine lv_iload hx hb (dt uX8_now_1 20 rfl) (lv_at hl 5 rfl) ?_
          have hf := Option.some.inj hf
          subst hf
          rw [hQ]
          exact vret_i C hP hD hS (dt uX8_now_1 21 rfl)
        have hf := vif_f c_12 hf
        by_cases c_13 : p1 = (6 : Int32)
        · have hf := vif_t c_13 hf
          refine lv_tableIn (off := 68) (tgt := 174) hx hb (dt uX8_now_1 3 rfl) (by rw [c_13]; decide) (by rw [c_13]; decide) (by rw [c_13]; rfl) (by decide) ?_
          refine lv_aload_n hx hb (dt uX8_now_1 22 rfl) rfl (lv_at hl 0 rfl) ?_
          obtain ⟨q_14, hq_15, hf⟩ := vbd hf
          refine vk_i0 [0, 4] (va_runV (As := []) (rest := []) ⟨hx, hb, hml, hown, hts⟩ (kX8_touches ad0 ad_text ad_books ad_numberA ad_numberB ad_draftTouches ad_now ad_isKept ad_near ad_seenDays ad_seenBook ad_seenIs v_trace v_typed v_draftOne v_oneTold v_at v_start v_sort v_value v_fault v_seen v_sets v_inEach v_inSome a_now N q_14 hq_15 H.size) (vcwV hts tw_419 tw_420 tw_421 tw_336 tw_418 hd_X8_touches rfl rfl ⟨Nat.le_of_ble_eq_true rfl, Nat.le_of_ble_eq_true rfl⟩) (vpreV hK hN hP hD [0, 4] rfl (by decide) (ci := 8) (q0 := 0) rfl rfl) rfl rfl hl.1 rfl (lv_room (Nat.le_of_ble_eq_true rfl)) (dt uX8_now_1 23 rfl) ⟨Nat.zero_le _, Nat.zero_le _⟩) hA hP hD hS rfl (by decide) (fun H locs hP hD hS => ?_)
          have hf := Option.some.inj hf
          subst hf
          rw [hQ]
          exact vret_i C hP hD hS (dt uX8_now_1 24 rfl)
        have hf := vif_f c_13 hf
        have e_16 : ∀ k : Int, (0 : Int) ≤ k → k ≤ 6 → (p1).toInt ≠ k := by
          intro k h1 h2
          have e : k = 0 ∨ k = 1 ∨ k = 2 ∨ k = 3 ∨ k = 4 ∨ k = 5 ∨ k = 6 := by omega
          rcases e with rfl | rfl | rfl | rfl | rfl | rfl | rfl
          · exact vne_toInt c_7
          · exact vne_toInt c_8
          · exact vne_toInt c_9
          · exact vne_toInt c_10
          · exact vne_toInt c_11
          · exact vne_toInt c_12
          · exact vne_toInt c_13
        refine lv_tableOut (tgt := 179) hx hb (dt uX8_now_1 3 rfl) (vtab_out e_16) (by decide) ?_
        refine lv_iconst (v := (-1 : Int32)) hx hb (dt uX8_now_1 25 rfl) (by decide) ?_
        have hf := Option.some.inj hf
        subst hf
        rw [hQ]
        exact vret_i C hP hD hS (dt uX8_now_1 26 rfl)
      · have hf := vif_f c_6 hf
        refine lv_aload_n hx hb (dt uX8_now_0 16 rfl) rfl (lv_at hl 0 rfl) ?_
        refine lv_iload hx hb (dt uX8_now_0 17 rfl) (lv_at hl 6 rfl) ?_
        obtain ⟨q_17, hq_18, hf⟩ := vbd hf
        refine vk_i0 [0, 2, 3, 4] (va_runV (As := [.int x6_5]) (rest := []) ⟨hx, hb, hml, hown, hts⟩ (kX8_shown ad0 ad_text ad_books ad_numberA ad_numberB ad_draftTouches ad_now ad_isKept ad_near ad_seenDays ad_seenBook ad_seenIs v_trace v_typed v_draftOne v_oneTold v_at v_start v_sort v_value v_fault v_seen v_sets v_inEach v_inSome a_numberA a_numberB a_now x6_5 q_17 hq_18 H.size) (vcwV hts tw_407 tw_408 tw_409 tw_336 tw_406 hd_X8_shown rfl rfl ⟨Nat.le_of_ble_eq_true rfl, Nat.le_of_ble_eq_true rfl⟩) (vpreV hK hN hP hD [0, 2, 3, 4] rfl (by decide) (ci := 8) (q0 := 0) rfl rfl) rfl rfl hl.1 rfl (lv_room (Nat.le_of_ble_eq_true rfl)) (dt uX8_now_0 18 rfl) ⟨Nat.zero_le _, Nat.zero_le _⟩) hA hP hD hS rfl (by decide) (fun H locs hP hD hS => ?_)
        refine lv_aload_n hx hb (dt uX8_now_0 19 rfl) rfl (lv_at hl 0 rfl) ?_
        refine lv_iload hx hb (dt uX8_now_0 20 rfl) (lv_at hl 6 rfl) ?_
        obtain ⟨q_19, hq_20, hf⟩ := vbd hf
        refine vk_i0 [0, 2, 3] (va_runV (As := [.int x6_5]) (rest := [.int q_17]) ⟨hx, hb, hml, hown, hts⟩ (kX8_sum ad0 ad_text ad_books ad_numberA ad_numberB ad_draftTouches ad_now ad_isKept ad_near ad_seenDays ad_seenBook ad_seenIs v_trace v_typed v_draftOne v_oneTold v_at v_start v_sort v_value v_fault v_seen v_sets v_inEach v_inSome a_numberA a_numberB x6_5 q_19 hq_20 H.size) (vcwV hts tw_392 tw_393 tw_394 tw_336 tw_391 hd_X8_sum rfl rfl ⟨Nat.le_of_ble_eq_true rfl, Nat.le_of_ble_eq_true rfl⟩) (vpreV hK hN hP hD [0, 2, 3] rfl (by decide) (ci := 8) (q0 := 0) rfl rfl) rfl rfl hl.1 rfl (lv_room (Nat.le_of_ble_eq_true rfl)) (dt uX8_now_0 21 rfl) ⟨Nat.zero_le _, Nat.zero_le _⟩) hA hP hD hS rfl (by decide) (fun H locs hP hD hS => ?_)
        refine lv_isub hx hb (dt uX8_now_0 22 rfl) ?_
        refine lv_istore (lv' := [(7, .int (q_17 - q_19)), (0, .ref ad0), (1, .int p1), (2, .int x2_1), (3, .int x3_2), (4, .int x4_3), (5, .int x5_4), (6, .int x6_5)]) hx hb (dt uX8_now_0 23 rfl) hl (by decide) rfl (fun ls hl => ?_)
        refine lv_iload_n hx hb (dt uX8_now_0 24 rfl) rfl (lv_at hl 3 rfl) ?_
        refine lv_aload_n hx hb (dt uX8_now_0 25 rfl) rfl (lv_at hl 1 rfl) ?_
        refine lv_iload hx hb (dt uX8_now_0 26 rfl) (lv_at hl 7 rfl) ?_
        obtain ⟨q_21, hq_22, hf⟩ := vbd hf
        refine vk_i0 [0, 2, 3, 4] (va_runV (As := [.int x6_5]) (rest := [.int x2_1]) ⟨hx, hb, hml, hown, hts⟩ (kX8_shown ad0 ad_text ad_books ad_numberA ad_numberB ad_draftTouches ad_now ad_isKept ad_near ad_seenDays ad_seenBook ad_seenIs v_trace v_typed v_draftOne v_oneTold v_at v_start v_sort v_value v_fault v_seen v_sets v_inEach v_inSome a_numberA a_numberB a_now x6_5 q_21 hq_22 H.size) (vcwV hts tw_407 tw_408 tw_409 tw_336 tw_406 hd_X8_shown rfl rfl ⟨Nat.le_of_ble_eq_true rfl, Nat.le_of_ble_eq_true rfl⟩) (vpreV hK hN hP hD [0, 2, 3, 4] rfl (by decide) (ci := 8) (q0 := 0) rfl rfl) rfl rfl hl.1 rfl (lv_room (Nat.le_of_ble_eq_true rfl)) (dt uX8_now_0 27 rfl) ⟨Nat.zero_le _, Nat.zero_le _⟩) hA hP hD hS rfl (by decide) (fun H locs hP hD hS => ?_)
        refine lv_iadd hx hb (dt uX8_now_0 28 rfl) ?_
        refine lv_istore_n (lv' := [(2, .int (x2_1 + q_21)), (7, .int (q_17 - q_19)), (0, .ref ad0), (1, .int p1), (3, .int x3_2), (4, .int x4_3), (5, .int x5_4), (6, .int x6_5)]) hx hb (dt uX8_now_0 29 rfl) rfl hl (by decide) rfl (fun ls hl => ?_)
        refine lv_iload_n hx hb (dt uX8_now_0 30 rfl) rfl (lv_at hl 4 rfl) ?_
        refine lv_aload_n hx hb (dt uX8_now_0 31 rfl) rfl (lv_at hl 2 rfl) ?_
        refine lv_iload hx hb (dt uX8_now_0 32 rfl) (lv_at hl 7 rfl) ?_
        obtain ⟨q_23, hq_24, hf⟩ := vbd hf
        refine vk_i0 [0, 2, 3] (va_runV (As := [.int x6_5]) (rest := [.int x3_2]) ⟨hx, hb, hml, hown, hts⟩ (kX8_sum ad0 ad_text ad_books ad_numberA ad_numberB ad_draftTouches ad_now ad_isKept ad_near ad_seenDays ad_seenBook ad_seenIs v_trace v_typed v_draftOne v_oneTold v_at v_start v_sort v_value v_fault v_seen v_sets v_inEach v_inSome a_numberA a_numberB x6_5 q_23 hq_24 H.size) (vcwV hts tw_392 tw_393 tw_394 tw_336 tw_391 hd_X8_sum rfl rfl ⟨Nat.le_of_ble_eq_true rfl, Nat.le_of_ble_eq_true rfl⟩) (vpreV hK hN hP hD [0, 2, 3] rfl (by decide) (ci := 8) (q0 := 0) rfl rfl) rfl rfl hl.1 rfl (lv_room (Nat.le_of_ble_eq_true rfl)) (dt uX8_now_0 33 rfl) ⟨Nat.zero_le _, Nat.zero_le _⟩) hA hP hD hS rfl (by decide) (fun H locs hP hD hS => ?_)
        refine lv_iadd hx hb (dt uX8_now_0 34 rfl) ?_
        refine lv_istore_n (lv' := [(3, .int (x3_2 + q_23)), (2, .int (x2_1 + q_21)), (7, .int (q_17 - q_19)), (0, .ref ad0), (1, .int p1), (4, .int x4_3), (5, .int x5_4), (6, .int x6_5)]) hx hb (dt uX8_now_0 35 rfl) rfl hl (by decide) rfl (fun ls hl => ?_)
        refine lv_iload hx hb (dt uX8_now_0 36 rfl) (lv_at hl 5 rfl) ?_
        refine lv_iload hx hb (dt uX8_now_0 37 rfl) (lv_at hl 2 rfl) ?_
        refine lv_bipush (v := (9 : Int32)) hx hb (dt uX8_now_0 38 rfl) (by decide) ?_
        refine lv_irem hx hb (dt uX8_now_0 39 rfl) (by decide) ?_
        have hJ75 : ∀ (y1_25 : Int32) (H : Heap) (locs : List Loc) (ls : Array Slot), fX8_now_J75 x2_1 x3_2 x4_3 x5_4 x6_5 q_17 q_19 q_21 q_23 (fun z13_0 z13_1 z13_2 z13_3 z13_4 => fX8_now_L13 N a_books a_numberA a_numberB a_now p1 n13 z13_0 z13_1 z13_2 z13_3 z13_4) y1_25 = some q0 → va_P (dC, dI) vwCl [(ad0, oX8 v_trace ad_text v_typed ad_books ad_numberA ad_numberB ad_draftTouches v_draftOne v_oneTold v_at v_start v_sort v_value v_fault ad_now ad_isKept ad_near ad_seenDays ad_seenBook ad_seenIs v_seen v_sets v_inEach v_inSome), (ad_books, .inl (cI, 2, .inl a_books)), (ad_numberA, .inl (cI, 12, .inl a_numberA)), (ad_numberB, .inl (cI, 12, .inl a_numberB)), (ad_now, .inl (cI, 498, .inl a_now))] H → va_D A [(ad0, oX8 v_trace ad_text v_typed ad_books ad_numberA ad_numberB ad_draftTouches v_draftOne v_oneTold v_at v_start v_sort v_value v_fault ad_now ad_isKept ad_near ad_seenDays ad_seenBook ad_seenIs v_seen v_sets v_inEach v_inSome), (ad_books, .inl (cI, 2, .inl a_books)), (ad_numberA, .inl (cI, 12, .inl a_numberA)), (ad_numberB, .inl (cI, 12, .inl a_numberB)), (ad_now, .inl (cI, 498, .inl a_now))] → va_S A s.heap H locs → lv_has ls 8 [(0, .ref ad0), (1, .int p1), (2, .int (x2_1 + q_21)), (3, .int (x3_2 + q_23)), (5, .int x5_4), (6, .int x6_5), (7, .int (q_17 - q_19))] → W p l e rX8_now s m args below meth c H locs 0 0 Q (F0 m 75 ls [.int y1_25, .int x4_3]) := by
          intro y1_25 H locs ls hf hP hD hS hl
          unfold fX8_now_J75 at hf
          refine lv_ior hx hb (dt uX8_now_0 46 rfl) ?_
          refine lv_istore (lv' := [(4, .int (x4_3 ||| y1_25)), (0, .ref ad0), (1, .int p1), (2, .int (x2_1 + q_21)), (3, .int (x3_2 + q_23)), (5, .int x5_4), (6, .int x6_5), (7, .int (q_17 - q_19))]) hx hb (dt uX8_now_0 47 rfl) hl (by decide) rfl (fun ls hl => ?_)
          refine lv_iload hx hb (dt uX8_now_0 48 rfl) (lv_at hl 5 rfl) ?_
          refine lv_iload hx hb (dt uX8_now_0 49 rfl) (lv_at hl 7 rfl) ?_
          refine lv_bipush (v := (11 : Int32)) hx hb (dt uX8_now_0 50 rfl) (by decide) ?_
          refine lv_irem hx hb (dt uX8_now_0 51 rfl) (by decide) ?_
          refine lv_if_ne (tgt := 92) hx hb (dt uX8_now_0 52 rfl) (by decide) (fun c_26 => ?_) (fun c_26 => ?_)
          · have hf := vif_f c_26 hf
            refine lv_iconst (v := (1 : Int32)) hx hb (dt uX8_now_0 55 rfl) (by decide) ?_
            refine lv_iload hx hb (dt uX8_now_0 56 rfl) (lv_at hl 6 rfl) ?_
            refine lv_ishl hx hb (dt uX8_now_0 57 rfl) ?_
            refine lv_ior hx hb (dt uX8_now_0 58 rfl) ?_
            refine lv_istore (lv' := [(5, .int (x5_4 ||| ((1 : Int32) <<< (x6_5 &&& 31)))), (4, .int (x4_3 ||| y1_25)), (0, .ref ad0), (1, .int p1), (2, .int (x2_1 + q_21)), (3, .int (x3_2 + q_23)), (6, .int x6_5), (7, .int (q_17 - q_19))]) hx hb (dt uX8_now_0 59 rfl) hl (by decide) rfl (fun ls hl => ?_)
            refine lv_iinc (v := x6_5 + 1) (lv' := [(6, .int (x6_5 + 1)), (5, .int (x5_4 ||| ((1 : Int32) <<< (x6_5 &&& 31)))), (4, .int (x4_3 ||| y1_25)), (0, .ref ad0), (1, .int p1), (2, .int (x2_1 + q_21)), (3, .int (x3_2 + q_23)), (7, .int (q_17 - q_19))]) hx hb (dt uX8_now_1 0 rfl) hl (k := 6) rfl rfl (by decide) rfl (fun ls hl => ?_)
            refine lv_goto (tgt := 13) hx hb (dt uX8_now_1 1 rfl) (by decide) ?_
            exact ih13 (x2_1 + q_21) (x3_2 + q_23) (x4_3 ||| y1_25) (x5_4 ||| ((1 : Int32) <<< (x6_5 &&& 31))) (x6_5 + 1) _ _ _ hf hP hD hS (lv_sub hl [3, 4, 5, 6, 2, 1, 0] rfl)
          · have hf := vif_t c_26 hf
            refine lv_iconst (v := (0 : Int32)) hx hb (dt uX8_now_0 53 rfl) (by decide) ?_
            refine lv_goto (tgt := 96) hx hb (dt uX8_now_0 54 rfl) (by decide) ?_
            refine lv_ior hx hb (dt uX8_now_0 58 rfl) ?_
            refine lv_istore (lv' := [(5, .int (x5_4 ||| (0 : Int32))), (4, .int (x4_3 ||| y1_25)), (0, .ref ad0), (1, .int p1), (2, .int (x2_1 + q_21)), (3, .int (x3_2 + q_23)), (6, .int x6_5), (7, .int (q_17 - q_19))]) hx hb (dt uX8_now_0 59 rfl) hl (by decide) rfl (fun ls hl => ?_)
            refine lv_iinc (v := x6_5 + 1) (lv' := [(6, .int (x6_5 + 1)), (5, .int (x5_4 ||| (0 : Int32))), (4, .int (x4_3 ||| y1_25)), (0, .ref ad0), (1, .int p1), (2, .int (x2_1 + q_21)), (3, .int (x3_2 + q_23)), (7, .int (q_17 - q_19))]) hx hb (dt uX8_now_1 0 rfl) hl (k := 6) rfl rfl (by decide) rfl (fun ls hl => ?_)
            refine lv_goto (tgt := 13) hx hb (dt uX8_now_1 1 rfl) (by decide) ?_
            exact ih13 (x2_1 + q_21) (x3_2 + q_23) (x4_3 ||| y1_25) (x5_4 ||| (0 : Int32)) (x6_5 + 1) _ _ _ hf hP hD hS (lv_sub hl [3, 4, 5, 6, 2, 1, 0] rfl)
        refine lv_if_ne (tgt := 71) hx hb (dt uX8_now_0 40 rfl) (by decide) (fun c_27 => ?_) (fun c_27 => ?_)
        · have hf := vif_f c_27 hf
          refine lv_iconst (v := (1 : Int32)) hx hb (dt uX8_now_0 43 rfl) (by decide) ?_
          refine lv_iload hx hb (dt uX8_now_0 44 rfl) (lv_at hl 7 rfl) ?_
          refine lv_ishl hx hb (dt uX8_now_0 45 rfl) ?_
          exact hJ75 ((1 : Int32) <<< (x6_5 &&& 31)) _ _ _ hf hP hD hS (lv_sub hl [3, 4, 1, 0, 6, 7, 2] rfl)
        · have hf := vif_t c_27 hf
          refine lv_iconst (v := (0 : Int32)) hx hb (dt uX8_now_0 41 rfl) (by decide) ?_
          refine lv_goto (tgt := 75) hx hb (dt uX8_now_0 42 rfl) (by decide) ?_
          exact hJ75 (0 : Int32) _ _ _ hf hP hD hS (lv_sub hl [3, 4, 1, 0, 6, 7, 2] rfl)
  exact hL13 N (0 : Int32) (0 : Int32) (0 : Int32) (0 : Int32) (0 : Int32) _ _ _ hf hP hD hS (lv_sub hl [5, 6, 4, 3, 2, 1, 0] rfl)
abbrev rX8_inDays : Room := { frames := 4, cells := 0, slots := 0, locals := 92 }
abbrev wX8_inDays : List Cond := Cond.code yX8_inDays cX8_inDays 2 (some .int) :: VT
set_option maxHeartbeats 4000000 in
set_option maxRecDepth 100000 in
theorem kX8_inDays (ad0 : Nat) (ad_text : Nat) (ad_books : Nat) (ad_numberA : Nat) (ad_numberB : Nat) (ad_draftTouches : Nat) (ad_now : Nat) (ad_isKept : Nat) (ad_near : Nat) (ad_seenDays : Nat) (ad_seenBook : Nat) (ad_seenIs : Nat) (v_trace : Int64) (v_typed : Int32) (v_draftOne : Int32) (v_oneTold : Int32) (v_at : Int32) (v_start : Int32) (v_sort : Int32) (v_value : Int32) (v_fault : Int32) (v_seen : Int32) (v_sets : Int32) (v_inEach : Int32) (v_inSome : Int32) (a_books : Nat → Int32) (a_numberA : Nat → Int32) (a_numberB : Nat → Int32) (a_now : Nat → Int32) (a_near : Nat → Int32) (p1 : Int32) (N : Nat) (q0 : (Int32 × (Nat → Int32))) (hf : fX8_inDays N a_books a_numberA a_numberB a_now a_near p1 = some q0) : Ki l yX8_inDays wX8_inDays rX8_inDays (dC, dI) (vTy cI cJ cB cZ) [.ref ad0, .int p1] [(ad0, oX8 v_trace ad_text v_typed ad_books ad_numberA ad_numberB ad_draftTouches v_draftOne v_oneTold v_at v_start v_sort v_value v_fault ad_now ad_isKept ad_near ad_seenDays ad_seenBook ad_seenIs v_seen v_sets v_inEach v_inSome), (ad_books, .inl (cI, 2, .inl a_books)), (ad_numberA, .inl (cI, 12, .inl a_numberA)), (ad_numberB, .inl (cI, 12, .inl a_numberB)), (ad_now, .inl (cI, 498, .inl a_now)), (ad_near, .inl (cI, 6, .inl a_near))] [(ad0, oX8 v_trace ad_text v_typed ad_books ad_numberA ad_numberB ad_draftTouches v_draftOne v_oneTold v_at v_start v_sort v_value v_fault ad_now ad_isKept ad_near ad_seenDays ad_seenBook ad_seenIs v_seen v_sets v_inEach v_inSome), (ad_books, .inl (cI, 2, .inl a_books)), (ad_numberA, .inl (cI, 12, .inl a_numberA)), (ad_numberB, .inl (cI, 12, .inl a_numberB)), (ad_now, .inl (cI, 498, .inl a_now)), (ad_near, .inl (cI, 6, .inl q0.2))] q0.1 := by
  refine Ki.mk (cc := cX8_inDays) (maxL := 2) (ret := some .int) (by decide) (Nat.le_of_ble_eq_true rfl) ?_
  intro p e s m args below meth c A Q H locs C hQ hP hD hS ls hl
  obtain ⟨hx, hb, -, hml, hts, hown, -, hK, hN, hA⟩ := id C
  have hown : s.vm.findClass RX8 = some m.cls := hown
  have hl : lv_has ls 2 [(0, .ref ad0), (1, .int p1)] := hl
  unfold fX8_inDays at hf
  refine lv_iload_n hx hb (dt uX8_inDays 0 rfl) rfl (lv_at hl 1 rfl) ?_
  refine lv_iconst (v := (0 : Int32)) hx hb (dt uX8_inDays 1 rfl) (by decide) ?_
  refine lv_bipush (v := (99 : Int32)) hx hb (dt uX8_inDays 2 rfl) (by decide) ?_
  refine vk_z0 [] (va_runS (As := [.int p1, .int (0 : Int32), .int (99 : Int32)]) (rest := []) ⟨hx, hb, hml, hown, hts⟩ (kX8_in p1 (0 : Int32) (99 : Int32) _ rfl H.size) (vcwS hts tw_338 tw_339 tw_336 tw_337 hd_X8_in rfl rfl ⟨Nat.le_of_ble_eq_true rfl, Nat.le_of_ble_eq_true rfl⟩) (vpreS hK hN hP hD [] rfl (by decide)) rfl rfl hl.1 rfl (lv_room (Nat.le_of_ble_eq_true rfl)) (dt uX8_inDays 3 rfl) ⟨Nat.zero_le _, Nat.zero_le _⟩) hA hP hD hS rfl (by decide) (fun hz_1 H locs hP hD hS => ?_)
  refine lv_if_ne (tgt := 12) hx hb (dt uX8_inDays 4 rfl) (by decide) (fun c_2 => ?_) (fun c_2 => ?_)
  · have hf := vif_f c_2 hf
    refine lv_aload_n hx hb (dt uX8_inDays 7 rfl) rfl (lv_at hl 0 rfl) ?_
    obtain ⟨q_3, hq_4, hf⟩ := vbd hf
    refine vk_v [0, 4, 5] (ws2 := [(ad0, oX8 v_trace ad_text v_typed ad_books ad_numberA ad_numberB ad_draftTouches v_draftOne v_oneTold v_at v_start v_sort v_value v_fault ad_now ad_isKept ad_near ad_seenDays ad_seenBook ad_seenIs v_seen v_sets v_inEach v_inSome), (ad_books, .inl (cI, 2, .inl a_books)), (ad_numberA, .inl (cI, 12, .inl a_numberA)), (ad_numberB, .inl (cI, 12, .inl a_numberB)), (ad_now, .inl (cI, 498, .inl a_now)), (ad_near, .inl (cI, 6, .inl q_3))]) (va_runV (As := []) (rest := []) ⟨hx, hb, hml, hown, hts⟩ (kX8_takeNear ad0 ad_text ad_books ad_numberA ad_numberB ad_draftTouches ad_now ad_isKept ad_near ad_seenDays ad_seenBook ad_seenIs v_trace v_typed v_draftOne v_oneTold v_at v_start v_sort v_value v_fault v_seen v_sets v_inEach v_inSome a_now a_near N q_3 hq_4 H.size) (vcwV hts tw_431 tw_432 tw_433 tw_336 tw_430 hd_X8_takeNear rfl rfl ⟨Nat.le_of_ble_eq_true rfl, Nat.le_of_ble_eq_true rfl⟩) (vpreV hK hN hP hD [0, 4, 5] rfl (by decide) (ci := 8) (q0 := 0) rfl rfl) rfl rfl hl.1 rfl (lv_room (Nat.le_of_ble_eq_true rfl)) (dt uX8_inDays 8 rfl) ⟨Nat.zero_le _, Nat.zero_le _⟩) hA hP hD hS rfl (by decide) rfl rfl (fun H locs hP hD hS => ?_)
    refine lv_aload_n hx hb (dt uX8_inDays 9 rfl) rfl (lv_at hl 0 rfl) ?_
    refine va_get (D := (dC, dI)) (ci := 8) (v := .ref ad_now) (C := RX8) (T := TX8) (N := 24) hx hb hts inU8 hown hK hP 0 rfl rfl 14 (by decide) (hts _ tw_369) (fun _ h9 => h9) rfl (dt uX8_inDays 10 rfl) ?_
    refine lv_bipush (v := (13 : Int32)) hx hb (dt uX8_inDays 11 rfl) (by decide) ?_
    refine va_iald hx hb hK hP 4 0 rfl rfl (vp_in_iff.mpr (by decide)) (dt uX8_inDays 12 rfl) ?_
    refine lv_bipush (v := (-9 : Int32)) hx hb (dt uX8_inDays 13 rfl) (by decide) ?_
    refine lv_icmp_ne (tgt := 33) hx hb (dt uX8_inDays 14 rfl) (by decide) (fun c_5 => ?_) (fun c_5 => ?_)
    · have hf := vif_f c_5 hf
      refine lv_aload_n hx hb (dt uX8_inDays 17 rfl) rfl (lv_at hl 0 rfl) ?_
      refine lv_aload_n hx hb (dt uX8_inDays 18 rfl) rfl (lv_at hl 0 rfl) ?_
      refine va_get (D := (dC, dI)) (ci := 8) (v := .ref ad_now) (C := RX8) (T := TX8) (N := 24) hx hb hts inU8 hown hK hP 0 rfl rfl 14 (by decide) (hts _ tw_369) (fun _ h9 => h9) rfl (dt uX8_inDays 19 rfl) ?_
      refine lv_bipush (v := (13 : Int32)) hx hb (dt uX8_inDays 20 rfl) (by decide) ?_
      refine va_iald hx hb hK hP 4 0 rfl rfl (vp_in_iff.mpr (by decide)) (dt uX8_inDays 21 rfl) ?_
      refine lv_iload_n hx hb (dt uX8_inDays 22 rfl) rfl (lv_at hl 1 rfl) ?_
      obtain ⟨q_6, hq_7, hf⟩ := vbd hf
      refine vk_i0 [0, 1, 2, 3, 4, 5] (va_runV (As := [.int (a_now (13 : Int32).toNatClampNeg), .int p1]) (rest := []) ⟨hx, hb, hml, hown, hts⟩ (kX8_goesIn ad0 ad_text ad_books ad_numberA ad_numberB ad_draftTouches ad_now ad_isKept ad_near ad_seenDays ad_seenBook ad_seenIs v_trace v_typed v_draftOne v_oneTold v_at v_start v_sort v_value v_fault v_seen v_sets v_inEach v_inSome a_books a_numberA a_numberB a_now q_3 (a_now (13 : Int32).toNatClampNeg) p1 N q_6 hq_7 H.size) (vcwV hts tw_435 tw_436 tw_437 tw_336 tw_434 hd_X8_goesIn rfl rfl ⟨Nat.le_of_ble_eq_true rfl, Nat.le_of_ble_eq_true rfl⟩) (vpreV hK hN hP hD [0, 1, 2, 3, 4, 5] rfl (by decide) (ci := 8) (q0 := 0) rfl rfl) rfl rfl hl.1 rfl (lv_room (Nat.le_of_ble_eq_true rfl)) (dt uX8_inDays 23 rfl) ⟨Nat.zero_le _, Nat.zero_le _⟩) hA hP hD hS rfl (by decide) (fun H locs hP hD hS => ?_)
      have hf := Option.some.inj hf
      subst hf
      rw [hQ]
      exact vret_i C hP hD hS (dt uX8_inDays 24 rfl)
    · have hf := vif_t c_5 hf
      refine lv_bipush (v := (-9 : Int32)) hx hb (dt uX8_inDays 15 rfl) (by decide) ?_
      refine lv_goto (tgt := 45) hx hb (dt uX8_inDays 16 rfl) (by decide) ?_
      have hf := Option.some.inj hf
      subst hf
      rw [hQ]
      exact vret_i C hP hD hS (dt uX8_inDays 24 rfl)
  · have hf := vif_t c_2 hf
    refine lv_iconst (v := (-1 : Int32)) hx hb (dt uX8_inDays 5 rfl) (by decide) ?_
    have hf := Option.some.inj hf
    subst hf
    rw [hQ]
    exact vret_i C hP hD hS (dt uX8_inDays 6 rfl)
abbrev rX8_round : Room := { frames := 4, cells := 0, slots := 0, locals := 92 }
abbrev wX8_round : List Cond := Cond.code yX8_round cX8_round 5 (some .int) :: VT
set_option maxHeartbeats 4000000 in
set_option maxRecDepth 100000 in
theorem kX8_round (ad0 : Nat) (ad_text : Nat) (ad_books : Nat) (ad_numberA : Nat) (ad_numberB : Nat) (ad_draftTouches : Nat) (ad_now : Nat) (ad_isKept : Nat) (ad_near : Nat) (ad_seenDays : Nat) (ad_seenBook : Nat) (ad_seenIs : Nat) (v_trace : Int64) (v_typed : Int32) (v_draftOne : Int32) (v_oneTold : Int32) (v_at : Int32) (v_start : Int32) (v_sort : Int32) (v_value : Int32) (v_fault : Int32) (v_seen : Int32) (v_sets : Int32) (v_inEach : Int32) (v_inSome : Int32) (a_books : Nat → Int32) (a_numberA : Nat → Int32) (a_numberB : Nat → Int32) (a_now : Nat → Int32) (a_near : Nat → Int32) (p1 : Int32) (N : Nat) (q0 : (Int32 × (Nat → Int32))) (hf : fX8_round N a_books a_numberA a_numberB a_now a_near p1 = some q0) : Ki l yX8_round wX8_round rX8_round (dC, dI) (vTy cI cJ cB cZ) [.ref ad0, .int p1] [(ad0, oX8 v_trace ad_text v_typed ad_books ad_numberA ad_numberB ad_draftTouches v_draftOne v_oneTold v_at v_start v_sort v_value v_fault ad_now ad_isKept ad_near ad_seenDays ad_seenBook ad_seenIs v_seen v_sets v_inEach v_inSome), (ad_books, .inl (cI, 2, .inl a_books)), (ad_numberA, .inl (cI, 12, .inl a_numberA)), (ad_numberB, .inl (cI, 12, .inl a_numberB)), (ad_now, .inl (cI, 498, .inl a_now)), (ad_near, .inl (cI, 6, .inl a_near))] [(ad0, oX8 v_trace ad_text v_typed ad_books ad_numberA ad_numberB ad_draftTouches v_draftOne v_oneTold v_at v_start v_sort v_value v_fault ad_now ad_isKept ad_near ad_seenDays ad_seenBook ad_seenIs v_seen v_sets v_inEach v_inSome), (ad_books, .inl (cI, 2, .inl a_books)), (ad_numberA, .inl (cI, 12, .inl a_numberA)), (ad_numberB, .inl (cI, 12, .inl a_numberB)), (ad_now, .inl (cI, 498, .inl a_now)), (ad_near, .inl (cI, 6, .inl q0.2))] q0.1 := by
  refine Ki.mk (cc := cX8_round) (maxL := 5) (ret := some .int) (by decide) (Nat.le_of_ble_eq_true rfl) ?_
  intro p e s m args below meth c A Q H locs C hQ hP hD hS ls hl
  obtain ⟨hx, hb, -, hml, hts, hown, -, hK, hN, hA⟩ := id C
  have hown : s.vm.findClass RX8 = some m.cls := hown
  have hl : lv_has ls 5 [(0, .ref ad0), (1, .int p1)] := hl
  unfold fX8_round at hf
  refine lv_iload_n hx hb (dt uX8_round 0 rfl) rfl (lv_at hl 1 rfl) ?_
  refine lv_iconst (v := (0 : Int32)) hx hb (dt uX8_round 1 rfl) (by decide) ?_
  refine lv_iconst (v := (1 : Int32)) hx hb (dt uX8_round 2 rfl) (by decide) ?_
  refine vk_z0 [] (va_runS (As := [.int p1, .int (0 : Int32), .int (1 : Int32)]) (rest := []) ⟨hx, hb, hml, hown, hts⟩ (kX8_in p1 (0 : Int32) (1 : Int32) _ rfl H.size) (vcwS hts tw_338 tw_339 tw_336 tw_337 hd_X8_in rfl rfl ⟨Nat.le_of_ble_eq_true rfl, Nat.le_of_ble_eq_true rfl⟩) (vpreS hK hN hP hD [] rfl (by decide)) rfl rfl hl.1 rfl (lv_room (Nat.le_of_ble_eq_true rfl)) (dt uX8_round 3 rfl) ⟨Nat.zero_le _, Nat.zero_le _⟩) hA hP hD hS rfl (by decide) (fun hz_1 H locs hP hD hS => ?_)
  refine lv_if_ne (tgt := 11) hx hb (dt uX8_round 4 rfl) (by decide) (fun c_2 => ?_) (fun c_2 => ?_)
  · have hf := vif_f c_2 hf
    refine lv_aload_n hx hb (dt uX8_round 7 rfl) rfl (lv_at hl 0 rfl) ?_
    refine va_get (D := (dC, dI)) (ci := 8) (v := .ref ad_now) (C := RX8) (T := TX8) (N := 24) hx hb hts inU8 hown hK hP 0 rfl rfl 14 (by decide) (hts _ tw_369) (fun _ h9 => h9) rfl (dt uX8_round 8 rfl) ?_
    refine lv_bipush (v := (13 : Int32)) hx hb (dt uX8_round 9 rfl) (by decide) ?_
    refine va_iald hx hb hK hP 4 0 rfl rfl (vp_in_iff.mpr (by decide)) (dt uX8_round 10 rfl) ?_
    refine lv_bipush (v := (-9 : Int32)) hx hb (dt uX8_round 11 rfl) (by decide) ?_
    refine lv_icmp_ne (tgt := 26) hx hb (dt uX8_round 12 rfl) (by decide) (fun c_3 => ?_) (fun c_3 => ?_)
    · have hf := vif_f c_3 hf
      refine lv_aload_n hx hb (dt uX8_round 15 rfl) rfl (lv_at hl 0 rfl) ?_
      obtain ⟨q_4, hq_5, hf⟩ := vbd hf
      refine vk_v [0, 4, 5] (ws2 := [(ad0, oX8 v_trace ad_text v_typed ad_books ad_numberA ad_numberB ad_draftTouches v_draftOne v_oneTold v_at v_start v_sort v_value v_fault ad_now ad_isKept ad_near ad_seenDays ad_seenBook ad_seenIs v_seen v_sets v_inEach v_inSome), (ad_books, .inl (cI, 2, .inl a_books)), (ad_numberA, .inl (cI, 12, .inl a_numberA)), (ad_numberB, .inl (cI, 12, .inl a_numberB)), (ad_now, .inl (cI, 498, .inl a_now)), (ad_near, .inl (cI, 6, .inl q_4))]) (va_runV (As := []) (rest := []) ⟨hx, hb, hml, hown, hts⟩ (kX8_takeNear ad0 ad_text ad_books ad_numberA ad_numberB ad_draftTouches ad_now ad_isKept ad_near ad_seenDays ad_seenBook ad_seenIs v_trace v_typed v_draftOne v_oneTold v_at v_start v_sort v_value v_fault v_seen v_sets v_inEach v_inSome a_now a_near N q_4 hq_5 H.size) (vcwV hts tw_431 tw_432 tw_433 tw_336 tw_430 hd_X8_takeNear rfl rfl ⟨Nat.le_of_ble_eq_true rfl, Nat.le_of_ble_eq_true rfl⟩) (vpreV hK hN hP hD [0, 4, 5] rfl (by decide) (ci := 8) (q0 := 0) rfl rfl) rfl rfl hl.1 rfl (lv_room (Nat.le_of_ble_eq_true rfl)) (dt uX8_round 16 rfl) ⟨Nat.zero_le _, Nat.zero_le _⟩) hA hP hD hS rfl (by decide) rfl rfl (fun H locs hP hD hS => ?_)
      refine lv_iconst (v := (0 : Int32)) hx hb (dt uX8_round 17 rfl) (by decide) ?_
      refine lv_istore_n (lv' := [(2, .int (0 : Int32)), (0, .ref ad0), (1, .int p1)]) hx hb (dt uX8_round 18 rfl) rfl hl (by decide) rfl (fun ls hl => ?_)
      have hL32 : ∀ (n32 : Nat), ∀ (x2_6 : Int32) (H : Heap) (locs : List Loc) (ls : Array Slot), fX8_round_L32 N a_books a_numberA a_numberB a_now p1 q_4 n32 x2_6 = some q0 → va_P (dC, dI) vwCl [(ad0, oX8 v_trace ad_text v_typed ad_books ad_numberA ad_numberB ad_draftTouches v_draftOne v_oneTold v_at v_start v_sort v_value v_fault ad_now ad_isKept ad_near ad_seenDays ad_seenBook ad_seenIs v_seen v_sets v_inEach v_inSome), (ad_books, .inl (cI, 2, .inl a_books)), (ad_numberA, .inl (cI, 12, .inl a_numberA)), (ad_numberB, .inl (cI, 12, .inl a_numberB)), (ad_now, .inl (cI, 498, .inl a_now)), (ad_near, .inl (cI, 6, .inl q_4))] H → va_D A [(ad0, oX8 v_trace ad_text v_typed ad_books ad_numberA ad_numberB ad_draftTouches v_draftOne v_oneTold v_at v_start v_sort v_value v_fault ad_now ad_isKept ad_near ad_seenDays ad_seenBook ad_seenIs v_seen v_sets v_inEach v_inSome), (ad_books, .inl (cI, 2, .inl a_books)), (ad_numberA, .inl (cI, 12, .inl a_numberA)), (ad_numberB, .inl (cI, 12, .inl a_numberB)), (ad_now, .inl (cI, 498, .inl a_now)), (ad_near, .inl (cI, 6, .inl q_4))] → va_S A s.heap H locs → lv_has ls 5 [(0, .ref ad0), (1, .int p1), (2, .int x2_6)] → W p l e rX8_round s m args below meth c H locs 0 0 Q (F0 m 32 ls []) := by
        intro n32
        induction n32 with
        | zero => intro x2_6 H locs ls hf hP hD hS hl; cases hf
        | succ n32 ih32 =>
          intro x2_6 H locs ls hf hP hD hS hl
          rw [fX8_round_L32] at hf
          refine lv_iload_n hx hb (dt uX8_round 19 rfl) rfl (lv_at hl 2 rfl) ?_
          refine lv_bipush (v := (6 : Int32)) hx hb (dt uX8_round 20 rfl) (by decide) ?_
          refine lv_icmp_gt (tgt := 95) hx hb (dt uX8_round 21 rfl) (by decide) (fun c_7 => ?_) (fun c_7 => ?_)
          · have hf := vif_t c_7 hf
            refine lv_bipush (v := (-9 : Int32)) hx hb (dt uX8_round 51 rfl) (by decide) ?_
            have hf := Option.some.inj hf
            subst hf
            rw [hQ]
            exact vret_i C hP hD hS (dt uX8_round 52 rfl)
          · have hf := vif_f c_7 hf
            refine lv_aload_n hx hb (dt uX8_round 22 rfl) rfl (lv_at hl 0 rfl) ?_
            refine lv_aload_n hx hb (dt uX8_round 23 rfl) rfl (lv_at hl 0 rfl) ?_
            refine va_get (D := (dC, dI)) (ci := 8) (v := .ref ad_now) (C := RX8) (T := TX8) (N := 24) hx hb hts inU8 hown hK hP 0 rfl rfl 14 (by decide) (hts _ tw_369) (fun _ h9 => h9) rfl (dt uX8_round 24 rfl) ?_
            refine lv_bipush (v := (13 : Int32)) hx hb (dt uX8_round 25 rfl) (by decide) ?_
            refine va_iald hx hb hK hP 4 0 rfl rfl (vp_in_iff.mpr (by decide)) (dt uX8_round 26 rfl) ?_
            refine lv_iload_n hx hb (dt uX8_round 27 rfl) rfl (lv_at hl 2 rfl) ?_
            obtain ⟨q_8, hq_9, hf⟩ := vbd hf
            refine vk_i0 [0, 1, 2, 3, 4, 5] (va_runV (As := [.int (a_now (13 : Int32).toNatClampNeg), .int x2_6]) (rest := []) ⟨hx, hb, hml, hown, hts⟩ (kX8_goesIn ad0 ad_text ad_books ad_numberA ad_numberB ad_draftTouches ad_now ad_isKept ad_near ad_seenDays ad_seenBook ad_seenIs v_trace v_typed v_draftOne v_oneTold v_at v_start v_sort v_value v_fault v_seen v_sets v_inEach v_inSome a_books a_numberA a_numberB a_now q_4 (a_now (13 : Int32).toNatClampNeg) x2_6 N q_8 hq_9 H.size) (vcwV hts tw_435 tw_436 tw_437 tw_336 tw_434 hd_X8_goesIn rfl rfl ⟨Nat.le_of_ble_eq_true rfl, Nat.le_of_ble_eq_true rfl⟩) (vpreV hK hN hP hD [0, 1, 2, 3, 4, 5] rfl (by decide) (ci := 8) (q0 := 0) rfl rfl) rfl rfl hl.1 rfl (lv_room (Nat.le_of_ble_eq_true rfl)) (dt uX8_round 28 rfl) ⟨Nat.zero_le _, Nat.zero_le _⟩) hA hP hD hS rfl (by decide) (fun H locs hP hD hS => ?_)
            refine lv_istore_n (lv' := [(3, .int q_8), (0, .ref ad0), (1, .int p1), (2, .int x2_6)]) hx hb (dt uX8_round 29 rfl) rfl hl (by decide) rfl (fun ls hl => ?_)
            refine lv_iconst (v := (1 : Int32)) hx hb (dt uX8_round 30 rfl) (by decide) ?_
            refine lv_istore (lv' := [(4, .int (1 : Int32)), (3, .int q_8), (0, .ref ad0), (1, .int p1), (2, .int x2_6)]) hx hb (dt uX8_round 31 rfl) hl (by decide) rfl (fun ls hl => ?_)
            have hL54 : ∀ (n54 : Nat), ∀ (x4_10 : Int32) (H : Heap) (locs : List Loc) (ls : Array Slot), fX8_round_L54 N a_books a_numberA a_numberB a_now p1 q_4 x2_6 q_8 (fun z32_0 => fX8_round_L32 N a_books a_numberA a_numberB a_now p1 q_4 n32 z32_0) n54 x4_10 = some q0 → va_P (dC, dI) vwCl [(ad0, oX8 v_trace ad_text v_typed ad_books ad_numberA ad_numberB ad_draftTouches v_draftOne v_oneTold v_at v_start v_sort v_value v_fault ad_now ad_isKept ad_near ad_seenDays ad_seenBook ad_seenIs v_seen v_sets v_inEach v_inSome), (ad_books, .inl (cI, 2, .inl a_books)), (ad_numberA, .inl (cI, 12, .inl a_numberA)), (ad_numberB, .inl (cI, 12, .inl a_numberB)), (ad_now, .inl (cI, 498, .inl a_now)), (ad_near, .inl (cI, 6, .inl q_4))] H → va_D A [(ad0, oX8 v_trace ad_text v_typed ad_books ad_numberA ad_numberB ad_draftTouches v_draftOne v_oneTold v_at v_start v_sort v_value v_fault ad_now ad_isKept ad_near ad_seenDays ad_seenBook ad_seenIs v_seen v_sets v_inEach v_inSome), (ad_books, .inl (cI, 2, .inl a_books)), (ad_numberA, .inl (cI, 12, .inl a_numberA)), (ad_numberB, .inl (cI, 12, .inl a_numberB)), (ad_now, .inl (cI, 498, .inl a_now)), (ad_near, .inl (cI, 6, .inl q_4))] → va_S A s.heap H locs → lv_has ls 5 [(0, .ref ad0), (1, .int p1), (2, .int x2_6), (3, .int q_8), (4, .int x4_10)] → W p l e rX8_round s m args below meth c H locs 0 0 Q (F0 m 54 ls []) := by
              intro n54
              induction n54 with
              | zero => intro x4_10 H locs ls hf hP hD hS hl; cases hf
              | succ n54 ih54 =>
                intro x4_10 H locs ls hf hP hD hS hl
                rw [fX8_round_L54] at hf
                refine lv_iload hx hb (dt uX8_round 32 rfl) (lv_at hl 4 rfl) ?_
                refine lv_bipush (v := (6 : Int32)) hx hb (dt uX8_round 33 rfl) (by decide) ?_
                refine lv_icmp_gt (tgt := 89) hx hb (dt uX8_round 34 rfl) (by decide) (fun c_11 => ?_) (fun c_11 => ?_)
                · have hf := vif_t c_11 hf
                  refine lv_iinc (v := x2_6 + 1) (lv' := [(2, .int (x2_6 + 1)), (0, .ref ad0), (1, .int p1), (3, .int q_8), (4, .int x4_10)]) hx hb (dt uX8_round 49 rfl) hl (k := 2) rfl rfl (by decide) rfl (fun ls hl => ?_)
                  refine lv_goto (tgt := 32) hx hb (dt uX8_round 50 rfl) (by decide) ?_
                  exact ih32 (x2_6 + 1) _ _ _ hf hP hD hS (lv_sub hl [1, 2, 0] rfl)
                · have hf := vif_f c_11 hf
                  refine lv_aload_n hx hb (dt uX8_round 35 rfl) rfl (lv_at hl 0 rfl) ?_
                  refine lv_iload_n hx hb (dt uX8_round 36 rfl) rfl (lv_at hl 3 rfl) ?_
                  refine lv_iload hx hb (dt uX8_round 37 rfl) (lv_at hl 4 rfl) ?_
                  obtain ⟨q_12, hq_13, hf⟩ := vbd hf
                  refine vk_i0 [0, 1, 2, 3, 4, 5] (va_runV (As := [.int q_8, .int x4_10]) (rest := []) ⟨hx, hb, hml, hown, hts⟩ (kX8_goesIn ad0 ad_text ad_books ad_numberA ad_numberB ad_draftTouches ad_now ad_isKept ad_near ad_seenDays ad_seenBook ad_seenIs v_trace v_typed v_draftOne v_oneTold v_at v_start v_sort v_value v_fault v_seen v_sets v_inEach v_inSome a_books a_numberA a_numberB a_now q_4 q_8 x4_10 N q_12 hq_13 H.size) (vcwV hts tw_435 tw_436 tw_437 tw_336 tw_434 hd_X8_goesIn rfl rfl ⟨Nat.le_of_ble_eq_true rfl, Nat.le_of_ble_eq_true rfl⟩) (vpreV hK hN hP hD [0, 1, 2, 3, 4, 5] rfl (by decide) (ci := 8) (q0 := 0) rfl rfl) rfl rfl hl.1 rfl (lv_room (Nat.le_of_ble_eq_true rfl)) (dt uX8_round 38 rfl) ⟨Nat.zero_le _, Nat.zero_le _⟩) hA hP hD hS rfl (by decide) (fun H locs hP hD hS => ?_)
                  refine lv_iload_n hx hb (dt uX8_round 39 rfl) rfl (lv_at hl 3 rfl) ?_
                  refine lv_icmp_ne (tgt := 83) hx hb (dt uX8_round 40 rfl) (by decide) (fun c_14 => ?_) (fun c_14 => ?_)
                  · have hf := vif_f c_14 hf
                    refine lv_iinc (v := x4_10 + 1) (lv' := [(4, .int (x4_10 + 1)), (0, .ref ad0), (1, .int p1), (2, .int x2_6), (3, .int q_8)]) hx hb (dt uX8_round 47 rfl) hl (k := 4) rfl rfl (by decide) rfl (fun ls hl => ?_)
                    refine lv_goto (tgt := 54) hx hb (dt uX8_round 48 rfl) (by decide) ?_
                    exact ih54 (x4_10 + 1) _ _ _ hf hP hD hS (lv_sub hl [1, 2, 3, 4, 0] rfl)
                  · have hf := vif_t c_14 hf
                    refine lv_iload_n hx hb (dt uX8_round 41 rfl) rfl (lv_at hl 1 rfl) ?_
                    refine lv_if_ne (tgt := 80) hx hb (dt uX8_round 42 rfl) (by decide) (fun c_15 => ?_) (fun c_15 => ?_)
                    · have hf := vif_f c_15 hf
                      refine lv_iload hx hb (dt uX8_round 45 rfl) (lv_at hl 4 rfl) ?_
                      have hf := Option.some.inj hf
                      subst hf
                      rw [hQ]
                      exact vret_i C hP hD hS (dt uX8_round 46 rfl)
                    · have hf := vif_t c_15 hf
                      refine lv_iload_n hx hb (dt uX8_round 43 rfl) rfl (lv_at hl 2 rfl) ?_
                      refine lv_goto (tgt := 82) hx hb (dt uX8_round 44 rfl) (by decide) ?_
                      have hf := Option.some.inj hf
                      subst hf
                      rw [hQ]
                      exact vret_i C hP hD hS (dt uX8_round 46 rfl)
            exact hL54 N (1 : Int32) _ _ _ hf hP hD hS (lv_sub hl [2, 3, 4, 1, 0] rfl)
      exact hL32 N (0 : Int32) _ _ _ hf hP hD hS (lv_sub hl [1, 2, 0] rfl)
    · have hf := vif_t c_3 hf
      refine lv_bipush (v := (-9 : Int32)) hx hb (dt uX8_round 13 rfl) (by decide) ?_
      have hf := Option.some.inj hf
      subst hf
      rw [hQ]
      exact vret_i C hP hD hS (dt uX8_round 14 rfl)
  · have hf := vif_t c_2 hf
    refine lv_iconst (v := (-1 : Int32)) hx hb (dt uX8_round 5 rfl) (by decide) ?_
    have hf := Option.some.inj hf
    subst hf
    rw [hQ]
    exact vret_i C hP hD hS (dt uX8_round 6 rfl)
abbrev rX8_from : Room := { frames := 4, cells := 0, slots := 0, locals := 92 }
abbrev wX8_from : List Cond := Cond.code yX8_from cX8_from 5 (some .int) :: VT
set_option maxHeartbeats 4000000 in
set_option maxRecDepth 100000 in
theorem kX8_from (ad0 : Nat) (ad_text : Nat) (ad_books : Nat) (ad_numberA : Nat) (ad_numberB : Nat) (ad_draftTouches : Nat) (ad_now : Nat) (ad_isKept : Nat) (ad_near : Nat) (ad_seenDays : Nat) (ad_seenBook : Nat) (ad_seenIs : Nat) (v_trace : Int64) (v_typed : Int32) (v_draftOne : Int32) (v_oneTold : Int32) (v_at : Int32) (v_start : Int32) (v_sort : Int32) (v_value : Int32) (v_fault : Int32) (v_seen : Int32) (v_sets : Int32) (v_inEach : Int32) (v_inSome : Int32) (a_books : Nat → Int32) (a_numberA : Nat → Int32) (a_numberB : Nat → Int32) (a_now : Nat → Int32) (a_near : Nat → Int32) (p1 : Int32) (p2 : Int32) (N : Nat) (q0 : (Int32 × (Nat → Int32))) (hf : fX8_from N a_books a_numberA a_numberB a_now a_near p1 p2 = some q0) : Ki l yX8_from wX8_from rX8_from (dC, dI) (vTy cI cJ cB cZ) [.ref ad0, .int p1, .int p2] [(ad0, oX8 v_trace ad_text v_typed ad_books ad_numberA ad_numberB ad_draftTouches v_draftOne v_oneTold v_at v_start v_sort v_value v_fault ad_now ad_isKept ad_near ad_seenDays ad_seenBook ad_seenIs v_seen v_sets v_inEach v_inSome), (ad_books, .inl (cI, 2, .inl a_books)), (ad_numberA, .inl (cI, 12, .inl a_numberA)), (ad_numberB, .inl (cI, 12, .inl a_numberB)), (ad_now, .inl (cI, 498, .inl a_now)), (ad_near, .inl (cI, 6, .inl a_near))] [(ad0, oX8 v_trace ad_text v_typed ad_books ad_numberA ad_numberB ad_draftTouches v_draftOne v_oneTold v_at v_start v_sort v_value v_fault ad_now ad_isKept ad_near ad_seenDays ad_seenBook ad_seenIs v_seen v_sets v_inEach v_inSome), (ad_books, .inl (cI, 2, .inl a_books)), (ad_numberA, .inl (cI, 12, .inl a_numberA)), (ad_numberB, .inl (cI, 12, .inl a_numberB)), (ad_now, .inl (cI, 498, .inl a_now)), (ad_near, .inl (cI, 6, .inl q0.2))] q0.1 := by
  refine Ki.mk (cc := cX8_from) (maxL := 5) (ret := some .int) (by decide) (Nat.le_of_ble_eq_true rfl) ?_
  intro p e s m args below meth c A Q H locs C hQ hP hD hS ls hl
  obtain ⟨hx, hb, -, hml, hts, hown, -, hK, hN, hA⟩ := id C
  have hown : s.vm.findClass RX8 = some m.cls := hown
  have hl : lv_has ls 5 [(0, .ref ad0), (1, .int p1), (2, .int p2)] := hl
  unfold fX8_from at hf
  refine lv_aload_n hx hb (dt uX8_from 0 rfl) rfl (lv_at hl 0 rfl) ?_
  refine lv_iload_n hx hb (dt uX8_from 1 rfl) rfl (lv_at hl 1 rfl) ?_
  refine vk_z0 [0, 1] (va_runV (As := [.int p1]) (rest := []) ⟨hx, hb, hml, hown, hts⟩ (kX8_isBook ad0 ad_text ad_books ad_numberA ad_numberB ad_draftTouches ad_now ad_isKept ad_near ad_seenDays ad_seenBook ad_seenIs v_trace v_typed v_draftOne v_oneTold v_at v_start v_sort v_value v_fault v_seen v_sets v_inEach v_inSome a_books p1 _ rfl H.size) (vcwV hts tw_403 tw_404 tw_405 tw_336 tw_402 hd_X8_isBook rfl rfl ⟨Nat.le_of_ble_eq_true rfl, Nat.le_of_ble_eq_true rfl⟩) (vpreV hK hN hP hD [0, 1] rfl (by decide) (ci := 8) (q0 := 0) rfl rfl) rfl rfl hl.1 rfl (lv_room (Nat.le_of_ble_eq_true rfl)) (dt uX8_from 2 rfl) ⟨Nat.zero_le _, Nat.zero_le _⟩) hA hP hD hS rfl (by decide) (fun hz_1 H locs hP hD hS => ?_)
  refine lv_if_eq (tgt := 18) hx hb (dt uX8_from 3 rfl) (by decide) (fun c_2 => ?_) (fun c_2 => ?_)
  · have hf := vif_t c_2 hf
    refine lv_iconst (v := (-1 : Int32)) hx hb (dt uX8_from 9 rfl) (by decide) ?_
    have hf := Option.some.inj hf
    subst hf
    rw [hQ]
    exact vret_i C hP hD hS (dt uX8_from 10 rfl)
  · have hf := vif_f c_2 hf
    refine lv_iload_n hx hb (dt uX8_from 4 rfl) rfl (lv_at hl 2 rfl) ?_
    refine lv_iconst (v := (0 : Int32)) hx hb (dt uX8_from 5 rfl) (by decide) ?_
    refine lv_bipush (v := (20 : Int32)) hx hb (dt uX8_from 6 rfl) (by decide) ?_
    refine vk_z0 [] (va_runS (As := [.int p2, .int (0 : Int32), .int (20 : Int32)]) (rest := []) ⟨hx, hb, hml, hown, hts⟩ (kX8_in p2 (0 : Int32) (20 : Int32) _ rfl H.size) (vcwS hts tw_338 tw_339 tw_336 tw_337 hd_X8_in rfl rfl ⟨Nat.le_of_ble_eq_true rfl, Nat.le_of_ble_eq_true rfl⟩) (vpreS hK hN hP hD [] rfl (by decide)) rfl rfl hl.1 rfl (lv_room (Nat.le_of_ble_eq_true rfl)) (dt uX8_from 7 rfl) ⟨Nat.zero_le _, Nat.zero_le _⟩) hA hP hD hS rfl (by decide) (fun hz_3 H locs hP hD hS => ?_)
    refine lv_if_ne (tgt := 20) hx hb (dt uX8_from 8 rfl) (by decide) (fun c_4 => ?_) (fun c_4 => ?_)
    · have hf := vif_f c_4 hf
      refine lv_aload_n hx hb (dt uX8_from 11 rfl) rfl (lv_at hl 0 rfl) ?_
      obtain ⟨q_5, hq_6, hf⟩ := vbd hf
      refine vk_v [0, 4, 5] (ws2 := [(ad0, oX8 v_trace ad_text v_typed ad_books ad_numberA ad_numberB ad_draftTouches v_draftOne v_oneTold v_at v_start v_sort v_value v_fault ad_now ad_isKept ad_near ad_seenDays ad_seenBook ad_seenIs v_seen v_sets v_inEach v_inSome), (ad_books, .inl (cI, 2, .inl a_books)), (ad_numberA, .inl (cI, 12, .inl a_numberA)), (ad_numberB, .inl (cI, 12, .inl a_numberB)), (ad_now, .inl (cI, 498, .inl a_now)), (ad_near, .inl (cI, 6, .inl q_5))]) (va_runV (As := []) (rest := []) ⟨hx, hb, hml, hown, hts⟩ (kX8_takeNear ad0 ad_text ad_books ad_numberA ad_numberB ad_draftTouches ad_now ad_isKept ad_near ad_seenDays ad_seenBook ad_seenIs v_trace v_typed v_draftOne v_oneTold v_at v_start v_sort v_value v_fault v_seen v_sets v_inEach v_inSome a_now a_near N q_5 hq_6 H.size) (vcwV hts tw_431 tw_432 tw_433 tw_336 tw_430 hd_X8_takeNear rfl rfl ⟨Nat.le_of_ble_eq_true rfl, Nat.le_of_ble_eq_true rfl⟩) (vpreV hK hN hP hD [0, 4, 5] rfl (by decide) (ci := 8) (q0 := 0) rfl rfl) rfl rfl hl.1 rfl (lv_room (Nat.le_of_ble_eq_true rfl)) (dt uX8_from 12 rfl) ⟨Nat.zero_le _, Nat.zero_le _⟩) hA hP hD hS rfl (by decide) rfl rfl (fun H locs hP hD hS => ?_)
      refine lv_iconst (v := (0 : Int32)) hx hb (dt uX8_from 13 rfl) (by decide) ?_
      refine lv_istore_n (lv' := [(3, .int (0 : Int32)), (0, .ref ad0), (1, .int p1), (2, .int p2)]) hx hb (dt uX8_from 14 rfl) rfl hl (by decide) rfl (fun ls hl => ?_)
      refine lv_iconst (v := (0 : Int32)) hx hb (dt uX8_from 15 rfl) (by decide) ?_
      refine lv_istore (lv' := [(4, .int (0 : Int32)), (3, .int (0 : Int32)), (0, .ref ad0), (1, .int p1), (2, .int p2)]) hx hb (dt uX8_from 16 rfl) hl (by decide) rfl (fun ls hl => ?_)
      have hL29 : ∀ (n29 : Nat), ∀ (x3_7 : Int32) (x4_8 : Int32) (H : Heap) (locs : List Loc) (ls : Array Slot), fX8_from_L29 N a_books a_numberA a_numberB a_now p1 p2 q_5 n29 x3_7 x4_8 = some q0 → va_P (dC, dI) vwCl [(ad0, oX8 v_trace ad_text v_typed ad_books ad_numberA ad_numberB ad_draftTouches v_draftOne v_oneTold v_at v_start v_sort v_value v_fault ad_now ad_isKept ad_near ad_seenDays ad_seenBook ad_seenIs v_seen v_sets v_inEach v_inSome), (ad_books, .inl (cI, 2, .inl a_books)), (ad_numberA, .inl (cI, 12, .inl a_numberA)), (ad_numberB, .inl (cI, 12, .inl a_numberB)), (ad_now, .inl (cI, 498, .inl a_now)), (ad_near, .inl (cI, 6, .inl q_5))] H → va_D A [(ad0, oX8 v_trace ad_text v_typed ad_books ad_numberA ad_numberB ad_draftTouches v_draftOne v_oneTold v_at v_start v_sort v_value v_fault ad_now ad_isKept ad_near ad_seenDays ad_seenBook ad_seenIs v_seen v_sets v_inEach v_inSome), (ad_books, .inl (cI, 2, .inl a_books)), (ad_numberA, .inl (cI, 12, .inl a_numberA)), (ad_numberB, .inl (cI, 12, .inl a_numberB)), (ad_now, .inl (cI, 498, .inl a_now)), (ad_near, .inl (cI, 6, .inl q_5))] → va_S A s.heap H locs → lv_has ls 5 [(0, .ref ad0), (1, .int p1), (2, .int p2), (3, .int x3_7), (4, .int x4_8)] → W p l e rX8_from s m args below meth c H locs 0 0 Q (F0 m 29 ls []) := by
        intro n29
        induction n29 with
        | zero => intro x3_7 x4_8 H locs ls hf hP hD hS hl; cases hf
        | succ n29 ih29 =>
          intro x3_7 x4_8 H locs ls hf hP hD hS hl
          rw [fX8_from_L29] at hf
          refine lv_iload hx hb (dt uX8_from 17 rfl) (lv_at hl 4 rfl) ?_
          refine lv_aload_n hx hb (dt uX8_from 18 rfl) rfl (lv_at hl 0 rfl) ?_
          refine va_get (D := (dC, dI)) (ci := 8) (v := .ref ad_books) (C := RX8) (T := TX8) (N := 24) hx hb hts inU8 hown hK hP 0 rfl rfl 3 (by decide) (hts _ tw_360) (fun _ h9 => h9) rfl (dt uX8_from 19 rfl) ?_
          refine lv_iconst (v := (0 : Int32)) hx hb (dt uX8_from 20 rfl) (by decide) ?_
          refine va_iald hx hb hK hP 1 0 rfl rfl (vp_in_iff.mpr (by decide)) (dt uX8_from 21 rfl) ?_
          refine lv_icmp_ge (tgt := 68) hx hb (dt uX8_from 22 rfl) (by decide) (fun c_9 => ?_) (fun c_9 => ?_)
          · have hf := vif_t c_9 hf
            refine lv_iload_n hx hb (dt uX8_from 39 rfl) rfl (lv_at hl 3 rfl) ?_
            have hf := Option.some.inj hf
            subst hf
            rw [hQ]
            exact vret_i C hP hD hS (dt uX8_from 40 rfl)
          · have hf := vif_f c_9 hf
            refine lv_iload_n hx hb (dt uX8_from 23 rfl) rfl (lv_at hl 3 rfl) ?_
            refine lv_aload_n hx hb (dt uX8_from 24 rfl) rfl (lv_at hl 0 rfl) ?_
            refine lv_iload hx hb (dt uX8_from 25 rfl) (lv_at hl 4 rfl) ?_
            refine lv_iload_n hx hb (dt uX8_from 26 rfl) rfl (lv_at hl 2 rfl) ?_
            obtain ⟨q_10, hq_11, hf⟩ := vbd hf
            refine vk_i0 [0, 1, 2, 3, 4, 5] (va_runV (As := [.int x4_8, .int p2]) (rest := [.int x3_7]) ⟨hx, hb, hml, hown, hts⟩ (kX8_goesIn ad0 ad_text ad_books ad_numberA ad_numberB ad_draftTouches ad_now ad_isKept ad_near ad_seenDays ad_seenBook ad_seenIs v_trace v_typed v_draftOne v_oneTold v_at v_start v_sort v_value v_fault v_seen v_sets v_inEach v_inSome a_books a_numberA a_numberB a_now q_5 x4_8 p2 N q_10 hq_11 H.size) (vcwV hts tw_435 tw_436 tw_437 tw_336 tw_434 hd_X8_goesIn rfl rfl ⟨Nat.le_of_ble_eq_true rfl, Nat.le_of_ble_eq_true rfl⟩) (vpreV hK hN hP hD [0, 1, 2, 3, 4, 5] rfl (by decide) (ci := 8) (q0 := 0) rfl rfl) rfl rfl hl.1 rfl (lv_room (Nat.le_of_ble_eq_true rfl)) (dt uX8_from 27 rfl) ⟨Nat.zero_le _, Nat.zero_le _⟩) hA hP hD hS rfl (by decide) (fun H locs hP hD hS => ?_)
            refine lv_iload_n hx hb (dt uX8_from 28 rfl) rfl (lv_at hl 1 rfl) ?_
            refine lv_icmp_ne (tgt := 59) hx hb (dt uX8_from 29 rfl) (by decide) (fun c_12 => ?_) (fun c_12 => ?_)
            · have hf := vif_f c_12 hf
              refine lv_iconst (v := (0 : Int32)) hx hb (dt uX8_from 34 rfl) (by decide) ?_
              refine lv_ior hx hb (dt uX8_from 35 rfl) ?_
              refine lv_istore_n (lv' := [(3, .int (x3_7 ||| (0 : Int32))), (0, .ref ad0), (1, .int p1), (2, .int p2), (4, .int x4_8)]) hx hb (dt uX8_from 36 rfl) rfl hl (by decide) rfl (fun ls hl => ?_)
              refine lv_iinc (v := x4_8 + 1) (lv' := [(4, .int (x4_8 + 1)), (3, .int (x3_7 ||| (0 : Int32))), (0, .ref ad0), (1, .int p1), (2, .int p2)]) hx hb (dt uX8_from 37 rfl) hl (k := 4) rfl rfl (by decide) rfl (fun ls hl => ?_)
              refine lv_goto (tgt := 29) hx hb (dt uX8_from 38 rfl) (by decide) ?_
              exact ih29 (x3_7 ||| (0 : Int32)) (x4_8 + 1) _ _ _ hf hP hD hS (lv_sub hl [2, 3, 4, 1, 0] rfl)
            · have hf := vif_t c_12 hf
              refine lv_iconst (v := (1 : Int32)) hx hb (dt uX8_from 30 rfl) (by decide) ?_
              refine lv_iload hx hb (dt uX8_from 31 rfl) (lv_at hl 4 rfl) ?_
              refine lv_ishl hx hb (dt uX8_from 32 rfl) ?_
              refine lv_goto (tgt := 60) hx hb (dt uX8_from 33 rfl) (by decide) ?_
              refine lv_ior hx hb (dt uX8_from 35 rfl) ?_
              refine lv_istore_n (lv' := [(3, .int (x3_7 ||| ((1 : Int32) <<< (x4_8 &&& 31)))), (0, .ref ad0), (1, .int p1), (2, .int p2), (4, .int x4_8)]) hx hb (dt uX8_from 36 rfl) rfl hl (by decide) rfl (fun ls hl => ?_)
              refine lv_iinc (v := x4_8 + 1) (lv' := [(4, .int (x4_8 + 1)), (3, .int (x3_7 ||| ((1 : Int32) <<< (x4_8 &&& 31)))), (0, .ref ad0), (1, .int p1), (2, .int p2)]) hx hb (dt uX8_from 37 rfl) hl (k := 4) rfl rfl (by decide) rfl (fun ls hl => ?_)
              refine lv_goto (tgt := 29) hx hb (dt uX8_from 38 rfl) (by decide) ?_
              exact ih29 (x3_7 ||| ((1 : Int32) <<< (x4_8 &&& 31))) (x4_8 + 1) _ _ _ hf hP hD hS (lv_sub hl [2, 3, 4, 1, 0] rfl)
      exact hL29 N (0 : Int32) (0 : Int32) _ _ _ hf hP hD hS (lv_sub hl [2, 3, 4, 1, 0] rfl)
    · have hf := vif_t c_4 hf
      refine lv_iconst (v := (-1 : Int32)) hx hb (dt uX8_from 9 rfl) (by decide) ?_
      have hf := Option.some.inj hf
      subst hf
      rw [hQ]
      exact vret_i C hP hD hS (dt uX8_from 10 rfl)
abbrev rX8_turn : Room := { frames := 0, cells := 0, slots := 0, locals := 0 }
abbrev wX8_turn : List Cond := Cond.code yX8_turn cX8_turn 3 none :: VT
set_option maxHeartbeats 4000000 in
set_option maxRecDepth 100000 in
theorem kX8_turn (ad0 : Nat) (ad_text : Nat) (ad_books : Nat) (ad_numberA : Nat) (ad_numberB : Nat) (ad_draftTouches : Nat) (ad_now : Nat) (ad_isKept : Nat) (ad_near : Nat) (ad_seenDays : Nat) (ad_seenBook : Nat) (ad_seenIs : Nat) (v_trace : Int64) (v_typed : Int32) (v_draftOne : Int32) (v_oneTold : Int32) (v_at : Int32) (v_start : Int32) (v_sort : Int32) (v_value : Int32) (v_fault : Int32) (v_seen : Int32) (v_sets : Int32) (v_inEach : Int32) (v_inSome : Int32) (a_near : Nat → Int32) (p1 : Int32) (p2 : Int32) (q0 : (Nat → Int32)) (hf : fX8_turn a_near p1 p2 = some q0) : Kv l yX8_turn wX8_turn rX8_turn (dC, dI) (vTy cI cJ cB cZ) [.ref ad0, .int p1, .int p2] [(ad0, oX8 v_trace ad_text v_typed ad_books ad_numberA ad_numberB ad_draftTouches v_draftOne v_oneTold v_at v_start v_sort v_value v_fault ad_now ad_isKept ad_near ad_seenDays ad_seenBook ad_seenIs v_seen v_sets v_inEach v_inSome), (ad_near, .inl (cI, 6, .inl a_near))] [(ad0, oX8 v_trace ad_text v_typed ad_books ad_numberA ad_numberB ad_draftTouches v_draftOne v_oneTold v_at v_start v_sort v_value v_fault ad_now ad_isKept ad_near ad_seenDays ad_seenBook ad_seenIs v_seen v_sets v_inEach v_inSome), (ad_near, .inl (cI, 6, .inl q0))] := by
  refine Kv.mk (cc := cX8_turn) (maxL := 3) (ret := none) (by decide) (Nat.le_of_ble_eq_true rfl) ?_
  intro p e s m args below meth c A Q H locs C hQ hP hD hS ls hl
  obtain ⟨hx, hb, -, hml, hts, hown, -, hK, hN, hA⟩ := id C
  have hown : s.vm.findClass RX8 = some m.cls := hown
  have hl : lv_has ls 3 [(0, .ref ad0), (1, .int p1), (2, .int p2)] := hl
  unfold fX8_turn at hf
  refine lv_aload_n hx hb (dt uX8_turn 0 rfl) rfl (lv_at hl 0 rfl) ?_
  refine va_get (D := (dC, dI)) (ci := 8) (v := .ref ad_near) (C := RX8) (T := TX8) (N := 24) hx hb hts inU8 hown hK hP 0 rfl rfl 16 (by decide) (hts _ tw_422) (fun _ h9 => h9) rfl (dt uX8_turn 1 rfl) ?_
  refine lv_iload_n hx hb (dt uX8_turn 2 rfl) rfl (lv_at hl 1 rfl) ?_
  refine lv_dup2_11 hx hb (dt uX8_turn 3 rfl) rfl rfl ?_
  obtain ⟨hi_1, hf⟩ := vg_some hf
  refine va_iald hx hb hK hP 1 0 rfl rfl hi_1 (dt uX8_turn 4 rfl) ?_
  refine lv_iconst (v := (1 : Int32)) hx hb (dt uX8_turn 5 rfl) (by decide) ?_
  refine lv_iload_n hx hb (dt uX8_turn 6 rfl) rfl (lv_at hl 2 rfl) ?_
  refine lv_ishl hx hb (dt uX8_turn 7 rfl) ?_
  refine lv_ixor hx hb (dt uX8_turn 8 rfl) ?_
  obtain ⟨hi_2, hf⟩ := vg_some hf
  refine va_iast hx hb hK hP hD hS 1 0 rfl rfl hi_2 (dt uX8_turn 9 rfl) (fun H locs hP hD hS => ?_)
  have hP : va_P (dC, dI) vwCl [(ad0, oX8 v_trace ad_text v_typed ad_books ad_numberA ad_numberB ad_draftTouches v_draftOne v_oneTold v_at v_start v_sort v_value v_fault ad_now ad_isKept ad_near ad_seenDays ad_seenBook ad_seenIs v_seen v_sets v_inEach v_inSome), (ad_near, .inl (cI, 6, .inl (upd a_near p1.toNatClampNeg ((a_near p1.toNatClampNeg) ^^^ ((1 : Int32) <<< (p2 &&& 31))))))] H := hP
  have hD : va_D A [(ad0, oX8 v_trace ad_text v_typed ad_books ad_numberA ad_numberB ad_draftTouches v_draftOne v_oneTold v_at v_start v_sort v_value v_fault ad_now ad_isKept ad_near ad_seenDays ad_seenBook ad_seenIs v_seen v_sets v_inEach v_inSome), (ad_near, .inl (cI, 6, .inl (upd a_near p1.toNatClampNeg ((a_near p1.toNatClampNeg) ^^^ ((1 : Int32) <<< (p2 &&& 31))))))] := hD
  refine lv_aload_n hx hb (dt uX8_turn 10 rfl) rfl (lv_at hl 0 rfl) ?_
  refine va_get (D := (dC, dI)) (ci := 8) (v := .ref ad_near) (C := RX8) (T := TX8) (N := 24) hx hb hts inU8 hown hK hP 0 rfl rfl 16 (by decide) (hts _ tw_422) (fun _ h9 => h9) rfl (dt uX8_turn 11 rfl) ?_
  refine lv_iload_n hx hb (dt uX8_turn 12 rfl) rfl (lv_at hl 2 rfl) ?_
  refine lv_dup2_11 hx hb (dt uX8_turn 13 rfl) rfl rfl ?_
  obtain ⟨hi_3, hf⟩ := vg_some hf
  refine va_iald hx hb hK hP 1 0 rfl rfl hi_3 (dt uX8_turn 14 rfl) ?_
  refine lv_iconst (v := (1 : Int32)) hx hb (dt uX8_turn 15 rfl) (by decide) ?_
  refine lv_iload_n hx hb (dt uX8_turn 16 rfl) rfl (lv_at hl 1 rfl) ?_
  refine lv_ishl hx hb (dt uX8_turn 17 rfl) ?_
  refine lv_ixor hx hb (dt uX8_turn 18 rfl) ?_
  obtain ⟨hi_4, hf⟩ := vg_some hf
  refine va_iast hx hb hK hP hD hS 1 0 rfl rfl hi_4 (dt uX8_turn 19 rfl) (fun H locs hP hD hS => ?_)
  have hP : va_P (dC, dI) vwCl [(ad0, oX8 v_trace ad_text v_typed ad_books ad_numberA ad_numberB ad_draftTouches v_draftOne v_oneTold v_at v_start v_sort v_value v_fault ad_now ad_isKept ad_near ad_seenDays ad_seenBook ad_seenIs v_seen v_sets v_inEach v_inSome), (ad_near, .inl (cI, 6, .inl (upd (upd a_near p1.toNatClampNeg ((a_near p1.toNatClampNeg) ^^^ ((1 : Int32) <<< (p2 &&& 31)))) p2.toNatClampNeg (((upd a_near p1.toNatClampNeg ((a_near p1.toNatClampNeg) ^^^ ((1 : Int32) <<< (p2 &&& 31)))) p2.toNatClampNeg) ^^^ ((1 : Int32) <<< (p1 &&& 31))))))] H := hP
  have hD : va_D A [(ad0, oX8 v_trace ad_text v_typed ad_books ad_numberA ad_numberB ad_draftTouches v_draftOne v_oneTold v_at v_start v_sort v_value v_fault ad_now ad_isKept ad_near ad_seenDays ad_seenBook ad_seenIs v_seen v_sets v_inEach v_inSome), (ad_near, .inl (cI, 6, .inl (upd (upd a_near p1.toNatClampNeg ((a_near p1.toNatClampNeg) ^^^ ((1 : Int32) <<< (p2 &&& 31)))) p2.toNatClampNeg (((upd a_near p1.toNatClampNeg ((a_near p1.toNatClampNeg) ^^^ ((1 : Int32) <<< (p2 &&& 31)))) p2.toNatClampNeg) ^^^ ((1 : Int32) <<< (p1 &&& 31))))))] := hD
  have hf := Option.some.inj hf
  subst hf
  rw [hQ]
  exact vret_v C hP hD hS (dt uX8_turn 20 rfl)
abbrev rX8_isLess : Room := { frames := 0, cells := 0, slots := 0, locals := 0 }
abbrev wX8_isLess : List Cond := Cond.code yX8_isLess cX8_isLess 2 (some .boolean) :: VT
set_option maxHeartbeats 4000000 in
set_option maxRecDepth 100000 in
theorem kX8_isLess (ad0 : Nat) (ad_text : Nat) (ad_books : Nat) (ad_numberA : Nat) (ad_numberB : Nat) (ad_draftTouches : Nat) (ad_now : Nat) (ad_isKept : Nat) (ad_near : Nat) (ad_seenDays : Nat) (ad_seenBook : Nat) (ad_seenIs : Nat) (v_trace : Int64) (v_typed : Int32) (v_draftOne : Int32) (v_oneTold : Int32) (v_at : Int32) (v_start : Int32) (v_sort : Int32) (v_value : Int32) (v_fault : Int32) (v_seen : Int32) (v_sets : Int32) (v_inEach : Int32) (v_inSome : Int32) (a_books : Nat → Int32) (a_now : Nat → Int32) (p1 : Int32) (q0 : Int32) (hf : fX8_isLess a_books a_now p1 = some q0) : Kz l yX8_isLess wX8_isLess rX8_isLess (dC, dI) (vTy cI cJ cB cZ) [.ref ad0, .int p1] [(ad0, oX8 v_trace ad_text v_typed ad_books ad_numberA ad_numberB ad_draftTouches v_draftOne v_oneTold v_at v_start v_sort v_value v_fault ad_now ad_isKept ad_near ad_seenDays ad_seenBook ad_seenIs v_seen v_sets v_inEach v_inSome), (ad_books, .inl (cI, 2, .inl a_books)), (ad_now, .inl (cI, 498, .inl a_now))] [(ad0, oX8 v_trace ad_text v_typed ad_books ad_numberA ad_numberB ad_draftTouches v_draftOne v_oneTold v_at v_start v_sort v_value v_fault ad_now ad_isKept ad_near ad_seenDays ad_seenBook ad_seenIs v_seen v_sets v_inEach v_inSome), (ad_books, .inl (cI, 2, .inl a_books)), (ad_now, .inl (cI, 498, .inl a_now))] q0 := by
  refine Kz.mk (cc := cX8_isLess) (maxL := 2) (ret := some .boolean) (by decide) (Nat.le_of_ble_eq_true rfl) ?_
  intro p e s m args below meth c A Q H locs C hQ hP hD hS ls hl
  obtain ⟨hx, hb, -, hml, hts, hown, -, hK, hN, hA⟩ := id C
  have hown : s.vm.findClass RX8 = some m.cls := hown
  have hl : lv_has ls 2 [(0, .ref ad0), (1, .int p1)] := hl
  unfold fX8_isLess at hf
  refine lv_iload_n hx hb (dt uX8_isLess 0 rfl) rfl (lv_at hl 1 rfl) ?_
  refine lv_bipush (v := (6 : Int32)) hx hb (dt uX8_isLess 1 rfl) (by decide) ?_
  refine lv_idiv hx hb (dt uX8_isLess 2 rfl) (by decide) ?_
  refine lv_iload_n hx hb (dt uX8_isLess 3 rfl) rfl (lv_at hl 1 rfl) ?_
  refine lv_bipush (v := (6 : Int32)) hx hb (dt uX8_isLess 4 rfl) (by decide) ?_
  refine lv_irem hx hb (dt uX8_isLess 5 rfl) (by decide) ?_
  refine lv_icmp_ge (tgt := 50) hx hb (dt uX8_isLess 6 rfl) (by decide) (fun c_1 => ?_) (fun c_1 => ?_)
  · have hf := vif_t c_1 hf
    refine lv_iconst (v := (0 : Int32)) hx hb (dt uX8_isLess 32 rfl) (by decide) ?_
    have hf := Option.some.inj hf
    subst hf
    rw [hQ]
    exact vret_z C hP hD hS (dt uX8_isLess 33 rfl) (Or.inl rfl)
  · have hf := vif_f c_1 hf
    refine lv_iload_n hx hb (dt uX8_isLess 7 rfl) rfl (lv_at hl 1 rfl) ?_
    refine lv_bipush (v := (6 : Int32)) hx hb (dt uX8_isLess 8 rfl) (by decide) ?_
    refine lv_irem hx hb (dt uX8_isLess 9 rfl) (by decide) ?_
    refine lv_aload_n hx hb (dt uX8_isLess 10 rfl) rfl (lv_at hl 0 rfl) ?_
    refine va_get (D := (dC, dI)) (ci := 8) (v := .ref ad_books) (C := RX8) (T := TX8) (N := 24) hx hb hts inU8 hown hK hP 0 rfl rfl 3 (by decide) (hts _ tw_360) (fun _ h9 => h9) rfl (dt uX8_isLess 11 rfl) ?_
    refine lv_iconst (v := (0 : Int32)) hx hb (dt uX8_isLess 12 rfl) (by decide) ?_
    refine va_iald hx hb hK hP 1 0 rfl rfl (vp_in_iff.mpr (by decide)) (dt uX8_isLess 13 rfl) ?_
    refine lv_icmp_ge (tgt := 50) hx hb (dt uX8_isLess 14 rfl) (by decide) (fun c_2 => ?_) (fun c_2 => ?_)
    · have hf := vif_t c_2 hf
      refine lv_iconst (v := (0 : Int32)) hx hb (dt uX8_isLess 32 rfl) (by decide) ?_
      have hf := Option.some.inj hf
      subst hf
      rw [hQ]
      exact vret_z C hP hD hS (dt uX8_isLess 33 rfl) (Or.inl rfl)
    · have hf := vif_f c_2 hf
      refine lv_aload_n hx hb (dt uX8_isLess 15 rfl) rfl (lv_at hl 0 rfl) ?_
      refine va_get (D := (dC, dI)) (ci := 8) (v := .ref ad_now) (C := RX8) (T := TX8) (N := 24) hx hb hts inU8 hown hK hP 0 rfl rfl 14 (by decide) (hts _ tw_369) (fun _ h9 => h9) rfl (dt uX8_isLess 16 rfl) ?_
      refine lv_bipush (v := (6 : Int32)) hx hb (dt uX8_isLess 17 rfl) (by decide) ?_
      refine lv_iload_n hx hb (dt uX8_isLess 18 rfl) rfl (lv_at hl 1 rfl) ?_
      refine lv_bipush (v := (6 : Int32)) hx hb (dt uX8_isLess 19 rfl) (by decide) ?_
      refine lv_idiv hx hb (dt uX8_isLess 20 rfl) (by decide) ?_
      refine lv_iadd hx hb (dt uX8_isLess 21 rfl) ?_
      obtain ⟨hi_3, hf⟩ := vg_some hf
      refine va_iald hx hb hK hP 2 0 rfl rfl hi_3 (dt uX8_isLess 22 rfl) ?_
      refine lv_iload_n hx hb (dt uX8_isLess 23 rfl) rfl (lv_at hl 1 rfl) ?_
      refine lv_bipush (v := (6 : Int32)) hx hb (dt uX8_isLess 24 rfl) (by decide) ?_
      refine lv_irem hx hb (dt uX8_isLess 25 rfl) (by decide) ?_
      refine lv_ishr hx hb (dt uX8_isLess 26 rfl) ?_
      refine lv_iconst (v := (1 : Int32)) hx hb (dt uX8_isLess 27 rfl) (by decide) ?_
      refine lv_iand hx hb (dt uX8_isLess 28 rfl) ?_
      refine lv_if_ne (tgt := 50) hx hb (dt uX8_isLess 29 rfl) (by decide) (fun c_4 => ?_) (fun c_4 => ?_)
      · have hf := vif_f c_4 hf
        refine lv_iconst (v := (0 : Int32)) hx hb (dt uX8_isLess 32 rfl) (by decide) ?_
        have hf := Option.some.inj hf
        subst hf
        rw [hQ]
        exact vret_z C hP hD hS (dt uX8_isLess 33 rfl) (Or.inl rfl)
      · have hf := vif_t c_4 hf
        refine lv_iconst (v := (1 : Int32)) hx hb (dt uX8_isLess 30 rfl) (by decide) ?_
        refine lv_goto (tgt := 51) hx hb (dt uX8_isLess 31 rfl) (by decide) ?_
        have hf := Option.some.inj hf
        subst hf
        rw [hQ]
        exact vret_z C hP hD hS (dt uX8_isLess 33 rfl) (Or.inr rfl)
abbrev rX8_isLured : Room := { frames := 4, cells := 0, slots := 0, locals := 92 }
abbrev wX8_isLured : List Cond := Cond.code yX8_isLured cX8_isLured 5 (some .boolean) :: VT
set_option maxHeartbeats 4000000 in
set_option maxRecDepth 100000 in
theorem kX8_isLured (ad0 : Nat) (ad_text : Nat) (ad_books : Nat) (ad_numberA : Nat) (ad_numberB : Nat) (ad_draftTouches : Nat) (ad_now : Nat) (ad_isKept : Nat) (ad_near : Nat) (ad_seenDays : Nat) (ad_seenBook : Nat) (ad_seenIs : Nat) (v_trace : Int64) (v_typed : Int32) (v_draftOne : Int32) (v_oneTold : Int32) (v_at : Int32) (v_start : Int32) (v_sort : Int32) (v_value : Int32) (v_fault : Int32) (v_seen : Int32) (v_sets : Int32) (v_inEach : Int32) (v_inSome : Int32) (a_books : Nat → Int32) (a_numberA : Nat → Int32) (a_numberB : Nat → Int32) (a_now : Nat → Int32) (a_near : Nat → Int32) (p1 : Int32) (p2 : Int32) (p3 : Int32) (p4 : Int32) (N : Nat) (q0 : (Int32 × (Nat → Int32))) (hf : fX8_isLured N a_books a_numberA a_numberB a_now a_near p1 p2 p3 p4 = some q0) : Kz l yX8_isLured wX8_isLured rX8_isLured (dC, dI) (vTy cI cJ cB cZ) [.ref ad0, .int p1, .int p2, .int p3, .int p4] [(ad0, oX8 v_trace ad_text v_typed ad_books ad_numberA ad_numberB ad_draftTouches v_draftOne v_oneTold v_at v_start v_sort v_value v_fault ad_now ad_isKept ad_near ad_seenDays ad_seenBook ad_seenIs v_seen v_sets v_inEach v_inSome), (ad_books, .inl (cI, 2, .inl a_books)), (ad_numberA, .inl (cI, 12, .inl a_numberA)), (ad_numberB, .inl (cI, 12, .inl a_numberB)), (ad_now, .inl (cI, 498, .inl a_now)), (ad_near, .inl (cI, 6, .inl a_near))] [(ad0, oX8 v_trace ad_text v_typed ad_books ad_numberA ad_numberB ad_draftTouches v_draftOne v_oneTold v_at v_start v_sort v_value v_fault ad_now ad_isKept ad_near ad_seenDays ad_seenBook ad_seenIs v_seen v_sets v_inEach v_inSome), (ad_books, .inl (cI, 2, .inl a_books)), (ad_numberA, .inl (cI, 12, .inl a_numberA)), (ad_numberB, .inl (cI, 12, .inl a_numberB)), (ad_now, .inl (cI, 498, .inl a_now)), (ad_near, .inl (cI, 6, .inl q0.2))] q0.1 := by
  refine Kz.mk (cc := cX8_isLured) (maxL := 5) (ret := some .boolean) (by decide) (Nat.le_of_ble_eq_true rfl) ?_
  intro p e s m args below meth c A Q H locs C hQ hP hD hS ls hl
  obtain ⟨hx, hb, -, hml, hts, hown, -, hK, hN, hA⟩ := id C
  have hown : s.vm.findClass RX8 = some m.cls := hown
  have hl : lv_has ls 5 [(0, .ref ad0), (1, .int p1), (2, .int p2), (3, .int p3), (4, .int p4)] := hl
  unfold fX8_isLured at hf
  refine lv_aload_n hx hb (dt uX8_isLured 0 rfl) rfl (lv_at hl 0 rfl) ?_
  obtain ⟨q_1, hq_2, hf⟩ := vbd hf
  refine vk_v [0, 4, 5] (ws2 := [(ad0, oX8 v_trace ad_text v_typed ad_books ad_numberA ad_numberB ad_draftTouches v_draftOne v_oneTold v_at v_start v_sort v_value v_fault ad_now ad_isKept ad_near ad_seenDays ad_seenBook ad_seenIs v_seen v_sets v_inEach v_inSome), (ad_books, .inl (cI, 2, .inl a_books)), (ad_numberA, .inl (cI, 12, .inl a_numberA)), (ad_numberB, .inl (cI, 12, .inl a_numberB)), (ad_now, .inl (cI, 498, .inl a_now)), (ad_near, .inl (cI, 6, .inl q_1))]) (va_runV (As := []) (rest := []) ⟨hx, hb, hml, hown, hts⟩ (kX8_takeNear ad0 ad_text ad_books ad_numberA ad_numberB ad_draftTouches ad_now ad_isKept ad_near ad_seenDays ad_seenBook ad_seenIs v_trace v_typed v_draftOne v_oneTold v_at v_start v_sort v_value v_fault v_seen v_sets v_inEach v_inSome a_now a_near N q_1 hq_2 H.size) (vcwV hts tw_431 tw_432 tw_433 tw_336 tw_430 hd_X8_takeNear rfl rfl ⟨Nat.le_of_ble_eq_true rfl, Nat.le_of_ble_eq_true rfl⟩) (vpreV hK hN hP hD [0, 4, 5] rfl (by decide) (ci := 8) (q0 := 0) rfl rfl) rfl rfl hl.1 rfl (lv_room (Nat.le_of_ble_eq_true rfl)) (dt uX8_isLured 1 rfl) ⟨Nat.zero_le _, Nat.zero_le _⟩) hA hP hD hS rfl (by decide) rfl rfl (fun H locs hP hD hS => ?_)
  refine lv_iload_n hx hb (dt uX8_isLured 2 rfl) rfl (lv_at hl 3 rfl) ?_
  have hJ20 : ∀ (w_5 : Nat → Int32) (H : Heap) (locs : List Loc) (ls : Array Slot), fX8_isLured_J20 N a_books a_numberA a_numberB a_now p1 p2 p4 w_5 = some q0 → va_P (dC, dI) vwCl [(ad0, oX8 v_trace ad_text v_typed ad_books ad_numberA ad_numberB ad_draftTouches v_draftOne v_oneTold v_at v_start v_sort v_value v_fault ad_now ad_isKept ad_near ad_seenDays ad_seenBook ad_seenIs v_seen v_sets v_inEach v_inSome), (ad_books, .inl (cI, 2, .inl a_books)), (ad_numberA, .inl (cI, 12, .inl a_numberA)), (ad_numberB, .inl (cI, 12, .inl a_numberB)), (ad_now, .inl (cI, 498, .inl a_now)), (ad_near, .inl (cI, 6, .inl w_5))] H → va_D A [(ad0, oX8 v_trace ad_text v_typed ad_books ad_numberA ad_numberB ad_draftTouches v_draftOne v_oneTold v_at v_start v_sort v_value v_fault ad_now ad_isKept ad_near ad_seenDays ad_seenBook ad_seenIs v_seen v_sets v_inEach v_inSome), (ad_books, .inl (cI, 2, .inl a_books)), (ad_numberA, .inl (cI, 12, .inl a_numberA)), (ad_numberB, .inl (cI, 12, .inl a_numberB)), (ad_now, .inl (cI, 498, .inl a_now)), (ad_near, .inl (cI, 6, .inl w_5))] → va_S A s.heap H locs → lv_has ls 5 [(0, .ref ad0), (1, .int p1), (2, .int p2), (4, .int p4)] → W p l e rX8_isLured s m args below meth c H locs 0 0 Q (F0 m 20 ls []) := by
    intro w_5 H locs ls hf hP hD hS hl
    unfold fX8_isLured_J20 at hf
    refine lv_iload hx hb (dt uX8_isLured 12 rfl) (lv_at hl 3 rfl) ?_
    have hJ39 : ∀ (w_8 : Nat → Int32) (H : Heap) (locs : List Loc) (ls : Array Slot), fX8_isLured_J39 N a_books a_numberA a_numberB a_now p1 p2 w_8 = some q0 → va_P (dC, dI) vwCl [(ad0, oX8 v_trace ad_text v_typed ad_books ad_numberA ad_numberB ad_draftTouches v_draftOne v_oneTold v_at v_start v_sort v_value v_fault ad_now ad_isKept ad_near ad_seenDays ad_seenBook ad_seenIs v_seen v_sets v_inEach v_inSome), (ad_books, .inl (cI, 2, .inl a_books)), (ad_numberA, .inl (cI, 12, .inl a_numberA)), (ad_numberB, .inl (cI, 12, .inl a_numberB)), (ad_now, .inl (cI, 498, .inl a_now)), (ad_near, .inl (cI, 6, .inl w_8))] H → va_D A [(ad0, oX8 v_trace ad_text v_typed ad_books ad_numberA ad_numberB ad_draftTouches v_draftOne v_oneTold v_at v_start v_sort v_value v_fault ad_now ad_isKept ad_near ad_seenDays ad_seenBook ad_seenIs v_seen v_sets v_inEach v_inSome), (ad_books, .inl (cI, 2, .inl a_books)), (ad_numberA, .inl (cI, 12, .inl a_numberA)), (ad_numberB, .inl (cI, 12, .inl a_numberB)), (ad_now, .inl (cI, 498, .inl a_now)), (ad_near, .inl (cI, 6, .inl w_8))] → va_S A s.heap H locs → lv_has ls 5 [(0, .ref ad0), (1, .int p1), (2, .int p2)] → W p l e rX8_isLured s m args below meth c H locs 0 0 Q (F0 m 39 ls []) := by
      intro w_8 H locs ls hf hP hD hS hl
      unfold fX8_isLured_J39 at hf
      refine lv_aload_n hx hb (dt uX8_isLured 22 rfl) rfl (lv_at hl 0 rfl) ?_
      refine lv_aload_n hx hb (dt uX8_isLured 23 rfl) rfl (lv_at hl 0 rfl) ?_
      refine va_get (D := (dC, dI)) (ci := 8) (v := .ref ad_now) (C := RX8) (T := TX8) (N := 24) hx hb hts inU8 hown hK hP 0 rfl rfl 14 (by decide) (hts _ tw_369) (fun _ h9 => h9) rfl (dt uX8_isLured 24 rfl) ?_
      refine lv_bipush (v := (13 : Int32)) hx hb (dt uX8_isLured 25 rfl) (by decide) ?_
      refine va_iald hx hb hK hP 4 0 rfl rfl (vp_in_iff.mpr (by decide)) (dt uX8_isLured 26 rfl) ?_
      refine lv_iload_n hx hb (dt uX8_isLured 27 rfl) rfl (lv_at hl 2 rfl) ?_
      obtain ⟨q_9, hq_10, hf⟩ := vbd hf
      refine vk_i0 [0, 1, 2, 3, 4, 5] (va_runV (As := [.int (a_now (13 : Int32).toNatClampNeg), .int p2]) (rest := []) ⟨hx, hb, hml, hown, hts⟩ (kX8_goesIn ad0 ad_text ad_books ad_numberA ad_numberB ad_draftTouches ad_now ad_isKept ad_near ad_seenDays ad_seenBook ad_seenIs v_trace v_typed v_draftOne v_oneTold v_at v_start v_sort v_value v_fault v_seen v_sets v_inEach v_inSome a_books a_numberA a_numberB a_now w_8 (a_now (13 : Int32).toNatClampNeg) p2 N q_9 hq_10 H.size) (vcwV hts tw_435 tw_436 tw_437 tw_336 tw_434 hd_X8_goesIn rfl rfl ⟨Nat.le_of_ble_eq_true rfl, Nat.le_of_ble_eq_true rfl⟩) (vpreV hK hN hP hD [0, 1, 2, 3, 4, 5] rfl (by decide) (ci := 8) (q0 := 0) rfl rfl) rfl rfl hl.1 rfl (lv_room (Nat.le_of_ble_eq_true rfl)) (dt uX8_isLured 28 rfl) ⟨Nat.zero_le _, Nat.zero_le _⟩) hA hP hD hS rfl (by decide) (fun H locs hP hD hS => ?_)
      refine lv_iload_n hx hb (dt uX8_isLured 29 rfl) rfl (lv_at hl 1 rfl) ?_
      refine lv_icmp_ne (tgt := 59) hx hb (dt uX8_isLured 30 rfl) (by decide) (fun c_11 => ?_) (fun c_11 => ?_)
      · have hf := vif_f c_11 hf
        refine lv_iconst (v := (0 : Int32)) hx hb (dt uX8_isLured 33 rfl) (by decide) ?_
        have hf := Option.some.inj hf
        subst hf
        rw [hQ]
        exact vret_z C hP hD hS (dt uX8_isLured 34 rfl) (Or.inl rfl)
      · have hf := vif_t c_11 hf
        refine lv_iconst (v := (1 : Int32)) hx hb (dt uX8_isLured 31 rfl) (by decide) ?_
        refine lv_goto (tgt := 60) hx hb (dt uX8_isLured 32 rfl) (by decide) ?_
        have hf := Option.some.inj hf
        subst hf
        rw [hQ]
        exact vret_z C hP hD hS (dt uX8_isLured 34 rfl) (Or.inr rfl)
    refine lv_if_lt (tgt := 39) hx hb (dt uX8_isLured 13 rfl) (by decide) (fun c_12 => ?_) (fun c_12 => ?_)
    · have hf := vif_t c_12 hf
      exact hJ39 w_5 _ _ _ hf hP hD hS (lv_sub hl [0, 1, 2] rfl)
    · have hf := vif_f c_12 hf
      refine lv_aload_n hx hb (dt uX8_isLured 14 rfl) rfl (lv_at hl 0 rfl) ?_
      refine lv_iload hx hb (dt uX8_isLured 15 rfl) (lv_at hl 3 rfl) ?_
      refine lv_bipush (v := (6 : Int32)) hx hb (dt uX8_isLured 16 rfl) (by decide) ?_
      refine lv_idiv hx hb (dt uX8_isLured 17 rfl) (by decide) ?_
      refine lv_iload hx hb (dt uX8_isLured 18 rfl) (lv_at hl 3 rfl) ?_
      refine lv_bipush (v := (6 : Int32)) hx hb (dt uX8_isLured 19 rfl) (by decide) ?_
      refine lv_irem hx hb (dt uX8_isLured 20 rfl) (by decide) ?_
      obtain ⟨q_13, hq_14, hf⟩ := vbd hf
      refine vk_v [0, 5] (ws2 := [(ad0, oX8 v_trace ad_text v_typed ad_books ad_numberA ad_numberB ad_draftTouches v_draftOne v_oneTold v_at v_start v_sort v_value v_fault ad_now ad_isKept ad_near ad_seenDays ad_seenBook ad_seenIs v_seen v_sets v_inEach v_inSome), (ad_books, .inl (cI, 2, .inl a_books)), (ad_numberA, .inl (cI, 12, .inl a_numberA)), (ad_numberB, .inl (cI, 12, .inl a_numberB)), (ad_now, .inl (cI, 498, .inl a_now)), (ad_near, .inl (cI, 6, .inl q_13))]) (va_runV (As := [.int (p4 / (6 : Int32)), .int (p4 - p4 / (6 : Int32) * (6 : Int32))]) (rest := []) ⟨hx, hb, hml, hown, hts⟩ (kX8_turn ad0 ad_text ad_books ad_numberA ad_numberB ad_draftTouches ad_now ad_isKept ad_near ad_seenDays ad_seenBook ad_seenIs v_trace v_typed v_draftOne v_oneTold v_at v_start v_sort v_value v_fault v_seen v_sets v_inEach v_inSome w_5 (p4 / (6 : Int32)) (p4 - p4 / (6 : Int32) * (6 : Int32)) q_13 hq_14 H.size) (vcwV hts tw_439 tw_440 tw_441 tw_336 tw_438 hd_X8_turn rfl rfl ⟨Nat.le_of_ble_eq_true rfl, Nat.le_of_ble_eq_true rfl⟩) (vpreV hK hN hP hD [0, 5] rfl (by decide) (ci := 8) (q0 := 0) rfl rfl) rfl rfl hl.1 rfl (lv_room (Nat.le_of_ble_eq_true rfl)) (dt uX8_isLured 21 rfl) ⟨Nat.zero_le _, Nat.zero_le _⟩) hA hP hD hS rfl (by decide) rfl rfl (fun H locs hP hD hS => ?_)
      exact hJ39 q_13 _ _ _ hf hP hD hS (lv_sub hl [0, 1, 2] rfl)
  refine lv_if_lt (tgt := 20) hx hb (dt uX8_isLured 3 rfl) (by decide) (fun c_15 => ?_) (fun c_15 => ?_)
  · have hf := vif_t c_15 hf
    exact hJ20 q_1 _ _ _ hf hP hD hS (lv_sub hl [0, 1, 2, 4] rfl)
  · have hf := vif_f c_15 hf
    refine lv_aload_n hx hb (dt uX8_isLured 4 rfl) rfl (lv_at hl 0 rfl) ?_
    refine lv_iload_n hx hb (dt uX8_isLured 5 rfl) rfl (lv_at hl 3 rfl) ?_
    refine lv_bipush (v := (6 : Int32)) hx hb (dt uX8_isLured 6 rfl) (by decide) ?_
    refine lv_idiv hx hb (dt uX8_isLured 7 rfl) (by decide) ?_
    refine lv_iload_n hx hb (dt uX8_isLured 8 rfl) rfl (lv_at hl 3 rfl) ?_
    refine lv_bipush (v := (6 : Int32)) hx hb (dt uX8_isLured 9 rfl) (by decide) ?_
    refine lv_irem hx hb (dt uX8_isLured 10 rfl) (by decide) ?_
    obtain ⟨q_16, hq_17, hf⟩ := vbd hf
    refine vk_v [0, 5] (ws2 := [(ad0, oX8 v_trace ad_text v_typed ad_books ad_numberA ad_numberB ad_draftTouches v_draftOne v_oneTold v_at v_start v_sort v_value v_fault ad_now ad_isKept ad_near ad_seenDays ad_seenBook ad_seenIs v_seen v_sets v_inEach v_inSome), (ad_books, .inl (cI, 2, .inl a_books)), (ad_numberA, .inl (cI, 12, .inl a_numberA)), (ad_numberB, .inl (cI, 12, .inl a_numberB)), (ad_now, .inl (cI, 498, .inl a_now)), (ad_near, .inl (cI, 6, .inl q_16))]) (va_runV (As := [.int (p3 / (6 : Int32)), .int (p3 - p3 / (6 : Int32) * (6 : Int32))]) (rest := []) ⟨hx, hb, hml, hown, hts⟩ (kX8_turn ad0 ad_text ad_books ad_numberA ad_numberB ad_draftTouches ad_now ad_isKept ad_near ad_seenDays ad_seenBook ad_seenIs v_trace v_typed v_draftOne v_oneTold v_at v_start v_sort v_value v_fault v_seen v_sets v_inEach v_inSome q_1 (p3 / (6 : Int32)) (p3 - p3 / (6 : Int32) * (6 : Int32)) q_16 hq_17 H.size) (vcwV hts tw_439 tw_440 tw_441 tw_336 tw_438 hd_X8_turn rfl rfl ⟨Nat.le_of_ble_eq_true rfl, Nat.le_of_ble_eq_true rfl⟩) (vpreV hK hN hP hD [0, 5] rfl (by decide) (ci := 8) (q0 := 0) rfl rfl) rfl rfl hl.1 rfl (lv_room (Nat.le_of_ble_eq_true rfl)) (dt uX8_isLured 11 rfl) ⟨Nat.zero_le _, Nat.zero_le _⟩) hA hP hD hS rfl (by decide) rfl rfl (fun H locs hP hD hS => ?_)
    exact hJ20 q_16 _ _ _ hf hP hD hS (lv_sub hl [0, 1, 2, 4] rfl)
abbrev rX8_told : Room := { frames := 0, cells := 0, slots := 0, locals := 0 }
abbrev wX8_told : List Cond := Cond.code yX8_told cX8_told 1 (some .int) :: VT
set_option maxHeartbeats 4000000 in
set_option maxRecDepth 100000 in
theorem kX8_told (p1 : Int32) (q0 : Int32) (hf : fX8_told p1 = q0) : Ki l yX8_told wX8_told rX8_told (dC, dI) (vTy cI cJ cB cZ) [.int p1] [] [] q0 := by
  refine Ki.mk (cc := cX8_told) (maxL := 1) (ret := some .int) (by decide) (Nat.le_of_ble_eq_true rfl) ?_
  intro p e s m args below meth c A Q H locs C hQ hP hD hS ls hl
  obtain ⟨hx, hb, -, hml, hts, hown, -, hK, hN, hA⟩ := id C
  have hown : s.vm.findClass RX8 = some m.cls := hown
  have hl : lv_has ls 1 [(0, .int p1)] := hl
  unfold fX8_told at hf
  refine lv_iload_n hx hb (dt uX8_told 0 rfl) rfl (lv_at hl 0 rfl) ?_
  refine lv_if_ge (tgt := 9) hx hb (dt uX8_told 1 rfl) (by decide) (fun c_1 => ?_) (fun c_1 => ?_)
  · have hf := vif_t c_1 hf
    refine lv_bipush (v := (10 : Int32)) hx hb (dt uX8_told 4 rfl) (by decide) ?_
    refine lv_iload_n hx hb (dt uX8_told 5 rfl) rfl (lv_at hl 0 rfl) ?_
    refine lv_bipush (v := (6 : Int32)) hx hb (dt uX8_told 6 rfl) (by decide) ?_
    refine lv_idiv hx hb (dt uX8_told 7 rfl) (by decide) ?_
    refine lv_imul hx hb (dt uX8_told 8 rfl) ?_
    refine lv_iload_n hx hb (dt uX8_told 9 rfl) rfl (lv_at hl 0 rfl) ?_
    refine lv_bipush (v := (6 : Int32)) hx hb (dt uX8_told 10 rfl) (by decide) ?_
    refine lv_irem hx hb (dt uX8_told 11 rfl) (by decide) ?_
    refine lv_iadd hx hb (dt uX8_told 12 rfl) ?_
    subst hf
    rw [hQ]
    exact vret_i C hP hD hS (dt uX8_told 13 rfl)
  · have hf := vif_f c_1 hf
    refine lv_bipush (v := (-9 : Int32)) hx hb (dt uX8_told 2 rfl) (by decide) ?_
    refine lv_goto (tgt := 21) hx hb (dt uX8_told 3 rfl) (by decide) ?_
    subst hf
    rw [hQ]
    exact vret_i C hP hD hS (dt uX8_told 13 rfl)
abbrev rX8_lure : Room := { frames := 5, cells := 0, slots := 0, locals := 116 }
abbrev wX8_lure : List Cond := Cond.code yX8_lure cX8_lure 6 (some .int) :: VT
set_option maxHeartbeats 4000000 in
set_option maxRecDepth 100000 in
theorem kX8_lure (ad0 : Nat) (ad_text : Nat) (ad_books : Nat) (ad_numberA : Nat) (ad_numberB : Nat) (ad_draftTouches : Nat) (ad_now : Nat) (ad_isKept : Nat) (ad_near : Nat) (ad_seenDays : Nat) (ad_seenBook : Nat) (ad_seenIs : Nat) (v_trace : Int64) (v_typed : Int32) (v_draftOne : Int32) (v_oneTold : Int32) (v_at : Int32) (v_start : Int32) (v_sort : Int32) (v_value : Int32) (v_fault : Int32) (v_seen : Int32) (v_sets : Int32) (v_inEach : Int32) (v_inSome : Int32) (a_books : Nat → Int32) (a_numberA : Nat → Int32) (a_numberB : Nat → Int32) (a_now : Nat → Int32) (a_near : Nat → Int32) (p1 : Int32) (p2 : Int32) (p3 : Int32) (N : Nat) (q0 : (Int32 × (Nat → Int32))) (hf : fX8_lure N a_books a_numberA a_numberB a_now a_near p1 p2 p3 = some q0) : Ki l yX8_lure wX8_lure rX8_lure (dC, dI) (vTy cI cJ cB cZ) [.ref ad0, .int p1, .int p2, .int p3] [(ad0, oX8 v_trace ad_text v_typed ad_books ad_numberA ad_numberB ad_draftTouches v_draftOne v_oneTold v_at v_start v_sort v_value v_fault ad_now ad_isKept ad_near ad_seenDays ad_seenBook ad_seenIs v_seen v_sets v_inEach v_inSome), (ad_books, .inl (cI, 2, .inl a_books)), (ad_numberA, .inl (cI, 12, .inl a_numberA)), (ad_numberB, .inl (cI, 12, .inl a_numberB)), (ad_now, .inl (cI, 498, .inl a_now)), (ad_near, .inl (cI, 6, .inl a_near))] [(ad0, oX8 v_trace ad_text v_typed ad_books ad_numberA ad_numberB ad_draftTouches v_draftOne v_oneTold v_at v_start v_sort v_value v_fault ad_now ad_isKept ad_near ad_seenDays ad_seenBook ad_seenIs v_seen v_sets v_inEach v_inSome), (ad_books, .inl (cI, 2, .inl a_books)), (ad_numberA, .inl (cI, 12, .inl a_numberA)), (ad_numberB, .inl (cI, 12, .inl a_numberB)), (ad_now, .inl (cI, 498, .inl a_now)), (ad_near, .inl (cI, 6, .inl q0.2))] q0.1 := by
  refine Ki.mk (cc := cX8_lure) (maxL := 6) (ret := some .int) (by decide) (Nat.le_of_ble_eq_true rfl) ?_
  intro p e s m args below meth c A Q H locs C hQ hP hD hS ls hl
  obtain ⟨hx, hb, -, hml, hts, hown, -, hK, hN, hA⟩ := id C
  have hown : s.vm.findClass RX8 = some m.cls := hown
  have hl : lv_has ls 6 [(0, .ref ad0), (1, .int p1), (2, .int p2), (3, .int p3)] := hl
  unfold fX8_lure at hf
  refine lv_aload_n hx hb (dt uX8_lure_0 0 rfl) rfl (lv_at hl 0 rfl) ?_
  refine lv_iload_n hx hb (dt uX8_lure_0 1 rfl) rfl (lv_at hl 1 rfl) ?_
  refine vk_z0 [0, 1] (va_runV (As := [.int p1]) (rest := []) ⟨hx, hb, hml, hown, hts⟩ (kX8_isBook ad0 ad_text ad_books ad_numberA ad_numberB ad_draftTouches ad_now ad_isKept ad_near ad_seenDays ad_seenBook ad_seenIs v_trace v_typed v_draftOne v_oneTold v_at v_start v_sort v_value v_fault v_seen v_sets v_inEach v_inSome a_books p1 _ rfl H.size) (vcwV hts tw_403 tw_404 tw_405 tw_336 tw_402 hd_X8_isBook rfl rfl ⟨Nat.le_of_ble_eq_true rfl, Nat.le_of_ble_eq_true rfl⟩) (vpreV hK hN hP hD [0, 1] rfl (by decide) (ci := 8) (q0 := 0) rfl rfl) rfl rfl hl.1 rfl (lv_room (Nat.le_of_ble_eq_true rfl)) (dt uX8_lure_0 2 rfl) ⟨Nat.zero_le _, Nat.zero_le _⟩) hA hP hD hS rfl (by decide) (fun hz_1 H locs hP hD hS => ?_)
  refine lv_if_eq (tgt := 27) hx hb (dt uX8_lure_0 3 rfl) (by decide) (fun c_2 => ?_) (fun c_2 => ?_)
  · have hf := vif_t c_2 hf
    refine lv_iconst (v := (-1 : Int32)) hx hb (dt uX8_lure_0 14 rfl) (by decide) ?_
    have hf := Option.some.inj hf
    subst hf
    rw [hQ]
    exact vret_i C hP hD hS (dt uX8_lure_0 15 rfl)
  · have hf := vif_f c_2 hf
    refine lv_iload_n hx hb (dt uX8_lure_0 4 rfl) rfl (lv_at hl 2 rfl) ?_
    refine lv_iconst (v := (1 : Int32)) hx hb (dt uX8_lure_0 5 rfl) (by decide) ?_
    refine lv_bipush (v := (20 : Int32)) hx hb (dt uX8_lure_0 6 rfl) (by decide) ?_
    refine vk_z0 [] (va_runS (As := [.int p2, .int (1 : Int32), .int (20 : Int32)]) (rest := []) ⟨hx, hb, hml, hown, hts⟩ (kX8_in p2 (1 : Int32) (20 : Int32) _ rfl H.size) (vcwS hts tw_338 tw_339 tw_336 tw_337 hd_X8_in rfl rfl ⟨Nat.le_of_ble_eq_true rfl, Nat.le_of_ble_eq_true rfl⟩) (vpreS hK hN hP hD [] rfl (by decide)) rfl rfl hl.1 rfl (lv_room (Nat.le_of_ble_eq_true rfl)) (dt uX8_lure_0 7 rfl) ⟨Nat.zero_le _, Nat.zero_le _⟩) hA hP hD hS rfl (by decide) (fun hz_3 H locs hP hD hS => ?_)
    refine lv_if_eq (tgt := 27) hx hb (dt uX8_lure_0 8 rfl) (by decide) (fun c_4 => ?_) (fun c_4 => ?_)
    · have hf := vif_t c_4 hf
      refine lv_iconst (v := (-1 : Int32)) hx hb (dt uX8_lure_0 14 rfl) (by decide) ?_
      have hf := Option.some.inj hf
      subst hf
      rw [hQ]
      exact vret_i C hP hD hS (dt uX8_lure_0 15 rfl)
    · have hf := vif_f c_4 hf
      refine lv_iload_n hx hb (dt uX8_lure_0 9 rfl) rfl (lv_at hl 3 rfl) ?_
      refine lv_iconst (v := (0 : Int32)) hx hb (dt uX8_lure_0 10 rfl) (by decide) ?_
      refine lv_iconst (v := (2 : Int32)) hx hb (dt uX8_lure_0 11 rfl) (by decide) ?_
      refine vk_z0 [] (va_runS (As := [.int p3, .int (0 : Int32), .int (2 : Int32)]) (rest := []) ⟨hx, hb, hml, hown, hts⟩ (kX8_in p3 (0 : Int32) (2 : Int32) _ rfl H.size) (vcwS hts tw_338 tw_339 tw_336 tw_337 hd_X8_in rfl rfl ⟨Nat.le_of_ble_eq_true rfl, Nat.le_of_ble_eq_true rfl⟩) (vpreS hK hN hP hD [] rfl (by decide)) rfl rfl hl.1 rfl (lv_room (Nat.le_of_ble_eq_true rfl)) (dt uX8_lure_0 12 rfl) ⟨Nat.zero_le _, Nat.zero_le _⟩) hA hP hD hS rfl (by decide) (fun hz_5 H locs hP hD hS => ?_)
      refine lv_if_ne (tgt := 29) hx hb (dt uX8_lure_0 13 rfl) (by decide) (fun c_6 => ?_) (fun c_6 => ?_)
      · have hf := vif_f c_6 hf
        refine lv_aload_n hx hb (dt uX8_lure_0 16 rfl) rfl (lv_at hl 0 rfl) ?_
        refine va_get (D := (dC, dI)) (ci := 8) (v := .ref ad_now) (C := RX8) (T := TX8) (N := 24) hx hb hts inU8 hown hK hP 0 rfl rfl 14 (by decide) (hts _ tw_369) (fun _ h9 => h9) rfl (dt uX8_lure_0 17 rfl) ?_
        refine lv_bipush (v := (13 : Int32)) hx hb (dt uX8_lure_0 18 rfl) (by decide) ?_
        refine va_iald hx hb hK hP 4 0 rfl rfl (vp_in_iff.mpr (by decide)) (dt uX8_lure_0 19 rfl) ?_
        refine lv_bipush (v := (-9 : Int32)) hx hb (dt uX8_lure_0 20 rfl) (by decide) ?_
        refine lv_icmp_ne (tgt := 44) hx hb (dt uX8_lure_0 21 rfl) (by decide) (fun c_7 => ?_) (fun c_7 => ?_)
        · have hf := vif_f c_7 hf
          refine lv_aload_n hx hb (dt uX8_lure_0 24 rfl) rfl (lv_at hl 0 rfl) ?_
          refine lv_iload_n hx hb (dt uX8_lure_0 25 rfl) rfl (lv_at hl 1 rfl) ?_
          refine lv_iload_n hx hb (dt uX8_lure_0 26 rfl) rfl (lv_at hl 2 rfl) ?_
          refine lv_bipush (v := (-9 : Int32)) hx hb (dt uX8_lure_0 27 rfl) (by decide) ?_
          refine lv_bipush (v := (-9 : Int32)) hx hb (dt uX8_lure_0 28 rfl) (by decide) ?_
          obtain ⟨q_8, hq_9, hf⟩ := vbd hf
          refine vk_z [0, 1, 2, 3, 4, 5] (ws2 := [(ad0, oX8 v_trace ad_text v_typed ad_books ad_numberA ad_numberB ad_draftTouches v_draftOne v_oneTold v_at v_start v_sort v_value v_fault ad_now ad_isKept ad_near ad_seenDays ad_seenBook ad_seenIs v_seen v_sets v_inEach v_inSome), (ad_books, .inl (cI, 2, .inl a_books)), (ad_numberA, .inl (cI, 12, .inl a_numberA)), (ad_numberB, .inl (cI, 12, .inl a_numberB)), (ad_now, .inl (cI, 498, .inl a_now)), (ad_near, .inl (cI, 6, .inl q_8.2))]) (va_runV (As := [.int p1, .int p2, .int (-9 : Int32), .int (-9 : Int32)]) (rest := []) ⟨hx, hb, hml, hown, hts⟩ (kX8_isLured ad0 ad_text ad_books ad_numberA ad_numberB ad_draftTouches ad_now ad_isKept ad_near ad_seenDays ad_seenBook ad_seenIs v_trace v_typed v_draftOne v_oneTold v_at v_start v_sort v_value v_fault v_seen v_sets v_inEach v_inSome a_books a_numberA a_numberB a_now a_near p1 p2 (-9 : Int32) (-9 : Int32) N q_8 hq_9 H.size) (vcwV hts tw_443 tw_444 tw_445 tw_336 tw_442 hd_X8_isLured rfl rfl ⟨Nat.le_of_ble_eq_true rfl, Nat.le_of_ble_eq_true rfl⟩) (vpreV hK hN hP hD [0, 1, 2, 3, 4, 5] rfl (by decide) (ci := 8) (q0 := 0) rfl rfl) rfl rfl hl.1 rfl (lv_room (Nat.le_of_ble_eq_true rfl)) (dt uX8_lure_0 29 rfl) ⟨Nat.zero_le _, Nat.zero_le _⟩) hA hP hD hS rfl (by decide) rfl rfl (fun hz_10 H locs hP hD hS => ?_)
          refine lv_if_eq (tgt := 68) hx hb (dt uX8_lure_0 30 rfl) (by decide) (fun c_11 => ?_) (fun c_11 => ?_)
          · have hf := vif_t c_11 hf
            refine lv_iconst (v := (0 : Int32)) hx hb (dt uX8_lure_0 37 rfl) (by decide) ?_
            refine lv_istore (lv' := [(4, .int (0 : Int32)), (0, .ref ad0), (1, .int p1), (2, .int p2), (3, .int p3)]) hx hb (dt uX8_lure_0 38 rfl) hl (by decide) rfl (fun ls hl => ?_)
            have hL71 : ∀ (n71 : Nat), ∀ (x4_12 : Int32) (w_13 : Nat → Int32) (H : Heap) (locs : List Loc) (ls : Array Slot), fX8_lure_L71 N a_books a_numberA a_numberB a_now p1 p2 p3 n71 x4_12 w_13 = some q0 → va_P (dC, dI) vwCl [(ad0, oX8 v_trace ad_text v_typed ad_books ad_numberA ad_numberB ad_draftTouches v_draftOne v_oneTold v_at v_start v_sort v_value v_fault ad_now ad_isKept ad_near ad_seenDays ad_seenBook ad_seenIs v_seen v_sets v_inEach v_inSome), (ad_books, .inl (cI, 2, .inl a_books)), (ad_numberA, .inl (cI, 12, .inl a_numberA)), (ad_numberB, .inl (cI, 12, .inl a_numberB)), (ad_now, .inl (cI, 498, .inl a_now)), (ad_near, .inl (cI, 6, .inl w_13))] H → va_D A [(ad0, oX8 v_trace ad_text v_typed ad_books ad_numberA ad_numberB ad_draftTouches v_draftOne v_oneTold v_at v_start v_sort v_value v_fault ad_now ad_isKept ad_near ad_seenDays ad_seenBook ad_seenIs v_seen v_sets v_inEach v_inSome), (ad_books, .inl (cI, 2, .inl a_books)), (ad_numberA, .inl (cI, 12, .inl a_numberA)), (ad_numberB, .inl (cI, 12, .inl a_numberB)), (ad_now, .inl (cI, 498, .inl a_now)), (ad_near, .inl (cI, 6, .inl w_13))] → va_S A s.heap H locs → lv_has ls 6 [(0, .ref ad0), (1, .int p1), (2, .int p2), (3, .int p3), (4, .int x4_12)] → W p l e rX8_lure s m args below meth c H locs 0 0 Q (F0 m 71 ls []) := by
              intro n71
              induction n71 with
              | zero => intro x4_12 w_13 H locs ls hf hP hD hS hl; cases hf
              | succ n71 ih71 =>
                intro x4_12 w_13 H locs ls hf hP hD hS hl
                rw [fX8_lure_L71] at hf
                refine lv_iload hx hb (dt uX8_lure_0 39 rfl) (lv_at hl 4 rfl) ?_
                refine lv_bipush (v := (36 : Int32)) hx hb (dt uX8_lure_0 40 rfl) (by decide) ?_
                refine lv_icmp_ge (tgt := 130) hx hb (dt uX8_lure_0 41 rfl) (by decide) (fun c_14 => ?_) (fun c_14 => ?_)
                · have hf := vif_t c_14 hf
                  refine lv_iconst (v := (0 : Int32)) hx hb (dt uX8_lure_1 7 rfl) (by decide) ?_
                  refine lv_istore (lv' := [(4, .int (0 : Int32)), (0, .ref ad0), (1, .int p1), (2, .int p2), (3, .int p3)]) hx hb (dt uX8_lure_1 8 rfl) hl (by decide) rfl (fun ls hl => ?_)
                  have hL133 : ∀ (n133 : Nat), ∀ (x4_15 : Int32) (w_16 : Nat → Int32) (H : Heap) (locs : List Loc) (ls : Array Slot), fX8_lure_L133 N a_books a_numberA a_numberB a_now p1 p2 p3 n133 x4_15 w_16 = some q0 → va_P (dC, dI) vwCl [(ad0, oX8 v_trace ad_text v_typed ad_books ad_numberA ad_numberB ad_draftTouches v_draftOne v_oneTold v_at v_start v_sort v_value v_fault ad_now ad_isKept ad_near ad_seenDays ad_seenBook ad_seenIs v_seen v_sets v_inEach v_inSome), (ad_books, .inl (cI, 2, .inl a_books)), (ad_numberA, .inl (cI, 12, .inl a_numberA)), (ad_numberB, .inl (cI, 12, .inl a_numberB)), (ad_now, .inl (cI, 498, .inl a_now)), (ad_near, .inl (cI, 6, .inl w_16))] H → va_D A [(ad0, oX8 v_trace ad_text v_typed ad_books ad_numberA ad_numberB ad_draftTouches v_draftOne v_oneTold v_at v_start v_sort v_value v_fault ad_now ad_isKept ad_near ad_seenDays ad_seenBook ad_seenIs v_seen v_sets v_inEach v_inSome), (ad_books, .inl (cI, 2, .inl a_books)), (ad_numberA, .inl (cI, 12, .inl a_numberA)), (ad_numberB, .inl (cI, 12, .inl a_numberB)), (ad_now, .inl (cI, 498, .inl a_now)), (ad_near, .inl (cI, 6, .inl w_16))] → va_S A s.heap H locs → lv_has ls 6 [(0, .ref ad0), (1, .int p1), (2, .int p2), (3, .int p3), (4, .int x4_15)] → W p l e rX8_lure s m args below meth c H locs 0 0 Q (F0 m 133 ls []) := by
                    intro n133
                    induction n133 with
                    | zero => intro x4_15 w_16 H locs ls hf hP hD hS hl; cases hf
                    | succ n133 ih133 =>
                      intro x4_15 w_16 H locs ls hf hP hD hS hl
                      rw [fX8_lure_L133] at hf
                      refine lv_iload hx hb (dt uX8_lure_1 9 rfl) (lv_at hl 4 rfl) ?_
                      refine lv_bipush (v := (36 : Int32)) hx hb (dt uX8_lure_1 10 rfl) (by decide) ?_
                      refine lv_icmp_ge (tgt := 223) hx hb (dt uX8_lure_1 11 rfl) (by decide) (fun c_17 => ?_) (fun c_17 => ?_)
                      · have hf := vif_t c_17 hf
                        refine lv_bipush (v := (-9 : Int32)) hx hb (dt uX8_lure_1 51 rfl) (by decide) ?_
                        have hf := Option.some.inj hf
                        subst hf
                        rw [hQ]
                        exact vret_i C hP hD hS (dt uX8_lure_1 52 rfl)
                      · have hf := vif_f c_17 hf
                        refine lv_iload hx hb (dt uX8_lure_1 12 rfl) (lv_at hl 4 rfl) ?_
                        refine lv_iconst (v := (1 : Int32)) hx hb (dt uX8_lure_1 13 rfl) (by decide) ?_
                        refine lv_iadd hx hb (dt uX8_lure_1 14 rfl) ?_
                        refine lv_istore (lv' := [(5, .int (x4_15 + (1 : Int32))), (0, .ref ad0), (1, .int p1), (2, .int p2), (3, .int p3), (4, .int x4_15)]) hx hb (dt uX8_lure_1 15 rfl) hl (by decide) rfl (fun ls hl => ?_)
                        have hL146 : ∀ (n146 : Nat), ∀ (x5_18 : Int32) (w_19 : Nat → Int32) (H : Heap) (locs : List Loc) (ls : Array Slot), fX8_lure_L146 N a_books a_numberA a_numberB a_now p1 p2 p3 x4_15 (fun z133_0 z133_1 => fX8_lure_L133 N a_books a_numberA a_numberB a_now p1 p2 p3 n133 z133_0 z133_1) n146 x5_18 w_19 = some q0 → va_P (dC, dI) vwCl [(ad0, oX8 v_trace ad_text v_typed ad_books ad_numberA ad_numberB ad_draftTouches v_draftOne v_oneTold v_at v_start v_sort v_value v_fault ad_now ad_isKept ad_near ad_seenDays ad_seenBook ad_seenIs v_seen v_sets v_inEach v_inSome), (ad_books, .inl (cI, 2, .inl a_books)), (ad_numberA, .inl (cI, 12, .inl a_numberA)), (ad_numberB, .inl (cI, 12, .inl a_numberB)), (ad_now, .inl (cI, 498, .inl a_now)), (ad_near, .inl (cI, 6, .inl w_19))] H → va_D A [(ad0, oX8 v_trace ad_text v_typed ad_books ad_numberA ad_numberB ad_draftTouches v_draftOne v_oneTold v_at v_start v_sort v_value v_fault ad_now ad_isKept ad_near ad_seenDays ad_seenBook ad_seenIs v_seen v_sets v_inEach v_inSome), (ad_books, .inl (cI, 2, .inl a_books)), (ad_numberA, .inl (cI, 12, .inl a_numberA)), (ad_numberB, .inl (cI, 12, .inl a_numberB)), (ad_now, .inl (cI, 498, .inl a_now)), (ad_near, .inl (cI, 6, .inl w_19))] → va_S A s.heap H locs → lv_has ls 6 [(0, .ref ad0), (1, .int p1), (2, .int p2), (3, .int p3), (4, .int x4_15), (5, .int x5_18)] → W p l e rX8_lure s m args below meth c H locs 0 0 Q (F0 m 146 ls []) := by
                          intro n146
                          induction n146 with
                          | zero => intro x5_18 w_19 H locs ls hf hP hD hS hl; cases hf
                          | succ n146 ih146 =>
                            intro x5_18 w_19 H locs ls hf hP hD hS hl
                            rw [fX8_lure_L146] at hf
                            refine lv_iload hx hb (dt uX8_lure_1 16 rfl) (lv_at hl 5 rfl) ?_
                            refine lv_bipush (v := (36 : Int32)) hx hb (dt uX8_lure_1 17 rfl) (by decide) ?_
                            refine lv_icmp_ge (tgt := 217) hx hb (dt uX8_lure_1 18 rfl) (by decide) (fun c_20 => ?_) (fun c_20 => ?_)
                            · have hf := vif_t c_20 hf
                              refine lv_iinc (v := x4_15 + 1) (lv' := [(4, .int (x4_15 + 1)), (0, .ref ad0), (1, .int p1), (2, .int p2), (3, .int p3), (5, .int x5_18)]) hx hb (dt uX8_lure_1 49 rfl) hl (k := 4) rfl rfl (by decide) rfl (fun ls hl => ?_)
                              refine lv_goto (tgt := 133) hx hb (dt uX8_lure_1 50 rfl) (by decide) ?_
                              exact ih133 (x4_15 + 1) w_19 _ _ _ hf hP hD hS (lv_sub hl [1, 2, 3, 4, 0] rfl)
                            · have hf := vif_f c_20 hf
                              refine lv_aload_n hx hb (dt uX8_lure_1 19 rfl) rfl (lv_at hl 0 rfl) ?_
                              refine lv_iload hx hb (dt uX8_lure_1 20 rfl) (lv_at hl 4 rfl) ?_
                              obtain ⟨q_21, hq_22, hf⟩ := vbd hf
                              refine vk_z0 [0, 1, 4] (va_runV (As := [.int x4_15]) (rest := []) ⟨hx, hb, hml, hown, hts⟩ (kX8_isLess ad0 ad_text ad_books ad_numberA ad_numberB ad_draftTouches ad_now ad_isKept ad_near ad_seenDays ad_seenBook ad_seenIs v_trace v_typed v_draftOne v_oneTold v_at v_start v_sort v_value v_fault v_seen v_sets v_inEach v_inSome a_books a_now x4_15 q_21 hq_22 H.size) (vcwV hts tw_447 tw_448 tw_449 tw_336 tw_446 hd_X8_isLess rfl rfl ⟨Nat.le_of_ble_eq_true rfl, Nat.le_of_ble_eq_true rfl⟩) (vpreV hK hN hP hD [0, 1, 4] rfl (by decide) (ci := 8) (q0 := 0) rfl rfl) rfl rfl hl.1 rfl (lv_room (Nat.le_of_ble_eq_true rfl)) (dt uX8_lure_1 21 rfl) ⟨Nat.zero_le _, Nat.zero_le _⟩) hA hP hD hS rfl (by decide) (fun hz_23 H locs hP hD hS => ?_)
                              refine lv_if_eq (tgt := 211) hx hb (dt uX8_lure_1 22 rfl) (by decide) (fun c_24 => ?_) (fun c_24 => ?_)
                              · have hf := vif_t c_24 hf
                                refine lv_iinc (v := x5_18 + 1) (lv' := [(5, .int (x5_18 + 1)), (0, .ref ad0), (1, .int p1), (2, .int p2), (3, .int p3), (4, .int x4_15)]) hx hb (dt uX8_lure_1 47 rfl) hl (k := 5) rfl rfl (by decide) rfl (fun ls hl => ?_)
                                refine lv_goto (tgt := 146) hx hb (dt uX8_lure_1 48 rfl) (by decide) ?_
                                exact ih146 (x5_18 + 1) w_19 _ _ _ hf hP hD hS (lv_sub hl [1, 2, 3, 4, 5, 0] rfl)
                              · have hf := vif_f c_24 hf
                                refine lv_aload_n hx hb (dt uX8_lure_1 23 rfl) rfl (lv_at hl 0 rfl) ?_
                                refine lv_iload hx hb (dt uX8_lure_1 24 rfl) (lv_at hl 5 rfl) ?_
                                obtain ⟨q_25, hq_26, hf⟩ := vbd hf
                                refine vk_z0 [0, 1, 4] (va_runV (As := [.int x5_18]) (rest := []) ⟨hx, hb, hml, hown, hts⟩ (kX8_isLess ad0 ad_text ad_books ad_numberA ad_numberB ad_draftTouches ad_now ad_isKept ad_near ad_seenDays ad_seenBook ad_seenIs v_trace v_typed v_draftOne v_oneTold v_at v_start v_sort v_value v_fault v_seen v_sets v_inEach v_inSome a_books a_now x5_18 q_25 hq_26 H.size) (vcwV hts tw_447 tw_448 tw_449 tw_336 tw_446 hd_X8_isLess rfl rfl ⟨Nat.le_of_ble_eq_true rfl, Nat.le_of_ble_eq_true rfl⟩) (vpreV hK hN hP hD [0, 1, 4] rfl (by decide) (ci := 8) (q0 := 0) rfl rfl) rfl rfl hl.1 rfl (lv_room (Nat.le_of_ble_eq_true rfl)) (dt uX8_lure_1 25 rfl) ⟨Nat.zero_le _, Nat.zero_le _⟩) hA hP hD hS rfl (by decide) (fun hz_27 H locs hP hD hS => ?_)
                                refine lv_if_eq (tgt := 211) hx hb (dt uX8_lure_1 26 rfl) (by decide) (fun c_28 => ?_) (fun c_28 => ?_)
                                · have hf := vif_t c_28 hf
                                  refine lv_iinc (v := x5_18 + 1) (lv' := [(5, .int (x5_18 + 1)), (0, .ref ad0), (1, .int p1), (2, .int p2), (3, .int p3), (4, .int x4_15)]) hx hb (dt uX8_lure_1 47 rfl) hl (k := 5) rfl rfl (by decide) rfl (fun ls hl => ?_)
                                  refine lv_goto (tgt := 146) hx hb (dt uX8_lure_1 48 rfl) (by decide) ?_
                                  exact ih146 (x5_18 + 1) w_19 _ _ _ hf hP hD hS (lv_sub hl [1, 2, 3, 4, 5, 0] rfl)
                                · have hf := vif_f c_28 hf
                                  refine lv_aload_n hx hb (dt uX8_lure_1 27 rfl) rfl (lv_at hl 0 rfl) ?_
                                  refine lv_iload_n hx hb (dt uX8_lure_1 28 rfl) rfl (lv_at hl 1 rfl) ?_
                                  refine lv_iload_n hx hb (dt uX8_lure_1 29 rfl) rfl (lv_at hl 2 rfl) ?_
                                  refine lv_iload hx hb (dt uX8_lure_1 30 rfl) (lv_at hl 4 rfl) ?_
                                  refine lv_iload hx hb (dt uX8_lure_1 31 rfl) (lv_at hl 5 rfl) ?_
                                  obtain ⟨q_29, hq_30, hf⟩ := vbd hf
                                  refine vk_z [0, 1, 2, 3, 4, 5] (ws2 := [(ad0, oX8 v_trace ad_text v_typed ad_books ad_numberA ad_numberB ad_draftTouches v_draftOne v_oneTold v_at v_start v_sort v_value v_fault ad_now ad_isKept ad_near ad_seenDays ad_seenBook ad_seenIs v_seen v_sets v_inEach v_inSome), (ad_books, .inl (cI, 2, .inl a_books)), (ad_numberA, .inl (cI, 12, .inl a_numberA)), (ad_numberB, .inl (cI, 12, .inl a_numberB)), (ad_now, .inl (cI, 498, .inl a_now)), (ad_near, .inl (cI, 6, .inl q_29.2))]) (va_runV (As := [.int p1, .int p2, .int x4_15, .int x5_18]) (rest := []) ⟨hx, hb, hml, hown, hts⟩ (kX8_isLured ad0 ad_text ad_books ad_numberA ad_numberB ad_draftTouches ad_now ad_isKept ad_near ad_seenDays ad_seenBook ad_seenIs v_trace v_typed v_draftOne v_oneTold v_at v_start v_sort v_value v_fault v_seen v_sets v_inEach v_inSome a_books a_numberA a_numberB a_now w_19 p1 p2 x4_15 x5_18 N q_29 hq_30 H.size) (vcwV hts tw_443 tw_444 tw_445 tw_336 tw_442 hd_X8_isLured rfl rfl ⟨Nat.le_of_ble_eq_true rfl, Nat.le_of_ble_eq_true rfl⟩) (vpreV hK hN hP hD [0, 1, 2, 3, 4, 5] rfl (by decide) (ci := 8) (q0 := 0) rfl rfl) rfl rfl hl.1 rfl (lv_room (Nat.le_of_ble_eq_true rfl)) (dt uX8_lure_1 32 rfl) ⟨Nat.zero_le _, Nat.zero_le _⟩) hA hP hD hS rfl (by decide) rfl rfl (fun hz_31 H locs hP hD hS => ?_)
                                  refine lv_if_eq (tgt := 211) hx hb (dt uX8_lure_1 33 rfl) (by decide) (fun c_32 => ?_) (fun c_32 => ?_)
                                  · have hf := vif_t c_32 hf
                                    refine lv_iinc (v := x5_18 + 1) (lv' := [(5, .int (x5_18 + 1)), (0, .ref ad0), (1, .int p1), (2, .int p2), (3, .int p3), (4, .int x4_15)]) hx hb (dt uX8_lure_1 47 rfl) hl (k := 5) rfl rfl (by decide) rfl (fun ls hl => ?_)
                                    refine lv_goto (tgt := 146) hx hb (dt uX8_lure_1 48 rfl) (by decide) ?_
                                    exact ih146 (x5_18 + 1) q_29.2 _ _ _ hf hP hD hS (lv_sub hl [1, 2, 3, 4, 5, 0] rfl)
                                  · have hf := vif_f c_32 hf
                                    refine lv_iload_n hx hb (dt uX8_lure_1 34 rfl) rfl (lv_at hl 3 rfl) ?_
                                    refine lv_if_ne (tgt := 192) hx hb (dt uX8_lure_1 35 rfl) (by decide) (fun c_33 => ?_) (fun c_33 => ?_)
                                    · have hf := vif_f c_33 hf
                                      refine lv_iload_n hx hb (dt uX8_lure_1 38 rfl) rfl (lv_at hl 3 rfl) ?_
                                      refine lv_iconst (v := (1 : Int32)) hx hb (dt uX8_lure_1 39 rfl) (by decide) ?_
                                      refine lv_icmp_ne (tgt := 205) hx hb (dt uX8_lure_1 40 rfl) (by decide) (fun c_34 => ?_) (fun c_34 => ?_)
                                      · have hf := vif_f c_34 hf
                                        refine lv_iload hx hb (dt uX8_lure_1 44 rfl) (lv_at hl 5 rfl) ?_
                                        refine vk_i0 [] (va_runS (As := [.int x5_18]) (rest := []) ⟨hx, hb, hml, hown, hts⟩ (kX8_told x5_18 _ rfl H.size) (vcwS hts tw_451 tw_452 tw_336 tw_450 hd_X8_told rfl rfl ⟨Nat.le_of_ble_eq_true rfl, Nat.le_of_ble_eq_true rfl⟩) (vpreS hK hN hP hD [] rfl (by decide)) rfl rfl hl.1 rfl (lv_room (Nat.le_of_ble_eq_true rfl)) (dt uX8_lure_1 45 rfl) ⟨Nat.zero_le _, Nat.zero_le _⟩) hA hP hD hS rfl (by decide) (fun H locs hP hD hS => ?_)
                                        have hf := Option.some.inj hf
                                        subst hf
                                        rw [hQ]
                                        exact vret_i C hP hD hS (dt uX8_lure_1 46 rfl)
                                      · have hf := vif_t c_34 hf
                                        refine lv_iload hx hb (dt uX8_lure_1 41 rfl) (lv_at hl 4 rfl) ?_
                                        refine vk_i0 [] (va_runS (As := [.int x4_15]) (rest := []) ⟨hx, hb, hml, hown, hts⟩ (kX8_told x4_15 _ rfl H.size) (vcwS hts tw_451 tw_452 tw_336 tw_450 hd_X8_told rfl rfl ⟨Nat.le_of_ble_eq_true rfl, Nat.le_of_ble_eq_true rfl⟩) (vpreS hK hN hP hD [] rfl (by decide)) rfl rfl hl.1 rfl (lv_room (Nat.le_of_ble_eq_true rfl)) (dt uX8_lure_1 42 rfl) ⟨Nat.zero_le _, Nat.zero_le _⟩) hA hP hD hS rfl (by decide) (fun H locs hP hD hS => ?_)
                                        refine lv_goto (tgt := 210) hx hb (dt uX8_lure_1 43 rfl) (by decide) ?_
                                        have hf := Option.some.inj hf
                                        subst hf
                                        rw [hQ]
                                        exact vret_i C hP hD hS (dt uX8_lure_1 46 rfl)
                                    · have hf := vif_t c_33 hf
                                      refine lv_iconst (v := (2 : Int32)) hx hb (dt uX8_lure_1 36 rfl) (by decide) ?_
                                      refine lv_goto (tgt := 210) hx hb (dt uX8_lure_1 37 rfl) (by decide) ?_
                                      have hf := Option.some.inj hf
                                      subst hf
                                      rw [hQ]
                                      exact vret_i C hP hD hS (dt uX8_lure_1 46 rfl)
                        exact hL146 N (x4_15 + (1 : Int32)) w_16 _ _ _ hf hP hD hS (lv_sub hl [1, 2, 3, 4, 5, 0] rfl)
                  exact hL133 N (0 : Int32) w_13 _ _ _ hf hP hD hS (lv_sub hl [1, 2, 3, 4, 0] rfl)
                · have hf := vif_f c_14 hf
                  refine lv_aload_n hx hb (dt uX8_lure_0 42 rfl) rfl (lv_at hl 0 rfl) ?_
                  refine lv_iload hx hb (dt uX8_lure_0 43 rfl) (lv_at hl 4 rfl) ?_
                  obtain ⟨q_35, hq_36, hf⟩ := vbd hf
                  refine vk_z0 [0, 1, 4] (va_runV (As := [.int x4_12]) (rest := []) ⟨hx, hb, hml, hown, hts⟩ (kX8_isLess ad0 ad_text ad_books ad_numberA ad_numberB ad_draftTouches ad_now ad_isKept ad_near ad_seenDays ad_seenBook ad_seenIs v_trace v_typed v_draftOne v_oneTold v_at v_start v_sort v_value v_fault v_seen v_sets v_inEach v_inSome a_books a_now x4_12 q_35 hq_36 H.size) (vcwV hts tw_447 tw_448 tw_449 tw_336 tw_446 hd_X8_isLess rfl rfl ⟨Nat.le_of_ble_eq_true rfl, Nat.le_of_ble_eq_true rfl⟩) (vpreV hK hN hP hD [0, 1, 4] rfl (by decide) (ci := 8) (q0 := 0) rfl rfl) rfl rfl hl.1 rfl (lv_room (Nat.le_of_ble_eq_true rfl)) (dt uX8_lure_0 44 rfl) ⟨Nat.zero_le _, Nat.zero_le _⟩) hA hP hD hS rfl (by decide) (fun hz_37 H locs hP hD hS => ?_)
                  refine lv_if_eq (tgt := 124) hx hb (dt uX8_lure_0 45 rfl) (by decide) (fun c_38 => ?_) (fun c_38 => ?_)
                  · have hf := vif_t c_38 hf
                    refine lv_iinc (v := x4_12 + 1) (lv' := [(4, .int (x4_12 + 1)), (0, .ref ad0), (1, .int p1), (2, .int p2), (3, .int p3)]) hx hb (dt uX8_lure_1 5 rfl) hl (k := 4) rfl rfl (by decide) rfl (fun ls hl => ?_)
                    refine lv_goto (tgt := 71) hx hb (dt uX8_lure_1 6 rfl) (by decide) ?_
                    exact ih71 (x4_12 + 1) w_13 _ _ _ hf hP hD hS (lv_sub hl [1, 2, 3, 4, 0] rfl)
                  · have hf := vif_f c_38 hf
                    refine lv_aload_n hx hb (dt uX8_lure_0 46 rfl) rfl (lv_at hl 0 rfl) ?_
                    refine lv_iload_n hx hb (dt uX8_lure_0 47 rfl) rfl (lv_at hl 1 rfl) ?_
                    refine lv_iload_n hx hb (dt uX8_lure_0 48 rfl) rfl (lv_at hl 2 rfl) ?_
                    refine lv_iload hx hb (dt uX8_lure_0 49 rfl) (lv_at hl 4 rfl) ?_
                    refine lv_bipush (v := (-9 : Int32)) hx hb (dt uX8_lure_0 50 rfl) (by decide) ?_
                    obtain ⟨q_39, hq_40, hf⟩ := vbd hf
                    refine vk_z [0, 1, 2, 3, 4, 5] (ws2 := [(ad0, oX8 v_trace ad_text v_typed ad_books ad_numberA ad_numberB ad_draftTouches v_draftOne v_oneTold v_at v_start v_sort v_value v_fault ad_now ad_isKept ad_near ad_seenDays ad_seenBook ad_seenIs v_seen v_sets v_inEach v_inSome), (ad_books, .inl (cI, 2, .inl a_books)), (ad_numberA, .inl (cI, 12, .inl a_numberA)), (ad_numberB, .inl (cI, 12, .inl a_numberB)), (ad_now, .inl (cI, 498, .inl a_now)), (ad_near, .inl (cI, 6, .inl q_39.2))]) (va_runV (As := [.int p1, .int p2, .int x4_12, .int (-9 : Int32)]) (rest := []) ⟨hx, hb, hml, hown, hts⟩ (kX8_isLured ad0 ad_text ad_books ad_numberA ad_numberB ad_draftTouches ad_now ad_isKept ad_near ad_seenDays ad_seenBook ad_seenIs v_trace v_typed v_draftOne v_oneTold v_at v_start v_sort v_value v_fault v_seen v_sets v_inEach v_inSome a_books a_numberA a_numberB a_now w_13 p1 p2 x4_12 (-9 : Int32) N q_39 hq_40 H.size) (vcwV hts tw_443 tw_444 tw_445 tw_336 tw_442 hd_X8_isLured rfl rfl ⟨Nat.le_of_ble_eq_true rfl, Nat.le_of_ble_eq_true rfl⟩) (vpreV hK hN hP hD [0, 1, 2, 3, 4, 5] rfl (by decide) (ci := 8) (q0 := 0) rfl rfl) rfl rfl hl.1 rfl (lv_room (Nat.le_of_ble_eq_true rfl)) (dt uX8_lure_0 51 rfl) ⟨Nat.zero_le _, Nat.zero_le _⟩) hA hP hD hS rfl (by decide) rfl rfl (fun hz_41 H locs hP hD hS => ?_)
                    refine lv_if_eq (tgt := 124) hx hb (dt uX8_lure_0 52 rfl) (by decide) (fun c_42 => ?_) (fun c_42 => ?_)
                    · have hf := vif_t c_42 hf
                      refine lv_iinc (v := x4_12 + 1) (lv' := [(4, .int (x4_12 + 1)), (0, .ref ad0), (1, .int p1), (2, .int p2), (3, .int p3)]) hx hb (dt uX8_lure_1 5 rfl) hl (k := 4) rfl rfl (by decide) rfl (fun ls hl => ?_)
                      refine lv_goto (tgt := 71) hx hb (dt uX8_lure_1 6 rfl) (by decide) ?_
                      exact ih71 (x4_12 + 1) q_39.2 _ _ _ hf hP hD hS (lv_sub hl [1, 2, 3, 4, 0] rfl)
                    · have hf := vif_f c_42 hf
                      refine lv_iload_n hx hb (dt uX8_lure_0 53 rfl) rfl (lv_at hl 3 rfl) ?_
                      refine lv_if_ne (tgt := 108) hx hb (dt uX8_lure_0 54 rfl) (by decide) (fun c_43 => ?_) (fun c_43 => ?_)
                      · have hf := vif_f c_43 hf
                        refine lv_iload_n hx hb (dt uX8_lure_0 57 rfl) rfl (lv_at hl 3 rfl) ?_
                        refine lv_iconst (v := (1 : Int32)) hx hb (dt uX8_lure_0 58 rfl) (by decide) ?_
                        refine lv_icmp_ne (tgt := 121) hx hb (dt uX8_lure_0 59 rfl) (by decide) (fun c_44 => ?_) (fun c_44 => ?_)
                        · have hf := vif_f c_44 hf
                          refine lv_bipush (v := (-9 : Int32)) hx hb (dt uX8_lure_1 3 rfl) (by decide) ?_
                          have hf := Option.some.inj hf
                          subst hf
                          rw [hQ]
                          exact vret_i C hP hD hS (dt uX8_lure_1 4 rfl)
                        · have hf := vif_t c_44 hf
                          refine lv_iload hx hb (dt uX8_lure_1 0 rfl) (lv_at hl 4 rfl) ?_
                          refine vk_i0 [] (va_runS (As := [.int x4_12]) (rest := []) ⟨hx, hb, hml, hown, hts⟩ (kX8_told x4_12 _ rfl H.size) (vcwS hts tw_451 tw_452 tw_336 tw_450 hd_X8_told rfl rfl ⟨Nat.le_of_ble_eq_true rfl, Nat.le_of_ble_eq_true rfl⟩) (vpreS hK hN hP hD [] rfl (by decide)) rfl rfl hl.1 rfl (lv_room (Nat.le_of_ble_eq_true rfl)) (dt uX8_lure_1 1 rfl) ⟨Nat.zero_le _, Nat.zero_le _⟩) hA hP hD hS rfl (by decide) (fun H locs hP hD hS => ?_)
                          refine lv_goto (tgt := 123) hx hb (dt uX8_lure_1 2 rfl) (by decide) ?_
                          have hf := Option.some.inj hf
                          subst hf
                          rw [hQ]
                          exact vret_i C hP hD hS (dt uX8_lure_1 4 rfl)
                      · have hf := vif_t c_43 hf
                        refine lv_iconst (v := (1 : Int32)) hx hb (dt uX8_lure_0 55 rfl) (by decide) ?_
                        refine lv_goto (tgt := 123) hx hb (dt uX8_lure_0 56 rfl) (by decide) ?_
                        have hf := Option.some.inj hf
                        subst hf
                        rw [hQ]
                        exact vret_i C hP hD hS (dt uX8_lure_1 4 rfl)
            exact hL71 N (0 : Int32) q_8.2 _ _ _ hf hP hD hS (lv_sub hl [1, 2, 3, 4, 0] rfl)
          · have hf := vif_f c_11 hf
            refine lv_iload_n hx hb (dt uX8_lure_0 31 rfl) rfl (lv_at hl 3 rfl) ?_
            refine lv_if_ne (tgt := 65) hx hb (dt uX8_lure_0 32 rfl) (by decide) (fun c_45 => ?_) (fun c_45 => ?_)
            · have hf := vif_f c_45 hf
              refine lv_bipush (v := (-9 : Int32)) hx hb (dt uX8_lure_0 35 rfl) (by decide) ?_
              have hf := Option.some.inj hf
              subst hf
              rw [hQ]
              exact vret_i C hP hD hS (dt uX8_lure_0 36 rfl)
            · have hf := vif_t c_45 hf
              refine lv_iconst (v := (0 : Int32)) hx hb (dt uX8_lure_0 33 rfl) (by decide) ?_
              refine lv_goto (tgt := 67) hx hb (dt uX8_lure_0 34 rfl) (by decide) ?_
              have hf := Option.some.inj hf
              subst hf
              rw [hQ]
              exact vret_i C hP hD hS (dt uX8_lure_0 36 rfl)
        · have hf := vif_t c_7 hf
          refine lv_bipush (v := (-2 : Int32)) hx hb (dt uX8_lure_0 22 rfl) (by decide) ?_
          have hf := Option.some.inj hf
          subst hf
          rw [hQ]
          exact vret_i C hP hD hS (dt uX8_lure_0 23 rfl)
      · have hf := vif_t c_6 hf
        refine lv_iconst (v := (-1 : Int32)) hx hb (dt uX8_lure_0 14 rfl) (by decide) ?_
        have hf := Option.some.inj hf
        subst hf
        rw [hQ]
        exact vret_i C hP hD hS (dt uX8_lure_0 15 rfl)
abbrev rX8_touching : Room := { frames := 0, cells := 0, slots := 0, locals := 0 }
abbrev wX8_touching : List Cond := Cond.code yX8_touching cX8_touching 5 (some .int) :: VT
set_option maxHeartbeats 4000000 in
set_option maxRecDepth 100000 in
theorem kX8_touching (ad0 : Nat) (ad_text : Nat) (ad_books : Nat) (ad_numberA : Nat) (ad_numberB : Nat) (ad_draftTouches : Nat) (ad_now : Nat) (ad_isKept : Nat) (ad_near : Nat) (ad_seenDays : Nat) (ad_seenBook : Nat) (ad_seenIs : Nat) (v_trace : Int64) (v_typed : Int32) (v_draftOne : Int32) (v_oneTold : Int32) (v_at : Int32) (v_start : Int32) (v_sort : Int32) (v_value : Int32) (v_fault : Int32) (v_seen : Int32) (v_sets : Int32) (v_inEach : Int32) (v_inSome : Int32) (a_now : Nat → Int32) (N : Nat) (q0 : Int32) (hf : fX8_touching N a_now = some q0) : Ki l yX8_touching wX8_touching rX8_touching (dC, dI) (vTy cI cJ cB cZ) [.ref ad0] [(ad0, oX8 v_trace ad_text v_typed ad_books ad_numberA ad_numberB ad_draftTouches v_draftOne v_oneTold v_at v_start v_sort v_value v_fault ad_now ad_isKept ad_near ad_seenDays ad_seenBook ad_seenIs v_seen v_sets v_inEach v_inSome), (ad_now, .inl (cI, 498, .inl a_now))] [(ad0, oX8 v_trace ad_text v_typed ad_books ad_numberA ad_numberB ad_draftTouches v_draftOne v_oneTold v_at v_start v_sort v_value v_fault ad_now ad_isKept ad_near ad_seenDays ad_seenBook ad_seenIs v_seen v_sets v_inEach v_inSome), (ad_now, .inl (cI, 498, .inl a_now))] q0 := by
  refine Ki.mk (cc := cX8_touching) (maxL := 5) (ret := some .int) (by decide) (Nat.le_of_ble_eq_true rfl) ?_
  intro p e s m args below meth c A Q H locs C hQ hP hD hS ls hl
  obtain ⟨hx, hb, -, hml, hts, hown, -, hK, hN, hA⟩ := id C
  have hown : s.vm.findClass RX8 = some m.cls := hown
  have hl : lv_has ls 5 [(0, .ref ad0)] := hl
  unfold fX8_touching at hf
  refine lv_iconst (v := (0 : Int32)) hx hb (dt uX8_touching 0 rfl) (by decide) ?_
  refine lv_istore_n (lv' := [(1, .int (0 : Int32)), (0, .ref ad0)]) hx hb (dt uX8_touching 1 rfl) rfl hl (by decide) rfl (fun ls hl => ?_)
  refine lv_iconst (v := (0 : Int32)) hx hb (dt uX8_touching 2 rfl) (by decide) ?_
  refine lv_istore_n (lv' := [(2, .int (0 : Int32)), (1, .int (0 : Int32)), (0, .ref ad0)]) hx hb (dt uX8_touching 3 rfl) rfl hl (by decide) rfl (fun ls hl => ?_)
  refine lv_iconst (v := (0 : Int32)) hx hb (dt uX8_touching 4 rfl) (by decide) ?_
  refine lv_istore_n (lv' := [(3, .int (0 : Int32)), (2, .int (0 : Int32)), (1, .int (0 : Int32)), (0, .ref ad0)]) hx hb (dt uX8_touching 5 rfl) rfl hl (by decide) rfl (fun ls hl => ?_)
  have hL6 : ∀ (n6 : Nat), ∀ (x1_1 : Int32) (x2_2 : Int32) (x3_3 : Int32) (H : Heap) (locs : List Loc) (ls : Array Slot), fX8_touching_L6 N a_now n6 x1_1 x2_2 x3_3 = some q0 → va_P (dC, dI) vwCl [(ad0, oX8 v_trace ad_text v_typed ad_books ad_numberA ad_numberB ad_draftTouches v_draftOne v_oneTold v_at v_start v_sort v_value v_fault ad_now ad_isKept ad_near ad_seenDays ad_seenBook ad_seenIs v_seen v_sets v_inEach v_inSome), (ad_now, .inl (cI, 498, .inl a_now))] H → va_D A [(ad0, oX8 v_trace ad_text v_typed ad_books ad_numberA ad_numberB ad_draftTouches v_draftOne v_oneTold v_at v_start v_sort v_value v_fault ad_now ad_isKept ad_near ad_seenDays ad_seenBook ad_seenIs v_seen v_sets v_inEach v_inSome), (ad_now, .inl (cI, 498, .inl a_now))] → va_S A s.heap H locs → lv_has ls 5 [(0, .ref ad0), (1, .int x1_1), (2, .int x2_2), (3, .int x3_3)] → W p l e rX8_touching s m args below meth c H locs 0 0 Q (F0 m 6 ls []) := by
    intro n6
    induction n6 with
    | zero => intro x1_1 x2_2 x3_3 H locs ls hf hP hD hS hl; cases hf
    | succ n6 ih6 =>
      intro x1_1 x2_2 x3_3 H locs ls hf hP hD hS hl
      rw [fX8_touching_L6] at hf
      refine lv_iload_n hx hb (dt uX8_touching 6 rfl) rfl (lv_at hl 3 rfl) ?_
      refine lv_bipush (v := (6 : Int32)) hx hb (dt uX8_touching 7 rfl) (by decide) ?_
      refine lv_icmp_ge (tgt := 67) hx hb (dt uX8_touching 8 rfl) (by decide) (fun c_4 => ?_) (fun c_4 => ?_)
      · have hf := vif_t c_4 hf
        refine lv_iload_n hx hb (dt uX8_touching 41 rfl) rfl (lv_at hl 1 rfl) ?_
        have hf := Option.some.inj hf
        subst hf
        rw [hQ]
        exact vret_i C hP hD hS (dt uX8_touching 42 rfl)
      · have hf := vif_f c_4 hf
        refine lv_iload_n hx hb (dt uX8_touching 9 rfl) rfl (lv_at hl 3 rfl) ?_
        refine lv_iconst (v := (1 : Int32)) hx hb (dt uX8_touching 10 rfl) (by decide) ?_
        refine lv_iadd hx hb (dt uX8_touching 11 rfl) ?_
        refine lv_istore (lv' := [(4, .int (x3_3 + (1 : Int32))), (0, .ref ad0), (1, .int x1_1), (2, .int x2_2), (3, .int x3_3)]) hx hb (dt uX8_touching 12 rfl) hl (by decide) rfl (fun ls hl => ?_)
        have hL17 : ∀ (n17 : Nat), ∀ (x1_5 : Int32) (x2_6 : Int32) (x4_7 : Int32) (H : Heap) (locs : List Loc) (ls : Array Slot), fX8_touching_L17 a_now x3_3 (fun z6_0 z6_1 z6_2 => fX8_touching_L6 N a_now n6 z6_0 z6_1 z6_2) n17 x1_5 x2_6 x4_7 = some q0 → va_P (dC, dI) vwCl [(ad0, oX8 v_trace ad_text v_typed ad_books ad_numberA ad_numberB ad_draftTouches v_draftOne v_oneTold v_at v_start v_sort v_value v_fault ad_now ad_isKept ad_near ad_seenDays ad_seenBook ad_seenIs v_seen v_sets v_inEach v_inSome), (ad_now, .inl (cI, 498, .inl a_now))] H → va_D A [(ad0, oX8 v_trace ad_text v_typed ad_books ad_numberA ad_numberB ad_draftTouches v_draftOne v_oneTold v_at v_start v_sort v_value v_fault ad_now ad_isKept ad_near ad_seenDays ad_seenBook ad_seenIs v_seen v_sets v_inEach v_inSome), (ad_now, .inl (cI, 498, .inl a_now))] → va_S A s.heap H locs → lv_has ls 5 [(0, .ref ad0), (1, .int x1_5), (2, .int x2_6), (3, .int x3_3), (4, .int x4_7)] → W p l e rX8_touching s m args below meth c H locs 0 0 Q (F0 m 17 ls []) := by
          intro n17
          induction n17 with
          | zero => intro x1_5 x2_6 x4_7 H locs ls hf hP hD hS hl; cases hf
          | succ n17 ih17 =>
            intro x1_5 x2_6 x4_7 H locs ls hf hP hD hS hl
            rw [fX8_touching_L17] at hf
            refine lv_iload hx hb (dt uX8_touching 13 rfl) (lv_at hl 4 rfl) ?_
            refine lv_bipush (v := (6 : Int32)) hx hb (dt uX8_touching 14 rfl) (by decide) ?_
            refine lv_icmp_ge (tgt := 61) hx hb (dt uX8_touching 15 rfl) (by decide) (fun c_8 => ?_) (fun c_8 => ?_)
            · have hf := vif_t c_8 hf
              refine lv_iinc (v := x3_3 + 1) (lv' := [(3, .int (x3_3 + 1)), (0, .ref ad0), (1, .int x1_5), (2, .int x2_6), (4, .int x4_7)]) hx hb (dt uX8_touching 39 rfl) hl (k := 3) rfl rfl (by decide) rfl (fun ls hl => ?_)
              refine lv_goto (tgt := 6) hx hb (dt uX8_touching 40 rfl) (by decide) ?_
              exact ih6 x1_5 x2_6 (x3_3 + 1) _ _ _ hf hP hD hS (lv_sub hl [1, 2, 3, 0] rfl)
            · have hf := vif_f c_8 hf
              refine lv_iload_n hx hb (dt uX8_touching 16 rfl) rfl (lv_at hl 1 rfl) ?_
              refine lv_aload_n hx hb (dt uX8_touching 17 rfl) rfl (lv_at hl 0 rfl) ?_
              refine va_get (D := (dC, dI)) (ci := 8) (v := .ref ad_now) (C := RX8) (T := TX8) (N := 24) hx hb hts inU8 hown hK hP 0 rfl rfl 14 (by decide) (hts _ tw_369) (fun _ h9 => h9) rfl (dt uX8_touching 18 rfl) ?_
              refine lv_bipush (v := (6 : Int32)) hx hb (dt uX8_touching 19 rfl) (by decide) ?_
              refine lv_iload_n hx hb (dt uX8_touching 20 rfl) rfl (lv_at hl 3 rfl) ?_
              refine lv_iadd hx hb (dt uX8_touching 21 rfl) ?_
              obtain ⟨hi_9, hf⟩ := vg_some hf
              refine va_iald hx hb hK hP 1 0 rfl rfl hi_9 (dt uX8_touching 22 rfl) ?_
              refine lv_iload hx hb (dt uX8_touching 23 rfl) (lv_at hl 4 rfl) ?_
              refine lv_ishr hx hb (dt uX8_touching 24 rfl) ?_
              refine lv_iconst (v := (1 : Int32)) hx hb (dt uX8_touching 25 rfl) (by decide) ?_
              refine lv_iand hx hb (dt uX8_touching 26 rfl) ?_
              refine lv_iconst (v := (1 : Int32)) hx hb (dt uX8_touching 27 rfl) (by decide) ?_
              refine lv_icmp_ne (tgt := 49) hx hb (dt uX8_touching 28 rfl) (by decide) (fun c_10 => ?_) (fun c_10 => ?_)
              · have hf := vif_f c_10 hf
                refine lv_iconst (v := (0 : Int32)) hx hb (dt uX8_touching 33 rfl) (by decide) ?_
                refine lv_ior hx hb (dt uX8_touching 34 rfl) ?_
                refine lv_istore_n (lv' := [(1, .int (x1_5 ||| (0 : Int32))), (0, .ref ad0), (2, .int x2_6), (3, .int x3_3), (4, .int x4_7)]) hx hb (dt uX8_touching 35 rfl) rfl hl (by decide) rfl (fun ls hl => ?_)
                refine lv_iinc (v := x2_6 + 1) (lv' := [(2, .int (x2_6 + 1)), (1, .int (x1_5 ||| (0 : Int32))), (0, .ref ad0), (3, .int x3_3), (4, .int x4_7)]) hx hb (dt uX8_touching 36 rfl) hl (k := 2) rfl rfl (by decide) rfl (fun ls hl => ?_)
                refine lv_iinc (v := x4_7 + 1) (lv' := [(4, .int (x4_7 + 1)), (2, .int (x2_6 + 1)), (1, .int (x1_5 ||| (0 : Int32))), (0, .ref ad0), (3, .int x3_3)]) hx hb (dt uX8_touching 37 rfl) hl (k := 4) rfl rfl (by decide) rfl (fun ls hl => ?_)
                refine lv_goto (tgt := 17) hx hb (dt uX8_touching 38 rfl) (by decide) ?_
                exact ih17 (x1_5 ||| (0 : Int32)) (x2_6 + 1) (x4_7 + 1) _ _ _ hf hP hD hS (lv_sub hl [3, 2, 1, 4, 0] rfl)
              · have hf := vif_t c_10 hf
                refine lv_iconst (v := (1 : Int32)) hx hb (dt uX8_touching 29 rfl) (by decide) ?_
                refine lv_iload_n hx hb (dt uX8_touching 30 rfl) rfl (lv_at hl 2 rfl) ?_
                refine lv_ishl hx hb (dt uX8_touching 31 rfl) ?_
                refine lv_goto (tgt := 50) hx hb (dt uX8_touching 32 rfl) (by decide) ?_
                refine lv_ior hx hb (dt uX8_touching 34 rfl) ?_
                refine lv_istore_n (lv' := [(1, .int (x1_5 ||| ((1 : Int32) <<< (x2_6 &&& 31)))), (0, .ref ad0), (2, .int x2_6), (3, .int x3_3), (4, .int x4_7)]) hx hb (dt uX8_touching 35 rfl) rfl hl (by decide) rfl (fun ls hl => ?_)
                refine lv_iinc (v := x2_6 + 1) (lv' := [(2, .int (x2_6 + 1)), (1, .int (x1_5 ||| ((1 : Int32) <<< (x2_6 &&& 31)))), (0, .ref ad0), (3, .int x3_3), (4, .int x4_7)]) hx hb (dt uX8_touching 36 rfl) hl (k := 2) rfl rfl (by decide) rfl (fun ls hl => ?_)
                refine lv_iinc (v := x4_7 + 1) (lv' := [(4, .int (x4_7 + 1)), (2, .int (x2_6 + 1)), (1, .int (x1_5 ||| ((1 : Int32) <<< (x2_6 &&& 31)))), (0, .ref ad0), (3, .int x3_3)]) hx hb (dt uX8_touching 37 rfl) hl (k := 4) rfl rfl (by decide) rfl (fun ls hl => ?_)
                refine lv_goto (tgt := 17) hx hb (dt uX8_touching 38 rfl) (by decide) ?_
                exact ih17 (x1_5 ||| ((1 : Int32) <<< (x2_6 &&& 31))) (x2_6 + 1) (x4_7 + 1) _ _ _ hf hP hD hS (lv_sub hl [3, 2, 1, 4, 0] rfl)
        exact hL17 N x1_1 x2_2 (x3_3 + (1 : Int32)) _ _ _ hf hP hD hS (lv_sub hl [1, 2, 3, 4, 0] rfl)
  exact hL6 N (0 : Int32) (0 : Int32) (0 : Int32) _ _ _ hf hP hD hS (lv_sub hl [3, 2, 1, 0] rfl)
abbrev rX8_layApart : Room := { frames := 1, cells := 0, slots := 0, locals := 22 }
abbrev wX8_layApart : List Cond := Cond.code yX8_layApart cX8_layApart 5 none :: VT
set_option maxHeartbeats 4000000 in
set_option maxRecDepth 100000 in
theorem kX8_layApart (ad0 : Nat) (ad_text : Nat) (ad_books : Nat) (ad_numberA : Nat) (ad_numberB : Nat) (ad_draftTouches : Nat) (ad_now : Nat) (ad_isKept : Nat) (ad_near : Nat) (ad_seenDays : Nat) (ad_seenBook : Nat) (ad_seenIs : Nat) (v_trace : Int64) (v_typed : Int32) (v_draftOne : Int32) (v_oneTold : Int32) (v_at : Int32) (v_start : Int32) (v_sort : Int32) (v_value : Int32) (v_fault : Int32) (v_seen : Int32) (v_sets : Int32) (v_inEach : Int32) (v_inSome : Int32) (a_now : Nat → Int32) (a_near : Nat → Int32) (p1 : Int32) (N : Nat) (q0 : (Nat → Int32)) (hf : fX8_layApart N a_now a_near p1 = some q0) : Kv l yX8_layApart wX8_layApart rX8_layApart (dC, dI) (vTy cI cJ cB cZ) [.ref ad0, .int p1] [(ad0, oX8 v_trace ad_text v_typed ad_books ad_numberA ad_numberB ad_draftTouches v_draftOne v_oneTold v_at v_start v_sort v_value v_fault ad_now ad_isKept ad_near ad_seenDays ad_seenBook ad_seenIs v_seen v_sets v_inEach v_inSome), (ad_now, .inl (cI, 498, .inl a_now)), (ad_near, .inl (cI, 6, .inl a_near))] [(ad0, oX8 v_trace ad_text v_typed ad_books ad_numberA ad_numberB ad_draftTouches v_draftOne v_oneTold v_at v_start v_sort v_value v_fault ad_now ad_isKept ad_near ad_seenDays ad_seenBook ad_seenIs v_seen v_sets v_inEach v_inSome), (ad_now, .inl (cI, 498, .inl a_now)), (ad_near, .inl (cI, 6, .inl q0))] := by
  refine Kv.mk (cc := cX8_layApart) (maxL := 5) (ret := none) (by decide) (Nat.le_of_ble_eq_true rfl) ?_
  intro p e s m args below meth c A Q H locs C hQ hP hD hS ls hl
  obtain ⟨hx, hb, -, hml, hts, hown, -, hK, hN, hA⟩ := id C
  have hown : s.vm.findClass RX8 = some m.cls := hown
  have hl : lv_has ls 5 [(0, .ref ad0), (1, .int p1)] := hl
  unfold fX8_layApart at hf
  refine lv_aload_n hx hb (dt uX8_layApart 0 rfl) rfl (lv_at hl 0 rfl) ?_
  obtain ⟨q_1, hq_2, hf⟩ := vbd hf
  refine vk_v [0, 1, 2] (ws2 := [(ad0, oX8 v_trace ad_text v_typed ad_books ad_numberA ad_numberB ad_draftTouches v_draftOne v_oneTold v_at v_start v_sort v_value v_fault ad_now ad_isKept ad_near ad_seenDays ad_seenBook ad_seenIs v_seen v_sets v_inEach v_inSome), (ad_now, .inl (cI, 498, .inl a_now)), (ad_near, .inl (cI, 6, .inl q_1))]) (va_runV (As := []) (rest := []) ⟨hx, hb, hml, hown, hts⟩ (kX8_takeNear ad0 ad_text ad_books ad_numberA ad_numberB ad_draftTouches ad_now ad_isKept ad_near ad_seenDays ad_seenBook ad_seenIs v_trace v_typed v_draftOne v_oneTold v_at v_start v_sort v_value v_fault v_seen v_sets v_inEach v_inSome a_now a_near N q_1 hq_2 H.size) (vcwV hts tw_431 tw_432 tw_433 tw_336 tw_430 hd_X8_takeNear rfl rfl ⟨Nat.le_of_ble_eq_true rfl, Nat.le_of_ble_eq_true rfl⟩) (vpreV hK hN hP hD [0, 1, 2] rfl (by decide) (ci := 8) (q0 := 0) rfl rfl) rfl rfl hl.1 rfl (lv_room (Nat.le_of_ble_eq_true rfl)) (dt uX8_layApart 1 rfl) ⟨Nat.zero_le _, Nat.zero_le _⟩) hA hP hD hS rfl (by decide) rfl rfl (fun H locs hP hD hS => ?_)
  refine lv_iconst (v := (0 : Int32)) hx hb (dt uX8_layApart 2 rfl) (by decide) ?_
  refine lv_istore_n (lv' := [(2, .int (0 : Int32)), (0, .ref ad0), (1, .int p1)]) hx hb (dt uX8_layApart 3 rfl) rfl hl (by decide) rfl (fun ls hl => ?_)
  refine lv_iconst (v := (0 : Int32)) hx hb (dt uX8_layApart 4 rfl) (by decide) ?_
  refine lv_istore_n (lv' := [(3, .int (0 : Int32)), (2, .int (0 : Int32)), (0, .ref ad0), (1, .int p1)]) hx hb (dt uX8_layApart 5 rfl) rfl hl (by decide) rfl (fun ls hl => ?_)
  have hL8 : ∀ (n8 : Nat), ∀ (x2_3 : Int32) (x3_4 : Int32) (w_5 : Nat → Int32) (H : Heap) (locs : List Loc) (ls : Array Slot), fX8_layApart_L8 N p1 n8 x2_3 x3_4 w_5 = some q0 → va_P (dC, dI) vwCl [(ad0, oX8 v_trace ad_text v_typed ad_books ad_numberA ad_numberB ad_draftTouches v_draftOne v_oneTold v_at v_start v_sort v_value v_fault ad_now ad_isKept ad_near ad_seenDays ad_seenBook ad_seenIs v_seen v_sets v_inEach v_inSome), (ad_now, .inl (cI, 498, .inl a_now)), (ad_near, .inl (cI, 6, .inl w_5))] H → va_D A [(ad0, oX8 v_trace ad_text v_typed ad_books ad_numberA ad_numberB ad_draftTouches v_draftOne v_oneTold v_at v_start v_sort v_value v_fault ad_now ad_isKept ad_near ad_seenDays ad_seenBook ad_seenIs v_seen v_sets v_inEach v_inSome), (ad_now, .inl (cI, 498, .inl a_now)), (ad_near, .inl (cI, 6, .inl w_5))] → va_S A s.heap H locs → lv_has ls 5 [(0, .ref ad0), (1, .int p1), (2, .int x2_3), (3, .int x3_4)] → W p l e rX8_layApart s m args below meth c H locs 0 0 Q (F0 m 8 ls []) := by
    intro n8
    induction n8 with
    | zero => intro x2_3 x3_4 w_5 H locs ls hf hP hD hS hl; cases hf
    | succ n8 ih8 =>
      intro x2_3 x3_4 w_5 H locs ls hf hP hD hS hl
      rw [fX8_layApart_L8] at hf
      refine lv_iload_n hx hb (dt uX8_layApart 6 rfl) rfl (lv_at hl 3 rfl) ?_
      refine lv_bipush (v := (6 : Int32)) hx hb (dt uX8_layApart 7 rfl) (by decide) ?_
      refine lv_icmp_ge (tgt := 57) hx hb (dt uX8_layApart 8 rfl) (by decide) (fun c_6 => ?_) (fun c_6 => ?_)
      · have hf := vif_t c_6 hf
        have hf := Option.some.inj hf
        subst hf
        rw [hQ]
        exact vret_v C hP hD hS (dt uX8_layApart 32 rfl)
      · have hf := vif_f c_6 hf
        refine lv_iload_n hx hb (dt uX8_layApart 9 rfl) rfl (lv_at hl 3 rfl) ?_
        refine lv_iconst (v := (1 : Int32)) hx hb (dt uX8_layApart 10 rfl) (by decide) ?_
        refine lv_iadd hx hb (dt uX8_layApart 11 rfl) ?_
        refine lv_istore (lv' := [(4, .int (x3_4 + (1 : Int32))), (0, .ref ad0), (1, .int p1), (2, .int x2_3), (3, .int x3_4)]) hx hb (dt uX8_layApart 12 rfl) hl (by decide) rfl (fun ls hl => ?_)
        have hL19 : ∀ (n19 : Nat), ∀ (x2_7 : Int32) (x4_8 : Int32) (w_9 : Nat → Int32) (H : Heap) (locs : List Loc) (ls : Array Slot), fX8_layApart_L19 p1 x3_4 (fun z8_0 z8_1 z8_2 => fX8_layApart_L8 N p1 n8 z8_0 z8_1 z8_2) n19 x2_7 x4_8 w_9 = some q0 → va_P (dC, dI) vwCl [(ad0, oX8 v_trace ad_text v_typed ad_books ad_numberA ad_numberB ad_draftTouches v_draftOne v_oneTold v_at v_start v_sort v_value v_fault ad_now ad_isKept ad_near ad_seenDays ad_seenBook ad_seenIs v_seen v_sets v_inEach v_inSome), (ad_now, .inl (cI, 498, .inl a_now)), (ad_near, .inl (cI, 6, .inl w_9))] H → va_D A [(ad0, oX8 v_trace ad_text v_typed ad_books ad_numberA ad_numberB ad_draftTouches v_draftOne v_oneTold v_at v_start v_sort v_value v_fault ad_now ad_isKept ad_near ad_seenDays ad_seenBook ad_seenIs v_seen v_sets v_inEach v_inSome), (ad_now, .inl (cI, 498, .inl a_now)), (ad_near, .inl (cI, 6, .inl w_9))] → va_S A s.heap H locs → lv_has ls 5 [(0, .ref ad0), (1, .int p1), (2, .int x2_7), (3, .int x3_4), (4, .int x4_8)] → W p l e rX8_layApart s m args below meth c H locs 0 0 Q (F0 m 19 ls []) := by
          intro n19
          induction n19 with
          | zero => intro x2_7 x4_8 w_9 H locs ls hf hP hD hS hl; cases hf
          | succ n19 ih19 =>
            intro x2_7 x4_8 w_9 H locs ls hf hP hD hS hl
            rw [fX8_layApart_L19] at hf
            refine lv_iload hx hb (dt uX8_layApart 13 rfl) (lv_at hl 4 rfl) ?_
            refine lv_bipush (v := (6 : Int32)) hx hb (dt uX8_layApart 14 rfl) (by decide) ?_
            refine lv_icmp_ge (tgt := 51) hx hb (dt uX8_layApart 15 rfl) (by decide) (fun c_10 => ?_) (fun c_10 => ?_)
            · have hf := vif_t c_10 hf
              refine lv_iinc (v := x3_4 + 1) (lv' := [(3, .int (x3_4 + 1)), (0, .ref ad0), (1, .int p1), (2, .int x2_7), (4, .int x4_8)]) hx hb (dt uX8_layApart 30 rfl) hl (k := 3) rfl rfl (by decide) rfl (fun ls hl => ?_)
              refine lv_goto (tgt := 8) hx hb (dt uX8_layApart 31 rfl) (by decide) ?_
              exact ih8 x2_7 (x3_4 + 1) w_9 _ _ _ hf hP hD hS (lv_sub hl [1, 2, 3, 0] rfl)
            · have hf := vif_f c_10 hf
              refine lv_iload_n hx hb (dt uX8_layApart 16 rfl) rfl (lv_at hl 1 rfl) ?_
              refine lv_iload_n hx hb (dt uX8_layApart 17 rfl) rfl (lv_at hl 2 rfl) ?_
              refine lv_ishr hx hb (dt uX8_layApart 18 rfl) ?_
              refine lv_iconst (v := (1 : Int32)) hx hb (dt uX8_layApart 19 rfl) (by decide) ?_
              refine lv_iand hx hb (dt uX8_layApart 20 rfl) ?_
              refine lv_iconst (v := (1 : Int32)) hx hb (dt uX8_layApart 21 rfl) (by decide) ?_
              refine lv_icmp_ne (tgt := 42) hx hb (dt uX8_layApart 22 rfl) (by decide) (fun c_11 => ?_) (fun c_11 => ?_)
              · have hf := vif_f c_11 hf
                refine lv_iinc (v := x2_7 + 1) (lv' := [(2, .int (x2_7 + 1)), (0, .ref ad0), (1, .int p1), (3, .int x3_4), (4, .int x4_8)]) hx hb (dt uX8_layApart 27 rfl) hl (k := 2) rfl rfl (by decide) rfl (fun ls hl => ?_)
                refine lv_iinc (v := x4_8 + 1) (lv' := [(4, .int (x4_8 + 1)), (2, .int (x2_7 + 1)), (0, .ref ad0), (1, .int p1), (3, .int x3_4)]) hx hb (dt uX8_layApart 28 rfl) hl (k := 4) rfl rfl (by decide) rfl (fun ls hl => ?_)
                refine lv_goto (tgt := 19) hx hb (dt uX8_layApart 29 rfl) (by decide) ?_
                exact ih19 (x2_7 + 1) (x4_8 + 1) w_9 _ _ _ hf hP hD hS (lv_sub hl [2, 3, 1, 4, 0] rfl)
              · have hf := vif_t c_11 hf
                refine lv_aload_n hx hb (dt uX8_layApart 23 rfl) rfl (lv_at hl 0 rfl) ?_
                refine lv_iload_n hx hb (dt uX8_layApart 24 rfl) rfl (lv_at hl 3 rfl) ?_
                refine lv_iload hx hb (dt uX8_layApart 25 rfl) (lv_at hl 4 rfl) ?_
                obtain ⟨q_12, hq_13, hf⟩ := vbd hf
                refine vk_v [0, 2] (ws2 := [(ad0, oX8 v_trace ad_text v_typed ad_books ad_numberA ad_numberB ad_draftTouches v_draftOne v_oneTold v_at v_start v_sort v_value v_fault ad_now ad_isKept ad_near ad_seenDays ad_seenBook ad_seenIs v_seen v_sets v_inEach v_inSome), (ad_now, .inl (cI, 498, .inl a_now)), (ad_near, .inl (cI, 6, .inl q_12))]) (va_runV (As := [.int x3_4, .int x4_8]) (rest := []) ⟨hx, hb, hml, hown, hts⟩ (kX8_turn ad0 ad_text ad_books ad_numberA ad_numberB ad_draftTouches ad_now ad_isKept ad_near ad_seenDays ad_seenBook ad_seenIs v_trace v_typed v_draftOne v_oneTold v_at v_start v_sort v_value v_fault v_seen v_sets v_inEach v_inSome w_9 x3_4 x4_8 q_12 hq_13 H.size) (vcwV hts tw_439 tw_440 tw_441 tw_336 tw_438 hd_X8_turn rfl rfl ⟨Nat.le_of_ble_eq_true rfl, Nat.le_of_ble_eq_true rfl⟩) (vpreV hK hN hP hD [0, 2] rfl (by decide) (ci := 8) (q0 := 0) rfl rfl) rfl rfl hl.1 rfl (lv_room (Nat.le_of_ble_eq_true rfl)) (dt uX8_layApart 26 rfl) ⟨Nat.zero_le _, Nat.zero_le _⟩) hA hP hD hS rfl (by decide) rfl rfl (fun H locs hP hD hS => ?_)
                refine lv_iinc (v := x2_7 + 1) (lv' := [(2, .int (x2_7 + 1)), (0, .ref ad0), (1, .int p1), (3, .int x3_4), (4, .int x4_8)]) hx hb (dt uX8_layApart 27 rfl) hl (k := 2) rfl rfl (by decide) rfl (fun ls hl => ?_)
                refine lv_iinc (v := x4_8 + 1) (lv' := [(4, .int (x4_8 + 1)), (2, .int (x2_7 + 1)), (0, .ref ad0), (1, .int p1), (3, .int x3_4)]) hx hb (dt uX8_layApart 28 rfl) hl (k := 4) rfl rfl (by decide) rfl (fun ls hl => ?_)
                refine lv_goto (tgt := 19) hx hb (dt uX8_layApart 29 rfl) (by decide) ?_
                exact ih19 (x2_7 + 1) (x4_8 + 1) q_12 _ _ _ hf hP hD hS (lv_sub hl [2, 3, 1, 4, 0] rfl)
        exact hL19 N x2_3 (x3_4 + (1 : Int32)) w_5 _ _ _ hf hP hD hS (lv_sub hl [1, 2, 3, 4, 0] rfl)
  exact hL8 N (0 : Int32) (0 : Int32) q_1 _ _ _ hf hP hD hS (lv_sub hl [2, 3, 1, 0] rfl)
end WALKS
