section WALKS
variable {l : Launch} {dC : Nat → ClassId} {dI : Nat → Nat → Nat} {cI cJ cB cZ : ClassId}
abbrev rX7_markOfLedger : Room := { frames := 5, cells := 0, slots := 0, locals := 106 }
abbrev wX7_markOfLedger : List Cond := Cond.code yX7_markOfLedger cX7_markOfLedger 2 (some .int) :: VT
set_option maxHeartbeats 4000000 in
set_option maxRecDepth 100000 in
theorem kX7_markOfLedger (ad0 : Nat) (ad_text : Nat) (ad_draft : Nat) (ad_told : Nat) (ad_told_a : Nat) (ad_told_b : Nat) (ad_now : Nat) (ad_history : Nat) (ad_firstImage : Nat) (ad_secondImage : Nat) (ad_seen : Nat) (ad_ways : Nat) (v_traced : Int64) (v_told_size : Int32) (v_told_touches : Int32) (v_told_one : Int32) (a_told_a : Nat → Int32) (a_told_b : Nat → Int32) (v_now_forgotten : Int32) (v_now_touches : Int32) (v_now_trapped : Int32) (v_now_one : Int32) (v_now_date : Int32) (p1 : Int32) (q0 : (Int32 × Int64)) (hf : fX7_markOfLedger a_told_a a_told_b v_now_forgotten v_now_one v_traced p1 = some q0) : Ki l yX7_markOfLedger wX7_markOfLedger rX7_markOfLedger (dC, dI) (vTy cI cJ cB cZ) [.ref ad0, .int p1] [(ad0, oX7 ad_text ad_draft ad_told ad_now ad_history ad_firstImage ad_secondImage ad_seen ad_ways v_traced), (ad_told, oX0 ad_told_a ad_told_b v_told_size v_told_touches v_told_one), (ad_told_a, .inl (cI, 6, .inl a_told_a)), (ad_told_b, .inl (cI, 6, .inl a_told_b)), (ad_now, oX3 v_now_forgotten v_now_touches v_now_trapped v_now_one v_now_date)] [(ad0, oX7 ad_text ad_draft ad_told ad_now ad_history ad_firstImage ad_secondImage ad_seen ad_ways q0.2), (ad_told, oX0 ad_told_a ad_told_b v_told_size v_told_touches v_told_one), (ad_told_a, .inl (cI, 6, .inl a_told_a)), (ad_told_b, .inl (cI, 6, .inl a_told_b)), (ad_now, oX3 v_now_forgotten v_now_touches v_now_trapped v_now_one v_now_date)] q0.1 := by
  refine Ki.mk (cc := cX7_markOfLedger) (maxL := 2) (ret := some .int) (by decide) (Nat.le_of_ble_eq_true rfl) ?_
  intro p e s m args below meth c A Q H locs C hQ hP hD hS ls hl
  obtain ⟨hx, hb, -, hml, hts, hown, -, hK, hN, hA⟩ := id C
  have hown : s.vm.findClass RX7 = some m.cls := hown
  have hl : lv_has ls 2 [(0, .ref ad0), (1, .int p1)] := hl
  unfold fX7_markOfLedger at hf
  refine lv_aload_n hx hb (dt uX7_markOfLedger 0 rfl) rfl (lv_at hl 0 rfl) ?_
  refine lv_dup hx hb (dt uX7_markOfLedger 1 rfl) rfl ?_
  refine va_get (D := (dC, dI)) (ci := 7) (v := .long v_traced) (C := RX7) (T := TX7) (N := 10) hx hb hts inU7 hown hK hP 0 rfl rfl 9 (by decide) (hts _ tw_305) (fun _ h9 => h9) rfl (dt uX7_markOfLedger 2 rfl) ?_
  refine lv_ldc2 (v := lc_1000) hx hb hown (hts _ tw_312) (dt uX7_markOfLedger 3 rfl) ?_
  refine lv_ladd hx hb (dt uX7_markOfLedger 4 rfl) ?_
  obtain ⟨t_1, et_1, hf⟩ := vlet_ex hf
  rw [← et_1]
  refine va_put (D := (dC, dI)) (ci := 7) (v := .long t_1) (ty := .long) (C := RX7) (T := TX7) (N := 10) hx hb hts inU7 tyX7 tyX7_ok nmX7 hown hK hP hD hS 0 rfl rfl 9 (by decide) (hts _ tw_305) (fun _ h9 => h9) rfl (by decide +kernel) rfl rfl (Nat.le_of_ble_eq_true rfl) (dt uX7_markOfLedger 5 rfl) (fun H locs hP hD hS => ?_)
  have hP : va_P (dC, dI) vwCl [(ad0, oX7 ad_text ad_draft ad_told ad_now ad_history ad_firstImage ad_secondImage ad_seen ad_ways t_1), (ad_told, oX0 ad_told_a ad_told_b v_told_size v_told_touches v_told_one), (ad_told_a, .inl (cI, 6, .inl a_told_a)), (ad_told_b, .inl (cI, 6, .inl a_told_b)), (ad_now, oX3 v_now_forgotten v_now_touches v_now_trapped v_now_one v_now_date)] H := hP
  have hD : va_D A [(ad0, oX7 ad_text ad_draft ad_told ad_now ad_history ad_firstImage ad_secondImage ad_seen ad_ways t_1), (ad_told, oX0 ad_told_a ad_told_b v_told_size v_told_touches v_told_one), (ad_told_a, .inl (cI, 6, .inl a_told_a)), (ad_told_b, .inl (cI, 6, .inl a_told_b)), (ad_now, oX3 v_now_forgotten v_now_touches v_now_trapped v_now_one v_now_date)] := hD
  refine lv_aload_n hx hb (dt uX7_markOfLedger 6 rfl) rfl (lv_at hl 0 rfl) ?_
  refine lv_iload_n hx hb (dt uX7_markOfLedger 7 rfl) rfl (lv_at hl 1 rfl) ?_
  obtain ⟨q_2, hq_3, hf⟩ := vbd hf
  refine vk_i [0, 1, 2, 3, 4] (ws2 := [(ad0, oX7 ad_text ad_draft ad_told ad_now ad_history ad_firstImage ad_secondImage ad_seen ad_ways q_2.2), (ad_told, oX0 ad_told_a ad_told_b v_told_size v_told_touches v_told_one), (ad_told_a, .inl (cI, 6, .inl a_told_a)), (ad_told_b, .inl (cI, 6, .inl a_told_b)), (ad_now, oX3 v_now_forgotten v_now_touches v_now_trapped v_now_one v_now_date)]) (va_runV (As := [.int p1]) (rest := []) ⟨hx, hb, hml, hown, hts⟩ (kX7_markOfRates ad0 ad_text ad_draft ad_told ad_told_a ad_told_b ad_now ad_history ad_firstImage ad_secondImage ad_seen ad_ways t_1 v_told_size v_told_touches v_told_one a_told_a a_told_b v_now_forgotten v_now_touches v_now_trapped v_now_one v_now_date p1 q_2 hq_3 H.size) (vcwV hts tw_314 tw_315 tw_316 tw_41 tw_313 hd_X7_markOfRates rfl rfl ⟨Nat.le_of_ble_eq_true rfl, Nat.le_of_ble_eq_true rfl⟩) (vpreV hK hN hP hD [0, 1, 2, 3, 4] rfl (by decide) (ci := 7) (q0 := 0) rfl rfl) rfl rfl hl.1 rfl (lv_room (Nat.le_of_ble_eq_true rfl)) (dt uX7_markOfLedger 8 rfl) ⟨Nat.zero_le _, Nat.zero_le _⟩) hA hP hD hS rfl (by decide) rfl rfl (fun H locs hP hD hS => ?_)
  refine lv_iconst (v := (2 : Int32)) hx hb (dt uX7_markOfLedger 9 rfl) (by decide) ?_
  refine lv_imul hx hb (dt uX7_markOfLedger 10 rfl) ?_
  have hf := Option.some.inj hf
  subst hf
  rw [hQ]
  exact vret_i C hP hD hS (dt uX7_markOfLedger 11 rfl)
abbrev rX7_markOfShop : Room := { frames := 5, cells := 0, slots := 0, locals := 106 }
abbrev wX7_markOfShop : List Cond := Cond.code yX7_markOfShop cX7_markOfShop 2 (some .int) :: VT
set_option maxHeartbeats 4000000 in
set_option maxRecDepth 100000 in
theorem kX7_markOfShop (ad0 : Nat) (ad_text : Nat) (ad_draft : Nat) (ad_told : Nat) (ad_told_a : Nat) (ad_told_b : Nat) (ad_now : Nat) (ad_history : Nat) (ad_firstImage : Nat) (ad_secondImage : Nat) (ad_seen : Nat) (ad_ways : Nat) (v_traced : Int64) (v_told_size : Int32) (v_told_touches : Int32) (v_told_one : Int32) (a_told_a : Nat → Int32) (a_told_b : Nat → Int32) (v_now_forgotten : Int32) (v_now_touches : Int32) (v_now_trapped : Int32) (v_now_one : Int32) (v_now_date : Int32) (p1 : Int32) (N : Nat) (q0 : (Int32 × Int64)) (hf : fX7_markOfShop N a_told_a a_told_b v_told_size v_now_forgotten v_now_touches v_now_one v_traced p1 = some q0) : Ki l yX7_markOfShop wX7_markOfShop rX7_markOfShop (dC, dI) (vTy cI cJ cB cZ) [.ref ad0, .int p1] [(ad0, oX7 ad_text ad_draft ad_told ad_now ad_history ad_firstImage ad_secondImage ad_seen ad_ways v_traced), (ad_told, oX0 ad_told_a ad_told_b v_told_size v_told_touches v_told_one), (ad_told_a, .inl (cI, 6, .inl a_told_a)), (ad_told_b, .inl (cI, 6, .inl a_told_b)), (ad_now, oX3 v_now_forgotten v_now_touches v_now_trapped v_now_one v_now_date)] [(ad0, oX7 ad_text ad_draft ad_told ad_now ad_history ad_firstImage ad_secondImage ad_seen ad_ways q0.2), (ad_told, oX0 ad_told_a ad_told_b v_told_size v_told_touches v_told_one), (ad_told_a, .inl (cI, 6, .inl a_told_a)), (ad_told_b, .inl (cI, 6, .inl a_told_b)), (ad_now, oX3 v_now_forgotten v_now_touches v_now_trapped v_now_one v_now_date)] q0.1 := by
  refine Ki.mk (cc := cX7_markOfShop) (maxL := 2) (ret := some .int) (by decide) (Nat.le_of_ble_eq_true rfl) ?_
  intro p e s m args below meth c A Q H locs C hQ hP hD hS ls hl
  obtain ⟨hx, hb, -, hml, hts, hown, -, hK, hN, hA⟩ := id C
  have hown : s.vm.findClass RX7 = some m.cls := hown
  have hl : lv_has ls 2 [(0, .ref ad0), (1, .int p1)] := hl
  unfold fX7_markOfShop at hf
  refine lv_aload_n hx hb (dt uX7_markOfShop 0 rfl) rfl (lv_at hl 0 rfl) ?_
  refine lv_dup hx hb (dt uX7_markOfShop 1 rfl) rfl ?_
  refine va_get (D := (dC, dI)) (ci := 7) (v := .long v_traced) (C := RX7) (T := TX7) (N := 10) hx hb hts inU7 hown hK hP 0 rfl rfl 9 (by decide) (hts _ tw_305) (fun _ h9 => h9) rfl (dt uX7_markOfShop 2 rfl) ?_
  refine lv_ldc2 (v := lc_10000) hx hb hown (hts _ tw_317) (dt uX7_markOfShop 3 rfl) ?_
  refine lv_ladd hx hb (dt uX7_markOfShop 4 rfl) ?_
  obtain ⟨t_1, et_1, hf⟩ := vlet_ex hf
  rw [← et_1]
  refine va_put (D := (dC, dI)) (ci := 7) (v := .long t_1) (ty := .long) (C := RX7) (T := TX7) (N := 10) hx hb hts inU7 tyX7 tyX7_ok nmX7 hown hK hP hD hS 0 rfl rfl 9 (by decide) (hts _ tw_305) (fun _ h9 => h9) rfl (by decide +kernel) rfl rfl (Nat.le_of_ble_eq_true rfl) (dt uX7_markOfShop 5 rfl) (fun H locs hP hD hS => ?_)
  have hP : va_P (dC, dI) vwCl [(ad0, oX7 ad_text ad_draft ad_told ad_now ad_history ad_firstImage ad_secondImage ad_seen ad_ways t_1), (ad_told, oX0 ad_told_a ad_told_b v_told_size v_told_touches v_told_one), (ad_told_a, .inl (cI, 6, .inl a_told_a)), (ad_told_b, .inl (cI, 6, .inl a_told_b)), (ad_now, oX3 v_now_forgotten v_now_touches v_now_trapped v_now_one v_now_date)] H := hP
  have hD : va_D A [(ad0, oX7 ad_text ad_draft ad_told ad_now ad_history ad_firstImage ad_secondImage ad_seen ad_ways t_1), (ad_told, oX0 ad_told_a ad_told_b v_told_size v_told_touches v_told_one), (ad_told_a, .inl (cI, 6, .inl a_told_a)), (ad_told_b, .inl (cI, 6, .inl a_told_b)), (ad_now, oX3 v_now_forgotten v_now_touches v_now_trapped v_now_one v_now_date)] := hD
  refine lv_aload_n hx hb (dt uX7_markOfShop 6 rfl) rfl (lv_at hl 0 rfl) ?_
  refine lv_iload_n hx hb (dt uX7_markOfShop 7 rfl) rfl (lv_at hl 1 rfl) ?_
  obtain ⟨q_2, hq_3, hf⟩ := vbd hf
  refine vk_i [0, 1, 2, 3, 4] (ws2 := [(ad0, oX7 ad_text ad_draft ad_told ad_now ad_history ad_firstImage ad_secondImage ad_seen ad_ways q_2.2), (ad_told, oX0 ad_told_a ad_told_b v_told_size v_told_touches v_told_one), (ad_told_a, .inl (cI, 6, .inl a_told_a)), (ad_told_b, .inl (cI, 6, .inl a_told_b)), (ad_now, oX3 v_now_forgotten v_now_touches v_now_trapped v_now_one v_now_date)]) (va_runV (As := [.int p1]) (rest := []) ⟨hx, hb, hml, hown, hts⟩ (kX7_markOfTrain ad0 ad_text ad_draft ad_told ad_told_a ad_told_b ad_now ad_history ad_firstImage ad_secondImage ad_seen ad_ways t_1 v_told_size v_told_touches v_told_one a_told_a a_told_b v_now_forgotten v_now_touches v_now_trapped v_now_one v_now_date p1 q_2 hq_3 H.size) (vcwV hts tw_319 tw_320 tw_321 tw_41 tw_318 hd_X7_markOfTrain rfl rfl ⟨Nat.le_of_ble_eq_true rfl, Nat.le_of_ble_eq_true rfl⟩) (vpreV hK hN hP hD [0, 1, 2, 3, 4] rfl (by decide) (ci := 7) (q0 := 0) rfl rfl) rfl rfl hl.1 rfl (lv_room (Nat.le_of_ble_eq_true rfl)) (dt uX7_markOfShop 8 rfl) ⟨Nat.zero_le _, Nat.zero_le _⟩) hA hP hD hS rfl (by decide) rfl rfl (fun H locs hP hD hS => ?_)
  refine lv_aload_n hx hb (dt uX7_markOfShop 9 rfl) rfl (lv_at hl 0 rfl) ?_
  refine lv_iload_n hx hb (dt uX7_markOfShop 10 rfl) rfl (lv_at hl 1 rfl) ?_
  obtain ⟨q_4, hq_5, hf⟩ := vbd hf
  refine vk_i0 [0, 1, 4] (va_runV (As := [.int p1]) (rest := [.int q_2.1]) ⟨hx, hb, hml, hown, hts⟩ (kX7_neighbours ad0 ad_text ad_draft ad_told ad_told_a ad_told_b ad_now ad_history ad_firstImage ad_secondImage ad_seen ad_ways q_2.2 v_told_size v_told_touches v_told_one v_now_forgotten v_now_touches v_now_trapped v_now_one v_now_date p1 N q_4 hq_5 H.size) (vcwV hts tw_153 tw_154 tw_155 tw_41 tw_152 hd_X7_neighbours rfl rfl ⟨Nat.le_of_ble_eq_true rfl, Nat.le_of_ble_eq_true rfl⟩) (vpreV hK hN hP hD [0, 1, 4] rfl (by decide) (ci := 7) (q0 := 0) rfl rfl) rfl rfl hl.1 rfl (lv_room (Nat.le_of_ble_eq_true rfl)) (dt uX7_markOfShop 11 rfl) ⟨Nat.zero_le _, Nat.zero_le _⟩) hA hP hD hS rfl (by decide) (fun H locs hP hD hS => ?_)
  refine vk_i0 [] (va_runS (As := [.int q_4]) (rest := [.int q_2.1]) ⟨hx, hb, hml, hown, hts⟩ (kJ6_bitCount_0f7a4 q_4 _ rfl H.size) (vcwS hts tw_171 tw_172 tw_169 tw_170 hd_J6_bitCount_0f7a4 rfl rfl ⟨Nat.le_of_ble_eq_true rfl, Nat.le_of_ble_eq_true rfl⟩) (vpreS hK hN hP hD [] rfl (by decide)) rfl rfl hl.1 rfl (lv_room (Nat.le_of_ble_eq_true rfl)) (dt uX7_markOfShop 12 rfl) ⟨Nat.zero_le _, Nat.zero_le _⟩) hA hP hD hS rfl (by decide) (fun H locs hP hD hS => ?_)
  refine lv_iadd hx hb (dt uX7_markOfShop 13 rfl) ?_
  have hf := Option.some.inj hf
  subst hf
  rw [hQ]
  exact vret_i C hP hD hS (dt uX7_markOfShop 14 rfl)
abbrev rX7_markOfChoir : Room := { frames := 4, cells := 0, slots := 0, locals := 85 }
abbrev wX7_markOfChoir : List Cond := Cond.code yX7_markOfChoir cX7_markOfChoir 2 (some .int) :: VT
set_option maxHeartbeats 4000000 in
set_option maxRecDepth 100000 in
theorem kX7_markOfChoir (ad0 : Nat) (ad_text : Nat) (ad_draft : Nat) (ad_told : Nat) (ad_told_a : Nat) (ad_told_b : Nat) (ad_now : Nat) (ad_history : Nat) (ad_firstImage : Nat) (ad_secondImage : Nat) (ad_seen : Nat) (ad_ways : Nat) (v_traced : Int64) (v_told_size : Int32) (v_told_touches : Int32) (v_told_one : Int32) (a_told_a : Nat → Int32) (a_told_b : Nat → Int32) (v_now_forgotten : Int32) (v_now_touches : Int32) (v_now_trapped : Int32) (v_now_one : Int32) (v_now_date : Int32) (p1 : Int32) (q0 : (Int32 × Int64)) (hf : fX7_markOfChoir a_told_a a_told_b v_now_forgotten v_now_one v_now_date v_traced p1 = some q0) : Ki l yX7_markOfChoir wX7_markOfChoir rX7_markOfChoir (dC, dI) (vTy cI cJ cB cZ) [.ref ad0, .int p1] [(ad0, oX7 ad_text ad_draft ad_told ad_now ad_history ad_firstImage ad_secondImage ad_seen ad_ways v_traced), (ad_told, oX0 ad_told_a ad_told_b v_told_size v_told_touches v_told_one), (ad_told_a, .inl (cI, 6, .inl a_told_a)), (ad_told_b, .inl (cI, 6, .inl a_told_b)), (ad_now, oX3 v_now_forgotten v_now_touches v_now_trapped v_now_one v_now_date)] [(ad0, oX7 ad_text ad_draft ad_told ad_now ad_history ad_firstImage ad_secondImage ad_seen ad_ways q0.2), (ad_told, oX0 ad_told_a ad_told_b v_told_size v_told_touches v_told_one), (ad_told_a, .inl (cI, 6, .inl a_told_a)), (ad_told_b, .inl (cI, 6, .inl a_told_b)), (ad_now, oX3 v_now_forgotten v_now_touches v_now_trapped v_now_one v_now_date)] q0.1 := by
  refine Ki.mk (cc := cX7_markOfChoir) (maxL := 2) (ret := some .int) (by decide) (Nat.le_of_ble_eq_true rfl) ?_
  intro p e s m args below meth c A Q H locs C hQ hP hD hS ls hl
  obtain ⟨hx, hb, -, hml, hts, hown, -, hK, hN, hA⟩ := id C
  have hown : s.vm.findClass RX7 = some m.cls := hown
  have hl : lv_has ls 2 [(0, .ref ad0), (1, .int p1)] := hl
  unfold fX7_markOfChoir at hf
  refine lv_aload_n hx hb (dt uX7_markOfChoir 0 rfl) rfl (lv_at hl 0 rfl) ?_
  refine lv_dup hx hb (dt uX7_markOfChoir 1 rfl) rfl ?_
  refine va_get (D := (dC, dI)) (ci := 7) (v := .long v_traced) (C := RX7) (T := TX7) (N := 10) hx hb hts inU7 hown hK hP 0 rfl rfl 9 (by decide) (hts _ tw_305) (fun _ h9 => h9) rfl (dt uX7_markOfChoir 2 rfl) ?_
  refine lv_ldc2 (v := lc_100000) hx hb hown (hts _ tw_322) (dt uX7_markOfChoir 3 rfl) ?_
  refine lv_ladd hx hb (dt uX7_markOfChoir 4 rfl) ?_
  obtain ⟨t_1, et_1, hf⟩ := vlet_ex hf
  rw [← et_1]
  refine va_put (D := (dC, dI)) (ci := 7) (v := .long t_1) (ty := .long) (C := RX7) (T := TX7) (N := 10) hx hb hts inU7 tyX7 tyX7_ok nmX7 hown hK hP hD hS 0 rfl rfl 9 (by decide) (hts _ tw_305) (fun _ h9 => h9) rfl (by decide +kernel) rfl rfl (Nat.le_of_ble_eq_true rfl) (dt uX7_markOfChoir 5 rfl) (fun H locs hP hD hS => ?_)
  have hP : va_P (dC, dI) vwCl [(ad0, oX7 ad_text ad_draft ad_told ad_now ad_history ad_firstImage ad_secondImage ad_seen ad_ways t_1), (ad_told, oX0 ad_told_a ad_told_b v_told_size v_told_touches v_told_one), (ad_told_a, .inl (cI, 6, .inl a_told_a)), (ad_told_b, .inl (cI, 6, .inl a_told_b)), (ad_now, oX3 v_now_forgotten v_now_touches v_now_trapped v_now_one v_now_date)] H := hP
  have hD : va_D A [(ad0, oX7 ad_text ad_draft ad_told ad_now ad_history ad_firstImage ad_secondImage ad_seen ad_ways t_1), (ad_told, oX0 ad_told_a ad_told_b v_told_size v_told_touches v_told_one), (ad_told_a, .inl (cI, 6, .inl a_told_a)), (ad_told_b, .inl (cI, 6, .inl a_told_b)), (ad_now, oX3 v_now_forgotten v_now_touches v_now_trapped v_now_one v_now_date)] := hD
  refine lv_aload_n hx hb (dt uX7_markOfChoir 6 rfl) rfl (lv_at hl 0 rfl) ?_
  refine lv_iload_n hx hb (dt uX7_markOfChoir 7 rfl) rfl (lv_at hl 1 rfl) ?_
  obtain ⟨q_2, hq_3, hf⟩ := vbd hf
  refine vk_i [0, 1, 2, 3, 4] (ws2 := [(ad0, oX7 ad_text ad_draft ad_told ad_now ad_history ad_firstImage ad_secondImage ad_seen ad_ways q_2.2), (ad_told, oX0 ad_told_a ad_told_b v_told_size v_told_touches v_told_one), (ad_told_a, .inl (cI, 6, .inl a_told_a)), (ad_told_b, .inl (cI, 6, .inl a_told_b)), (ad_now, oX3 v_now_forgotten v_now_touches v_now_trapped v_now_one v_now_date)]) (va_runV (As := [.int p1]) (rest := []) ⟨hx, hb, hml, hown, hts⟩ (kX7_markOfBook ad0 ad_text ad_draft ad_told ad_told_a ad_told_b ad_now ad_history ad_firstImage ad_secondImage ad_seen ad_ways t_1 v_told_size v_told_touches v_told_one a_told_a a_told_b v_now_forgotten v_now_touches v_now_trapped v_now_one v_now_date p1 q_2 hq_3 H.size) (vcwV hts tw_308 tw_309 tw_310 tw_41 tw_307 hd_X7_markOfBook rfl rfl ⟨Nat.le_of_ble_eq_true rfl, Nat.le_of_ble_eq_true rfl⟩) (vpreV hK hN hP hD [0, 1, 2, 3, 4] rfl (by decide) (ci := 7) (q0 := 0) rfl rfl) rfl rfl hl.1 rfl (lv_room (Nat.le_of_ble_eq_true rfl)) (dt uX7_markOfChoir 8 rfl) ⟨Nat.zero_le _, Nat.zero_le _⟩) hA hP hD hS rfl (by decide) rfl rfl (fun H locs hP hD hS => ?_)
  refine lv_aload_n hx hb (dt uX7_markOfChoir 9 rfl) rfl (lv_at hl 0 rfl) ?_
  refine va_get (D := (dC, dI)) (ci := 7) (v := .ref ad_now) (C := RX7) (T := TX7) (N := 10) hx hb hts inU7 hown hK hP 0 rfl rfl 3 (by decide) (hts _ tw_122) (fun _ h9 => h9) rfl (dt uX7_markOfChoir 10 rfl) ?_
  refine va_getN (D := (dC, dI)) (ci := 3) (v := .int v_now_date) (C := RX3) (T := TX3) (N := 5) hx hb hts inU3 hown hK hP 4 rfl rfl 4 (by decide) (nw_17 hN) (fun _ h9 => h9) rfl (dt uX7_markOfChoir 11 rfl) ?_
  refine lv_iadd hx hb (dt uX7_markOfChoir 12 rfl) ?_
  have hf := Option.some.inj hf
  subst hf
  rw [hQ]
  exact vret_i C hP hD hS (dt uX7_markOfChoir 13 rfl)
abbrev rX7_mark : Room := { frames := 6, cells := 0, slots := 0, locals := 127 }
abbrev wX7_mark : List Cond := Cond.code yX7_mark cX7_mark 3 (some .int) :: VT
set_option maxHeartbeats 4000000 in
set_option maxRecDepth 100000 in
theorem kX7_mark (ad0 : Nat) (ad_text : Nat) (ad_draft : Nat) (ad_told : Nat) (ad_told_a : Nat) (ad_told_b : Nat) (ad_now : Nat) (ad_history : Nat) (ad_firstImage : Nat) (ad_secondImage : Nat) (ad_seen : Nat) (ad_ways : Nat) (v_traced : Int64) (v_told_size : Int32) (v_told_touches : Int32) (v_told_one : Int32) (a_told_a : Nat → Int32) (a_told_b : Nat → Int32) (v_now_forgotten : Int32) (v_now_touches : Int32) (v_now_trapped : Int32) (v_now_one : Int32) (v_now_date : Int32) (p1 : Int32) (p2 : Int32) (N : Nat) (q0 : (Int32 × Int64)) (hf : fX7_mark N a_told_a a_told_b v_told_size v_now_forgotten v_now_touches v_now_one v_now_date v_traced p1 p2 = some q0) : Ki l yX7_mark wX7_mark rX7_mark (dC, dI) (vTy cI cJ cB cZ) [.ref ad0, .int p1, .int p2] [(ad0, oX7 ad_text ad_draft ad_told ad_now ad_history ad_firstImage ad_secondImage ad_seen ad_ways v_traced), (ad_told, oX0 ad_told_a ad_told_b v_told_size v_told_touches v_told_one), (ad_told_a, .inl (cI, 6, .inl a_told_a)), (ad_told_b, .inl (cI, 6, .inl a_told_b)), (ad_now, oX3 v_now_forgotten v_now_touches v_now_trapped v_now_one v_now_date)] [(ad0, oX7 ad_text ad_draft ad_told ad_now ad_history ad_firstImage ad_secondImage ad_seen ad_ways q0.2), (ad_told, oX0 ad_told_a ad_told_b v_told_size v_told_touches v_told_one), (ad_told_a, .inl (cI, 6, .inl a_told_a)), (ad_told_b, .inl (cI, 6, .inl a_told_b)), (ad_now, oX3 v_now_forgotten v_now_touches v_now_trapped v_now_one v_now_date)] q0.1 := by
  refine Ki.mk (cc := cX7_mark) (maxL := 3) (ret := some .int) (by decide) (Nat.le_of_ble_eq_true rfl) ?_
  intro p e s m args below meth c A Q H locs C hQ hP hD hS ls hl
  obtain ⟨hx, hb, -, hml, hts, hown, -, hK, hN, hA⟩ := id C
  have hown : s.vm.findClass RX7 = some m.cls := hown
  have hl : lv_has ls 3 [(0, .ref ad0), (1, .int p1), (2, .int p2)] := hl
  unfold fX7_mark at hf
  refine lv_aload_n hx hb (dt uX7_mark 0 rfl) rfl (lv_at hl 0 rfl) ?_
  refine lv_iload_n hx hb (dt uX7_mark 1 rfl) rfl (lv_at hl 2 rfl) ?_
  refine vk_z0 [0, 1] (va_runV (As := [.int p2]) (rest := []) ⟨hx, hb, hml, hown, hts⟩ (kX7_isBook ad0 ad_text ad_draft ad_told ad_told_a ad_told_b ad_now ad_history ad_firstImage ad_secondImage ad_seen ad_ways v_traced v_told_size v_told_touches v_told_one p2 _ rfl H.size) (vcwV hts tw_142 tw_143 tw_144 tw_41 tw_141 hd_X7_isBook rfl rfl ⟨Nat.le_of_ble_eq_true rfl, Nat.le_of_ble_eq_true rfl⟩) (vpreV hK hN hP hD [0, 1] rfl (by decide) (ci := 7) (q0 := 0) rfl rfl) rfl rfl hl.1 rfl (lv_room (Nat.le_of_ble_eq_true rfl)) (dt uX7_mark 2 rfl) ⟨Nat.zero_le _, Nat.zero_le _⟩) hA hP hD hS rfl (by decide) (fun hz_1 H locs hP hD hS => ?_)
  refine lv_if_ne (tgt := 11) hx hb (dt uX7_mark 3 rfl) (by decide) (fun c_2 => ?_) (fun c_2 => ?_)
  · have hf := vif_f c_2 hf
    refine lv_iload_n hx hb (dt uX7_mark 6 rfl) rfl (lv_at hl 1 rfl) ?_
    by_cases c_3 : p1 = (0 : Int32)
    · have hf := vif_t c_3 hf
      refine lv_tableIn (off := 40) (tgt := 52) hx hb (dt uX7_mark 7 rfl) (by rw [c_3]; decide) (by rw [c_3]; decide) (by rw [c_3]; rfl) (by decide) ?_
      refine lv_aload_n hx hb (dt uX7_mark 8 rfl) rfl (lv_at hl 0 rfl) ?_
      refine lv_iload_n hx hb (dt uX7_mark 9 rfl) rfl (lv_at hl 2 rfl) ?_
      obtain ⟨q_4, hq_5, hf⟩ := vbd hf
      refine vk_i [0, 1, 2, 3, 4] (ws2 := [(ad0, oX7 ad_text ad_draft ad_told ad_now ad_history ad_firstImage ad_secondImage ad_seen ad_ways q_4.2), (ad_told, oX0 ad_told_a ad_told_b v_told_size v_told_touches v_told_one), (ad_told_a, .inl (cI, 6, .inl a_told_a)), (ad_told_b, .inl (cI, 6, .inl a_told_b)), (ad_now, oX3 v_now_forgotten v_now_touches v_now_trapped v_now_one v_now_date)]) (va_runV (As := [.int p2]) (rest := []) ⟨hx, hb, hml, hown, hts⟩ (kX7_markOfBook ad0 ad_text ad_draft ad_told ad_told_a ad_told_b ad_now ad_history ad_firstImage ad_secondImage ad_seen ad_ways v_traced v_told_size v_told_touches v_told_one a_told_a a_told_b v_now_forgotten v_now_touches v_now_trapped v_now_one v_now_date p2 q_4 hq_5 H.size) (vcwV hts tw_308 tw_309 tw_310 tw_41 tw_307 hd_X7_markOfBook rfl rfl ⟨Nat.le_of_ble_eq_true rfl, Nat.le_of_ble_eq_true rfl⟩) (vpreV hK hN hP hD [0, 1, 2, 3, 4] rfl (by decide) (ci := 7) (q0 := 0) rfl rfl) rfl rfl hl.1 rfl (lv_room (Nat.le_of_ble_eq_true rfl)) (dt uX7_mark 10 rfl) ⟨Nat.zero_le _, Nat.zero_le _⟩) hA hP hD hS rfl (by decide) rfl rfl (fun H locs hP hD hS => ?_)
      have hf := Option.some.inj hf
      subst hf
      rw [hQ]
      exact vret_i C hP hD hS (dt uX7_mark 11 rfl)
    have hf := vif_f c_3 hf
    by_cases c_6 : p1 = (1 : Int32)
    · have hf := vif_t c_6 hf
      refine lv_tableIn (off := 46) (tgt := 58) hx hb (dt uX7_mark 7 rfl) (by rw [c_6]; decide) (by rw [c_6]; decide) (by rw [c_6]; rfl) (by decide) ?_
      refine lv_aload_n hx hb (dt uX7_mark 12 rfl) rfl (lv_at hl 0 rfl) ?_
      refine lv_iload_n hx hb (dt uX7_mark 13 rfl) rfl (lv_at hl 2 rfl) ?_
      obtain ⟨q_7, hq_8, hf⟩ := vbd hf
      refine vk_i [0, 1, 2, 3, 4] (ws2 := [(ad0, oX7 ad_text ad_draft ad_told ad_now ad_history ad_firstImage ad_secondImage ad_seen ad_ways q_7.2), (ad_told, oX0 ad_told_a ad_told_b v_told_size v_told_touches v_told_one), (ad_told_a, .inl (cI, 6, .inl a_told_a)), (ad_told_b, .inl (cI, 6, .inl a_told_b)), (ad_now, oX3 v_now_forgotten v_now_touches v_now_trapped v_now_one v_now_date)]) (va_runV (As := [.int p2]) (rest := []) ⟨hx, hb, hml, hown, hts⟩ (kX7_markOfRates ad0 ad_text ad_draft ad_told ad_told_a ad_told_b ad_now ad_history ad_firstImage ad_secondImage ad_seen ad_ways v_traced v_told_size v_told_touches v_told_one a_told_a a_told_b v_now_forgotten v_now_touches v_now_trapped v_now_one v_now_date p2 q_7 hq_8 H.size) (vcwV hts tw_314 tw_315 tw_316 tw_41 tw_313 hd_X7_markOfRates rfl rfl ⟨Nat.le_of_ble_eq_true rfl, Nat.le_of_ble_eq_true rfl⟩) (vpreV hK hN hP hD [0, 1, 2, 3, 4] rfl (by decide) (ci := 7) (q0 := 0) rfl rfl) rfl rfl hl.1 rfl (lv_room (Nat.le_of_ble_eq_true rfl)) (dt uX7_mark 14 rfl) ⟨Nat.zero_le _, Nat.zero_le _⟩) hA hP hD hS rfl (by decide) rfl rfl (fun H locs hP hD hS => ?_)
      have hf := Option.some.inj hf
      subst hf
      rw [hQ]
      exact vret_i C hP hD hS (dt uX7_mark 15 rfl)
    have hf := vif_f c_6 hf
    by_cases c_9 : p1 = (2 : Int32)
    · have hf := vif_t c_9 hf
      refine lv_tableIn (off := 52) (tgt := 64) hx hb (dt uX7_mark 7 rfl) (by rw [c_9]; decide) (by rw [c_9]; decide) (by rw [c_9]; rfl) (by decide) ?_
      refine lv_aload_n hx hb (dt uX7_mark 16 rfl) rfl (lv_at hl 0 rfl) ?_
      refine lv_iload_n hx hb (dt uX7_mark 17 rfl) rfl (lv_at hl 2 rfl) ?_
      obtain ⟨q_10, hq_11, hf⟩ := vbd hf
      refine vk_i [0, 1, 2, 3, 4] (ws2 := [(ad0, oX7 ad_text ad_draft ad_told ad_now ad_history ad_firstImage ad_secondImage ad_seen ad_ways q_10.2), (ad_told, oX0 ad_told_a ad_told_b v_told_size v_told_touches v_told_one), (ad_told_a, .inl (cI, 6, .inl a_told_a)), (ad_told_b, .inl (cI, 6, .inl a_told_b)), (ad_now, oX3 v_now_forgotten v_now_touches v_now_trapped v_now_one v_now_date)]) (va_runV (As := [.int p2]) (rest := []) ⟨hx, hb, hml, hown, hts⟩ (kX7_markOfTrain ad0 ad_text ad_draft ad_told ad_told_a ad_told_b ad_now ad_history ad_firstImage ad_secondImage ad_seen ad_ways v_traced v_told_size v_told_touches v_told_one a_told_a a_told_b v_now_forgotten v_now_touches v_now_trapped v_now_one v_now_date p2 q_10 hq_11 H.size) (vcwV hts tw_319 tw_320 tw_321 tw_41 tw_318 hd_X7_markOfTrain rfl rfl ⟨Nat.le_of_ble_eq_true rfl, Nat.le_of_ble_eq_true rfl⟩) (vpreV hK hN hP hD [0, 1, 2, 3, 4] rfl (by decide) (ci := 7) (q0 := 0) rfl rfl) rfl rfl hl.1 rfl (lv_room (Nat.le_of_ble_eq_true rfl)) (dt uX7_mark 18 rfl) ⟨Nat.zero_le _, Nat.zero_le _⟩) hA hP hD hS rfl (by decide) rfl rfl (fun H locs hP hD hS => ?_)
      have hf := Option.some.inj hf
      subst hf
      rw [hQ]
      exact vret_i C hP hD hS (dt uX7_mark 19 rfl)
    have hf := vif_f c_9 hf
    by_cases c_12 : p1 = (3 : Int32)
    · have hf := vif_t c_12 hf
      refine lv_tableIn (off := 58) (tgt := 70) hx hb (dt uX7_mark 7 rfl) (by rw [c_12]; decide) (by rw [c_12]; decide) (by rw [c_12]; rfl) (by decide) ?_
      refine lv_aload_n hx hb (dt uX7_mark 20 rfl) rfl (lv_at hl 0 rfl) ?_
      refine lv_iload_n hx hb (dt uX7_mark 21 rfl) rfl (lv_at hl 2 rfl) ?_
      obtain ⟨q_13, hq_14, hf⟩ := vbd hf
      refine vk_i [0, 1, 2, 3, 4] (ws2 := [(ad0, oX7 ad_text ad_draft ad_told ad_now ad_history ad_firstImage ad_secondImage ad_seen ad_ways q_13.2), (ad_told, oX0 ad_told_a ad_told_b v_told_size v_told_touches v_told_one), (ad_told_a, .inl (cI, 6, .inl a_told_a)), (ad_told_b, .inl (cI, 6, .inl a_told_b)), (ad_now, oX3 v_now_forgotten v_now_touches v_now_trapped v_now_one v_now_date)]) (va_runV (As := [.int p2]) (rest := []) ⟨hx, hb, hml, hown, hts⟩ (kX7_markOfLedger ad0 ad_text ad_draft ad_told ad_told_a ad_told_b ad_now ad_history ad_firstImage ad_secondImage ad_seen ad_ways v_traced v_told_size v_told_touches v_told_one a_told_a a_told_b v_now_forgotten v_now_touches v_now_trapped v_now_one v_now_date p2 q_13 hq_14 H.size) (vcwV hts tw_324 tw_325 tw_326 tw_41 tw_323 hd_X7_markOfLedger rfl rfl ⟨Nat.le_of_ble_eq_true rfl, Nat.le_of_ble_eq_true rfl⟩) (vpreV hK hN hP hD [0, 1, 2, 3, 4] rfl (by decide) (ci := 7) (q0 := 0) rfl rfl) rfl rfl hl.1 rfl (lv_room (Nat.le_of_ble_eq_true rfl)) (dt uX7_mark 22 rfl) ⟨Nat.zero_le _, Nat.zero_le _⟩) hA hP hD hS rfl (by decide) rfl rfl (fun H locs hP hD hS => ?_)
      have hf := Option.some.inj hf
      subst hf
      rw [hQ]
      exact vret_i C hP hD hS (dt uX7_mark 23 rfl)
    have hf := vif_f c_12 hf
    by_cases c_15 : p1 = (4 : Int32)
    · have hf := vif_t c_15 hf
      refine lv_tableIn (off := 64) (tgt := 76) hx hb (dt uX7_mark 7 rfl) (by rw [c_15]; decide) (by rw [c_15]; decide) (by rw [c_15]; rfl) (by decide) ?_
      refine lv_aload_n hx hb (dt uX7_mark 24 rfl) rfl (lv_at hl 0 rfl) ?_
      refine lv_iload_n hx hb (dt uX7_mark 25 rfl) rfl (lv_at hl 2 rfl) ?_
      obtain ⟨q_16, hq_17, hf⟩ := vbd hf
      refine vk_i [0, 1, 2, 3, 4] (ws2 := [(ad0, oX7 ad_text ad_draft ad_told ad_now ad_history ad_firstImage ad_secondImage ad_seen ad_ways q_16.2), (ad_told, oX0 ad_told_a ad_told_b v_told_size v_told_touches v_told_one), (ad_told_a, .inl (cI, 6, .inl a_told_a)), (ad_told_b, .inl (cI, 6, .inl a_told_b)), (ad_now, oX3 v_now_forgotten v_now_touches v_now_trapped v_now_one v_now_date)]) (va_runV (As := [.int p2]) (rest := []) ⟨hx, hb, hml, hown, hts⟩ (kX7_markOfShop ad0 ad_text ad_draft ad_told ad_told_a ad_told_b ad_now ad_history ad_firstImage ad_secondImage ad_seen ad_ways v_traced v_told_size v_told_touches v_told_one a_told_a a_told_b v_now_forgotten v_now_touches v_now_trapped v_now_one v_now_date p2 N q_16 hq_17 H.size) (vcwV hts tw_328 tw_329 tw_330 tw_41 tw_327 hd_X7_markOfShop rfl rfl ⟨Nat.le_of_ble_eq_true rfl, Nat.le_of_ble_eq_true rfl⟩) (vpreV hK hN hP hD [0, 1, 2, 3, 4] rfl (by decide) (ci := 7) (q0 := 0) rfl rfl) rfl rfl hl.1 rfl (lv_room (Nat.le_of_ble_eq_true rfl)) (dt uX7_mark 26 rfl) ⟨Nat.zero_le _, Nat.zero_le _⟩) hA hP hD hS rfl (by decide) rfl rfl (fun H locs hP hD hS => ?_)
      have hf := Option.some.inj hf
      subst hf
      rw [hQ]
      exact vret_i C hP hD hS (dt uX7_mark 27 rfl)
    have hf := vif_f c_15 hf
    by_cases c_18 : p1 = (5 : Int32)
    · have hf := vif_t c_18 hf
      refine lv_tableIn (off := 70) (tgt := 82) hx hb (dt uX7_mark 7 rfl) (by rw [c_18]; decide) (by rw [c_18]; decide) (by rw [c_18]; rfl) (by decide) ?_
      refine lv_aload_n hx hb (dt uX7_mark 28 rfl) rfl (lv_at hl 0 rfl) ?_
      refine lv_iload_n hx hb (dt uX7_mark 29 rfl) rfl (lv_at hl 2 rfl) ?_
      obtain ⟨q_19, hq_20, hf⟩ := vbd hf
      refine vk_i [0, 1, 2, 3, 4] (ws2 := [(ad0, oX7 ad_text ad_draft ad_told ad_now ad_history ad_firstImage ad_secondImage ad_seen ad_ways q_19.2), (ad_told, oX0 ad_told_a ad_told_b v_told_size v_told_touches v_told_one), (ad_told_a, .inl (cI, 6, .inl a_told_a)), (ad_told_b, .inl (cI, 6, .inl a_told_b)), (ad_now, oX3 v_now_forgotten v_now_touches v_now_trapped v_now_one v_now_date)]) (va_runV (As := [.int p2]) (rest := []) ⟨hx, hb, hml, hown, hts⟩ (kX7_markOfChoir ad0 ad_text ad_draft ad_told ad_told_a ad_told_b ad_now ad_history ad_firstImage ad_secondImage ad_seen ad_ways v_traced v_told_size v_told_touches v_told_one a_told_a a_told_b v_now_forgotten v_now_touches v_now_trapped v_now_one v_now_date p2 q_19 hq_20 H.size) (vcwV hts tw_332 tw_333 tw_334 tw_41 tw_331 hd_X7_markOfChoir rfl rfl ⟨Nat.le_of_ble_eq_true rfl, Nat.le_of_ble_eq_true rfl⟩) (vpreV hK hN hP hD [0, 1, 2, 3, 4] rfl (by decide) (ci := 7) (q0 := 0) rfl rfl) rfl rfl hl.1 rfl (lv_room (Nat.le_of_ble_eq_true rfl)) (dt uX7_mark 30 rfl) ⟨Nat.zero_le _, Nat.zero_le _⟩) hA hP hD hS rfl (by decide) rfl rfl (fun H locs hP hD hS => ?_)
      have hf := Option.some.inj hf
      subst hf
      rw [hQ]
      exact vret_i C hP hD hS (dt uX7_mark 31 rfl)
    have hf := vif_f c_18 hf
    have e_21 : ∀ k : Int, (0 : Int) ≤ k → k ≤ 5 → (p1).toInt ≠ k := by
      intro k h1 h2
      have e : k = 0 ∨ k = 1 ∨ k = 2 ∨ k = 3 ∨ k = 4 ∨ k = 5 := by omega
      rcases e with rfl | rfl | rfl | rfl | rfl | rfl
      · exact vne_toInt c_3
      · exact vne_toInt c_6
      · exact vne_toInt c_9
      · exact vne_toInt c_12
      · exact vne_toInt c_15
      · exact vne_toInt c_18
    refine lv_tableOut (tgt := 88) hx hb (dt uX7_mark 7 rfl) (vtab_out e_21) (by decide) ?_
    refine lv_ldc (v := (-1000000 : Int32)) hx hb hown (hts _ tw_335) (dt uX7_mark 32 rfl) ?_
    have hf := Option.some.inj hf
    subst hf
    rw [hQ]
    exact vret_i C hP hD hS (dt uX7_mark 33 rfl)
  · have hf := vif_t c_2 hf
    refine lv_ldc (v := (-1000000 : Int32)) hx hb hown (hts _ tw_335) (dt uX7_mark 4 rfl) ?_
    have hf := Option.some.inj hf
    subst hf
    rw [hQ]
    exact vret_i C hP hD hS (dt uX7_mark 5 rfl)
abbrev rX7_count : Room := { frames := 1, cells := 0, slots := 0, locals := 20 }
abbrev wX7_count : List Cond := Cond.code yX7_count cX7_count 2 (some .int) :: VT
set_option maxHeartbeats 4000000 in
set_option maxRecDepth 100000 in
theorem kX7_count (ad0 : Nat) (ad_text : Nat) (ad_text_bytes : Nat) (ad_draft : Nat) (ad_told : Nat) (ad_told_a : Nat) (ad_told_b : Nat) (ad_now : Nat) (ad_history : Nat) (ad_history_steps : Nat) (ad_firstImage : Nat) (ad_secondImage : Nat) (ad_seen : Nat) (ad_seen_days : Nat) (ad_seen_books : Nat) (ad_seen_there : Nat) (ad_ways : Nat) (v_traced : Int64) (v_text_length : Int32) (v_text_place : Int32) (v_text_token : Int32) (v_text_begin : Int32) (v_text_value : Int32) (v_told_size : Int32) (v_told_touches : Int32) (v_told_one : Int32) (v_now_forgotten : Int32) (v_now_touches : Int32) (v_now_trapped : Int32) (v_now_one : Int32) (v_now_date : Int32) (v_history_known : Int32) (v_seen_size : Int32) (p1 : Int32) (q0 : Int32) (hf : fX7_count v_text_length v_told_size v_now_trapped v_history_known v_seen_size p1 = q0) : Ki l yX7_count wX7_count rX7_count (dC, dI) (vTy cI cJ cB cZ) [.ref ad0, .int p1] [(ad0, oX7 ad_text ad_draft ad_told ad_now ad_history ad_firstImage ad_secondImage ad_seen ad_ways v_traced), (ad_text, oX5 ad_text_bytes v_text_length v_text_place v_text_token v_text_begin v_text_value), (ad_told, oX0 ad_told_a ad_told_b v_told_size v_told_touches v_told_one), (ad_now, oX3 v_now_forgotten v_now_touches v_now_trapped v_now_one v_now_date), (ad_history, oX1 ad_history_steps v_history_known), (ad_seen, oX4 ad_seen_days ad_seen_books ad_seen_there v_seen_size)] [(ad0, oX7 ad_text ad_draft ad_told ad_now ad_history ad_firstImage ad_secondImage ad_seen ad_ways v_traced), (ad_text, oX5 ad_text_bytes v_text_length v_text_place v_text_token v_text_begin v_text_value), (ad_told, oX0 ad_told_a ad_told_b v_told_size v_told_touches v_told_one), (ad_now, oX3 v_now_forgotten v_now_touches v_now_trapped v_now_one v_now_date), (ad_history, oX1 ad_history_steps v_history_known), (ad_seen, oX4 ad_seen_days ad_seen_books ad_seen_there v_seen_size)] q0 := by
  refine Ki.mk (cc := cX7_count) (maxL := 2) (ret := some .int) (by decide) (Nat.le_of_ble_eq_true rfl) ?_
  intro p e s m args below meth c A Q H locs C hQ hP hD hS ls hl
  obtain ⟨hx, hb, -, hml, hts, hown, -, hK, hN, hA⟩ := id C
  have hown : s.vm.findClass RX7 = some m.cls := hown
  have hl : lv_has ls 2 [(0, .ref ad0), (1, .int p1)] := hl
  unfold fX7_count at hf
  refine lv_iload_n hx hb (dt uX7_count 0 rfl) rfl (lv_at hl 1 rfl) ?_
  by_cases c_1 : p1 = (0 : Int32)
  · have hf := vif_t c_1 hf
    refine lv_tableIn (off := 35) (tgt := 36) hx hb (dt uX7_count 1 rfl) (by rw [c_1]; decide) (by rw [c_1]; decide) (by rw [c_1]; rfl) (by decide) ?_
    refine lv_aload_n hx hb (dt uX7_count 2 rfl) rfl (lv_at hl 0 rfl) ?_
    refine va_get (D := (dC, dI)) (ci := 7) (v := .ref ad_told) (C := RX7) (T := TX7) (N := 10) hx hb hts inU7 hown hK hP 0 rfl rfl 2 (by decide) (hts _ tw_118) (fun _ h9 => h9) rfl (dt uX7_count 3 rfl) ?_
    refine va_getN (D := (dC, dI)) (ci := 0) (v := .int v_told_size) (C := RX0) (T := TX0) (N := 5) hx hb hts inU0 hown hK hP 2 rfl rfl 2 (by decide) (nw_7 hN) (fun _ h9 => h9) rfl (dt uX7_count 4 rfl) ?_
    subst hf
    rw [hQ]
    exact vret_i C hP hD hS (dt uX7_count 5 rfl)
  have hf := vif_f c_1 hf
  by_cases c_2 : p1 = (1 : Int32)
  · have hf := vif_t c_2 hf
    refine lv_tableIn (off := 43) (tgt := 44) hx hb (dt uX7_count 1 rfl) (by rw [c_2]; decide) (by rw [c_2]; decide) (by rw [c_2]; rfl) (by decide) ?_
    refine lv_aload_n hx hb (dt uX7_count 6 rfl) rfl (lv_at hl 0 rfl) ?_
    refine va_get (D := (dC, dI)) (ci := 7) (v := .ref ad_now) (C := RX7) (T := TX7) (N := 10) hx hb hts inU7 hown hK hP 0 rfl rfl 3 (by decide) (hts _ tw_122) (fun _ h9 => h9) rfl (dt uX7_count 7 rfl) ?_
    refine va_getN (D := (dC, dI)) (ci := 3) (v := .int v_now_trapped) (C := RX3) (T := TX3) (N := 5) hx hb hts inU3 hown hK hP 3 rfl rfl 2 (by decide) (nw_15 hN) (fun _ h9 => h9) rfl (dt uX7_count 8 rfl) ?_
    refine vk_i0 [] (va_runS (As := [.int v_now_trapped]) (rest := []) ⟨hx, hb, hml, hown, hts⟩ (kJ6_bitCount_0f7a4 v_now_trapped _ rfl H.size) (vcwS hts tw_171 tw_172 tw_169 tw_170 hd_J6_bitCount_0f7a4 rfl rfl ⟨Nat.le_of_ble_eq_true rfl, Nat.le_of_ble_eq_true rfl⟩) (vpreS hK hN hP hD [] rfl (by decide)) rfl rfl hl.1 rfl (lv_room (Nat.le_of_ble_eq_true rfl)) (dt uX7_count 9 rfl) ⟨Nat.zero_le _, Nat.zero_le _⟩) hA hP hD hS rfl (by decide) (fun H locs hP hD hS => ?_)
    subst hf
    rw [hQ]
    exact vret_i C hP hD hS (dt uX7_count 10 rfl)
  have hf := vif_f c_2 hf
  by_cases c_3 : p1 = (2 : Int32)
  · have hf := vif_t c_3 hf
    refine lv_tableIn (off := 54) (tgt := 55) hx hb (dt uX7_count 1 rfl) (by rw [c_3]; decide) (by rw [c_3]; decide) (by rw [c_3]; rfl) (by decide) ?_
    refine lv_aload_n hx hb (dt uX7_count 11 rfl) rfl (lv_at hl 0 rfl) ?_
    refine va_get (D := (dC, dI)) (ci := 7) (v := .ref ad_seen) (C := RX7) (T := TX7) (N := 10) hx hb hts inU7 hown hK hP 0 rfl rfl 7 (by decide) (hts _ tw_129) (fun _ h9 => h9) rfl (dt uX7_count 12 rfl) ?_
    refine va_getN (D := (dC, dI)) (ci := 4) (v := .int v_seen_size) (C := RX4) (T := TX4) (N := 4) hx hb hts inU4 hown hK hP 5 rfl rfl 3 (by decide) (nw_27 hN) (fun _ h9 => h9) rfl (dt uX7_count 13 rfl) ?_
    subst hf
    rw [hQ]
    exact vret_i C hP hD hS (dt uX7_count 14 rfl)
  have hf := vif_f c_3 hf
  by_cases c_4 : p1 = (3 : Int32)
  · have hf := vif_t c_4 hf
    refine lv_tableIn (off := 62) (tgt := 63) hx hb (dt uX7_count 1 rfl) (by rw [c_4]; decide) (by rw [c_4]; decide) (by rw [c_4]; rfl) (by decide) ?_
    refine lv_aload_n hx hb (dt uX7_count 15 rfl) rfl (lv_at hl 0 rfl) ?_
    refine va_get (D := (dC, dI)) (ci := 7) (v := .ref ad_history) (C := RX7) (T := TX7) (N := 10) hx hb hts inU7 hown hK hP 0 rfl rfl 4 (by decide) (hts _ tw_126) (fun _ h9 => h9) rfl (dt uX7_count 16 rfl) ?_
    refine va_getN (D := (dC, dI)) (ci := 1) (v := .int v_history_known) (C := RX1) (T := TX1) (N := 2) hx hb hts inU1 hown hK hP 4 rfl rfl 1 (by decide) (nw_19 hN) (fun _ h9 => h9) rfl (dt uX7_count 17 rfl) ?_
    subst hf
    rw [hQ]
    exact vret_i C hP hD hS (dt uX7_count 18 rfl)
  have hf := vif_f c_4 hf
  by_cases c_5 : p1 = (4 : Int32)
  · have hf := vif_t c_5 hf
    refine lv_tableIn (off := 70) (tgt := 71) hx hb (dt uX7_count 1 rfl) (by rw [c_5]; decide) (by rw [c_5]; decide) (by rw [c_5]; rfl) (by decide) ?_
    refine lv_aload_n hx hb (dt uX7_count 19 rfl) rfl (lv_at hl 0 rfl) ?_
    refine va_get (D := (dC, dI)) (ci := 7) (v := .ref ad_text) (C := RX7) (T := TX7) (N := 10) hx hb hts inU7 hown hK hP 0 rfl rfl 0 (by decide) (hts _ tw_107) (fun _ h9 => h9) rfl (dt uX7_count 20 rfl) ?_
    refine va_getN (D := (dC, dI)) (ci := 5) (v := .int v_text_length) (C := RX5) (T := TX5) (N := 6) hx hb hts inU5 hown hK hP 1 rfl rfl 1 (by decide) (nw_1 hN) (fun _ h9 => h9) rfl (dt uX7_count 21 rfl) ?_
    subst hf
    rw [hQ]
    exact vret_i C hP hD hS (dt uX7_count 22 rfl)
  have hf := vif_f c_5 hf
  have e_6 : ∀ k : Int, (0 : Int) ≤ k → k ≤ 4 → (p1).toInt ≠ k := by
    intro k h1 h2
    have e : k = 0 ∨ k = 1 ∨ k = 2 ∨ k = 3 ∨ k = 4 := by omega
    rcases e with rfl | rfl | rfl | rfl | rfl
    · exact vne_toInt c_1
    · exact vne_toInt c_2
    · exact vne_toInt c_3
    · exact vne_toInt c_4
    · exact vne_toInt c_5
  refine lv_tableOut (tgt := 79) hx hb (dt uX7_count 1 rfl) (vtab_out e_6) (by decide) ?_
  refine lv_iconst (v := (-1 : Int32)) hx hb (dt uX7_count 23 rfl) (by decide) ?_
  subst hf
  rw [hQ]
  exact vret_i C hP hD hS (dt uX7_count 24 rfl)
abbrev rX7_trace : Room := { frames := 0, cells := 0, slots := 0, locals := 0 }
abbrev wX7_trace : List Cond := Cond.code yX7_trace cX7_trace 1 (some .long) :: VT
set_option maxHeartbeats 4000000 in
set_option maxRecDepth 100000 in
theorem kX7_trace (ad0 : Nat) (ad_text : Nat) (ad_draft : Nat) (ad_told : Nat) (ad_now : Nat) (ad_history : Nat) (ad_firstImage : Nat) (ad_secondImage : Nat) (ad_seen : Nat) (ad_ways : Nat) (v_traced : Int64) (q0 : Int64) (hf : fX7_trace v_traced = q0) : Kl l yX7_trace wX7_trace rX7_trace (dC, dI) (vTy cI cJ cB cZ) [.ref ad0] [(ad0, oX7 ad_text ad_draft ad_told ad_now ad_history ad_firstImage ad_secondImage ad_seen ad_ways v_traced)] [(ad0, oX7 ad_text ad_draft ad_told ad_now ad_history ad_firstImage ad_secondImage ad_seen ad_ways v_traced)] q0 := by
  refine Kl.mk (cc := cX7_trace) (maxL := 1) (ret := some .long) (by decide) (Nat.le_of_ble_eq_true rfl) ?_
  intro p e s m args below meth c A Q H locs C hQ hP hD hS ls hl
  obtain ⟨hx, hb, -, hml, hts, hown, -, hK, hN, hA⟩ := id C
  have hown : s.vm.findClass RX7 = some m.cls := hown
  have hl : lv_has ls 1 [(0, .ref ad0)] := hl
  unfold fX7_trace at hf
  refine lv_aload_n hx hb (dt uX7_trace 0 rfl) rfl (lv_at hl 0 rfl) ?_
  refine va_get (D := (dC, dI)) (ci := 7) (v := .long v_traced) (C := RX7) (T := TX7) (N := 10) hx hb hts inU7 hown hK hP 0 rfl rfl 9 (by decide) (hts _ tw_305) (fun _ h9 => h9) rfl (dt uX7_trace 1 rfl) ?_
  subst hf
  rw [hQ]
  exact vret_l C hP hD hS (dt uX7_trace 2 rfl)
abbrev rX8_in : Room := { frames := 0, cells := 0, slots := 0, locals := 0 }
abbrev wX8_in : List Cond := Cond.code yX8_in cX8_in 3 (some .boolean) :: VT
set_option maxHeartbeats 4000000 in
set_option maxRecDepth 100000 in
theorem kX8_in (p1 : Int32) (p2 : Int32) (p3 : Int32) (q0 : Int32) (hf : fX8_in p1 p2 p3 = q0) : Kz l yX8_in wX8_in rX8_in (dC, dI) (vTy cI cJ cB cZ) [.int p1, .int p2, .int p3] [] [] q0 := by
  refine Kz.mk (cc := cX8_in) (maxL := 3) (ret := some .boolean) (by decide) (Nat.le_of_ble_eq_true rfl) ?_
  intro p e s m args below meth c A Q H locs C hQ hP hD hS ls hl
  obtain ⟨hx, hb, -, hml, hts, hown, -, hK, hN, hA⟩ := id C
  have hown : s.vm.findClass RX8 = some m.cls := hown
  have hl : lv_has ls 3 [(0, .int p1), (1, .int p2), (2, .int p3)] := hl
  unfold fX8_in at hf
  refine lv_iload_n hx hb (dt uX8_in 0 rfl) rfl (lv_at hl 0 rfl) ?_
  refine lv_iload_n hx hb (dt uX8_in 1 rfl) rfl (lv_at hl 1 rfl) ?_
  refine lv_icmp_lt (tgt := 14) hx hb (dt uX8_in 2 rfl) (by decide) (fun c_1 => ?_) (fun c_1 => ?_)
  · have hf := vif_t c_1 hf
    refine lv_iconst (v := (0 : Int32)) hx hb (dt uX8_in 8 rfl) (by decide) ?_
    subst hf
    rw [hQ]
    exact vret_z C hP hD hS (dt uX8_in 9 rfl) (Or.inl rfl)
  · have hf := vif_f c_1 hf
    refine lv_iload_n hx hb (dt uX8_in 3 rfl) rfl (lv_at hl 0 rfl) ?_
    refine lv_iload_n hx hb (dt uX8_in 4 rfl) rfl (lv_at hl 2 rfl) ?_
    refine lv_icmp_gt (tgt := 14) hx hb (dt uX8_in 5 rfl) (by decide) (fun c_2 => ?_) (fun c_2 => ?_)
    · have hf := vif_t c_2 hf
      refine lv_iconst (v := (0 : Int32)) hx hb (dt uX8_in 8 rfl) (by decide) ?_
      subst hf
      rw [hQ]
      exact vret_z C hP hD hS (dt uX8_in 9 rfl) (Or.inl rfl)
    · have hf := vif_f c_2 hf
      refine lv_iconst (v := (1 : Int32)) hx hb (dt uX8_in 6 rfl) (by decide) ?_
      refine lv_goto (tgt := 15) hx hb (dt uX8_in 7 rfl) (by decide) ?_
      subst hf
      rw [hQ]
      exact vret_z C hP hD hS (dt uX8_in 9 rfl) (Or.inr rfl)
abbrev rX8_type : Room := { frames := 1, cells := 0, slots := 0, locals := 22 }
abbrev wX8_type : List Cond := Cond.code yX8_type cX8_type 2 (some .int) :: VT
set_option maxHeartbeats 4000000 in
set_option maxRecDepth 100000 in
theorem kX8_type (ad0 : Nat) (ad_text : Nat) (ad_books : Nat) (ad_numberA : Nat) (ad_numberB : Nat) (ad_draftTouches : Nat) (ad_now : Nat) (ad_isKept : Nat) (ad_near : Nat) (ad_seenDays : Nat) (ad_seenBook : Nat) (ad_seenIs : Nat) (v_trace : Int64) (v_typed : Int32) (v_draftOne : Int32) (v_oneTold : Int32) (v_at : Int32) (v_start : Int32) (v_sort : Int32) (v_value : Int32) (v_fault : Int32) (v_seen : Int32) (v_sets : Int32) (v_inEach : Int32) (v_inSome : Int32) (a_text : Nat → Int32) (p1 : Int32) (q0 : (Int32 × (Nat → Int32) × Int32)) (hf : fX8_type a_text v_typed p1 = some q0) : Ki l yX8_type wX8_type rX8_type (dC, dI) (vTy cI cJ cB cZ) [.ref ad0, .int p1] [(ad0, oX8 v_trace ad_text v_typed ad_books ad_numberA ad_numberB ad_draftTouches v_draftOne v_oneTold v_at v_start v_sort v_value v_fault ad_now ad_isKept ad_near ad_seenDays ad_seenBook ad_seenIs v_seen v_sets v_inEach v_inSome), (ad_text, .inl (cB, 150, .inl a_text))] [(ad0, oX8 v_trace ad_text q0.2.2 ad_books ad_numberA ad_numberB ad_draftTouches v_draftOne v_oneTold v_at v_start v_sort v_value v_fault ad_now ad_isKept ad_near ad_seenDays ad_seenBook ad_seenIs v_seen v_sets v_inEach v_inSome), (ad_text, .inl (cB, 150, .inl q0.2.1))] q0.1 := by
  refine Ki.mk (cc := cX8_type) (maxL := 2) (ret := some .int) (by decide) (Nat.le_of_ble_eq_true rfl) ?_
  intro p e s m args below meth c A Q H locs C hQ hP hD hS ls hl
  obtain ⟨hx, hb, -, hml, hts, hown, -, hK, hN, hA⟩ := id C
  have hown : s.vm.findClass RX8 = some m.cls := hown
  have hl : lv_has ls 2 [(0, .ref ad0), (1, .int p1)] := hl
  unfold fX8_type at hf
  refine lv_iload_n hx hb (dt uX8_type 0 rfl) rfl (lv_at hl 1 rfl) ?_
  refine lv_iconst (v := (0 : Int32)) hx hb (dt uX8_type 1 rfl) (by decide) ?_
  refine lv_sipush (v := (255 : Int32)) hx hb (dt uX8_type 2 rfl) (by decide) ?_
  refine vk_z0 [] (va_runS (As := [.int p1, .int (0 : Int32), .int (255 : Int32)]) (rest := []) ⟨hx, hb, hml, hown, hts⟩ (kX8_in p1 (0 : Int32) (255 : Int32) _ rfl H.size) (vcwS hts tw_338 tw_339 tw_336 tw_337 hd_X8_in rfl rfl ⟨Nat.le_of_ble_eq_true rfl, Nat.le_of_ble_eq_true rfl⟩) (vpreS hK hN hP hD [] rfl (by decide)) rfl rfl hl.1 rfl (lv_room (Nat.le_of_ble_eq_true rfl)) (dt uX8_type 3 rfl) ⟨Nat.zero_le _, Nat.zero_le _⟩) hA hP hD hS rfl (by decide) (fun hz_1 H locs hP hD hS => ?_)
  refine lv_if_ne (tgt := 13) hx hb (dt uX8_type 4 rfl) (by decide) (fun c_2 => ?_) (fun c_2 => ?_)
  · have hf := vif_f c_2 hf
    refine lv_aload_n hx hb (dt uX8_type 7 rfl) rfl (lv_at hl 0 rfl) ?_
    refine va_get (D := (dC, dI)) (ci := 8) (v := .int v_typed) (C := RX8) (T := TX8) (N := 24) hx hb hts inU8 hown hK hP 0 rfl rfl 2 (by decide) (hts _ tw_340) (fun _ h9 => h9) rfl (dt uX8_type 8 rfl) ?_
    refine lv_sipush (v := (150 : Int32)) hx hb (dt uX8_type 9 rfl) (by decide) ?_
    refine lv_icmp_ne (tgt := 26) hx hb (dt uX8_type 10 rfl) (by decide) (fun c_3 => ?_) (fun c_3 => ?_)
    · have hf := vif_f c_3 hf
      refine lv_aload_n hx hb (dt uX8_type 13 rfl) rfl (lv_at hl 0 rfl) ?_
      refine va_get (D := (dC, dI)) (ci := 8) (v := .ref ad_text) (C := RX8) (T := TX8) (N := 24) hx hb hts inU8 hown hK hP 0 rfl rfl 1 (by decide) (hts _ tw_341) (fun _ h9 => h9) rfl (dt uX8_type 14 rfl) ?_
      refine lv_aload_n hx hb (dt uX8_type 15 rfl) rfl (lv_at hl 0 rfl) ?_
      refine va_get (D := (dC, dI)) (ci := 8) (v := .int v_typed) (C := RX8) (T := TX8) (N := 24) hx hb hts inU8 hown hK hP 0 rfl rfl 2 (by decide) (hts _ tw_340) (fun _ h9 => h9) rfl (dt uX8_type 16 rfl) ?_
      refine lv_iload_n hx hb (dt uX8_type 17 rfl) rfl (lv_at hl 1 rfl) ?_
      refine lv_i2b (v := p1.toInt8.toInt32) hx hb (dt uX8_type 18 rfl) rfl ?_
      obtain ⟨hi_4, hf⟩ := vg_some hf
      refine va_bast hx hb hK hP hD hS 1 2 rfl rfl hi_4 (dt uX8_type 19 rfl) (fun H locs hP hD hS => ?_)
      have hP : va_P (dC, dI) vwCl [(ad0, oX8 v_trace ad_text v_typed ad_books ad_numberA ad_numberB ad_draftTouches v_draftOne v_oneTold v_at v_start v_sort v_value v_fault ad_now ad_isKept ad_near ad_seenDays ad_seenBook ad_seenIs v_seen v_sets v_inEach v_inSome), (ad_text, .inl (cB, 150, .inl (upd a_text v_typed.toNatClampNeg (vp_nar .byte p1.toInt8.toInt32))))] H := hP
      have hD : va_D A [(ad0, oX8 v_trace ad_text v_typed ad_books ad_numberA ad_numberB ad_draftTouches v_draftOne v_oneTold v_at v_start v_sort v_value v_fault ad_now ad_isKept ad_near ad_seenDays ad_seenBook ad_seenIs v_seen v_sets v_inEach v_inSome), (ad_text, .inl (cB, 150, .inl (upd a_text v_typed.toNatClampNeg (vp_nar .byte p1.toInt8.toInt32))))] := hD
      refine lv_aload_n hx hb (dt uX8_type 20 rfl) rfl (lv_at hl 0 rfl) ?_
      refine lv_dup hx hb (dt uX8_type 21 rfl) rfl ?_
      refine va_get (D := (dC, dI)) (ci := 8) (v := .int v_typed) (C := RX8) (T := TX8) (N := 24) hx hb hts inU8 hown hK hP 0 rfl rfl 2 (by decide) (hts _ tw_340) (fun _ h9 => h9) rfl (dt uX8_type 22 rfl) ?_
      refine lv_iconst (v := (1 : Int32)) hx hb (dt uX8_type 23 rfl) (by decide) ?_
      refine lv_iadd hx hb (dt uX8_type 24 rfl) ?_
      refine va_put (D := (dC, dI)) (ci := 8) (v := .int (v_typed + (1 : Int32))) (ty := .int) (C := RX8) (T := TX8) (N := 24) hx hb hts inU8 tyX8 tyX8_ok nmX8 hown hK hP hD hS 0 rfl rfl 2 (by decide) (hts _ tw_340) (fun _ h9 => h9) rfl (by decide +kernel) rfl rfl (Nat.le_of_ble_eq_true rfl) (dt uX8_type 25 rfl) (fun H locs hP hD hS => ?_)
      have hP : va_P (dC, dI) vwCl [(ad0, oX8 v_trace ad_text (v_typed + (1 : Int32)) ad_books ad_numberA ad_numberB ad_draftTouches v_draftOne v_oneTold v_at v_start v_sort v_value v_fault ad_now ad_isKept ad_near ad_seenDays ad_seenBook ad_seenIs v_seen v_sets v_inEach v_inSome), (ad_text, .inl (cB, 150, .inl (upd a_text v_typed.toNatClampNeg (vp_nar .byte p1.toInt8.toInt32))))] H := hP
      have hD : va_D A [(ad0, oX8 v_trace ad_text (v_typed + (1 : Int32)) ad_books ad_numberA ad_numberB ad_draftTouches v_draftOne v_oneTold v_at v_start v_sort v_value v_fault ad_now ad_isKept ad_near ad_seenDays ad_seenBook ad_seenIs v_seen v_sets v_inEach v_inSome), (ad_text, .inl (cB, 150, .inl (upd a_text v_typed.toNatClampNeg (vp_nar .byte p1.toInt8.toInt32))))] := hD
      refine lv_aload_n hx hb (dt uX8_type 26 rfl) rfl (lv_at hl 0 rfl) ?_
      refine va_get (D := (dC, dI)) (ci := 8) (v := .int (v_typed + (1 : Int32))) (C := RX8) (T := TX8) (N := 24) hx hb hts inU8 hown hK hP 0 rfl rfl 2 (by decide) (hts _ tw_340) (fun _ h9 => h9) rfl (dt uX8_type 27 rfl) ?_
      have hf := Option.some.inj hf
      subst hf
      rw [hQ]
      exact vret_i C hP hD hS (dt uX8_type 28 rfl)
    · have hf := vif_t c_3 hf
      refine lv_bipush (v := (-3 : Int32)) hx hb (dt uX8_type 11 rfl) (by decide) ?_
      have hf := Option.some.inj hf
      subst hf
      rw [hQ]
      exact vret_i C hP hD hS (dt uX8_type 12 rfl)
  · have hf := vif_t c_2 hf
    refine lv_iconst (v := (-1 : Int32)) hx hb (dt uX8_type 5 rfl) (by decide) ?_
    have hf := Option.some.inj hf
    subst hf
    rw [hQ]
    exact vret_i C hP hD hS (dt uX8_type 6 rfl)
abbrev rX8_clear : Room := { frames := 0, cells := 0, slots := 0, locals := 0 }
abbrev wX8_clear : List Cond := Cond.code yX8_clear cX8_clear 2 (some .int) :: VT
set_option maxHeartbeats 4000000 in
set_option maxRecDepth 100000 in
theorem kX8_clear (ad0 : Nat) (ad_text : Nat) (ad_books : Nat) (ad_numberA : Nat) (ad_numberB : Nat) (ad_draftTouches : Nat) (ad_now : Nat) (ad_isKept : Nat) (ad_near : Nat) (ad_seenDays : Nat) (ad_seenBook : Nat) (ad_seenIs : Nat) (v_trace : Int64) (v_typed : Int32) (v_draftOne : Int32) (v_oneTold : Int32) (v_at : Int32) (v_start : Int32) (v_sort : Int32) (v_value : Int32) (v_fault : Int32) (v_seen : Int32) (v_sets : Int32) (v_inEach : Int32) (v_inSome : Int32) (q0 : (Int32 × Int32)) (hf : fX8_clear v_typed = q0) : Ki l yX8_clear wX8_clear rX8_clear (dC, dI) (vTy cI cJ cB cZ) [.ref ad0] [(ad0, oX8 v_trace ad_text v_typed ad_books ad_numberA ad_numberB ad_draftTouches v_draftOne v_oneTold v_at v_start v_sort v_value v_fault ad_now ad_isKept ad_near ad_seenDays ad_seenBook ad_seenIs v_seen v_sets v_inEach v_inSome)] [(ad0, oX8 v_trace ad_text q0.2 ad_books ad_numberA ad_numberB ad_draftTouches v_draftOne v_oneTold v_at v_start v_sort v_value v_fault ad_now ad_isKept ad_near ad_seenDays ad_seenBook ad_seenIs v_seen v_sets v_inEach v_inSome)] q0.1 := by
  refine Ki.mk (cc := cX8_clear) (maxL := 2) (ret := some .int) (by decide) (Nat.le_of_ble_eq_true rfl) ?_
  intro p e s m args below meth c A Q H locs C hQ hP hD hS ls hl
  obtain ⟨hx, hb, -, hml, hts, hown, -, hK, hN, hA⟩ := id C
  have hown : s.vm.findClass RX8 = some m.cls := hown
  have hl : lv_has ls 2 [(0, .ref ad0)] := hl
  unfold fX8_clear at hf
  refine lv_aload_n hx hb (dt uX8_clear 0 rfl) rfl (lv_at hl 0 rfl) ?_
  refine va_get (D := (dC, dI)) (ci := 8) (v := .int v_typed) (C := RX8) (T := TX8) (N := 24) hx hb hts inU8 hown hK hP 0 rfl rfl 2 (by decide) (hts _ tw_340) (fun _ h9 => h9) rfl (dt uX8_clear 1 rfl) ?_
  refine lv_istore_n (lv' := [(1, .int v_typed), (0, .ref ad0)]) hx hb (dt uX8_clear 2 rfl) rfl hl (by decide) rfl (fun ls hl => ?_)
  refine lv_aload_n hx hb (dt uX8_clear 3 rfl) rfl (lv_at hl 1 rfl) ?_
  refine lv_iconst (v := (0 : Int32)) hx hb (dt uX8_clear 4 rfl) (by decide) ?_
  refine va_put (D := (dC, dI)) (ci := 8) (v := .int (0 : Int32)) (ty := .int) (C := RX8) (T := TX8) (N := 24) hx hb hts inU8 tyX8 tyX8_ok nmX8 hown hK hP hD hS 0 rfl rfl 2 (by decide) (hts _ tw_340) (fun _ h9 => h9) rfl (by decide +kernel) rfl rfl (Nat.le_of_ble_eq_true rfl) (dt uX8_clear 5 rfl) (fun H locs hP hD hS => ?_)
  have hP : va_P (dC, dI) vwCl [(ad0, oX8 v_trace ad_text (0 : Int32) ad_books ad_numberA ad_numberB ad_draftTouches v_draftOne v_oneTold v_at v_start v_sort v_value v_fault ad_now ad_isKept ad_near ad_seenDays ad_seenBook ad_seenIs v_seen v_sets v_inEach v_inSome)] H := hP
  have hD : va_D A [(ad0, oX8 v_trace ad_text (0 : Int32) ad_books ad_numberA ad_numberB ad_draftTouches v_draftOne v_oneTold v_at v_start v_sort v_value v_fault ad_now ad_isKept ad_near ad_seenDays ad_seenBook ad_seenIs v_seen v_sets v_inEach v_inSome)] := hD
  refine lv_iload_n hx hb (dt uX8_clear 6 rfl) rfl (lv_at hl 0 rfl) ?_
  subst hf
  rw [hQ]
  exact vret_i C hP hD hS (dt uX8_clear 7 rfl)
abbrev rX8_here : Room := { frames := 0, cells := 0, slots := 0, locals := 0 }
abbrev wX8_here : List Cond := Cond.code yX8_here cX8_here 1 (some .int) :: VT
set_option maxHeartbeats 4000000 in
set_option maxRecDepth 100000 in
theorem kX8_here (ad0 : Nat) (ad_text : Nat) (ad_books : Nat) (ad_numberA : Nat) (ad_numberB : Nat) (ad_draftTouches : Nat) (ad_now : Nat) (ad_isKept : Nat) (ad_near : Nat) (ad_seenDays : Nat) (ad_seenBook : Nat) (ad_seenIs : Nat) (v_trace : Int64) (v_typed : Int32) (v_draftOne : Int32) (v_oneTold : Int32) (v_at : Int32) (v_start : Int32) (v_sort : Int32) (v_value : Int32) (v_fault : Int32) (v_seen : Int32) (v_sets : Int32) (v_inEach : Int32) (v_inSome : Int32) (a_text : Nat → Int32) (q0 : Int32) (hf : fX8_here a_text v_typed v_at = some q0) : Ki l yX8_here wX8_here rX8_here (dC, dI) (vTy cI cJ cB cZ) [.ref ad0] [(ad0, oX8 v_trace ad_text v_typed ad_books ad_numberA ad_numberB ad_draftTouches v_draftOne v_oneTold v_at v_start v_sort v_value v_fault ad_now ad_isKept ad_near ad_seenDays ad_seenBook ad_seenIs v_seen v_sets v_inEach v_inSome), (ad_text, .inl (cB, 150, .inl a_text))] [(ad0, oX8 v_trace ad_text v_typed ad_books ad_numberA ad_numberB ad_draftTouches v_draftOne v_oneTold v_at v_start v_sort v_value v_fault ad_now ad_isKept ad_near ad_seenDays ad_seenBook ad_seenIs v_seen v_sets v_inEach v_inSome), (ad_text, .inl (cB, 150, .inl a_text))] q0 := by
  refine Ki.mk (cc := cX8_here) (maxL := 1) (ret := some .int) (by decide) (Nat.le_of_ble_eq_true rfl) ?_
  intro p e s m args below meth c A Q H locs C hQ hP hD hS ls hl
  obtain ⟨hx, hb, -, hml, hts, hown, -, hK, hN, hA⟩ := id C
  have hown : s.vm.findClass RX8 = some m.cls := hown
  have hl : lv_has ls 1 [(0, .ref ad0)] := hl
  unfold fX8_here at hf
  refine lv_aload_n hx hb (dt uX8_here 0 rfl) rfl (lv_at hl 0 rfl) ?_
  refine va_get (D := (dC, dI)) (ci := 8) (v := .int v_at) (C := RX8) (T := TX8) (N := 24) hx hb hts inU8 hown hK hP 0 rfl rfl 9 (by decide) (hts _ tw_342) (fun _ h9 => h9) rfl (dt uX8_here 1 rfl) ?_
  refine lv_aload_n hx hb (dt uX8_here 2 rfl) rfl (lv_at hl 0 rfl) ?_
  refine va_get (D := (dC, dI)) (ci := 8) (v := .int v_typed) (C := RX8) (T := TX8) (N := 24) hx hb hts inU8 hown hK hP 0 rfl rfl 2 (by decide) (hts _ tw_340) (fun _ h9 => h9) rfl (dt uX8_here 3 rfl) ?_
  refine lv_icmp_ge (tgt := 27) hx hb (dt uX8_here 4 rfl) (by decide) (fun c_1 => ?_) (fun c_1 => ?_)
  · have hf := vif_t c_1 hf
    refine lv_iconst (v := (-1 : Int32)) hx hb (dt uX8_here 13 rfl) (by decide) ?_
    have hf := Option.some.inj hf
    subst hf
    rw [hQ]
    exact vret_i C hP hD hS (dt uX8_here 14 rfl)
  · have hf := vif_f c_1 hf
    refine lv_aload_n hx hb (dt uX8_here 5 rfl) rfl (lv_at hl 0 rfl) ?_
    refine va_get (D := (dC, dI)) (ci := 8) (v := .ref ad_text) (C := RX8) (T := TX8) (N := 24) hx hb hts inU8 hown hK hP 0 rfl rfl 1 (by decide) (hts _ tw_341) (fun _ h9 => h9) rfl (dt uX8_here 6 rfl) ?_
    refine lv_aload_n hx hb (dt uX8_here 7 rfl) rfl (lv_at hl 0 rfl) ?_
    refine va_get (D := (dC, dI)) (ci := 8) (v := .int v_at) (C := RX8) (T := TX8) (N := 24) hx hb hts inU8 hown hK hP 0 rfl rfl 9 (by decide) (hts _ tw_342) (fun _ h9 => h9) rfl (dt uX8_here 8 rfl) ?_
    obtain ⟨hi_2, hf⟩ := vg_some hf
    refine va_bald hx hb hK hP 1 2 rfl rfl hi_2 (dt uX8_here 9 rfl) ?_
    refine lv_sipush (v := (255 : Int32)) hx hb (dt uX8_here 10 rfl) (by decide) ?_
    refine lv_iand hx hb (dt uX8_here 11 rfl) ?_
    refine lv_goto (tgt := 28) hx hb (dt uX8_here 12 rfl) (by decide) ?_
    have hf := Option.some.inj hf
    subst hf
    rw [hQ]
    exact vret_i C hP hD hS (dt uX8_here 14 rfl)
abbrev rX8_step : Room := { frames := 1, cells := 0, slots := 0, locals := 22 }
abbrev wX8_step : List Cond := Cond.code yX8_step cX8_step 2 none :: VT
set_option maxHeartbeats 4000000 in
set_option maxRecDepth 100000 in
theorem kX8_step (ad0 : Nat) (ad_text : Nat) (ad_books : Nat) (ad_numberA : Nat) (ad_numberB : Nat) (ad_draftTouches : Nat) (ad_now : Nat) (ad_isKept : Nat) (ad_near : Nat) (ad_seenDays : Nat) (ad_seenBook : Nat) (ad_seenIs : Nat) (v_trace : Int64) (v_typed : Int32) (v_draftOne : Int32) (v_oneTold : Int32) (v_at : Int32) (v_start : Int32) (v_sort : Int32) (v_value : Int32) (v_fault : Int32) (v_seen : Int32) (v_sets : Int32) (v_inEach : Int32) (v_inSome : Int32) (a_text : Nat → Int32) (N : Nat) (q0 : (Int32 × Int32 × Int32 × Int32)) (hf : fX8_step N a_text v_typed v_at v_start v_sort v_value = some q0) : Kv l yX8_step wX8_step rX8_step (dC, dI) (vTy cI cJ cB cZ) [.ref ad0] [(ad0, oX8 v_trace ad_text v_typed ad_books ad_numberA ad_numberB ad_draftTouches v_draftOne v_oneTold v_at v_start v_sort v_value v_fault ad_now ad_isKept ad_near ad_seenDays ad_seenBook ad_seenIs v_seen v_sets v_inEach v_inSome), (ad_text, .inl (cB, 150, .inl a_text))] [(ad0, oX8 v_trace ad_text v_typed ad_books ad_numberA ad_numberB ad_draftTouches v_draftOne v_oneTold q0.1 q0.2.1 q0.2.2.1 q0.2.2.2 v_fault ad_now ad_isKept ad_near ad_seenDays ad_seenBook ad_seenIs v_seen v_sets v_inEach v_inSome), (ad_text, .inl (cB, 150, .inl a_text))] := by
  refine Kv.mk (cc := cX8_step) (maxL := 2) (ret := none) (by decide) (Nat.le_of_ble_eq_true rfl) ?_
  intro p e s m args below meth c A Q H locs C hQ hP hD hS ls hl
  obtain ⟨hx, hb, -, hml, hts, hown, -, hK, hN, hA⟩ := id C
  have hown : s.vm.findClass RX8 = some m.cls := hown
  have hl : lv_has ls 2 [(0, .ref ad0)] := hl
  unfold fX8_step at hf
  have hL0 : ∀ (n0 : Nat), ∀ (w_1 : Int32) (H : Heap) (locs : List Loc) (ls : Array Slot), fX8_step_L0 N a_text v_typed n0 w_1 = some q0 → va_P (dC, dI) vwCl [(ad0, oX8 v_trace ad_text v_typed ad_books ad_numberA ad_numberB ad_draftTouches v_draftOne v_oneTold w_1 v_start v_sort v_value v_fault ad_now ad_isKept ad_near ad_seenDays ad_seenBook ad_seenIs v_seen v_sets v_inEach v_inSome), (ad_text, .inl (cB, 150, .inl a_text))] H → va_D A [(ad0, oX8 v_trace ad_text v_typed ad_books ad_numberA ad_numberB ad_draftTouches v_draftOne v_oneTold w_1 v_start v_sort v_value v_fault ad_now ad_isKept ad_near ad_seenDays ad_seenBook ad_seenIs v_seen v_sets v_inEach v_inSome), (ad_text, .inl (cB, 150, .inl a_text))] → va_S A s.heap H locs → lv_has ls 2 [(0, .ref ad0)] → W p l e rX8_step s m args below meth c H locs 0 0 Q (F0 m 0 ls []) := by
    intro n0
    induction n0 with
    | zero => intro w_1 H locs ls hf hP hD hS hl; cases hf
    | succ n0 ih0 =>
      intro w_1 H locs ls hf hP hD hS hl
      rw [fX8_step_L0] at hf
      refine lv_aload_n hx hb (dt uX8_step_0 0 rfl) rfl (lv_at hl 0 rfl) ?_
      obtain ⟨q_2, hq_3, hf⟩ := vbd hf
      refine vk_i0 [0, 1] (va_runV (As := []) (rest := []) ⟨hx, hb, hml, hown, hts⟩ (kX8_here ad0 ad_text ad_books ad_numberA ad_numberB ad_draftTouches ad_now ad_isKept ad_near ad_seenDays ad_seenBook ad_seenIs v_trace v_typed v_draftOne v_oneTold w_1 v_start v_sort v_value v_fault v_seen v_sets v_inEach v_inSome a_text q_2 hq_3 H.size) (vcwV hts tw_344 tw_345 tw_346 tw_336 tw_343 hd_X8_here rfl rfl ⟨Nat.le_of_ble_eq_true rfl, Nat.le_of_ble_eq_true rfl⟩) (vpreV hK hN hP hD [0, 1] rfl (by decide) (ci := 8) (q0 := 0) rfl rfl) rfl rfl hl.1 rfl (lv_room (Nat.le_of_ble_eq_true rfl)) (dt uX8_step_0 1 rfl) ⟨Nat.zero_le _, Nat.zero_le _⟩) hA hP hD hS rfl (by decide) (fun H locs hP hD hS => ?_)
      refine lv_bipush (v := (32 : Int32)) hx hb (dt uX8_step_0 2 rfl) (by decide) ?_
      refine lv_icmp_ne (tgt := 22) hx hb (dt uX8_step_0 3 rfl) (by decide) (fun c_4 => ?_) (fun c_4 => ?_)
      · have hf := vif_f c_4 hf
        refine lv_aload_n hx hb (dt uX8_step_0 11 rfl) rfl (lv_at hl 0 rfl) ?_
        refine lv_aload_n hx hb (dt uX8_step_0 12 rfl) rfl (lv_at hl 0 rfl) ?_
        refine va_get (D := (dC, dI)) (ci := 8) (v := .int w_1) (C := RX8) (T := TX8) (N := 24) hx hb hts inU8 hown hK hP 0 rfl rfl 9 (by decide) (hts _ tw_342) (fun _ h9 => h9) rfl (dt uX8_step_0 13 rfl) ?_
        refine va_put (D := (dC, dI)) (ci := 8) (v := .int w_1) (ty := .int) (C := RX8) (T := TX8) (N := 24) hx hb hts inU8 tyX8 tyX8_ok nmX8 hown hK hP hD hS 0 rfl rfl 10 (by decide) (hts _ tw_347) (fun _ h9 => h9) rfl (by decide +kernel) rfl rfl (Nat.le_of_ble_eq_true rfl) (dt uX8_step_0 14 rfl) (fun H locs hP hD hS => ?_)
        have hP : va_P (dC, dI) vwCl [(ad0, oX8 v_trace ad_text v_typed ad_books ad_numberA ad_numberB ad_draftTouches v_draftOne v_oneTold w_1 w_1 v_sort v_value v_fault ad_now ad_isKept ad_near ad_seenDays ad_seenBook ad_seenIs v_seen v_sets v_inEach v_inSome), (ad_text, .inl (cB, 150, .inl a_text))] H := hP
        have hD : va_D A [(ad0, oX8 v_trace ad_text v_typed ad_books ad_numberA ad_numberB ad_draftTouches v_draftOne v_oneTold w_1 w_1 v_sort v_value v_fault ad_now ad_isKept ad_near ad_seenDays ad_seenBook ad_seenIs v_seen v_sets v_inEach v_inSome), (ad_text, .inl (cB, 150, .inl a_text))] := hD
        refine lv_aload_n hx hb (dt uX8_step_0 15 rfl) rfl (lv_at hl 0 rfl) ?_
        refine lv_iconst (v := (0 : Int32)) hx hb (dt uX8_step_0 16 rfl) (by decide) ?_
        refine va_put (D := (dC, dI)) (ci := 8) (v := .int (0 : Int32)) (ty := .int) (C := RX8) (T := TX8) (N := 24) hx hb hts inU8 tyX8 tyX8_ok nmX8 hown hK hP hD hS 0 rfl rfl 12 (by decide) (hts _ tw_348) (fun _ h9 => h9) rfl (by decide +kernel) rfl rfl (Nat.le_of_ble_eq_true rfl) (dt uX8_step_0 17 rfl) (fun H locs hP hD hS => ?_)
        have hP : va_P (dC, dI) vwCl [(ad0, oX8 v_trace ad_text v_typed ad_books ad_numberA ad_numberB ad_draftTouches v_draftOne v_oneTold w_1 w_1 v_sort (0 : Int32) v_fault ad_now ad_isKept ad_near ad_seenDays ad_seenBook ad_seenIs v_seen v_sets v_inEach v_inSome), (ad_text, .inl (cB, 150, .inl a_text))] H := hP
        have hD : va_D A [(ad0, oX8 v_trace ad_text v_typed ad_books ad_numberA ad_numberB ad_draftTouches v_draftOne v_oneTold w_1 w_1 v_sort (0 : Int32) v_fault ad_now ad_isKept ad_near ad_seenDays ad_seenBook ad_seenIs v_seen v_sets v_inEach v_inSome), (ad_text, .inl (cB, 150, .inl a_text))] := hD
        refine lv_aload_n hx hb (dt uX8_step_0 18 rfl) rfl (lv_at hl 0 rfl) ?_
        obtain ⟨q_5, hq_6, hf⟩ := vbd hf
        refine vk_i0 [0, 1] (va_runV (As := []) (rest := []) ⟨hx, hb, hml, hown, hts⟩ (kX8_here ad0 ad_text ad_books ad_numberA ad_numberB ad_draftTouches ad_now ad_isKept ad_near ad_seenDays ad_seenBook ad_seenIs v_trace v_typed v_draftOne v_oneTold w_1 w_1 v_sort (0 : Int32) v_fault v_seen v_sets v_inEach v_inSome a_text q_5 hq_6 H.size) (vcwV hts tw_344 tw_345 tw_346 tw_336 tw_343 hd_X8_here rfl rfl ⟨Nat.le_of_ble_eq_true rfl, Nat.le_of_ble_eq_true rfl⟩) (vpreV hK hN hP hD [0, 1] rfl (by decide) (ci := 8) (q0 := 0) rfl rfl) rfl rfl hl.1 rfl (lv_room (Nat.le_of_ble_eq_true rfl)) (dt uX8_step_0 19 rfl) ⟨Nat.zero_le _, Nat.zero_le _⟩) hA hP hD hS rfl (by decide) (fun H locs hP hD hS => ?_)
        refine lv_istore_n (lv' := [(1, .int q_5), (0, .ref ad0)]) hx hb (dt uX8_step_0 20 rfl) rfl hl (by decide) rfl (fun ls hl => ?_)
        refine lv_iload_n hx hb (dt uX8_step_0 21 rfl) rfl (lv_at hl 0 rfl) ?_
        refine lv_if_ge (tgt := 52) hx hb (dt uX8_step_0 22 rfl) (by decide) (fun c_7 => ?_) (fun c_7 => ?_)
        · have hf := vif_t c_7 hf
          refine lv_iload_n hx hb (dt uX8_step_0 27 rfl) rfl (lv_at hl 0 rfl) ?_
          refine lv_bipush (v := (97 : Int32)) hx hb (dt uX8_step_0 28 rfl) (by decide) ?_
          refine lv_bipush (v := (122 : Int32)) hx hb (dt uX8_step_0 29 rfl) (by decide) ?_
          refine vk_z0 [] (va_runS (As := [.int q_5, .int (97 : Int32), .int (122 : Int32)]) (rest := []) ⟨hx, hb, hml, hown, hts⟩ (kX8_in q_5 (97 : Int32) (122 : Int32) _ rfl H.size) (vcwS hts tw_338 tw_339 tw_336 tw_337 hd_X8_in rfl rfl ⟨Nat.le_of_ble_eq_true rfl, Nat.le_of_ble_eq_true rfl⟩) (vpreS hK hN hP hD [] rfl (by decide)) rfl rfl hl.1 rfl (lv_room (Nat.le_of_ble_eq_true rfl)) (dt uX8_step_0 30 rfl) ⟨Nat.zero_le _, Nat.zero_le _⟩) hA hP hD hS rfl (by decide) (fun hz_8 H locs hP hD hS => ?_)
          refine lv_if_eq (tgt := 115) hx hb (dt uX8_step_0 31 rfl) (by decide) (fun c_9 => ?_) (fun c_9 => ?_)
          · have hf := vif_t c_9 hf
            refine lv_iload_n hx hb (dt uX8_step_0 58 rfl) rfl (lv_at hl 0 rfl) ?_
            refine lv_bipush (v := (48 : Int32)) hx hb (dt uX8_step_0 59 rfl) (by decide) ?_
            refine lv_bipush (v := (57 : Int32)) hx hb (dt uX8_step_1 0 rfl) (by decide) ?_
            refine vk_z0 [] (va_runS (As := [.int q_5, .int (48 : Int32), .int (57 : Int32)]) (rest := []) ⟨hx, hb, hml, hown, hts⟩ (kX8_in q_5 (48 : Int32) (57 : Int32) _ rfl H.size) (vcwS hts tw_338 tw_339 tw_336 tw_337 hd_X8_in rfl rfl ⟨Nat.le_of_ble_eq_true rfl, Nat.le_of_ble_eq_true rfl⟩) (vpreS hK hN hP hD [] rfl (by decide)) rfl rfl hl.1 rfl (lv_room (Nat.le_of_ble_eq_true rfl)) (dt uX8_step_1 1 rfl) ⟨Nat.zero_le _, Nat.zero_le _⟩) hA hP hD hS rfl (by decide) (fun hz_10 H locs hP hD hS => ?_)
            refine lv_if_eq (tgt := 230) hx hb (dt uX8_step_1 2 rfl) (by decide) (fun c_11 => ?_) (fun c_11 => ?_)
            · have hf := vif_t c_11 hf
              refine lv_aload_n hx hb (dt uX8_step_1 54 rfl) rfl (lv_at hl 1 rfl) ?_
              refine lv_dup hx hb (dt uX8_step_1 55 rfl) rfl ?_
              refine va_get (D := (dC, dI)) (ci := 8) (v := .int w_1) (C := RX8) (T := TX8) (N := 24) hx hb hts inU8 hown hK hP 0 rfl rfl 9 (by decide) (hts _ tw_342) (fun _ h9 => h9) rfl (dt uX8_step_1 56 rfl) ?_
              refine lv_iconst (v := (1 : Int32)) hx hb (dt uX8_step_1 57 rfl) (by decide) ?_
              refine lv_iadd hx hb (dt uX8_step_1 58 rfl) ?_
              refine va_put (D := (dC, dI)) (ci := 8) (v := .int (w_1 + (1 : Int32))) (ty := .int) (C := RX8) (T := TX8) (N := 24) hx hb hts inU8 tyX8 tyX8_ok nmX8 hown hK hP hD hS 0 rfl rfl 9 (by decide) (hts _ tw_342) (fun _ h9 => h9) rfl (by decide +kernel) rfl rfl (Nat.le_of_ble_eq_true rfl) (dt uX8_step_1 59 rfl) (fun H locs hP hD hS => ?_)
              have hP : va_P (dC, dI) vwCl [(ad0, oX8 v_trace ad_text v_typed ad_books ad_numberA ad_numberB ad_draftTouches v_draftOne v_oneTold (w_1 + (1 : Int32)) w_1 v_sort (0 : Int32) v_fault ad_now ad_isKept ad_near ad_seenDays ad_seenBook ad_seenIs v_seen v_sets v_inEach v_inSome), (ad_text, .inl (cB, 150, .inl a_text))] H := hP
              have hD : va_D A [(ad0, oX8 v_trace ad_text v_typed ad_books ad_numberA ad_numberB ad_draftTouches v_draftOne v_oneTold (w_1 + (1 : Int32)) w_1 v_sort (0 : Int32) v_fault ad_now ad_isKept ad_near ad_seenDays ad_seenBook ad_seenIs v_seen v_sets v_inEach v_inSome), (ad_text, .inl (cB, 150, .inl a_text))] := hD
              refine lv_aload_n hx hb (dt uX8_step_2 0 rfl) rfl (lv_at hl 1 rfl) ?_
              refine lv_iload_n hx hb (dt uX8_step_2 1 rfl) rfl (lv_at hl 0 rfl) ?_
              refine lv_bipush (v := (59 : Int32)) hx hb (dt uX8_step_2 2 rfl) (by decide) ?_
              refine lv_icmp_ne (tgt := 251) hx hb (dt uX8_step_2 3 rfl) (by decide) (fun c_12 => ?_) (fun c_12 => ?_)
              · have hf := vif_f c_12 hf
                refine lv_iconst (v := (4 : Int32)) hx hb (dt uX8_step_2 6 rfl) (by decide) ?_
                refine va_put (D := (dC, dI)) (ci := 8) (v := .int (4 : Int32)) (ty := .int) (C := RX8) (T := TX8) (N := 24) hx hb hts inU8 tyX8 tyX8_ok nmX8 hown hK hP hD hS 0 rfl rfl 11 (by decide) (hts _ tw_349) (fun _ h9 => h9) rfl (by decide +kernel) rfl rfl (Nat.le_of_ble_eq_true rfl) (dt uX8_step_2 7 rfl) (fun H locs hP hD hS => ?_)
                have hP : va_P (dC, dI) vwCl [(ad0, oX8 v_trace ad_text v_typed ad_books ad_numberA ad_numberB ad_draftTouches v_draftOne v_oneTold (w_1 + (1 : Int32)) w_1 (4 : Int32) (0 : Int32) v_fault ad_now ad_isKept ad_near ad_seenDays ad_seenBook ad_seenIs v_seen v_sets v_inEach v_inSome), (ad_text, .inl (cB, 150, .inl a_text))] H := hP
                have hD : va_D A [(ad0, oX8 v_trace ad_text v_typed ad_books ad_numberA ad_numberB ad_draftTouches v_draftOne v_oneTold (w_1 + (1 : Int32)) w_1 (4 : Int32) (0 : Int32) v_fault ad_now ad_isKept ad_near ad_seenDays ad_seenBook ad_seenIs v_seen v_sets v_inEach v_inSome), (ad_text, .inl (cB, 150, .inl a_text))] := hD
                have hf := Option.some.inj hf
                subst hf
                rw [hQ]
                exact vret_v C hP hD hS (dt uX8_step_2 8 rfl)
              · have hf := vif_t c_12 hf
                refine lv_iconst (v := (2 : Int32)) hx hb (dt uX8_step_2 4 rfl) (by decide) ?_
                refine lv_goto (tgt := 252) hx hb (dt uX8_step_2 5 rfl) (by decide) ?_
                refine va_put (D := (dC, dI)) (ci := 8) (v := .int (2 : Int32)) (ty := .int) (C := RX8) (T := TX8) (N := 24) hx hb hts inU8 tyX8 tyX8_ok nmX8 hown hK hP hD hS 0 rfl rfl 11 (by decide) (hts _ tw_349) (fun _ h9 => h9) rfl (by decide +kernel) rfl rfl (Nat.le_of_ble_eq_true rfl) (dt uX8_step_2 7 rfl) (fun H locs hP hD hS => ?_)
                have hP : va_P (dC, dI) vwCl [(ad0, oX8 v_trace ad_text v_typed ad_books ad_numberA ad_numberB ad_draftTouches v_draftOne v_oneTold (w_1 + (1 : Int32)) w_1 (2 : Int32) (0 : Int32) v_fault ad_now ad_isKept ad_near ad_seenDays ad_seenBook ad_seenIs v_seen v_sets v_inEach v_inSome), (ad_text, .inl (cB, 150, .inl a_text))] H := hP
                have hD : va_D A [(ad0, oX8 v_trace ad_text v_typed ad_books ad_numberA ad_numberB ad_draftTouches v_draftOne v_oneTold (w_1 + (1 : Int32)) w_1 (2 : Int32) (0 : Int32) v_fault ad_now ad_isKept ad_near ad_seenDays ad_seenBook ad_seenIs v_seen v_sets v_inEach v_inSome), (ad_text, .inl (cB, 150, .inl a_text))] := hD
                have hf := Option.some.inj hf
                subst hf
                rw [hQ]
                exact vret_v C hP hD hS (dt uX8_step_2 8 rfl)
            · have hf := vif_f c_11 hf
              have hL126 : ∀ (n126 : Nat), ∀ (w_13 : Int32) (w_14 : Int32) (H : Heap) (locs : List Loc) (ls : Array Slot), fX8_step_L126 a_text v_typed w_1 q_5 n126 w_13 w_14 = some q0 → va_P (dC, dI) vwCl [(ad0, oX8 v_trace ad_text v_typed ad_books ad_numberA ad_numberB ad_draftTouches v_draftOne v_oneTold w_13 w_1 v_sort w_14 v_fault ad_now ad_isKept ad_near ad_seenDays ad_seenBook ad_seenIs v_seen v_sets v_inEach v_inSome), (ad_text, .inl (cB, 150, .inl a_text))] H → va_D A [(ad0, oX8 v_trace ad_text v_typed ad_books ad_numberA ad_numberB ad_draftTouches v_draftOne v_oneTold w_13 w_1 v_sort w_14 v_fault ad_now ad_isKept ad_near ad_seenDays ad_seenBook ad_seenIs v_seen v_sets v_inEach v_inSome), (ad_text, .inl (cB, 150, .inl a_text))] → va_S A s.heap H locs → lv_has ls 2 [(0, .ref ad0), (1, .int q_5)] → W p l e rX8_step s m args below meth c H locs 0 0 Q (F0 m 126 ls []) := by
                intro n126
                induction n126 with
                | zero => intro w_13 w_14 H locs ls hf hP hD hS hl; cases hf
                | succ n126 ih126 =>
                  intro w_13 w_14 H locs ls hf hP hD hS hl
                  rw [fX8_step_L126] at hf
                  refine lv_aload_n hx hb (dt uX8_step_1 3 rfl) rfl (lv_at hl 0 rfl) ?_
                  obtain ⟨q_15, hq_16, hf⟩ := vbd hf
                  refine vk_i0 [0, 1] (va_runV (As := []) (rest := []) ⟨hx, hb, hml, hown, hts⟩ (kX8_here ad0 ad_text ad_books ad_numberA ad_numberB ad_draftTouches ad_now ad_isKept ad_near ad_seenDays ad_seenBook ad_seenIs v_trace v_typed v_draftOne v_oneTold w_13 w_1 v_sort w_14 v_fault v_seen v_sets v_inEach v_inSome a_text q_15 hq_16 H.size) (vcwV hts tw_344 tw_345 tw_346 tw_336 tw_343 hd_X8_here rfl rfl ⟨Nat.le_of_ble_eq_true rfl, Nat.le_of_ble_eq_true rfl⟩) (vpreV hK hN hP hD [0, 1] rfl (by decide) (ci := 8) (q0 := 0) rfl rfl) rfl rfl hl.1 rfl (lv_room (Nat.le_of_ble_eq_true rfl)) (dt uX8_step_1 4 rfl) ⟨Nat.zero_le _, Nat.zero_le _⟩) hA hP hD hS rfl (by decide) (fun H locs hP hD hS => ?_)
                  refine lv_bipush (v := (48 : Int32)) hx hb (dt uX8_step_1 5 rfl) (by decide) ?_
                  refine lv_bipush (v := (57 : Int32)) hx hb (dt uX8_step_1 6 rfl) (by decide) ?_
                  refine vk_z0 [] (va_runS (As := [.int q_15, .int (48 : Int32), .int (57 : Int32)]) (rest := []) ⟨hx, hb, hml, hown, hts⟩ (kX8_in q_15 (48 : Int32) (57 : Int32) _ rfl H.size) (vcwS hts tw_338 tw_339 tw_336 tw_337 hd_X8_in rfl rfl ⟨Nat.le_of_ble_eq_true rfl, Nat.le_of_ble_eq_true rfl⟩) (vpreS hK hN hP hD [] rfl (by decide)) rfl rfl hl.1 rfl (lv_room (Nat.le_of_ble_eq_true rfl)) (dt uX8_step_1 7 rfl) ⟨Nat.zero_le _, Nat.zero_le _⟩) hA hP hD hS rfl (by decide) (fun hz_17 H locs hP hD hS => ?_)
                  refine lv_if_eq (tgt := 189) hx hb (dt uX8_step_1 8 rfl) (by decide) (fun c_18 => ?_) (fun c_18 => ?_)
                  · have hf := vif_t c_18 hf
                    refine lv_aload_n hx hb (dt uX8_step_1 34 rfl) rfl (lv_at hl 0 rfl) ?_
                    refine lv_aload_n hx hb (dt uX8_step_1 35 rfl) rfl (lv_at hl 0 rfl) ?_
                    refine va_get (D := (dC, dI)) (ci := 8) (v := .int w_14) (C := RX8) (T := TX8) (N := 24) hx hb hts inU8 hown hK hP 0 rfl rfl 12 (by decide) (hts _ tw_348) (fun _ h9 => h9) rfl (dt uX8_step_1 36 rfl) ?_
                    refine lv_sipush (v := (999 : Int32)) hx hb (dt uX8_step_1 37 rfl) (by decide) ?_
                    refine lv_icmp_gt (tgt := 219) hx hb (dt uX8_step_1 38 rfl) (by decide) (fun c_19 => ?_) (fun c_19 => ?_)
                    · have hf := vif_t c_19 hf
                      refine lv_iconst (v := (4 : Int32)) hx hb (dt uX8_step_1 49 rfl) (by decide) ?_
                      refine lv_goto (tgt := 224) hx hb (dt uX8_step_1 50 rfl) (by decide) ?_
                      refine va_put (D := (dC, dI)) (ci := 8) (v := .int (4 : Int32)) (ty := .int) (C := RX8) (T := TX8) (N := 24) hx hb hts inU8 tyX8 tyX8_ok nmX8 hown hK hP hD hS 0 rfl rfl 11 (by decide) (hts _ tw_349) (fun _ h9 => h9) rfl (by decide +kernel) rfl rfl (Nat.le_of_ble_eq_true rfl) (dt uX8_step_1 52 rfl) (fun H locs hP hD hS => ?_)
                      have hP : va_P (dC, dI) vwCl [(ad0, oX8 v_trace ad_text v_typed ad_books ad_numberA ad_numberB ad_draftTouches v_draftOne v_oneTold w_13 w_1 (4 : Int32) w_14 v_fault ad_now ad_isKept ad_near ad_seenDays ad_seenBook ad_seenIs v_seen v_sets v_inEach v_inSome), (ad_text, .inl (cB, 150, .inl a_text))] H := hP
                      have hD : va_D A [(ad0, oX8 v_trace ad_text v_typed ad_books ad_numberA ad_numberB ad_draftTouches v_draftOne v_oneTold w_13 w_1 (4 : Int32) w_14 v_fault ad_now ad_isKept ad_near ad_seenDays ad_seenBook ad_seenIs v_seen v_sets v_inEach v_inSome), (ad_text, .inl (cB, 150, .inl a_text))] := hD
                      refine lv_goto (tgt := 255) hx hb (dt uX8_step_1 53 rfl) (by decide) ?_
                      have hf := Option.some.inj hf
                      subst hf
                      rw [hQ]
                      exact vret_v C hP hD hS (dt uX8_step_2 8 rfl)
                    · have hf := vif_f c_19 hf
                      refine lv_iload_n hx hb (dt uX8_step_1 39 rfl) rfl (lv_at hl 1 rfl) ?_
                      refine lv_bipush (v := (48 : Int32)) hx hb (dt uX8_step_1 40 rfl) (by decide) ?_
                      refine lv_icmp_ne (tgt := 223) hx hb (dt uX8_step_1 41 rfl) (by decide) (fun c_20 => ?_) (fun c_20 => ?_)
                      · have hf := vif_f c_20 hf
                        refine lv_iconst (v := (1 : Int32)) hx hb (dt uX8_step_1 51 rfl) (by decide) ?_
                        refine va_put (D := (dC, dI)) (ci := 8) (v := .int (1 : Int32)) (ty := .int) (C := RX8) (T := TX8) (N := 24) hx hb hts inU8 tyX8 tyX8_ok nmX8 hown hK hP hD hS 0 rfl rfl 11 (by decide) (hts _ tw_349) (fun _ h9 => h9) rfl (by decide +kernel) rfl rfl (Nat.le_of_ble_eq_true rfl) (dt uX8_step_1 52 rfl) (fun H locs hP hD hS => ?_)
                        have hP : va_P (dC, dI) vwCl [(ad0, oX8 v_trace ad_text v_typed ad_books ad_numberA ad_numberB ad_draftTouches v_draftOne v_oneTold w_13 w_1 (1 : Int32) w_14 v_fault ad_now ad_isKept ad_near ad_seenDays ad_seenBook ad_seenIs v_seen v_sets v_inEach v_inSome), (ad_text, .inl (cB, 150, .inl a_text))] H := hP
                        have hD : va_D A [(ad0, oX8 v_trace ad_text v_typed ad_books ad_numberA ad_numberB ad_draftTouches v_draftOne v_oneTold w_13 w_1 (1 : Int32) w_14 v_fault ad_now ad_isKept ad_near ad_seenDays ad_seenBook ad_seenIs v_seen v_sets v_inEach v_inSome), (ad_text, .inl (cB, 150, .inl a_text))] := hD
                        refine lv_goto (tgt := 255) hx hb (dt uX8_step_1 53 rfl) (by decide) ?_
                        have hf := Option.some.inj hf
                        subst hf
                        rw [hQ]
                        exact vret_v C hP hD hS (dt uX8_step_2 8 rfl)
                      · have hf := vif_t c_20 hf
                        refine lv_aload_n hx hb (dt uX8_step_1 42 rfl) rfl (lv_at hl 0 rfl) ?_
                        refine va_get (D := (dC, dI)) (ci := 8) (v := .int w_13) (C := RX8) (T := TX8) (N := 24) hx hb hts inU8 hown hK hP 0 rfl rfl 9 (by decide) (hts _ tw_342) (fun _ h9 => h9) rfl (dt uX8_step_1 43 rfl) ?_
                        refine lv_aload_n hx hb (dt uX8_step_1 44 rfl) rfl (lv_at hl 0 rfl) ?_
                        refine va_get (D := (dC, dI)) (ci := 8) (v := .int w_1) (C := RX8) (T := TX8) (N := 24) hx hb hts inU8 hown hK hP 0 rfl rfl 10 (by decide) (hts _ tw_347) (fun _ h9 => h9) rfl (dt uX8_step_1 45 rfl) ?_
                        refine lv_isub hx hb (dt uX8_step_1 46 rfl) ?_
                        refine lv_iconst (v := (1 : Int32)) hx hb (dt uX8_step_1 47 rfl) (by decide) ?_
                        refine lv_icmp_le (tgt := 223) hx hb (dt uX8_step_1 48 rfl) (by decide) (fun c_21 => ?_) (fun c_21 => ?_)
                        · have hf := vif_t c_21 hf
                          refine lv_iconst (v := (1 : Int32)) hx hb (dt uX8_step_1 51 rfl) (by decide) ?_
                          refine va_put (D := (dC, dI)) (ci := 8) (v := .int (1 : Int32)) (ty := .int) (C := RX8) (T := TX8) (N := 24) hx hb hts inU8 tyX8 tyX8_ok nmX8 hown hK hP hD hS 0 rfl rfl 11 (by decide) (hts _ tw_349) (fun _ h9 => h9) rfl (by decide +kernel) rfl rfl (Nat.le_of_ble_eq_true rfl) (dt uX8_step_1 52 rfl) (fun H locs hP hD hS => ?_)
                          have hP : va_P (dC, dI) vwCl [(ad0, oX8 v_trace ad_text v_typed ad_books ad_numberA ad_numberB ad_draftTouches v_draftOne v_oneTold w_13 w_1 (1 : Int32) w_14 v_fault ad_now ad_isKept ad_near ad_seenDays ad_seenBook ad_seenIs v_seen v_sets v_inEach v_inSome), (ad_text, .inl (cB, 150, .inl a_text))] H := hP
                          have hD : va_D A [(ad0, oX8 v_trace ad_text v_typed ad_books ad_numberA ad_numberB ad_draftTouches v_draftOne v_oneTold w_13 w_1 (1 : Int32) w_14 v_fault ad_now ad_isKept ad_near ad_seenDays ad_seenBook ad_seenIs v_seen v_sets v_inEach v_inSome), (ad_text, .inl (cB, 150, .inl a_text))] := hD
                          refine lv_goto (tgt := 255) hx hb (dt uX8_step_1 53 rfl) (by decide) ?_
                          have hf := Option.some.inj hf
                          subst hf
                          rw [hQ]
                          exact vret_v C hP hD hS (dt uX8_step_2 8 rfl)
                        · have hf := vif_f c_21 hf
                          refine lv_iconst (v := (4 : Int32)) hx hb (dt uX8_step_1 49 rfl) (by decide) ?_
                          refine lv_goto (tgt := 224) hx hb (dt uX8_step_1 50 rfl) (by decide) ?_
                          refine va_put (D := (dC, dI)) (ci := 8) (v := .int (4 : Int32)) (ty := .int) (C := RX8) (T := TX8) (N := 24) hx hb hts inU8 tyX8 tyX8_ok nmX8 hown hK hP hD hS 0 rfl rfl 11 (by decide) (hts _ tw_349) (fun _ h9 => h9) rfl (by decide +kernel) rfl rfl (Nat.le_of_ble_eq_true rfl) (dt uX8_step_1 52 rfl) (fun H locs hP hD hS => ?_)
                          have hP : va_P (dC, dI) vwCl [(ad0, oX8 v_trace ad_text v_typed ad_books ad_numberA ad_numberB ad_draftTouches v_draftOne v_oneTold w_13 w_1 (4 : Int32) w_14 v_fault ad_now ad_isKept ad_near ad_seenDays ad_seenBook ad_seenIs v_seen v_sets v_inEach v_inSome), (ad_text, .inl (cB, 150, .inl a_text))] H := hP
                          have hD : va_D A [(ad0, oX8 v_trace ad_text v_typed ad_books ad_numberA ad_numberB ad_draftTouches v_draftOne v_oneTold w_13 w_1 (4 : Int32) w_14 v_fault ad_now ad_isKept ad_near ad_seenDays ad_seenBook ad_seenIs v_seen v_sets v_inEach v_inSome), (ad_text, .inl (cB, 150, .inl a_text))] := hD
                          refine lv_goto (tgt := 255) hx hb (dt uX8_step_1 53 rfl) (by decide) ?_
                          have hf := Option.some.inj hf
                          subst hf
                          rw [hQ]
                          exact vret_v C hP hD hS (dt uX8_step_2 8 rfl)
                  · have hf := vif_f c_18 hf
                    refine lv_aload_n hx hb (dt uX8_step_1 9 rfl) rfl (lv_at hl 0 rfl) ?_
                    refine lv_aload_n hx hb (dt uX8_step_1 10 rfl) rfl (lv_at hl 0 rfl) ?_
                    refine va_get (D := (dC, dI)) (ci := 8) (v := .int w_14) (C := RX8) (T := TX8) (N := 24) hx hb hts inU8 hown hK hP 0 rfl rfl 12 (by decide) (hts _ tw_348) (fun _ h9 => h9) rfl (dt uX8_step_1 11 rfl) ?_
                    refine lv_sipush (v := (999 : Int32)) hx hb (dt uX8_step_1 12 rfl) (by decide) ?_
                    have hJ173 : ∀ (y1_24 : Int32) (H : Heap) (locs : List Loc) (ls : Array Slot), fX8_step_J173 w_13 (fun z126_0 z126_1 => fX8_step_L126 a_text v_typed w_1 q_5 n126 z126_0 z126_1) y1_24 = some q0 → va_P (dC, dI) vwCl [(ad0, oX8 v_trace ad_text v_typed ad_books ad_numberA ad_numberB ad_draftTouches v_draftOne v_oneTold w_13 w_1 v_sort w_14 v_fault ad_now ad_isKept ad_near ad_seenDays ad_seenBook ad_seenIs v_seen v_sets v_inEach v_inSome), (ad_text, .inl (cB, 150, .inl a_text))] H → va_D A [(ad0, oX8 v_trace ad_text v_typed ad_books ad_numberA ad_numberB ad_draftTouches v_draftOne v_oneTold w_13 w_1 v_sort w_14 v_fault ad_now ad_isKept ad_near ad_seenDays ad_seenBook ad_seenIs v_seen v_sets v_inEach v_inSome), (ad_text, .inl (cB, 150, .inl a_text))] → va_S A s.heap H locs → lv_has ls 2 [(0, .ref ad0), (1, .int q_5)] → W p l e rX8_step s m args below meth c H locs 0 0 Q (F0 m 173 ls [.int y1_24, .ref ad0]) := by
                      intro y1_24 H locs ls hf hP hD hS hl
                      unfold fX8_step_J173 at hf
                      refine va_put (D := (dC, dI)) (ci := 8) (v := .int y1_24) (ty := .int) (C := RX8) (T := TX8) (N := 24) hx hb hts inU8 tyX8 tyX8_ok nmX8 hown hK hP hD hS 0 rfl rfl 12 (by decide) (hts _ tw_348) (fun _ h9 => h9) rfl (by decide +kernel) rfl rfl (Nat.le_of_ble_eq_true rfl) (dt uX8_step_1 26 rfl) (fun H locs hP hD hS => ?_)
                      have hP : va_P (dC, dI) vwCl [(ad0, oX8 v_trace ad_text v_typed ad_books ad_numberA ad_numberB ad_draftTouches v_draftOne v_oneTold w_13 w_1 v_sort y1_24 v_fault ad_now ad_isKept ad_near ad_seenDays ad_seenBook ad_seenIs v_seen v_sets v_inEach v_inSome), (ad_text, .inl (cB, 150, .inl a_text))] H := hP
                      have hD : va_D A [(ad0, oX8 v_trace ad_text v_typed ad_books ad_numberA ad_numberB ad_draftTouches v_draftOne v_oneTold w_13 w_1 v_sort y1_24 v_fault ad_now ad_isKept ad_near ad_seenDays ad_seenBook ad_seenIs v_seen v_sets v_inEach v_inSome), (ad_text, .inl (cB, 150, .inl a_text))] := hD
                      refine lv_aload_n hx hb (dt uX8_step_1 27 rfl) rfl (lv_at hl 0 rfl) ?_
                      refine lv_dup hx hb (dt uX8_step_1 28 rfl) rfl ?_
                      refine va_get (D := (dC, dI)) (ci := 8) (v := .int w_13) (C := RX8) (T := TX8) (N := 24) hx hb hts inU8 hown hK hP 0 rfl rfl 9 (by decide) (hts _ tw_342) (fun _ h9 => h9) rfl (dt uX8_step_1 29 rfl) ?_
                      refine lv_iconst (v := (1 : Int32)) hx hb (dt uX8_step_1 30 rfl) (by decide) ?_
                      refine lv_iadd hx hb (dt uX8_step_1 31 rfl) ?_
                      refine va_put (D := (dC, dI)) (ci := 8) (v := .int (w_13 + (1 : Int32))) (ty := .int) (C := RX8) (T := TX8) (N := 24) hx hb hts inU8 tyX8 tyX8_ok nmX8 hown hK hP hD hS 0 rfl rfl 9 (by decide) (hts _ tw_342) (fun _ h9 => h9) rfl (by decide +kernel) rfl rfl (Nat.le_of_ble_eq_true rfl) (dt uX8_step_1 32 rfl) (fun H locs hP hD hS => ?_)
                      have hP : va_P (dC, dI) vwCl [(ad0, oX8 v_trace ad_text v_typed ad_books ad_numberA ad_numberB ad_draftTouches v_draftOne v_oneTold (w_13 + (1 : Int32)) w_1 v_sort y1_24 v_fault ad_now ad_isKept ad_near ad_seenDays ad_seenBook ad_seenIs v_seen v_sets v_inEach v_inSome), (ad_text, .inl (cB, 150, .inl a_text))] H := hP
                      have hD : va_D A [(ad0, oX8 v_trace ad_text v_typed ad_books ad_numberA ad_numberB ad_draftTouches v_draftOne v_oneTold (w_13 + (1 : Int32)) w_1 v_sort y1_24 v_fault ad_now ad_isKept ad_near ad_seenDays ad_seenBook ad_seenIs v_seen v_sets v_inEach v_inSome), (ad_text, .inl (cB, 150, .inl a_text))] := hD
                      refine lv_goto (tgt := 126) hx hb (dt uX8_step_1 33 rfl) (by decide) ?_
                      exact ih126 (w_13 + (1 : Int32)) y1_24 _ _ _ hf hP hD hS (lv_sub hl [0, 1] rfl)
                    refine lv_icmp_le (tgt := 158) hx hb (dt uX8_step_1 13 rfl) (by decide) (fun c_25 => ?_) (fun c_25 => ?_)
                    · have hf := vif_t c_25 hf
                      refine lv_bipush (v := (10 : Int32)) hx hb (dt uX8_step_1 17 rfl) (by decide) ?_
                      refine lv_aload_n hx hb (dt uX8_step_1 18 rfl) rfl (lv_at hl 0 rfl) ?_
                      refine va_get (D := (dC, dI)) (ci := 8) (v := .int w_14) (C := RX8) (T := TX8) (N := 24) hx hb hts inU8 hown hK hP 0 rfl rfl 12 (by decide) (hts _ tw_348) (fun _ h9 => h9) rfl (dt uX8_step_1 19 rfl) ?_
                      refine lv_imul hx hb (dt uX8_step_1 20 rfl) ?_
                      refine lv_aload_n hx hb (dt uX8_step_1 21 rfl) rfl (lv_at hl 0 rfl) ?_
                      obtain ⟨q_26, hq_27, hf⟩ := vbd hf
                      refine vk_i0 [0, 1] (va_runV (As := []) (rest := [.int ((10 : Int32) * w_14), .ref ad0]) ⟨hx, hb, hml, hown, hts⟩ (kX8_here ad0 ad_text ad_books ad_numberA ad_numberB ad_draftTouches ad_now ad_isKept ad_near ad_seenDays ad_seenBook ad_seenIs v_trace v_typed v_draftOne v_oneTold w_13 w_1 v_sort w_14 v_fault v_seen v_sets v_inEach v_inSome a_text q_26 hq_27 H.size) (vcwV hts tw_344 tw_345 tw_346 tw_336 tw_343 hd_X8_here rfl rfl ⟨Nat.le_of_ble_eq_true rfl, Nat.le_of_ble_eq_true rfl⟩) (vpreV hK hN hP hD [0, 1] rfl (by decide) (ci := 8) (q0 := 0) rfl rfl) rfl rfl hl.1 rfl (lv_room (Nat.le_of_ble_eq_true rfl)) (dt uX8_step_1 22 rfl) ⟨Nat.zero_le _, Nat.zero_le _⟩) hA hP hD hS rfl (by decide) (fun H locs hP hD hS => ?_)
                      refine lv_iadd hx hb (dt uX8_step_1 23 rfl) ?_
                      refine lv_bipush (v := (48 : Int32)) hx hb (dt uX8_step_1 24 rfl) (by decide) ?_
                      refine lv_isub hx hb (dt uX8_step_1 25 rfl) ?_
                      exact hJ173 ((((10 : Int32) * w_14) + q_26) - (48 : Int32)) _ _ _ hf hP hD hS (lv_sub hl [0, 1] rfl)
                    · have hf := vif_f c_25 hf
                      refine lv_aload_n hx hb (dt uX8_step_1 14 rfl) rfl (lv_at hl 0 rfl) ?_
                      refine va_get (D := (dC, dI)) (ci := 8) (v := .int w_14) (C := RX8) (T := TX8) (N := 24) hx hb hts inU8 hown hK hP 0 rfl rfl 12 (by decide) (hts _ tw_348) (fun _ h9 => h9) rfl (dt uX8_step_1 15 rfl) ?_
                      refine lv_goto (tgt := 173) hx hb (dt uX8_step_1 16 rfl) (by decide) ?_
                      exact hJ173 w_14 _ _ _ hf hP hD hS (lv_sub hl [0, 1] rfl)
              exact hL126 N w_1 (0 : Int32) _ _ _ hf hP hD hS (lv_sub hl [1, 0] rfl)
          · have hf := vif_f c_9 hf
            have hL63 : ∀ (n63 : Nat), ∀ (w_28 : Int32) (H : Heap) (locs : List Loc) (ls : Array Slot), fX8_step_L63 a_text v_typed w_1 q_5 n63 w_28 = some q0 → va_P (dC, dI) vwCl [(ad0, oX8 v_trace ad_text v_typed ad_books ad_numberA ad_numberB ad_draftTouches v_draftOne v_oneTold w_28 w_1 v_sort (0 : Int32) v_fault ad_now ad_isKept ad_near ad_seenDays ad_seenBook ad_seenIs v_seen v_sets v_inEach v_inSome), (ad_text, .inl (cB, 150, .inl a_text))] H → va_D A [(ad0, oX8 v_trace ad_text v_typed ad_books ad_numberA ad_numberB ad_draftTouches v_draftOne v_oneTold w_28 w_1 v_sort (0 : Int32) v_fault ad_now ad_isKept ad_near ad_seenDays ad_seenBook ad_seenIs v_seen v_sets v_inEach v_inSome), (ad_text, .inl (cB, 150, .inl a_text))] → va_S A s.heap H locs → lv_has ls 2 [(0, .ref ad0), (1, .int q_5)] → W p l e rX8_step s m args below meth c H locs 0 0 Q (F0 m 63 ls []) := by
              intro n63
              induction n63 with
              | zero => intro w_28 H locs ls hf hP hD hS hl; cases hf
              | succ n63 ih63 =>
                intro w_28 H locs ls hf hP hD hS hl
                rw [fX8_step_L63] at hf
                refine lv_aload_n hx hb (dt uX8_step_0 32 rfl) rfl (lv_at hl 0 rfl) ?_
                obtain ⟨q_29, hq_30, hf⟩ := vbd hf
                refine vk_i0 [0, 1] (va_runV (As := []) (rest := []) ⟨hx, hb, hml, hown, hts⟩ (kX8_here ad0 ad_text ad_books ad_numberA ad_numberB ad_draftTouches ad_now ad_isKept ad_near ad_seenDays ad_seenBook ad_seenIs v_trace v_typed v_draftOne v_oneTold w_28 w_1 v_sort (0 : Int32) v_fault v_seen v_sets v_inEach v_inSome a_text q_29 hq_30 H.size) (vcwV hts tw_344 tw_345 tw_346 tw_336 tw_343 hd_X8_here rfl rfl ⟨Nat.le_of_ble_eq_true rfl, Nat.le_of_ble_eq_true rfl⟩) (vpreV hK hN hP hD [0, 1] rfl (by decide) (ci := 8) (q0 := 0) rfl rfl) rfl rfl hl.1 rfl (lv_room (Nat.le_of_ble_eq_true rfl)) (dt uX8_step_0 33 rfl) ⟨Nat.zero_le _, Nat.zero_le _⟩) hA hP hD hS rfl (by decide) (fun H locs hP hD hS => ?_)
                refine lv_bipush (v := (97 : Int32)) hx hb (dt uX8_step_0 34 rfl) (by decide) ?_
                refine lv_bipush (v := (122 : Int32)) hx hb (dt uX8_step_0 35 rfl) (by decide) ?_
                refine vk_z0 [] (va_runS (As := [.int q_29, .int (97 : Int32), .int (122 : Int32)]) (rest := []) ⟨hx, hb, hml, hown, hts⟩ (kX8_in q_29 (97 : Int32) (122 : Int32) _ rfl H.size) (vcwS hts tw_338 tw_339 tw_336 tw_337 hd_X8_in rfl rfl ⟨Nat.le_of_ble_eq_true rfl, Nat.le_of_ble_eq_true rfl⟩) (vpreS hK hN hP hD [] rfl (by decide)) rfl rfl hl.1 rfl (lv_room (Nat.le_of_ble_eq_true rfl)) (dt uX8_step_0 36 rfl) ⟨Nat.zero_le _, Nat.zero_le _⟩) hA hP hD hS rfl (by decide) (fun hz_31 H locs hP hD hS => ?_)
                refine lv_if_eq (tgt := 90) hx hb (dt uX8_step_0 37 rfl) (by decide) (fun c_32 => ?_) (fun c_32 => ?_)
                · have hf := vif_t c_32 hf
                  refine lv_aload_n hx hb (dt uX8_step_0 45 rfl) rfl (lv_at hl 0 rfl) ?_
                  refine lv_aload_n hx hb (dt uX8_step_0 46 rfl) rfl (lv_at hl 0 rfl) ?_
                  refine va_get (D := (dC, dI)) (ci := 8) (v := .int w_28) (C := RX8) (T := TX8) (N := 24) hx hb hts inU8 hown hK hP 0 rfl rfl 9 (by decide) (hts _ tw_342) (fun _ h9 => h9) rfl (dt uX8_step_0 47 rfl) ?_
                  refine lv_aload_n hx hb (dt uX8_step_0 48 rfl) rfl (lv_at hl 0 rfl) ?_
                  refine va_get (D := (dC, dI)) (ci := 8) (v := .int w_1) (C := RX8) (T := TX8) (N := 24) hx hb hts inU8 hown hK hP 0 rfl rfl 10 (by decide) (hts _ tw_347) (fun _ h9 => h9) rfl (dt uX8_step_0 49 rfl) ?_
                  refine lv_isub hx hb (dt uX8_step_0 50 rfl) ?_
                  refine lv_iconst (v := (1 : Int32)) hx hb (dt uX8_step_0 51 rfl) (by decide) ?_
                  refine lv_icmp_ne (tgt := 108) hx hb (dt uX8_step_0 52 rfl) (by decide) (fun c_33 => ?_) (fun c_33 => ?_)
                  · have hf := vif_f c_33 hf
                    refine lv_iconst (v := (4 : Int32)) hx hb (dt uX8_step_0 55 rfl) (by decide) ?_
                    refine va_put (D := (dC, dI)) (ci := 8) (v := .int (4 : Int32)) (ty := .int) (C := RX8) (T := TX8) (N := 24) hx hb hts inU8 tyX8 tyX8_ok nmX8 hown hK hP hD hS 0 rfl rfl 11 (by decide) (hts _ tw_349) (fun _ h9 => h9) rfl (by decide +kernel) rfl rfl (Nat.le_of_ble_eq_true rfl) (dt uX8_step_0 56 rfl) (fun H locs hP hD hS => ?_)
                    have hP : va_P (dC, dI) vwCl [(ad0, oX8 v_trace ad_text v_typed ad_books ad_numberA ad_numberB ad_draftTouches v_draftOne v_oneTold w_28 w_1 (4 : Int32) (0 : Int32) v_fault ad_now ad_isKept ad_near ad_seenDays ad_seenBook ad_seenIs v_seen v_sets v_inEach v_inSome), (ad_text, .inl (cB, 150, .inl a_text))] H := hP
                    have hD : va_D A [(ad0, oX8 v_trace ad_text v_typed ad_books ad_numberA ad_numberB ad_draftTouches v_draftOne v_oneTold w_28 w_1 (4 : Int32) (0 : Int32) v_fault ad_now ad_isKept ad_near ad_seenDays ad_seenBook ad_seenIs v_seen v_sets v_inEach v_inSome), (ad_text, .inl (cB, 150, .inl a_text))] := hD
                    refine lv_goto (tgt := 255) hx hb (dt uX8_step_0 57 rfl) (by decide) ?_
                    have hf := Option.some.inj hf
                    subst hf
                    rw [hQ]
                    exact vret_v C hP hD hS (dt uX8_step_2 8 rfl)
                  · have hf := vif_t c_33 hf
                    refine lv_iload_n hx hb (dt uX8_step_0 53 rfl) rfl (lv_at hl 1 rfl) ?_
                    refine lv_goto (tgt := 109) hx hb (dt uX8_step_0 54 rfl) (by decide) ?_
                    refine va_put (D := (dC, dI)) (ci := 8) (v := .int q_5) (ty := .int) (C := RX8) (T := TX8) (N := 24) hx hb hts inU8 tyX8 tyX8_ok nmX8 hown hK hP hD hS 0 rfl rfl 11 (by decide) (hts _ tw_349) (fun _ h9 => h9) rfl (by decide +kernel) rfl rfl (Nat.le_of_ble_eq_true rfl) (dt uX8_step_0 56 rfl) (fun H locs hP hD hS => ?_)
                    have hP : va_P (dC, dI) vwCl [(ad0, oX8 v_trace ad_text v_typed ad_books ad_numberA ad_numberB ad_draftTouches v_draftOne v_oneTold w_28 w_1 q_5 (0 : Int32) v_fault ad_now ad_isKept ad_near ad_seenDays ad_seenBook ad_seenIs v_seen v_sets v_inEach v_inSome), (ad_text, .inl (cB, 150, .inl a_text))] H := hP
                    have hD : va_D A [(ad0, oX8 v_trace ad_text v_typed ad_books ad_numberA ad_numberB ad_draftTouches v_draftOne v_oneTold w_28 w_1 q_5 (0 : Int32) v_fault ad_now ad_isKept ad_near ad_seenDays ad_seenBook ad_seenIs v_seen v_sets v_inEach v_inSome), (ad_text, .inl (cB, 150, .inl a_text))] := hD
                    refine lv_goto (tgt := 255) hx hb (dt uX8_step_0 57 rfl) (by decide) ?_
                    have hf := Option.some.inj hf
                    subst hf
                    rw [hQ]
                    exact vret_v C hP hD hS (dt uX8_step_2 8 rfl)
                · have hf := vif_f c_32 hf
                  refine lv_aload_n hx hb (dt uX8_step_0 38 rfl) rfl (lv_at hl 0 rfl) ?_
                  refine lv_dup hx hb (dt uX8_step_0 39 rfl) rfl ?_
                  refine va_get (D := (dC, dI)) (ci := 8) (v := .int w_28) (C := RX8) (T := TX8) (N := 24) hx hb hts inU8 hown hK hP 0 rfl rfl 9 (by decide) (hts _ tw_342) (fun _ h9 => h9) rfl (dt uX8_step_0 40 rfl) ?_
                  refine lv_iconst (v := (1 : Int32)) hx hb (dt uX8_step_0 41 rfl) (by decide) ?_
                  refine lv_iadd hx hb (dt uX8_step_0 42 rfl) ?_
                  refine va_put (D := (dC, dI)) (ci := 8) (v := .int (w_28 + (1 : Int32))) (ty := .int) (C := RX8) (T := TX8) (N := 24) hx hb hts inU8 tyX8 tyX8_ok nmX8 hown hK hP hD hS 0 rfl rfl 9 (by decide) (hts _ tw_342) (fun _ h9 => h9) rfl (by decide +kernel) rfl rfl (Nat.le_of_ble_eq_true rfl) (dt uX8_step_0 43 rfl) (fun H locs hP hD hS => ?_)
                  have hP : va_P (dC, dI) vwCl [(ad0, oX8 v_trace ad_text v_typed ad_books ad_numberA ad_numberB ad_draftTouches v_draftOne v_oneTold (w_28 + (1 : Int32)) w_1 v_sort (0 : Int32) v_fault ad_now ad_isKept ad_near ad_seenDays ad_seenBook ad_seenIs v_seen v_sets v_inEach v_inSome), (ad_text, .inl (cB, 150, .inl a_text))] H := hP
                  have hD : va_D A [(ad0, oX8 v_trace ad_text v_typed ad_books ad_numberA ad_numberB ad_draftTouches v_draftOne v_oneTold (w_28 + (1 : Int32)) w_1 v_sort (0 : Int32) v_fault ad_now ad_isKept ad_near ad_seenDays ad_seenBook ad_seenIs v_seen v_sets v_inEach v_inSome), (ad_text, .inl (cB, 150, .inl a_text))] := hD
                  refine lv_goto (tgt := 63) hx hb (dt uX8_step_0 44 rfl) (by decide) ?_
                  exact ih63 (w_28 + (1 : Int32)) _ _ _ hf hP hD hS (lv_sub hl [0, 1] rfl)
            exact hL63 N w_1 _ _ _ hf hP hD hS (lv_sub hl [1, 0] rfl)
        · have hf := vif_f c_7 hf
          refine lv_aload_n hx hb (dt uX8_step_0 23 rfl) rfl (lv_at hl 1 rfl) ?_
          refine lv_iconst (v := (3 : Int32)) hx hb (dt uX8_step_0 24 rfl) (by decide) ?_
          refine va_put (D := (dC, dI)) (ci := 8) (v := .int (3 : Int32)) (ty := .int) (C := RX8) (T := TX8) (N := 24) hx hb hts inU8 tyX8 tyX8_ok nmX8 hown hK hP hD hS 0 rfl rfl 11 (by decide) (hts _ tw_349) (fun _ h9 => h9) rfl (by decide +kernel) rfl rfl (Nat.le_of_ble_eq_true rfl) (dt uX8_step_0 25 rfl) (fun H locs hP hD hS => ?_)
          have hP : va_P (dC, dI) vwCl [(ad0, oX8 v_trace ad_text v_typed ad_books ad_numberA ad_numberB ad_draftTouches v_draftOne v_oneTold w_1 w_1 (3 : Int32) (0 : Int32) v_fault ad_now ad_isKept ad_near ad_seenDays ad_seenBook ad_seenIs v_seen v_sets v_inEach v_inSome), (ad_text, .inl (cB, 150, .inl a_text))] H := hP
          have hD : va_D A [(ad0, oX8 v_trace ad_text v_typed ad_books ad_numberA ad_numberB ad_draftTouches v_draftOne v_oneTold w_1 w_1 (3 : Int32) (0 : Int32) v_fault ad_now ad_isKept ad_near ad_seenDays ad_seenBook ad_seenIs v_seen v_sets v_inEach v_inSome), (ad_text, .inl (cB, 150, .inl a_text))] := hD
          refine lv_goto (tgt := 255) hx hb (dt uX8_step_0 26 rfl) (by decide) ?_
          have hf := Option.some.inj hf
          subst hf
          rw [hQ]
          exact vret_v C hP hD hS (dt uX8_step_2 8 rfl)
      · have hf := vif_t c_4 hf
        refine lv_aload_n hx hb (dt uX8_step_0 4 rfl) rfl (lv_at hl 0 rfl) ?_
        refine lv_dup hx hb (dt uX8_step_0 5 rfl) rfl ?_
        refine va_get (D := (dC, dI)) (ci := 8) (v := .int w_1) (C := RX8) (T := TX8) (N := 24) hx hb hts inU8 hown hK hP 0 rfl rfl 9 (by decide) (hts _ tw_342) (fun _ h9 => h9) rfl (dt uX8_step_0 6 rfl) ?_
        refine lv_iconst (v := (1 : Int32)) hx hb (dt uX8_step_0 7 rfl) (by decide) ?_
        refine lv_iadd hx hb (dt uX8_step_0 8 rfl) ?_
        refine va_put (D := (dC, dI)) (ci := 8) (v := .int (w_1 + (1 : Int32))) (ty := .int) (C := RX8) (T := TX8) (N := 24) hx hb hts inU8 tyX8 tyX8_ok nmX8 hown hK hP hD hS 0 rfl rfl 9 (by decide) (hts _ tw_342) (fun _ h9 => h9) rfl (by decide +kernel) rfl rfl (Nat.le_of_ble_eq_true rfl) (dt uX8_step_0 9 rfl) (fun H locs hP hD hS => ?_)
        have hP : va_P (dC, dI) vwCl [(ad0, oX8 v_trace ad_text v_typed ad_books ad_numberA ad_numberB ad_draftTouches v_draftOne v_oneTold (w_1 + (1 : Int32)) v_start v_sort v_value v_fault ad_now ad_isKept ad_near ad_seenDays ad_seenBook ad_seenIs v_seen v_sets v_inEach v_inSome), (ad_text, .inl (cB, 150, .inl a_text))] H := hP
        have hD : va_D A [(ad0, oX8 v_trace ad_text v_typed ad_books ad_numberA ad_numberB ad_draftTouches v_draftOne v_oneTold (w_1 + (1 : Int32)) v_start v_sort v_value v_fault ad_now ad_isKept ad_near ad_seenDays ad_seenBook ad_seenIs v_seen v_sets v_inEach v_inSome), (ad_text, .inl (cB, 150, .inl a_text))] := hD
        refine lv_goto (tgt := 0) hx hb (dt uX8_step_0 10 rfl) (by decide) ?_
        exact ih0 (w_1 + (1 : Int32)) _ _ _ hf hP hD hS (lv_sub hl [0] rfl)
  exact hL0 N v_at _ _ _ hf hP hD hS (lv_sub hl [0] rfl)
abbrev rX8_due : Room := { frames := 2, cells := 0, slots := 0, locals := 43 }
abbrev wX8_due : List Cond := Cond.code yX8_due cX8_due 3 (some .int) :: VT
set_option maxHeartbeats 4000000 in
set_option maxRecDepth 100000 in
theorem kX8_due (ad0 : Nat) (ad_text : Nat) (ad_books : Nat) (ad_numberA : Nat) (ad_numberB : Nat) (ad_draftTouches : Nat) (ad_now : Nat) (ad_isKept : Nat) (ad_near : Nat) (ad_seenDays : Nat) (ad_seenBook : Nat) (ad_seenIs : Nat) (v_trace : Int64) (v_typed : Int32) (v_draftOne : Int32) (v_oneTold : Int32) (v_at : Int32) (v_start : Int32) (v_sort : Int32) (v_value : Int32) (v_fault : Int32) (v_seen : Int32) (v_sets : Int32) (v_inEach : Int32) (v_inSome : Int32) (a_text : Nat → Int32) (p1 : Int32) (N : Nat) (q0 : (Int32 × Int32 × Int32 × Int32 × Int32 × Int32)) (hf : fX8_due N a_text v_typed v_at v_start v_sort v_value v_fault p1 = some q0) : Ki l yX8_due wX8_due rX8_due (dC, dI) (vTy cI cJ cB cZ) [.ref ad0, .int p1] [(ad0, oX8 v_trace ad_text v_typed ad_books ad_numberA ad_numberB ad_draftTouches v_draftOne v_oneTold v_at v_start v_sort v_value v_fault ad_now ad_isKept ad_near ad_seenDays ad_seenBook ad_seenIs v_seen v_sets v_inEach v_inSome), (ad_text, .inl (cB, 150, .inl a_text))] [(ad0, oX8 v_trace ad_text v_typed ad_books ad_numberA ad_numberB ad_draftTouches v_draftOne v_oneTold q0.2.1 q0.2.2.1 q0.2.2.2.1 q0.2.2.2.2.1 q0.2.2.2.2.2 ad_now ad_isKept ad_near ad_seenDays ad_seenBook ad_seenIs v_seen v_sets v_inEach v_inSome), (ad_text, .inl (cB, 150, .inl a_text))] q0.1 := by
  refine Ki.mk (cc := cX8_due) (maxL := 3) (ret := some .int) (by decide) (Nat.le_of_ble_eq_true rfl) ?_
  intro p e s m args below meth c A Q H locs C hQ hP hD hS ls hl
  obtain ⟨hx, hb, -, hml, hts, hown, -, hK, hN, hA⟩ := id C
  have hown : s.vm.findClass RX8 = some m.cls := hown
  have hl : lv_has ls 3 [(0, .ref ad0), (1, .int p1)] := hl
  unfold fX8_due at hf
  refine lv_aload_n hx hb (dt uX8_due 0 rfl) rfl (lv_at hl 0 rfl) ?_
  refine va_get (D := (dC, dI)) (ci := 8) (v := .int v_value) (C := RX8) (T := TX8) (N := 24) hx hb hts inU8 hown hK hP 0 rfl rfl 12 (by decide) (hts _ tw_348) (fun _ h9 => h9) rfl (dt uX8_due 1 rfl) ?_
  refine lv_istore_n (lv' := [(2, .int v_value), (0, .ref ad0), (1, .int p1)]) hx hb (dt uX8_due 2 rfl) rfl hl (by decide) rfl (fun ls hl => ?_)
  refine lv_aload_n hx hb (dt uX8_due 3 rfl) rfl (lv_at hl 1 rfl) ?_
  refine va_get (D := (dC, dI)) (ci := 8) (v := .int v_fault) (C := RX8) (T := TX8) (N := 24) hx hb hts inU8 hown hK hP 0 rfl rfl 13 (by decide) (hts _ tw_350) (fun _ h9 => h9) rfl (dt uX8_due 4 rfl) ?_
  refine lv_bipush (v := (-9 : Int32)) hx hb (dt uX8_due 5 rfl) (by decide) ?_
  refine lv_icmp_ne (tgt := 33) hx hb (dt uX8_due 6 rfl) (by decide) (fun c_1 => ?_) (fun c_1 => ?_)
  · have hf := vif_f c_1 hf
    refine lv_iload_n hx hb (dt uX8_due 16 rfl) rfl (lv_at hl 0 rfl) ?_
    have hf := Option.some.inj hf
    subst hf
    rw [hQ]
    exact vret_i C hP hD hS (dt uX8_due 17 rfl)
  · have hf := vif_t c_1 hf
    refine lv_iload_n hx hb (dt uX8_due 7 rfl) rfl (lv_at hl 2 rfl) ?_
    refine lv_if_eq (tgt := 25) hx hb (dt uX8_due 8 rfl) (by decide) (fun c_2 => ?_) (fun c_2 => ?_)
    · have hf := vif_t c_2 hf
      refine lv_aload_n hx hb (dt uX8_due 12 rfl) rfl (lv_at hl 1 rfl) ?_
      refine lv_aload_n hx hb (dt uX8_due 13 rfl) rfl (lv_at hl 1 rfl) ?_
      refine va_get (D := (dC, dI)) (ci := 8) (v := .int v_start) (C := RX8) (T := TX8) (N := 24) hx hb hts inU8 hown hK hP 0 rfl rfl 10 (by decide) (hts _ tw_347) (fun _ h9 => h9) rfl (dt uX8_due 14 rfl) ?_
      refine va_put (D := (dC, dI)) (ci := 8) (v := .int v_start) (ty := .int) (C := RX8) (T := TX8) (N := 24) hx hb hts inU8 tyX8 tyX8_ok nmX8 hown hK hP hD hS 0 rfl rfl 13 (by decide) (hts _ tw_350) (fun _ h9 => h9) rfl (by decide +kernel) rfl rfl (Nat.le_of_ble_eq_true rfl) (dt uX8_due 15 rfl) (fun H locs hP hD hS => ?_)
      have hP : va_P (dC, dI) vwCl [(ad0, oX8 v_trace ad_text v_typed ad_books ad_numberA ad_numberB ad_draftTouches v_draftOne v_oneTold v_at v_start v_sort v_value v_start ad_now ad_isKept ad_near ad_seenDays ad_seenBook ad_seenIs v_seen v_sets v_inEach v_inSome), (ad_text, .inl (cB, 150, .inl a_text))] H := hP
      have hD : va_D A [(ad0, oX8 v_trace ad_text v_typed ad_books ad_numberA ad_numberB ad_draftTouches v_draftOne v_oneTold v_at v_start v_sort v_value v_start ad_now ad_isKept ad_near ad_seenDays ad_seenBook ad_seenIs v_seen v_sets v_inEach v_inSome), (ad_text, .inl (cB, 150, .inl a_text))] := hD
      refine lv_iload_n hx hb (dt uX8_due 16 rfl) rfl (lv_at hl 0 rfl) ?_
      have hf := Option.some.inj hf
      subst hf
      rw [hQ]
      exact vret_i C hP hD hS (dt uX8_due 17 rfl)
    · have hf := vif_f c_2 hf
      refine lv_aload_n hx hb (dt uX8_due 9 rfl) rfl (lv_at hl 1 rfl) ?_
      obtain ⟨q_3, hq_4, hf⟩ := vbd hf
      refine vk_v [0, 1] (ws2 := [(ad0, oX8 v_trace ad_text v_typed ad_books ad_numberA ad_numberB ad_draftTouches v_draftOne v_oneTold q_3.1 q_3.2.1 q_3.2.2.1 q_3.2.2.2 v_fault ad_now ad_isKept ad_near ad_seenDays ad_seenBook ad_seenIs v_seen v_sets v_inEach v_inSome), (ad_text, .inl (cB, 150, .inl a_text))]) (va_runV (As := []) (rest := []) ⟨hx, hb, hml, hown, hts⟩ (kX8_step ad0 ad_text ad_books ad_numberA ad_numberB ad_draftTouches ad_now ad_isKept ad_near ad_seenDays ad_seenBook ad_seenIs v_trace v_typed v_draftOne v_oneTold v_at v_start v_sort v_value v_fault v_seen v_sets v_inEach v_inSome a_text N q_3 hq_4 H.size) (vcwV hts tw_352 tw_353 tw_354 tw_336 tw_351 hd_X8_step rfl rfl ⟨Nat.le_of_ble_eq_true rfl, Nat.le_of_ble_eq_true rfl⟩) (vpreV hK hN hP hD [0, 1] rfl (by decide) (ci := 8) (q0 := 0) rfl rfl) rfl rfl hl.1 rfl (lv_room (Nat.le_of_ble_eq_true rfl)) (dt uX8_due 10 rfl) ⟨Nat.zero_le _, Nat.zero_le _⟩) hA hP hD hS rfl (by decide) rfl rfl (fun H locs hP hD hS => ?_)
      refine lv_goto (tgt := 33) hx hb (dt uX8_due 11 rfl) (by decide) ?_
      refine lv_iload_n hx hb (dt uX8_due 16 rfl) rfl (lv_at hl 0 rfl) ?_
      have hf := Option.some.inj hf
      subst hf
      rw [hQ]
      exact vret_i C hP hD hS (dt uX8_due 17 rfl)
abbrev rX8_number : Room := { frames := 3, cells := 0, slots := 0, locals := 65 }
abbrev wX8_number : List Cond := Cond.code yX8_number cX8_number 3 (some .int) :: VT
set_option maxHeartbeats 4000000 in
set_option maxRecDepth 100000 in
theorem kX8_number (ad0 : Nat) (ad_text : Nat) (ad_books : Nat) (ad_numberA : Nat) (ad_numberB : Nat) (ad_draftTouches : Nat) (ad_now : Nat) (ad_isKept : Nat) (ad_near : Nat) (ad_seenDays : Nat) (ad_seenBook : Nat) (ad_seenIs : Nat) (v_trace : Int64) (v_typed : Int32) (v_draftOne : Int32) (v_oneTold : Int32) (v_at : Int32) (v_start : Int32) (v_sort : Int32) (v_value : Int32) (v_fault : Int32) (v_seen : Int32) (v_sets : Int32) (v_inEach : Int32) (v_inSome : Int32) (a_text : Nat → Int32) (p1 : Int32) (p2 : Int32) (N : Nat) (q0 : (Int32 × Int32 × Int32 × Int32 × Int32 × Int32)) (hf : fX8_number N a_text v_typed v_at v_start v_sort v_value v_fault p1 p2 = some q0) : Ki l yX8_number wX8_number rX8_number (dC, dI) (vTy cI cJ cB cZ) [.ref ad0, .int p1, .int p2] [(ad0, oX8 v_trace ad_text v_typed ad_books ad_numberA ad_numberB ad_draftTouches v_draftOne v_oneTold v_at v_start v_sort v_value v_fault ad_now ad_isKept ad_near ad_seenDays ad_seenBook ad_seenIs v_seen v_sets v_inEach v_inSome), (ad_text, .inl (cB, 150, .inl a_text))] [(ad0, oX8 v_trace ad_text v_typed ad_books ad_numberA ad_numberB ad_draftTouches v_draftOne v_oneTold q0.2.1 q0.2.2.1 q0.2.2.2.1 q0.2.2.2.2.1 q0.2.2.2.2.2 ad_now ad_isKept ad_near ad_seenDays ad_seenBook ad_seenIs v_seen v_sets v_inEach v_inSome), (ad_text, .inl (cB, 150, .inl a_text))] q0.1 := by
  refine Ki.mk (cc := cX8_number) (maxL := 3) (ret := some .int) (by decide) (Nat.le_of_ble_eq_true rfl) ?_
  intro p e s m args below meth c A Q H locs C hQ hP hD hS ls hl
  obtain ⟨hx, hb, -, hml, hts, hown, -, hK, hN, hA⟩ := id C
  have hown : s.vm.findClass RX8 = some m.cls := hown
  have hl : lv_has ls 3 [(0, .ref ad0), (1, .int p1), (2, .int p2)] := hl
  unfold fX8_number at hf
  refine lv_aload_n hx hb (dt uX8_number 0 rfl) rfl (lv_at hl 0 rfl) ?_
  refine lv_aload_n hx hb (dt uX8_number 1 rfl) rfl (lv_at hl 0 rfl) ?_
  refine va_get (D := (dC, dI)) (ci := 8) (v := .int v_sort) (C := RX8) (T := TX8) (N := 24) hx hb hts inU8 hown hK hP 0 rfl rfl 11 (by decide) (hts _ tw_349) (fun _ h9 => h9) rfl (dt uX8_number 2 rfl) ?_
  refine lv_iconst (v := (1 : Int32)) hx hb (dt uX8_number 3 rfl) (by decide) ?_
  have hJ26 : ∀ (y1_2 : Int32) (H : Heap) (locs : List Loc) (ls : Array Slot), fX8_number_J26 N a_text v_typed v_at v_start v_sort v_value v_fault y1_2 = some q0 → va_P (dC, dI) vwCl [(ad0, oX8 v_trace ad_text v_typed ad_books ad_numberA ad_numberB ad_draftTouches v_draftOne v_oneTold v_at v_start v_sort v_value v_fault ad_now ad_isKept ad_near ad_seenDays ad_seenBook ad_seenIs v_seen v_sets v_inEach v_inSome), (ad_text, .inl (cB, 150, .inl a_text))] H → va_D A [(ad0, oX8 v_trace ad_text v_typed ad_books ad_numberA ad_numberB ad_draftTouches v_draftOne v_oneTold v_at v_start v_sort v_value v_fault ad_now ad_isKept ad_near ad_seenDays ad_seenBook ad_seenIs v_seen v_sets v_inEach v_inSome), (ad_text, .inl (cB, 150, .inl a_text))] → va_S A s.heap H locs → lv_has ls 3 [] → W p l e rX8_number s m args below meth c H locs 0 0 Q (F0 m 26 ls [.int y1_2, .ref ad0]) := by
    intro y1_2 H locs ls hf hP hD hS hl
    unfold fX8_number_J26 at hf
    obtain ⟨q_3, hq_4, hf⟩ := vbd hf
    refine vk_i [0, 1] (ws2 := [(ad0, oX8 v_trace ad_text v_typed ad_books ad_numberA ad_numberB ad_draftTouches v_draftOne v_oneTold q_3.2.1 q_3.2.2.1 q_3.2.2.2.1 q_3.2.2.2.2.1 q_3.2.2.2.2.2 ad_now ad_isKept ad_near ad_seenDays ad_seenBook ad_seenIs v_seen v_sets v_inEach v_inSome), (ad_text, .inl (cB, 150, .inl a_text))]) (va_runV (As := [.int y1_2]) (rest := []) ⟨hx, hb, hml, hown, hts⟩ (kX8_due ad0 ad_text ad_books ad_numberA ad_numberB ad_draftTouches ad_now ad_isKept ad_near ad_seenDays ad_seenBook ad_seenIs v_trace v_typed v_draftOne v_oneTold v_at v_start v_sort v_value v_fault v_seen v_sets v_inEach v_inSome a_text y1_2 N q_3 hq_4 H.size) (vcwV hts tw_356 tw_357 tw_358 tw_336 tw_355 hd_X8_due rfl rfl ⟨Nat.le_of_ble_eq_true rfl, Nat.le_of_ble_eq_true rfl⟩) (vpreV hK hN hP hD [0, 1] rfl (by decide) (ci := 8) (q0 := 0) rfl rfl) rfl rfl hl.1 rfl (lv_room (Nat.le_of_ble_eq_true rfl)) (dt uX8_number 14 rfl) ⟨Nat.zero_le _, Nat.zero_le _⟩) hA hP hD hS rfl (by decide) rfl rfl (fun H locs hP hD hS => ?_)
    have hf := Option.some.inj hf
    subst hf
    rw [hQ]
    exact vret_i C hP hD hS (dt uX8_number 15 rfl)
  have hJ25 : ∀ (H : Heap) (locs : List Loc) (ls : Array Slot), fX8_number_J25 N a_text v_typed v_at v_start v_sort v_value v_fault = some q0 → va_P (dC, dI) vwCl [(ad0, oX8 v_trace ad_text v_typed ad_books ad_numberA ad_numberB ad_draftTouches v_draftOne v_oneTold v_at v_start v_sort v_value v_fault ad_now ad_isKept ad_near ad_seenDays ad_seenBook ad_seenIs v_seen v_sets v_inEach v_inSome), (ad_text, .inl (cB, 150, .inl a_text))] H → va_D A [(ad0, oX8 v_trace ad_text v_typed ad_books ad_numberA ad_numberB ad_draftTouches v_draftOne v_oneTold v_at v_start v_sort v_value v_fault ad_now ad_isKept ad_near ad_seenDays ad_seenBook ad_seenIs v_seen v_sets v_inEach v_inSome), (ad_text, .inl (cB, 150, .inl a_text))] → va_S A s.heap H locs → lv_has ls 3 [] → W p l e rX8_number s m args below meth c H locs 0 0 Q (F0 m 25 ls [.ref ad0]) := by
    intro H locs ls hf hP hD hS hl
    unfold fX8_number_J25 at hf
    refine lv_iconst (v := (0 : Int32)) hx hb (dt uX8_number 13 rfl) (by decide) ?_
    exact hJ26 (0 : Int32) _ _ _ hf hP hD hS (lv_sub hl [] rfl)
  refine lv_icmp_ne (tgt := 25) hx hb (dt uX8_number 4 rfl) (by decide) (fun c_8 => ?_) (fun c_8 => ?_)
  · have hf := vif_f c_8 hf
    exact hJ25  _ _ _ hf hP hD hS (lv_sub hl [] rfl)
  · have hf := vif_t c_8 hf
    refine lv_aload_n hx hb (dt uX8_number 5 rfl) rfl (lv_at hl 0 rfl) ?_
    refine va_get (D := (dC, dI)) (ci := 8) (v := .int v_value) (C := RX8) (T := TX8) (N := 24) hx hb hts inU8 hown hK hP 0 rfl rfl 12 (by decide) (hts _ tw_348) (fun _ h9 => h9) rfl (dt uX8_number 6 rfl) ?_
    refine lv_iload_n hx hb (dt uX8_number 7 rfl) rfl (lv_at hl 1 rfl) ?_
    refine lv_iload_n hx hb (dt uX8_number 8 rfl) rfl (lv_at hl 2 rfl) ?_
    refine vk_z0 [] (va_runS (As := [.int v_value, .int p1, .int p2]) (rest := [.ref ad0]) ⟨hx, hb, hml, hown, hts⟩ (kX8_in v_value p1 p2 _ rfl H.size) (vcwS hts tw_338 tw_339 tw_336 tw_337 hd_X8_in rfl rfl ⟨Nat.le_of_ble_eq_true rfl, Nat.le_of_ble_eq_true rfl⟩) (vpreS hK hN hP hD [] rfl (by decide)) rfl rfl hl.1 rfl (lv_room (Nat.le_of_ble_eq_true rfl)) (dt uX8_number 9 rfl) ⟨Nat.zero_le _, Nat.zero_le _⟩) hA hP hD hS rfl (by decide) (fun hz_9 H locs hP hD hS => ?_)
    refine lv_if_eq (tgt := 25) hx hb (dt uX8_number 10 rfl) (by decide) (fun c_10 => ?_) (fun c_10 => ?_)
    · have hf := vif_t c_10 hf
      exact hJ25  _ _ _ hf hP hD hS (lv_sub hl [] rfl)
    · have hf := vif_f c_10 hf
      refine lv_iconst (v := (1 : Int32)) hx hb (dt uX8_number 11 rfl) (by decide) ?_
      refine lv_goto (tgt := 26) hx hb (dt uX8_number 12 rfl) (by decide) ?_
      exact hJ26 (1 : Int32) _ _ _ hf hP hD hS (lv_sub hl [] rfl)
abbrev rX8_mayBe : Room := { frames := 0, cells := 0, slots := 0, locals := 0 }
abbrev wX8_mayBe : List Cond := Cond.code yX8_mayBe cX8_mayBe 2 (some .boolean) :: VT
set_option maxHeartbeats 4000000 in
set_option maxRecDepth 100000 in
theorem kX8_mayBe (ad0 : Nat) (ad_text : Nat) (ad_books : Nat) (ad_numberA : Nat) (ad_numberB : Nat) (ad_draftTouches : Nat) (ad_now : Nat) (ad_isKept : Nat) (ad_near : Nat) (ad_seenDays : Nat) (ad_seenBook : Nat) (ad_seenIs : Nat) (v_trace : Int64) (v_typed : Int32) (v_draftOne : Int32) (v_oneTold : Int32) (v_at : Int32) (v_start : Int32) (v_sort : Int32) (v_value : Int32) (v_fault : Int32) (v_seen : Int32) (v_sets : Int32) (v_inEach : Int32) (v_inSome : Int32) (a_books : Nat → Int32) (p1 : Int32) (q0 : Int32) (hf : fX8_mayBe a_books v_oneTold p1 = q0) : Kz l yX8_mayBe wX8_mayBe rX8_mayBe (dC, dI) (vTy cI cJ cB cZ) [.ref ad0, .int p1] [(ad0, oX8 v_trace ad_text v_typed ad_books ad_numberA ad_numberB ad_draftTouches v_draftOne v_oneTold v_at v_start v_sort v_value v_fault ad_now ad_isKept ad_near ad_seenDays ad_seenBook ad_seenIs v_seen v_sets v_inEach v_inSome), (ad_books, .inl (cI, 2, .inl a_books))] [(ad0, oX8 v_trace ad_text v_typed ad_books ad_numberA ad_numberB ad_draftTouches v_draftOne v_oneTold v_at v_start v_sort v_value v_fault ad_now ad_isKept ad_near ad_seenDays ad_seenBook ad_seenIs v_seen v_sets v_inEach v_inSome), (ad_books, .inl (cI, 2, .inl a_books))] q0 := by
  refine Kz.mk (cc := cX8_mayBe) (maxL := 2) (ret := some .boolean) (by decide) (Nat.le_of_ble_eq_true rfl) ?_
  intro p e s m args below meth c A Q H locs C hQ hP hD hS ls hl
  obtain ⟨hx, hb, -, hml, hts, hown, -, hK, hN, hA⟩ := id C
  have hown : s.vm.findClass RX8 = some m.cls := hown
  have hl : lv_has ls 2 [(0, .ref ad0), (1, .int p1)] := hl
  unfold fX8_mayBe at hf
  refine lv_iload_n hx hb (dt uX8_mayBe 0 rfl) rfl (lv_at hl 1 rfl) ?_
  refine lv_bipush (v := (98 : Int32)) hx hb (dt uX8_mayBe 1 rfl) (by decide) ?_
  refine lv_icmp_ne (tgt := 25) hx hb (dt uX8_mayBe 2 rfl) (by decide) (fun c_1 => ?_) (fun c_1 => ?_)
  · have hf := vif_f c_1 hf
    refine lv_iload_n hx hb (dt uX8_mayBe 13 rfl) rfl (lv_at hl 1 rfl) ?_
    refine lv_bipush (v := (116 : Int32)) hx hb (dt uX8_mayBe 14 rfl) (by decide) ?_
    refine lv_icmp_eq (tgt := 44) hx hb (dt uX8_mayBe 15 rfl) (by decide) (fun c_2 => ?_) (fun c_2 => ?_)
    · have hf := vif_t c_2 hf
      refine lv_iconst (v := (1 : Int32)) hx hb (dt uX8_mayBe 22 rfl) (by decide) ?_
      refine lv_goto (tgt := 49) hx hb (dt uX8_mayBe 23 rfl) (by decide) ?_
      subst hf
      rw [hQ]
      exact vret_z C hP hD hS (dt uX8_mayBe 25 rfl) (Or.inr rfl)
    · have hf := vif_f c_2 hf
      refine lv_iload_n hx hb (dt uX8_mayBe 16 rfl) rfl (lv_at hl 1 rfl) ?_
      refine lv_bipush (v := (111 : Int32)) hx hb (dt uX8_mayBe 17 rfl) (by decide) ?_
      refine lv_icmp_ne (tgt := 48) hx hb (dt uX8_mayBe 18 rfl) (by decide) (fun c_3 => ?_) (fun c_3 => ?_)
      · have hf := vif_f c_3 hf
        refine lv_iconst (v := (0 : Int32)) hx hb (dt uX8_mayBe 24 rfl) (by decide) ?_
        subst hf
        rw [hQ]
        exact vret_z C hP hD hS (dt uX8_mayBe 25 rfl) (Or.inl rfl)
      · have hf := vif_t c_3 hf
        refine lv_aload_n hx hb (dt uX8_mayBe 19 rfl) rfl (lv_at hl 0 rfl) ?_
        refine va_get (D := (dC, dI)) (ci := 8) (v := .int v_oneTold) (C := RX8) (T := TX8) (N := 24) hx hb hts inU8 hown hK hP 0 rfl rfl 8 (by decide) (hts _ tw_359) (fun _ h9 => h9) rfl (dt uX8_mayBe 20 rfl) ?_
        refine lv_if_ne (tgt := 48) hx hb (dt uX8_mayBe 21 rfl) (by decide) (fun c_4 => ?_) (fun c_4 => ?_)
        · have hf := vif_f c_4 hf
          refine lv_iconst (v := (0 : Int32)) hx hb (dt uX8_mayBe 24 rfl) (by decide) ?_
          subst hf
          rw [hQ]
          exact vret_z C hP hD hS (dt uX8_mayBe 25 rfl) (Or.inl rfl)
        · have hf := vif_t c_4 hf
          refine lv_iconst (v := (1 : Int32)) hx hb (dt uX8_mayBe 22 rfl) (by decide) ?_
          refine lv_goto (tgt := 49) hx hb (dt uX8_mayBe 23 rfl) (by decide) ?_
          subst hf
          rw [hQ]
          exact vret_z C hP hD hS (dt uX8_mayBe 25 rfl) (Or.inr rfl)
  · have hf := vif_t c_1 hf
    refine lv_aload_n hx hb (dt uX8_mayBe 3 rfl) rfl (lv_at hl 0 rfl) ?_
    refine va_get (D := (dC, dI)) (ci := 8) (v := .ref ad_books) (C := RX8) (T := TX8) (N := 24) hx hb hts inU8 hown hK hP 0 rfl rfl 3 (by decide) (hts _ tw_360) (fun _ h9 => h9) rfl (dt uX8_mayBe 4 rfl) ?_
    refine lv_iconst (v := (1 : Int32)) hx hb (dt uX8_mayBe 5 rfl) (by decide) ?_
    refine va_iald hx hb hK hP 1 0 rfl rfl (vp_in_iff.mpr (by decide)) (dt uX8_mayBe 6 rfl) ?_
    refine lv_bipush (v := (6 : Int32)) hx hb (dt uX8_mayBe 7 rfl) (by decide) ?_
    refine lv_icmp_ge (tgt := 21) hx hb (dt uX8_mayBe 8 rfl) (by decide) (fun c_5 => ?_) (fun c_5 => ?_)
    · have hf := vif_t c_5 hf
      refine lv_iconst (v := (0 : Int32)) hx hb (dt uX8_mayBe 11 rfl) (by decide) ?_
      refine lv_goto (tgt := 49) hx hb (dt uX8_mayBe 12 rfl) (by decide) ?_
      subst hf
      rw [hQ]
      exact vret_z C hP hD hS (dt uX8_mayBe 25 rfl) (Or.inl rfl)
    · have hf := vif_f c_5 hf
      refine lv_iconst (v := (1 : Int32)) hx hb (dt uX8_mayBe 9 rfl) (by decide) ?_
      refine lv_goto (tgt := 49) hx hb (dt uX8_mayBe 10 rfl) (by decide) ?_
      subst hf
      rw [hQ]
      exact vret_z C hP hD hS (dt uX8_mayBe 25 rfl) (Or.inr rfl)
abbrev rX8_readRow : Room := { frames := 4, cells := 0, slots := 0, locals := 87 }
abbrev wX8_readRow : List Cond := Cond.code yX8_readRow cX8_readRow 4 none :: VT
set_option maxHeartbeats 4000000 in
set_option maxRecDepth 100000 in
theorem kX8_readRow (ad0 : Nat) (ad_text : Nat) (ad_books : Nat) (ad_numberA : Nat) (ad_numberB : Nat) (ad_draftTouches : Nat) (ad_now : Nat) (ad_isKept : Nat) (ad_near : Nat) (ad_seenDays : Nat) (ad_seenBook : Nat) (ad_seenIs : Nat) (v_trace : Int64) (v_typed : Int32) (v_draftOne : Int32) (v_oneTold : Int32) (v_at : Int32) (v_start : Int32) (v_sort : Int32) (v_value : Int32) (v_fault : Int32) (v_seen : Int32) (v_sets : Int32) (v_inEach : Int32) (v_inSome : Int32) (a_text : Nat → Int32) (a_books : Nat → Int32) (a_numberA : Nat → Int32) (a_numberB : Nat → Int32) (a_draftTouches : Nat → Int32) (p1 : Int32) (N : Nat) (q0 : ((Nat → Int32) × (Nat → Int32) × (Nat → Int32) × (Nat → Int32) × Int32 × Int32 × Int32 × Int32 × Int32 × Int32 × Int32)) (hf : fX8_readRow N a_text a_books a_numberA a_numberB a_draftTouches v_typed v_draftOne v_oneTold v_at v_start v_sort v_value v_fault p1 = some q0) : Kv l yX8_readRow wX8_readRow rX8_readRow (dC, dI) (vTy cI cJ cB cZ) [.ref ad0, .int p1] [(ad0, oX8 v_trace ad_text v_typed ad_books ad_numberA ad_numberB ad_draftTouches v_draftOne v_oneTold v_at v_start v_sort v_value v_fault ad_now ad_isKept ad_near ad_seenDays ad_seenBook ad_seenIs v_seen v_sets v_inEach v_inSome), (ad_text, .inl (cB, 150, .inl a_text)), (ad_books, .inl (cI, 2, .inl a_books)), (ad_numberA, .inl (cI, 12, .inl a_numberA)), (ad_numberB, .inl (cI, 12, .inl a_numberB)), (ad_draftTouches, .inl (cI, 6, .inl a_draftTouches))] [(ad0, oX8 v_trace ad_text v_typed ad_books ad_numberA ad_numberB ad_draftTouches q0.2.2.2.2.1 q0.2.2.2.2.2.1 q0.2.2.2.2.2.2.1 q0.2.2.2.2.2.2.2.1 q0.2.2.2.2.2.2.2.2.1 q0.2.2.2.2.2.2.2.2.2.1 q0.2.2.2.2.2.2.2.2.2.2 ad_now ad_isKept ad_near ad_seenDays ad_seenBook ad_seenIs v_seen v_sets v_inEach v_inSome), (ad_text, .inl (cB, 150, .inl a_text)), (ad_books, .inl (cI, 2, .inl q0.1)), (ad_numberA, .inl (cI, 12, .inl q0.2.1)), (ad_numberB, .inl (cI, 12, .inl q0.2.2.1)), (ad_draftTouches, .inl (cI, 6, .inl q0.2.2.2.1))] := by
  refine Kv.mk (cc := cX8_readRow) (maxL := 4) (ret := none) (by decide) (Nat.le_of_ble_eq_true rfl) ?_
  intro p e s m args below meth c A Q H locs C hQ hP hD hS ls hl
  obtain ⟨hx, hb, -, hml, hts, hown, -, hK, hN, hA⟩ := id C
  have hown : s.vm.findClass RX8 = some m.cls := hown
  have hl : lv_has ls 4 [(0, .ref ad0), (1, .int p1)] := hl
  unfold fX8_readRow at hf
  refine lv_iload_n hx hb (dt uX8_readRow_0 0 rfl) rfl (lv_at hl 1 rfl) ?_
  refine lv_bipush (v := (98 : Int32)) hx hb (dt uX8_readRow_0 1 rfl) (by decide) ?_
  refine lv_icmp_ne (tgt := 63) hx hb (dt uX8_readRow_0 2 rfl) (by decide) (fun c_1 => ?_) (fun c_1 => ?_)
  · have hf := vif_f c_1 hf
    refine lv_iload_n hx hb (dt uX8_readRow_0 38 rfl) rfl (lv_at hl 1 rfl) ?_
    refine lv_bipush (v := (116 : Int32)) hx hb (dt uX8_readRow_0 39 rfl) (by decide) ?_
    refine lv_icmp_ne (tgt := 158) hx hb (dt uX8_readRow_0 40 rfl) (by decide) (fun c_2 => ?_) (fun c_2 => ?_)
    · have hf := vif_f c_2 hf
      refine lv_aload_n hx hb (dt uX8_readRow_1 37 rfl) rfl (lv_at hl 0 rfl) ?_
      refine lv_aload_n hx hb (dt uX8_readRow_1 38 rfl) rfl (lv_at hl 0 rfl) ?_
      refine lv_iconst (v := (0 : Int32)) hx hb (dt uX8_readRow_1 39 rfl) (by decide) ?_
      refine lv_aload_n hx hb (dt uX8_readRow_1 40 rfl) rfl (lv_at hl 0 rfl) ?_
      refine va_get (D := (dC, dI)) (ci := 8) (v := .ref ad_books) (C := RX8) (T := TX8) (N := 24) hx hb hts inU8 hown hK hP 0 rfl rfl 3 (by decide) (hts _ tw_360) (fun _ h9 => h9) rfl (dt uX8_readRow_1 41 rfl) ?_
      refine lv_iconst (v := (1 : Int32)) hx hb (dt uX8_readRow_1 42 rfl) (by decide) ?_
      refine va_iald hx hb hK hP 2 0 rfl rfl (vp_in_iff.mpr (by decide)) (dt uX8_readRow_1 43 rfl) ?_
      refine lv_iconst (v := (1 : Int32)) hx hb (dt uX8_readRow_1 44 rfl) (by decide) ?_
      refine lv_isub hx hb (dt uX8_readRow_1 45 rfl) ?_
      obtain ⟨q_3, hq_4, hf⟩ := vbd hf
      refine vk_i [0, 1] (ws2 := [(ad0, oX8 v_trace ad_text v_typed ad_books ad_numberA ad_numberB ad_draftTouches v_draftOne v_oneTold q_3.2.1 q_3.2.2.1 q_3.2.2.2.1 q_3.2.2.2.2.1 q_3.2.2.2.2.2 ad_now ad_isKept ad_near ad_seenDays ad_seenBook ad_seenIs v_seen v_sets v_inEach v_inSome), (ad_text, .inl (cB, 150, .inl a_text)), (ad_books, .inl (cI, 2, .inl a_books)), (ad_numberA, .inl (cI, 12, .inl a_numberA)), (ad_numberB, .inl (cI, 12, .inl a_numberB)), (ad_draftTouches, .inl (cI, 6, .inl a_draftTouches))]) (va_runV (As := [.int (0 : Int32), .int ((a_books (1 : Int32).toNatClampNeg) - (1 : Int32))]) (rest := [.ref ad0]) ⟨hx, hb, hml, hown, hts⟩ (kX8_number ad0 ad_text ad_books ad_numberA ad_numberB ad_draftTouches ad_now ad_isKept ad_near ad_seenDays ad_seenBook ad_seenIs v_trace v_typed v_draftOne v_oneTold v_at v_start v_sort v_value v_fault v_seen v_sets v_inEach v_inSome a_text (0 : Int32) ((a_books (1 : Int32).toNatClampNeg) - (1 : Int32)) N q_3 hq_4 H.size) (vcwV hts tw_362 tw_363 tw_364 tw_336 tw_361 hd_X8_number rfl rfl ⟨Nat.le_of_ble_eq_true rfl, Nat.le_of_ble_eq_true rfl⟩) (vpreV hK hN hP hD [0, 1] rfl (by decide) (ci := 8) (q0 := 0) rfl rfl) rfl rfl hl.1 rfl (lv_room (Nat.le_of_ble_eq_true rfl)) (dt uX8_readRow_1 46 rfl) ⟨Nat.zero_le _, Nat.zero_le _⟩) hA hP hD hS rfl (by decide) rfl rfl (fun H locs hP hD hS => ?_)
      refine va_put (D := (dC, dI)) (ci := 8) (v := .int q_3.1) (ty := .int) (C := RX8) (T := TX8) (N := 24) hx hb hts inU8 tyX8 tyX8_ok nmX8 hown hK hP hD hS 0 rfl rfl 7 (by decide) (hts _ tw_365) (fun _ h9 => h9) rfl (by decide +kernel) rfl rfl (Nat.le_of_ble_eq_true rfl) (dt uX8_readRow_1 47 rfl) (fun H locs hP hD hS => ?_)
      have hP : va_P (dC, dI) vwCl [(ad0, oX8 v_trace ad_text v_typed ad_books ad_numberA ad_numberB ad_draftTouches q_3.1 v_oneTold q_3.2.1 q_3.2.2.1 q_3.2.2.2.1 q_3.2.2.2.2.1 q_3.2.2.2.2.2 ad_now ad_isKept ad_near ad_seenDays ad_seenBook ad_seenIs v_seen v_sets v_inEach v_inSome), (ad_text, .inl (cB, 150, .inl a_text)), (ad_books, .inl (cI, 2, .inl a_books)), (ad_numberA, .inl (cI, 12, .inl a_numberA)), (ad_numberB, .inl (cI, 12, .inl a_numberB)), (ad_draftTouches, .inl (cI, 6, .inl a_draftTouches))] H := hP
      have hD : va_D A [(ad0, oX8 v_trace ad_text v_typed ad_books ad_numberA ad_numberB ad_draftTouches q_3.1 v_oneTold q_3.2.1 q_3.2.2.1 q_3.2.2.2.1 q_3.2.2.2.2.1 q_3.2.2.2.2.2 ad_now ad_isKept ad_near ad_seenDays ad_seenBook ad_seenIs v_seen v_sets v_inEach v_inSome), (ad_text, .inl (cB, 150, .inl a_text)), (ad_books, .inl (cI, 2, .inl a_books)), (ad_numberA, .inl (cI, 12, .inl a_numberA)), (ad_numberB, .inl (cI, 12, .inl a_numberB)), (ad_draftTouches, .inl (cI, 6, .inl a_draftTouches))] := hD
      refine lv_aload_n hx hb (dt uX8_readRow_1 48 rfl) rfl (lv_at hl 0 rfl) ?_
      refine lv_iconst (v := (1 : Int32)) hx hb (dt uX8_readRow_1 49 rfl) (by decide) ?_
      refine va_put (D := (dC, dI)) (ci := 8) (v := .int (1 : Int32)) (ty := .boolean) (C := RX8) (T := TX8) (N := 24) hx hb hts inU8 tyX8 tyX8_ok nmX8 hown hK hP hD hS 0 rfl rfl 8 (by decide) (hts _ tw_359) (fun _ h9 => h9) rfl (by decide +kernel) rfl rfl (Nat.le_of_ble_eq_true rfl) (dt uX8_readRow_1 50 rfl) (fun H locs hP hD hS => ?_)
      have hP : va_P (dC, dI) vwCl [(ad0, oX8 v_trace ad_text v_typed ad_books ad_numberA ad_numberB ad_draftTouches q_3.1 (1 : Int32) q_3.2.1 q_3.2.2.1 q_3.2.2.2.1 q_3.2.2.2.2.1 q_3.2.2.2.2.2 ad_now ad_isKept ad_near ad_seenDays ad_seenBook ad_seenIs v_seen v_sets v_inEach v_inSome), (ad_text, .inl (cB, 150, .inl a_text)), (ad_books, .inl (cI, 2, .inl a_books)), (ad_numberA, .inl (cI, 12, .inl a_numberA)), (ad_numberB, .inl (cI, 12, .inl a_numberB)), (ad_draftTouches, .inl (cI, 6, .inl a_draftTouches))] H := hP
      have hD : va_D A [(ad0, oX8 v_trace ad_text v_typed ad_books ad_numberA ad_numberB ad_draftTouches q_3.1 (1 : Int32) q_3.2.1 q_3.2.2.1 q_3.2.2.2.1 q_3.2.2.2.2.1 q_3.2.2.2.2.2 ad_now ad_isKept ad_near ad_seenDays ad_seenBook ad_seenIs v_seen v_sets v_inEach v_inSome), (ad_text, .inl (cB, 150, .inl a_text)), (ad_books, .inl (cI, 2, .inl a_books)), (ad_numberA, .inl (cI, 12, .inl a_numberA)), (ad_numberB, .inl (cI, 12, .inl a_numberB)), (ad_draftTouches, .inl (cI, 6, .inl a_draftTouches))] := hD
      have hf := Option.some.inj hf
      subst hf
      rw [hQ]
      exact vret_v C hP hD hS (dt uX8_readRow_1 51 rfl)
    · have hf := vif_t c_2 hf
      refine lv_aload_n hx hb (dt uX8_readRow_0 41 rfl) rfl (lv_at hl 0 rfl) ?_
      refine lv_iconst (v := (0 : Int32)) hx hb (dt uX8_readRow_0 42 rfl) (by decide) ?_
      refine lv_aload_n hx hb (dt uX8_readRow_0 43 rfl) rfl (lv_at hl 0 rfl) ?_
      refine va_get (D := (dC, dI)) (ci := 8) (v := .ref ad_books) (C := RX8) (T := TX8) (N := 24) hx hb hts inU8 hown hK hP 0 rfl rfl 3 (by decide) (hts _ tw_360) (fun _ h9 => h9) rfl (dt uX8_readRow_0 44 rfl) ?_
      refine lv_iconst (v := (1 : Int32)) hx hb (dt uX8_readRow_0 45 rfl) (by decide) ?_
      refine va_iald hx hb hK hP 2 0 rfl rfl (vp_in_iff.mpr (by decide)) (dt uX8_readRow_0 46 rfl) ?_
      refine lv_iconst (v := (1 : Int32)) hx hb (dt uX8_readRow_0 47 rfl) (by decide) ?_
      refine lv_isub hx hb (dt uX8_readRow_0 48 rfl) ?_
      obtain ⟨q_5, hq_6, hf⟩ := vbd hf
      refine vk_i [0, 1] (ws2 := [(ad0, oX8 v_trace ad_text v_typed ad_books ad_numberA ad_numberB ad_draftTouches v_draftOne v_oneTold q_5.2.1 q_5.2.2.1 q_5.2.2.2.1 q_5.2.2.2.2.1 q_5.2.2.2.2.2 ad_now ad_isKept ad_near ad_seenDays ad_seenBook ad_seenIs v_seen v_sets v_inEach v_inSome), (ad_text, .inl (cB, 150, .inl a_text)), (ad_books, .inl (cI, 2, .inl a_books)), (ad_numberA, .inl (cI, 12, .inl a_numberA)), (ad_numberB, .inl (cI, 12, .inl a_numberB)), (ad_draftTouches, .inl (cI, 6, .inl a_draftTouches))]) (va_runV (As := [.int (0 : Int32), .int ((a_books (1 : Int32).toNatClampNeg) - (1 : Int32))]) (rest := []) ⟨hx, hb, hml, hown, hts⟩ (kX8_number ad0 ad_text ad_books ad_numberA ad_numberB ad_draftTouches ad_now ad_isKept ad_near ad_seenDays ad_seenBook ad_seenIs v_trace v_typed v_draftOne v_oneTold v_at v_start v_sort v_value v_fault v_seen v_sets v_inEach v_inSome a_text (0 : Int32) ((a_books (1 : Int32).toNatClampNeg) - (1 : Int32)) N q_5 hq_6 H.size) (vcwV hts tw_362 tw_363 tw_364 tw_336 tw_361 hd_X8_number rfl rfl ⟨Nat.le_of_ble_eq_true rfl, Nat.le_of_ble_eq_true rfl⟩) (vpreV hK hN hP hD [0, 1] rfl (by decide) (ci := 8) (q0 := 0) rfl rfl) rfl rfl hl.1 rfl (lv_room (Nat.le_of_ble_eq_true rfl)) (dt uX8_readRow_0 49 rfl) ⟨Nat.zero_le _, Nat.zero_le _⟩) hA hP hD hS rfl (by decide) rfl rfl (fun H locs hP hD hS => ?_)
      refine lv_istore_n (lv' := [(2, .int q_5.1), (0, .ref ad0), (1, .int p1)]) hx hb (dt uX8_readRow_0 50 rfl) rfl hl (by decide) rfl (fun ls hl => ?_)
      refine lv_aload_n hx hb (dt uX8_readRow_0 51 rfl) rfl (lv_at hl 1 rfl) ?_
      refine lv_aload_n hx hb (dt uX8_readRow_0 52 rfl) rfl (lv_at hl 1 rfl) ?_
      refine va_get (D := (dC, dI)) (ci := 8) (v := .int q_5.2.2.2.1) (C := RX8) (T := TX8) (N := 24) hx hb hts inU8 hown hK hP 0 rfl rfl 11 (by decide) (hts _ tw_349) (fun _ h9 => h9) rfl (dt uX8_readRow_0 53 rfl) ?_
      refine lv_iconst (v := (1 : Int32)) hx hb (dt uX8_readRow_0 54 rfl) (by decide) ?_
      have hJ118 : ∀ (y1_7 : Int32) (H : Heap) (locs : List Loc) (ls : Array Slot), fX8_readRow_J118 N a_text a_books a_numberA a_numberB a_draftTouches v_typed v_draftOne v_oneTold q_5 y1_7 = some q0 → va_P (dC, dI) vwCl [(ad0, oX8 v_trace ad_text v_typed ad_books ad_numberA ad_numberB ad_draftTouches v_draftOne v_oneTold q_5.2.1 q_5.2.2.1 q_5.2.2.2.1 q_5.2.2.2.2.1 q_5.2.2.2.2.2 ad_now ad_isKept ad_near ad_seenDays ad_seenBook ad_seenIs v_seen v_sets v_inEach v_inSome), (ad_text, .inl (cB, 150, .inl a_text)), (ad_books, .inl (cI, 2, .inl a_books)), (ad_numberA, .inl (cI, 12, .inl a_numberA)), (ad_numberB, .inl (cI, 12, .inl a_numberB)), (ad_draftTouches, .inl (cI, 6, .inl a_draftTouches))] H → va_D A [(ad0, oX8 v_trace ad_text v_typed ad_books ad_numberA ad_numberB ad_draftTouches v_draftOne v_oneTold q_5.2.1 q_5.2.2.1 q_5.2.2.2.1 q_5.2.2.2.2.1 q_5.2.2.2.2.2 ad_now ad_isKept ad_near ad_seenDays ad_seenBook ad_seenIs v_seen v_sets v_inEach v_inSome), (ad_text, .inl (cB, 150, .inl a_text)), (ad_books, .inl (cI, 2, .inl a_books)), (ad_numberA, .inl (cI, 12, .inl a_numberA)), (ad_numberB, .inl (cI, 12, .inl a_numberB)), (ad_draftTouches, .inl (cI, 6, .inl a_draftTouches))] → va_S A s.heap H locs → lv_has ls 4 [(0, .ref ad0), (2, .int q_5.1)] → W p l e rX8_readRow s m args below meth c H locs 0 0 Q (F0 m 118 ls [.int y1_7, .ref ad0]) := by
        intro y1_7 H locs ls hf hP hD hS hl
        unfold fX8_readRow_J118 at hf
        obtain ⟨q_8, hq_9, hf⟩ := vbd hf
        refine vk_i [0, 1] (ws2 := [(ad0, oX8 v_trace ad_text v_typed ad_books ad_numberA ad_numberB ad_draftTouches v_draftOne v_oneTold q_8.2.1 q_8.2.2.1 q_8.2.2.2.1 q_8.2.2.2.2.1 q_8.2.2.2.2.2 ad_now ad_isKept ad_near ad_seenDays ad_seenBook ad_seenIs v_seen v_sets v_inEach v_inSome), (ad_text, .inl (cB, 150, .inl a_text)), (ad_books, .inl (cI, 2, .inl a_books)), (ad_numberA, .inl (cI, 12, .inl a_numberA)), (ad_numberB, .inl (cI, 12, .inl a_numberB)), (ad_draftTouches, .inl (cI, 6, .inl a_draftTouches))]) (va_runV (As := [.int y1_7]) (rest := []) ⟨hx, hb, hml, hown, hts⟩ (kX8_due ad0 ad_text ad_books ad_numberA ad_numberB ad_draftTouches ad_now ad_isKept ad_near ad_seenDays ad_seenBook ad_seenIs v_trace v_typed v_draftOne v_oneTold q_5.2.1 q_5.2.2.1 q_5.2.2.2.1 q_5.2.2.2.2.1 q_5.2.2.2.2.2 v_seen v_sets v_inEach v_inSome a_text y1_7 N q_8 hq_9 H.size) (vcwV hts tw_356 tw_357 tw_358 tw_336 tw_355 hd_X8_due rfl rfl ⟨Nat.le_of_ble_eq_true rfl, Nat.le_of_ble_eq_true rfl⟩) (vpreV hK hN hP hD [0, 1] rfl (by decide) (ci := 8) (q0 := 0) rfl rfl) rfl rfl hl.1 rfl (lv_room (Nat.le_of_ble_eq_true rfl)) (dt uX8_readRow_1 10 rfl) ⟨Nat.zero_le _, Nat.zero_le _⟩) hA hP hD hS rfl (by decide) rfl rfl (fun H locs hP hD hS => ?_)
        refine lv_istore_n (lv' := [(3, .int q_8.1), (0, .ref ad0), (2, .int q_5.1)]) hx hb (dt uX8_readRow_1 11 rfl) rfl hl (by decide) rfl (fun ls hl => ?_)
        refine lv_aload_n hx hb (dt uX8_readRow_1 12 rfl) rfl (lv_at hl 1 rfl) ?_
        refine va_get (D := (dC, dI)) (ci := 8) (v := .int q_8.2.2.2.2.2) (C := RX8) (T := TX8) (N := 24) hx hb hts inU8 hown hK hP 0 rfl rfl 13 (by decide) (hts _ tw_350) (fun _ h9 => h9) rfl (dt uX8_readRow_1 13 rfl) ?_
        refine lv_bipush (v := (-9 : Int32)) hx hb (dt uX8_readRow_1 14 rfl) (by decide) ?_
        refine lv_icmp_ne (tgt := 155) hx hb (dt uX8_readRow_1 15 rfl) (by decide) (fun c_10 => ?_) (fun c_10 => ?_)
        · have hf := vif_f c_10 hf
          refine lv_goto (tgt := 180) hx hb (dt uX8_readRow_1 36 rfl) (by decide) ?_
          have hf := Option.some.inj hf
          subst hf
          rw [hQ]
          exact vret_v C hP hD hS (dt uX8_readRow_1 51 rfl)
        · have hf := vif_t c_10 hf
          refine lv_aload_n hx hb (dt uX8_readRow_1 16 rfl) rfl (lv_at hl 1 rfl) ?_
          refine va_get (D := (dC, dI)) (ci := 8) (v := .ref ad_draftTouches) (C := RX8) (T := TX8) (N := 24) hx hb hts inU8 hown hK hP 0 rfl rfl 6 (by decide) (hts _ tw_366) (fun _ h9 => h9) rfl (dt uX8_readRow_1 17 rfl) ?_
          refine lv_iload_n hx hb (dt uX8_readRow_1 18 rfl) rfl (lv_at hl 2 rfl) ?_
          refine lv_dup2_11 hx hb (dt uX8_readRow_1 19 rfl) rfl rfl ?_
          obtain ⟨hi_11, hf⟩ := vg_some hf
          refine va_iald hx hb hK hP 5 0 rfl rfl hi_11 (dt uX8_readRow_1 20 rfl) ?_
          refine lv_iconst (v := (1 : Int32)) hx hb (dt uX8_readRow_1 21 rfl) (by decide) ?_
          refine lv_iload_n hx hb (dt uX8_readRow_1 22 rfl) rfl (lv_at hl 0 rfl) ?_
          refine lv_ishl hx hb (dt uX8_readRow_1 23 rfl) ?_
          refine lv_ior hx hb (dt uX8_readRow_1 24 rfl) ?_
          obtain ⟨hi_12, hf⟩ := vg_some hf
          refine va_iast hx hb hK hP hD hS 5 0 rfl rfl hi_12 (dt uX8_readRow_1 25 rfl) (fun H locs hP hD hS => ?_)
          have hP : va_P (dC, dI) vwCl [(ad0, oX8 v_trace ad_text v_typed ad_books ad_numberA ad_numberB ad_draftTouches v_draftOne v_oneTold q_8.2.1 q_8.2.2.1 q_8.2.2.2.1 q_8.2.2.2.2.1 q_8.2.2.2.2.2 ad_now ad_isKept ad_near ad_seenDays ad_seenBook ad_seenIs v_seen v_sets v_inEach v_inSome), (ad_text, .inl (cB, 150, .inl a_text)), (ad_books, .inl (cI, 2, .inl a_books)), (ad_numberA, .inl (cI, 12, .inl a_numberA)), (ad_numberB, .inl (cI, 12, .inl a_numberB)), (ad_draftTouches, .inl (cI, 6, .inl (upd a_draftTouches q_5.1.toNatClampNeg ((a_draftTouches q_5.1.toNatClampNeg) ||| ((1 : Int32) <<< (q_8.1 &&& 31))))))] H := hP
          have hD : va_D A [(ad0, oX8 v_trace ad_text v_typed ad_books ad_numberA ad_numberB ad_draftTouches v_draftOne v_oneTold q_8.2.1 q_8.2.2.1 q_8.2.2.2.1 q_8.2.2.2.2.1 q_8.2.2.2.2.2 ad_now ad_isKept ad_near ad_seenDays ad_seenBook ad_seenIs v_seen v_sets v_inEach v_inSome), (ad_text, .inl (cB, 150, .inl a_text)), (ad_books, .inl (cI, 2, .inl a_books)), (ad_numberA, .inl (cI, 12, .inl a_numberA)), (ad_numberB, .inl (cI, 12, .inl a_numberB)), (ad_draftTouches, .inl (cI, 6, .inl (upd a_draftTouches q_5.1.toNatClampNeg ((a_draftTouches q_5.1.toNatClampNeg) ||| ((1 : Int32) <<< (q_8.1 &&& 31))))))] := hD
          refine lv_aload_n hx hb (dt uX8_readRow_1 26 rfl) rfl (lv_at hl 1 rfl) ?_
          refine va_get (D := (dC, dI)) (ci := 8) (v := .ref ad_draftTouches) (C := RX8) (T := TX8) (N := 24) hx hb hts inU8 hown hK hP 0 rfl rfl 6 (by decide) (hts _ tw_366) (fun _ h9 => h9) rfl (dt uX8_readRow_1 27 rfl) ?_
          refine lv_iload_n hx hb (dt uX8_readRow_1 28 rfl) rfl (lv_at hl 0 rfl) ?_
          refine lv_dup2_11 hx hb (dt uX8_readRow_1 29 rfl) rfl rfl ?_
          obtain ⟨hi_13, hf⟩ := vg_some hf
          refine va_iald hx hb hK hP 5 0 rfl rfl hi_13 (dt uX8_readRow_1 30 rfl) ?_
          refine lv_iconst (v := (1 : Int32)) hx hb (dt uX8_readRow_1 31 rfl) (by decide) ?_
          refine lv_iload_n hx hb (dt uX8_readRow_1 32 rfl) rfl (lv_at hl 2 rfl) ?_
          refine lv_ishl hx hb (dt uX8_readRow_1 33 rfl) ?_
          refine lv_ior hx hb (dt uX8_readRow_1 34 rfl) ?_
          obtain ⟨hi_14, hf⟩ := vg_some hf
          refine va_iast hx hb hK hP hD hS 5 0 rfl rfl hi_14 (dt uX8_readRow_1 35 rfl) (fun H locs hP hD hS => ?_)
          have hP : va_P (dC, dI) vwCl [(ad0, oX8 v_trace ad_text v_typed ad_books ad_numberA ad_numberB ad_draftTouches v_draftOne v_oneTold q_8.2.1 q_8.2.2.1 q_8.2.2.2.1 q_8.2.2.2.2.1 q_8.2.2.2.2.2 ad_now ad_isKept ad_near ad_seenDays ad_seenBook ad_seenIs v_seen v_sets v_inEach v_inSome), (ad_text, .inl (cB, 150, .inl a_text)), (ad_books, .inl (cI, 2, .inl a_books)), (ad_numberA, .inl (cI, 12, .inl a_numberA)), (ad_numberB, .inl (cI, 12, .inl a_numberB)), (ad_draftTouches, .inl (cI, 6, .inl (upd (upd a_draftTouches q_5.1.toNatClampNeg ((a_draftTouches q_5.1.toNatClampNeg) ||| ((1 : Int32) <<< (q_8.1 &&& 31)))) q_8.1.toNatClampNeg (((upd a_draftTouches q_5.1.toNatClampNeg ((a_draftTouches q_5.1.toNatClampNeg) ||| ((1 : Int32) <<< (q_8.1 &&& 31)))) q_8.1.toNatClampNeg) ||| ((1 : Int32) <<< (q_5.1 &&& 31))))))] H := hP
          have hD : va_D A [(ad0, oX8 v_trace ad_text v_typed ad_books ad_numberA ad_numberB ad_draftTouches v_draftOne v_oneTold q_8.2.1 q_8.2.2.1 q_8.2.2.2.1 q_8.2.2.2.2.1 q_8.2.2.2.2.2 ad_now ad_isKept ad_near ad_seenDays ad_seenBook ad_seenIs v_seen v_sets v_inEach v_inSome), (ad_text, .inl (cB, 150, .inl a_text)), (ad_books, .inl (cI, 2, .inl a_books)), (ad_numberA, .inl (cI, 12, .inl a_numberA)), (ad_numberB, .inl (cI, 12, .inl a_numberB)), (ad_draftTouches, .inl (cI, 6, .inl (upd (upd a_draftTouches q_5.1.toNatClampNeg ((a_draftTouches q_5.1.toNatClampNeg) ||| ((1 : Int32) <<< (q_8.1 &&& 31)))) q_8.1.toNatClampNeg (((upd a_draftTouches q_5.1.toNatClampNeg ((a_draftTouches q_5.1.toNatClampNeg) ||| ((1 : Int32) <<< (q_8.1 &&& 31)))) q_8.1.toNatClampNeg) ||| ((1 : Int32) <<< (q_5.1 &&& 31))))))] := hD
          refine lv_goto (tgt := 180) hx hb (dt uX8_readRow_1 36 rfl) (by decide) ?_
          have hf := Option.some.inj hf
          subst hf
          rw [hQ]
          exact vret_v C hP hD hS (dt uX8_readRow_1 51 rfl)
      have hJ117 : ∀ (H : Heap) (locs : List Loc) (ls : Array Slot), fX8_readRow_J117 N a_text a_books a_numberA a_numberB a_draftTouches v_typed v_draftOne v_oneTold q_5 = some q0 → va_P (dC, dI) vwCl [(ad0, oX8 v_trace ad_text v_typed ad_books ad_numberA ad_numberB ad_draftTouches v_draftOne v_oneTold q_5.2.1 q_5.2.2.1 q_5.2.2.2.1 q_5.2.2.2.2.1 q_5.2.2.2.2.2 ad_now ad_isKept ad_near ad_seenDays ad_seenBook ad_seenIs v_seen v_sets v_inEach v_inSome), (ad_text, .inl (cB, 150, .inl a_text)), (ad_books, .inl (cI, 2, .inl a_books)), (ad_numberA, .inl (cI, 12, .inl a_numberA)), (ad_numberB, .inl (cI, 12, .inl a_numberB)), (ad_draftTouches, .inl (cI, 6, .inl a_draftTouches))] H → va_D A [(ad0, oX8 v_trace ad_text v_typed ad_books ad_numberA ad_numberB ad_draftTouches v_draftOne v_oneTold q_5.2.1 q_5.2.2.1 q_5.2.2.2.1 q_5.2.2.2.2.1 q_5.2.2.2.2.2 ad_now ad_isKept ad_near ad_seenDays ad_seenBook ad_seenIs v_seen v_sets v_inEach v_inSome), (ad_text, .inl (cB, 150, .inl a_text)), (ad_books, .inl (cI, 2, .inl a_books)), (ad_numberA, .inl (cI, 12, .inl a_numberA)), (ad_numberB, .inl (cI, 12, .inl a_numberB)), (ad_draftTouches, .inl (cI, 6, .inl a_draftTouches))] → va_S A s.heap H locs → lv_has ls 4 [(0, .ref ad0), (2, .int q_5.1)] → W p l e rX8_readRow s m args below meth c H locs 0 0 Q (F0 m 117 ls [.ref ad0]) := by
        intro H locs ls hf hP hD hS hl
        unfold fX8_readRow_J117 at hf
        refine lv_iconst (v := (0 : Int32)) hx hb (dt uX8_readRow_1 9 rfl) (by decide) ?_
        exact hJ118 (0 : Int32) _ _ _ hf hP hD hS (lv_sub hl [0, 1] rfl)
      refine lv_icmp_ne (tgt := 117) hx hb (dt uX8_readRow_0 55 rfl) (by decide) (fun c_21 => ?_) (fun c_21 => ?_)
      · have hf := vif_f c_21 hf
        exact hJ117  _ _ _ hf hP hD hS (lv_sub hl [1, 0] rfl)
      · have hf := vif_t c_21 hf
        refine lv_aload_n hx hb (dt uX8_readRow_0 56 rfl) rfl (lv_at hl 1 rfl) ?_
        refine va_get (D := (dC, dI)) (ci := 8) (v := .int q_5.2.2.2.2.1) (C := RX8) (T := TX8) (N := 24) hx hb hts inU8 hown hK hP 0 rfl rfl 12 (by decide) (hts _ tw_348) (fun _ h9 => h9) rfl (dt uX8_readRow_0 57 rfl) ?_
        refine lv_aload_n hx hb (dt uX8_readRow_0 58 rfl) rfl (lv_at hl 1 rfl) ?_
        refine va_get (D := (dC, dI)) (ci := 8) (v := .ref ad_books) (C := RX8) (T := TX8) (N := 24) hx hb hts inU8 hown hK hP 0 rfl rfl 3 (by decide) (hts _ tw_360) (fun _ h9 => h9) rfl (dt uX8_readRow_0 59 rfl) ?_
        refine lv_iconst (v := (1 : Int32)) hx hb (dt uX8_readRow_1 0 rfl) (by decide) ?_
        refine va_iald hx hb hK hP 2 0 rfl rfl (vp_in_iff.mpr (by decide)) (dt uX8_readRow_1 1 rfl) ?_
        refine lv_icmp_ge (tgt := 117) hx hb (dt uX8_readRow_1 2 rfl) (by decide) (fun c_22 => ?_) (fun c_22 => ?_)
        · have hf := vif_t c_22 hf
          exact hJ117  _ _ _ hf hP hD hS (lv_sub hl [1, 0] rfl)
        · have hf := vif_f c_22 hf
          refine lv_aload_n hx hb (dt uX8_readRow_1 3 rfl) rfl (lv_at hl 1 rfl) ?_
          refine va_get (D := (dC, dI)) (ci := 8) (v := .int q_5.2.2.2.2.1) (C := RX8) (T := TX8) (N := 24) hx hb hts inU8 hown hK hP 0 rfl rfl 12 (by decide) (hts _ tw_348) (fun _ h9 => h9) rfl (dt uX8_readRow_1 4 rfl) ?_
          refine lv_iload_n hx hb (dt uX8_readRow_1 5 rfl) rfl (lv_at hl 0 rfl) ?_
          refine lv_icmp_eq (tgt := 117) hx hb (dt uX8_readRow_1 6 rfl) (by decide) (fun c_23 => ?_) (fun c_23 => ?_)
          · have hf := vif_t c_23 hf
            exact hJ117  _ _ _ hf hP hD hS (lv_sub hl [1, 0] rfl)
          · have hf := vif_f c_23 hf
            refine lv_iconst (v := (1 : Int32)) hx hb (dt uX8_readRow_1 7 rfl) (by decide) ?_
            refine lv_goto (tgt := 118) hx hb (dt uX8_readRow_1 8 rfl) (by decide) ?_
            exact hJ118 (1 : Int32) _ _ _ hf hP hD hS (lv_sub hl [1, 0] rfl)
  · have hf := vif_t c_1 hf
    refine lv_aload_n hx hb (dt uX8_readRow_0 3 rfl) rfl (lv_at hl 0 rfl) ?_
    refine va_get (D := (dC, dI)) (ci := 8) (v := .ref ad_numberA) (C := RX8) (T := TX8) (N := 24) hx hb hts inU8 hown hK hP 0 rfl rfl 4 (by decide) (hts _ tw_367) (fun _ h9 => h9) rfl (dt uX8_readRow_0 4 rfl) ?_
    refine lv_bipush (v := (6 : Int32)) hx hb (dt uX8_readRow_0 5 rfl) (by decide) ?_
    refine lv_aload_n hx hb (dt uX8_readRow_0 6 rfl) rfl (lv_at hl 0 rfl) ?_
    refine va_get (D := (dC, dI)) (ci := 8) (v := .ref ad_books) (C := RX8) (T := TX8) (N := 24) hx hb hts inU8 hown hK hP 0 rfl rfl 3 (by decide) (hts _ tw_360) (fun _ h9 => h9) rfl (dt uX8_readRow_0 7 rfl) ?_
    refine lv_iconst (v := (1 : Int32)) hx hb (dt uX8_readRow_0 8 rfl) (by decide) ?_
    refine va_iald hx hb hK hP 2 0 rfl rfl (vp_in_iff.mpr (by decide)) (dt uX8_readRow_0 9 rfl) ?_
    refine lv_iadd hx hb (dt uX8_readRow_0 10 rfl) ?_
    refine lv_aload_n hx hb (dt uX8_readRow_0 11 rfl) rfl (lv_at hl 0 rfl) ?_
    refine lv_iconst (v := (0 : Int32)) hx hb (dt uX8_readRow_0 12 rfl) (by decide) ?_
    refine lv_sipush (v := (999 : Int32)) hx hb (dt uX8_readRow_0 13 rfl) (by decide) ?_
    obtain ⟨q_24, hq_25, hf⟩ := vbd hf
    refine vk_i [0, 1] (ws2 := [(ad0, oX8 v_trace ad_text v_typed ad_books ad_numberA ad_numberB ad_draftTouches v_draftOne v_oneTold q_24.2.1 q_24.2.2.1 q_24.2.2.2.1 q_24.2.2.2.2.1 q_24.2.2.2.2.2 ad_now ad_isKept ad_near ad_seenDays ad_seenBook ad_seenIs v_seen v_sets v_inEach v_inSome), (ad_text, .inl (cB, 150, .inl a_text)), (ad_books, .inl (cI, 2, .inl a_books)), (ad_numberA, .inl (cI, 12, .inl a_numberA)), (ad_numberB, .inl (cI, 12, .inl a_numberB)), (ad_draftTouches, .inl (cI, 6, .inl a_draftTouches))]) (va_runV (As := [.int (0 : Int32), .int (999 : Int32)]) (rest := [.int ((6 : Int32) + (a_books (1 : Int32).toNatClampNeg)), .ref ad_numberA]) ⟨hx, hb, hml, hown, hts⟩ (kX8_number ad0 ad_text ad_books ad_numberA ad_numberB ad_draftTouches ad_now ad_isKept ad_near ad_seenDays ad_seenBook ad_seenIs v_trace v_typed v_draftOne v_oneTold v_at v_start v_sort v_value v_fault v_seen v_sets v_inEach v_inSome a_text (0 : Int32) (999 : Int32) N q_24 hq_25 H.size) (vcwV hts tw_362 tw_363 tw_364 tw_336 tw_361 hd_X8_number rfl rfl ⟨Nat.le_of_ble_eq_true rfl, Nat.le_of_ble_eq_true rfl⟩) (vpreV hK hN hP hD [0, 1] rfl (by decide) (ci := 8) (q0 := 0) rfl rfl) rfl rfl hl.1 rfl (lv_room (Nat.le_of_ble_eq_true rfl)) (dt uX8_readRow_0 14 rfl) ⟨Nat.zero_le _, Nat.zero_le _⟩) hA hP hD hS rfl (by decide) rfl rfl (fun H locs hP hD hS => ?_)
    obtain ⟨hi_26, hf⟩ := vg_some hf
    refine va_iast hx hb hK hP hD hS 3 0 rfl rfl hi_26 (dt uX8_readRow_0 15 rfl) (fun H locs hP hD hS => ?_)
    have hP : va_P (dC, dI) vwCl [(ad0, oX8 v_trace ad_text v_typed ad_books ad_numberA ad_numberB ad_draftTouches v_draftOne v_oneTold q_24.2.1 q_24.2.2.1 q_24.2.2.2.1 q_24.2.2.2.2.1 q_24.2.2.2.2.2 ad_now ad_isKept ad_near ad_seenDays ad_seenBook ad_seenIs v_seen v_sets v_inEach v_inSome), (ad_text, .inl (cB, 150, .inl a_text)), (ad_books, .inl (cI, 2, .inl a_books)), (ad_numberA, .inl (cI, 12, .inl (upd a_numberA ((6 : Int32) + (a_books (1 : Int32).toNatClampNeg)).toNatClampNeg q_24.1))), (ad_numberB, .inl (cI, 12, .inl a_numberB)), (ad_draftTouches, .inl (cI, 6, .inl a_draftTouches))] H := hP
    have hD : va_D A [(ad0, oX8 v_trace ad_text v_typed ad_books ad_numberA ad_numberB ad_draftTouches v_draftOne v_oneTold q_24.2.1 q_24.2.2.1 q_24.2.2.2.1 q_24.2.2.2.2.1 q_24.2.2.2.2.2 ad_now ad_isKept ad_near ad_seenDays ad_seenBook ad_seenIs v_seen v_sets v_inEach v_inSome), (ad_text, .inl (cB, 150, .inl a_text)), (ad_books, .inl (cI, 2, .inl a_books)), (ad_numberA, .inl (cI, 12, .inl (upd a_numberA ((6 : Int32) + (a_books (1 : Int32).toNatClampNeg)).toNatClampNeg q_24.1))), (ad_numberB, .inl (cI, 12, .inl a_numberB)), (ad_draftTouches, .inl (cI, 6, .inl a_draftTouches))] := hD
    refine lv_aload_n hx hb (dt uX8_readRow_0 16 rfl) rfl (lv_at hl 0 rfl) ?_
    refine va_get (D := (dC, dI)) (ci := 8) (v := .ref ad_numberB) (C := RX8) (T := TX8) (N := 24) hx hb hts inU8 hown hK hP 0 rfl rfl 5 (by decide) (hts _ tw_368) (fun _ h9 => h9) rfl (dt uX8_readRow_0 17 rfl) ?_
    refine lv_bipush (v := (6 : Int32)) hx hb (dt uX8_readRow_0 18 rfl) (by decide) ?_
    refine lv_aload_n hx hb (dt uX8_readRow_0 19 rfl) rfl (lv_at hl 0 rfl) ?_
    refine va_get (D := (dC, dI)) (ci := 8) (v := .ref ad_books) (C := RX8) (T := TX8) (N := 24) hx hb hts inU8 hown hK hP 0 rfl rfl 3 (by decide) (hts _ tw_360) (fun _ h9 => h9) rfl (dt uX8_readRow_0 20 rfl) ?_
    refine lv_iconst (v := (1 : Int32)) hx hb (dt uX8_readRow_0 21 rfl) (by decide) ?_
    refine va_iald hx hb hK hP 2 0 rfl rfl (vp_in_iff.mpr (by decide)) (dt uX8_readRow_0 22 rfl) ?_
    refine lv_iadd hx hb (dt uX8_readRow_0 23 rfl) ?_
    refine lv_aload_n hx hb (dt uX8_readRow_0 24 rfl) rfl (lv_at hl 0 rfl) ?_
    refine lv_iconst (v := (0 : Int32)) hx hb (dt uX8_readRow_0 25 rfl) (by decide) ?_
    refine lv_sipush (v := (999 : Int32)) hx hb (dt uX8_readRow_0 26 rfl) (by decide) ?_
    obtain ⟨q_27, hq_28, hf⟩ := vbd hf
    refine vk_i [0, 1] (ws2 := [(ad0, oX8 v_trace ad_text v_typed ad_books ad_numberA ad_numberB ad_draftTouches v_draftOne v_oneTold q_27.2.1 q_27.2.2.1 q_27.2.2.2.1 q_27.2.2.2.2.1 q_27.2.2.2.2.2 ad_now ad_isKept ad_near ad_seenDays ad_seenBook ad_seenIs v_seen v_sets v_inEach v_inSome), (ad_text, .inl (cB, 150, .inl a_text)), (ad_books, .inl (cI, 2, .inl a_books)), (ad_numberA, .inl (cI, 12, .inl (upd a_numberA ((6 : Int32) + (a_books (1 : Int32).toNatClampNeg)).toNatClampNeg q_24.1))), (ad_numberB, .inl (cI, 12, .inl a_numberB)), (ad_draftTouches, .inl (cI, 6, .inl a_draftTouches))]) (va_runV (As := [.int (0 : Int32), .int (999 : Int32)]) (rest := [.int ((6 : Int32) + (a_books (1 : Int32).toNatClampNeg)), .ref ad_numberB]) ⟨hx, hb, hml, hown, hts⟩ (kX8_number ad0 ad_text ad_books ad_numberA ad_numberB ad_draftTouches ad_now ad_isKept ad_near ad_seenDays ad_seenBook ad_seenIs v_trace v_typed v_draftOne v_oneTold q_24.2.1 q_24.2.2.1 q_24.2.2.2.1 q_24.2.2.2.2.1 q_24.2.2.2.2.2 v_seen v_sets v_inEach v_inSome a_text (0 : Int32) (999 : Int32) N q_27 hq_28 H.size) (vcwV hts tw_362 tw_363 tw_364 tw_336 tw_361 hd_X8_number rfl rfl ⟨Nat.le_of_ble_eq_true rfl, Nat.le_of_ble_eq_true rfl⟩) (vpreV hK hN hP hD [0, 1] rfl (by decide) (ci := 8) (q0 := 0) rfl rfl) rfl rfl hl.1 rfl (lv_room (Nat.le_of_ble_eq_true rfl)) (dt uX8_readRow_0 27 rfl) ⟨Nat.zero_le _, Nat.zero_le _⟩) hA hP hD hS rfl (by decide) rfl rfl (fun H locs hP hD hS => ?_)
    obtain ⟨hi_29, hf⟩ := vg_some hf
    refine va_iast hx hb hK hP hD hS 4 0 rfl rfl hi_29 (dt uX8_readRow_0 28 rfl) (fun H locs hP hD hS => ?_)
    have hP : va_P (dC, dI) vwCl [(ad0, oX8 v_trace ad_text v_typed ad_books ad_numberA ad_numberB ad_draftTouches v_draftOne v_oneTold q_27.2.1 q_27.2.2.1 q_27.2.2.2.1 q_27.2.2.2.2.1 q_27.2.2.2.2.2 ad_now ad_isKept ad_near ad_seenDays ad_seenBook ad_seenIs v_seen v_sets v_inEach v_inSome), (ad_text, .inl (cB, 150, .inl a_text)), (ad_books, .inl (cI, 2, .inl a_books)), (ad_numberA, .inl (cI, 12, .inl (upd a_numberA ((6 : Int32) + (a_books (1 : Int32).toNatClampNeg)).toNatClampNeg q_24.1))), (ad_numberB, .inl (cI, 12, .inl (upd a_numberB ((6 : Int32) + (a_books (1 : Int32).toNatClampNeg)).toNatClampNeg q_27.1))), (ad_draftTouches, .inl (cI, 6, .inl a_draftTouches))] H := hP
    have hD : va_D A [(ad0, oX8 v_trace ad_text v_typed ad_books ad_numberA ad_numberB ad_draftTouches v_draftOne v_oneTold q_27.2.1 q_27.2.2.1 q_27.2.2.2.1 q_27.2.2.2.2.1 q_27.2.2.2.2.2 ad_now ad_isKept ad_near ad_seenDays ad_seenBook ad_seenIs v_seen v_sets v_inEach v_inSome), (ad_text, .inl (cB, 150, .inl a_text)), (ad_books, .inl (cI, 2, .inl a_books)), (ad_numberA, .inl (cI, 12, .inl (upd a_numberA ((6 : Int32) + (a_books (1 : Int32).toNatClampNeg)).toNatClampNeg q_24.1))), (ad_numberB, .inl (cI, 12, .inl (upd a_numberB ((6 : Int32) + (a_books (1 : Int32).toNatClampNeg)).toNatClampNeg q_27.1))), (ad_draftTouches, .inl (cI, 6, .inl a_draftTouches))] := hD
    refine lv_aload_n hx hb (dt uX8_readRow_0 29 rfl) rfl (lv_at hl 0 rfl) ?_
    refine va_get (D := (dC, dI)) (ci := 8) (v := .ref ad_books) (C := RX8) (T := TX8) (N := 24) hx hb hts inU8 hown hK hP 0 rfl rfl 3 (by decide) (hts _ tw_360) (fun _ h9 => h9) rfl (dt uX8_readRow_0 30 rfl) ?_
    refine lv_iconst (v := (1 : Int32)) hx hb (dt uX8_readRow_0 31 rfl) (by decide) ?_
    refine lv_dup2_11 hx hb (dt uX8_readRow_0 32 rfl) rfl rfl ?_
    refine va_iald hx hb hK hP 2 0 rfl rfl (vp_in_iff.mpr (by decide)) (dt uX8_readRow_0 33 rfl) ?_
    refine lv_iconst (v := (1 : Int32)) hx hb (dt uX8_readRow_0 34 rfl) (by decide) ?_
    refine lv_iadd hx hb (dt uX8_readRow_0 35 rfl) ?_
    refine va_iast hx hb hK hP hD hS 2 0 rfl rfl (vp_in_iff.mpr (by decide)) (dt uX8_readRow_0 36 rfl) (fun H locs hP hD hS => ?_)
    have hP : va_P (dC, dI) vwCl [(ad0, oX8 v_trace ad_text v_typed ad_books ad_numberA ad_numberB ad_draftTouches v_draftOne v_oneTold q_27.2.1 q_27.2.2.1 q_27.2.2.2.1 q_27.2.2.2.2.1 q_27.2.2.2.2.2 ad_now ad_isKept ad_near ad_seenDays ad_seenBook ad_seenIs v_seen v_sets v_inEach v_inSome), (ad_text, .inl (cB, 150, .inl a_text)), (ad_books, .inl (cI, 2, .inl (upd a_books (1 : Int32).toNatClampNeg ((a_books (1 : Int32).toNatClampNeg) + (1 : Int32))))), (ad_numberA, .inl (cI, 12, .inl (upd a_numberA ((6 : Int32) + (a_books (1 : Int32).toNatClampNeg)).toNatClampNeg q_24.1))), (ad_numberB, .inl (cI, 12, .inl (upd a_numberB ((6 : Int32) + (a_books (1 : Int32).toNatClampNeg)).toNatClampNeg q_27.1))), (ad_draftTouches, .inl (cI, 6, .inl a_draftTouches))] H := hP
    have hD : va_D A [(ad0, oX8 v_trace ad_text v_typed ad_books ad_numberA ad_numberB ad_draftTouches v_draftOne v_oneTold q_27.2.1 q_27.2.2.1 q_27.2.2.2.1 q_27.2.2.2.2.1 q_27.2.2.2.2.2 ad_now ad_isKept ad_near ad_seenDays ad_seenBook ad_seenIs v_seen v_sets v_inEach v_inSome), (ad_text, .inl (cB, 150, .inl a_text)), (ad_books, .inl (cI, 2, .inl (upd a_books (1 : Int32).toNatClampNeg ((a_books (1 : Int32).toNatClampNeg) + (1 : Int32))))), (ad_numberA, .inl (cI, 12, .inl (upd a_numberA ((6 : Int32) + (a_books (1 : Int32).toNatClampNeg)).toNatClampNeg q_24.1))), (ad_numberB, .inl (cI, 12, .inl (upd a_numberB ((6 : Int32) + (a_books (1 : Int32).toNatClampNeg)).toNatClampNeg q_27.1))), (ad_draftTouches, .inl (cI, 6, .inl a_draftTouches))] := hD
    refine lv_goto (tgt := 180) hx hb (dt uX8_readRow_0 37 rfl) (by decide) ?_
    have hf := Option.some.inj hf
    subst hf
    rw [hQ]
    exact vret_v C hP hD hS (dt uX8_readRow_1 51 rfl)
abbrev rX8_plain : Room := { frames := 0, cells := 0, slots := 0, locals := 0 }
abbrev wX8_plain : List Cond := Cond.code yX8_plain cX8_plain 2 none :: VT
set_option maxHeartbeats 4000000 in
set_option maxRecDepth 100000 in
theorem kX8_plain (ad0 : Nat) (ad_text : Nat) (ad_books : Nat) (ad_numberA : Nat) (ad_numberB : Nat) (ad_draftTouches : Nat) (ad_now : Nat) (ad_isKept : Nat) (ad_near : Nat) (ad_seenDays : Nat) (ad_seenBook : Nat) (ad_seenIs : Nat) (v_trace : Int64) (v_typed : Int32) (v_draftOne : Int32) (v_oneTold : Int32) (v_at : Int32) (v_start : Int32) (v_sort : Int32) (v_value : Int32) (v_fault : Int32) (v_seen : Int32) (v_sets : Int32) (v_inEach : Int32) (v_inSome : Int32) (a_books : Nat → Int32) (a_draftTouches : Nat → Int32) (N : Nat) (q0 : ((Nat → Int32) × (Nat → Int32) × Int32 × Int32)) (hf : fX8_plain N a_books a_draftTouches v_draftOne v_oneTold = some q0) : Kv l yX8_plain wX8_plain rX8_plain (dC, dI) (vTy cI cJ cB cZ) [.ref ad0] [(ad0, oX8 v_trace ad_text v_typed ad_books ad_numberA ad_numberB ad_draftTouches v_draftOne v_oneTold v_at v_start v_sort v_value v_fault ad_now ad_isKept ad_near ad_seenDays ad_seenBook ad_seenIs v_seen v_sets v_inEach v_inSome), (ad_books, .inl (cI, 2, .inl a_books)), (ad_draftTouches, .inl (cI, 6, .inl a_draftTouches))] [(ad0, oX8 v_trace ad_text v_typed ad_books ad_numberA ad_numberB ad_draftTouches q0.2.2.1 q0.2.2.2 v_at v_start v_sort v_value v_fault ad_now ad_isKept ad_near ad_seenDays ad_seenBook ad_seenIs v_seen v_sets v_inEach v_inSome), (ad_books, .inl (cI, 2, .inl q0.1)), (ad_draftTouches, .inl (cI, 6, .inl q0.2.1))] := by
  refine Kv.mk (cc := cX8_plain) (maxL := 2) (ret := none) (by decide) (Nat.le_of_ble_eq_true rfl) ?_
  intro p e s m args below meth c A Q H locs C hQ hP hD hS ls hl
  obtain ⟨hx, hb, -, hml, hts, hown, -, hK, hN, hA⟩ := id C
  have hown : s.vm.findClass RX8 = some m.cls := hown
  have hl : lv_has ls 2 [(0, .ref ad0)] := hl
  unfold fX8_plain at hf
  refine lv_aload_n hx hb (dt uX8_plain 0 rfl) rfl (lv_at hl 0 rfl) ?_
  refine va_get (D := (dC, dI)) (ci := 8) (v := .ref ad_books) (C := RX8) (T := TX8) (N := 24) hx hb hts inU8 hown hK hP 0 rfl rfl 3 (by decide) (hts _ tw_360) (fun _ h9 => h9) rfl (dt uX8_plain 1 rfl) ?_
  refine lv_iconst (v := (1 : Int32)) hx hb (dt uX8_plain 2 rfl) (by decide) ?_
  refine lv_iconst (v := (0 : Int32)) hx hb (dt uX8_plain 3 rfl) (by decide) ?_
  refine va_iast hx hb hK hP hD hS 1 0 rfl rfl (vp_in_iff.mpr (by decide)) (dt uX8_plain 4 rfl) (fun H locs hP hD hS => ?_)
  have hP : va_P (dC, dI) vwCl [(ad0, oX8 v_trace ad_text v_typed ad_books ad_numberA ad_numberB ad_draftTouches v_draftOne v_oneTold v_at v_start v_sort v_value v_fault ad_now ad_isKept ad_near ad_seenDays ad_seenBook ad_seenIs v_seen v_sets v_inEach v_inSome), (ad_books, .inl (cI, 2, .inl (upd a_books (1 : Int32).toNatClampNeg (0 : Int32)))), (ad_draftTouches, .inl (cI, 6, .inl a_draftTouches))] H := hP
  have hD : va_D A [(ad0, oX8 v_trace ad_text v_typed ad_books ad_numberA ad_numberB ad_draftTouches v_draftOne v_oneTold v_at v_start v_sort v_value v_fault ad_now ad_isKept ad_near ad_seenDays ad_seenBook ad_seenIs v_seen v_sets v_inEach v_inSome), (ad_books, .inl (cI, 2, .inl (upd a_books (1 : Int32).toNatClampNeg (0 : Int32)))), (ad_draftTouches, .inl (cI, 6, .inl a_draftTouches))] := hD
  refine lv_aload_n hx hb (dt uX8_plain 5 rfl) rfl (lv_at hl 0 rfl) ?_
  refine lv_bipush (v := (-9 : Int32)) hx hb (dt uX8_plain 6 rfl) (by decide) ?_
  refine va_put (D := (dC, dI)) (ci := 8) (v := .int (-9 : Int32)) (ty := .int) (C := RX8) (T := TX8) (N := 24) hx hb hts inU8 tyX8 tyX8_ok nmX8 hown hK hP hD hS 0 rfl rfl 7 (by decide) (hts _ tw_365) (fun _ h9 => h9) rfl (by decide +kernel) rfl rfl (Nat.le_of_ble_eq_true rfl) (dt uX8_plain 7 rfl) (fun H locs hP hD hS => ?_)
  have hP : va_P (dC, dI) vwCl [(ad0, oX8 v_trace ad_text v_typed ad_books ad_numberA ad_numberB ad_draftTouches (-9 : Int32) v_oneTold v_at v_start v_sort v_value v_fault ad_now ad_isKept ad_near ad_seenDays ad_seenBook ad_seenIs v_seen v_sets v_inEach v_inSome), (ad_books, .inl (cI, 2, .inl (upd a_books (1 : Int32).toNatClampNeg (0 : Int32)))), (ad_draftTouches, .inl (cI, 6, .inl a_draftTouches))] H := hP
  have hD : va_D A [(ad0, oX8 v_trace ad_text v_typed ad_books ad_numberA ad_numberB ad_draftTouches (-9 : Int32) v_oneTold v_at v_start v_sort v_value v_fault ad_now ad_isKept ad_near ad_seenDays ad_seenBook ad_seenIs v_seen v_sets v_inEach v_inSome), (ad_books, .inl (cI, 2, .inl (upd a_books (1 : Int32).toNatClampNeg (0 : Int32)))), (ad_draftTouches, .inl (cI, 6, .inl a_draftTouches))] := hD
  refine lv_aload_n hx hb (dt uX8_plain 8 rfl) rfl (lv_at hl 0 rfl) ?_
  refine lv_iconst (v := (0 : Int32)) hx hb (dt uX8_plain 9 rfl) (by decide) ?_
  refine va_put (D := (dC, dI)) (ci := 8) (v := .int (0 : Int32)) (ty := .boolean) (C := RX8) (T := TX8) (N := 24) hx hb hts inU8 tyX8 tyX8_ok nmX8 hown hK hP hD hS 0 rfl rfl 8 (by decide) (hts _ tw_359) (fun _ h9 => h9) rfl (by decide +kernel) rfl rfl (Nat.le_of_ble_eq_true rfl) (dt uX8_plain 10 rfl) (fun H locs hP hD hS => ?_)
  have hP : va_P (dC, dI) vwCl [(ad0, oX8 v_trace ad_text v_typed ad_books ad_numberA ad_numberB ad_draftTouches (-9 : Int32) (0 : Int32) v_at v_start v_sort v_value v_fault ad_now ad_isKept ad_near ad_seenDays ad_seenBook ad_seenIs v_seen v_sets v_inEach v_inSome), (ad_books, .inl (cI, 2, .inl (upd a_books (1 : Int32).toNatClampNeg (0 : Int32)))), (ad_draftTouches, .inl (cI, 6, .inl a_draftTouches))] H := hP
  have hD : va_D A [(ad0, oX8 v_trace ad_text v_typed ad_books ad_numberA ad_numberB ad_draftTouches (-9 : Int32) (0 : Int32) v_at v_start v_sort v_value v_fault ad_now ad_isKept ad_near ad_seenDays ad_seenBook ad_seenIs v_seen v_sets v_inEach v_inSome), (ad_books, .inl (cI, 2, .inl (upd a_books (1 : Int32).toNatClampNeg (0 : Int32)))), (ad_draftTouches, .inl (cI, 6, .inl a_draftTouches))] := hD
  refine lv_iconst (v := (0 : Int32)) hx hb (dt uX8_plain 11 rfl) (by decide) ?_
  refine lv_istore_n (lv' := [(1, .int (0 : Int32)), (0, .ref ad0)]) hx hb (dt uX8_plain 12 rfl) rfl hl (by decide) rfl (fun ls hl => ?_)
  have hL20 : ∀ (n20 : Nat), ∀ (x1_1 : Int32) (w_2 : Nat → Int32) (H : Heap) (locs : List Loc) (ls : Array Slot), fX8_plain_L20 a_books n20 x1_1 w_2 = some q0 → va_P (dC, dI) vwCl [(ad0, oX8 v_trace ad_text v_typed ad_books ad_numberA ad_numberB ad_draftTouches (-9 : Int32) (0 : Int32) v_at v_start v_sort v_value v_fault ad_now ad_isKept ad_near ad_seenDays ad_seenBook ad_seenIs v_seen v_sets v_inEach v_inSome), (ad_books, .inl (cI, 2, .inl (upd a_books (1 : Int32).toNatClampNeg (0 : Int32)))), (ad_draftTouches, .inl (cI, 6, .inl w_2))] H → va_D A [(ad0, oX8 v_trace ad_text v_typed ad_books ad_numberA ad_numberB ad_draftTouches (-9 : Int32) (0 : Int32) v_at v_start v_sort v_value v_fault ad_now ad_isKept ad_near ad_seenDays ad_seenBook ad_seenIs v_seen v_sets v_inEach v_inSome), (ad_books, .inl (cI, 2, .inl (upd a_books (1 : Int32).toNatClampNeg (0 : Int32)))), (ad_draftTouches, .inl (cI, 6, .inl w_2))] → va_S A s.heap H locs → lv_has ls 2 [(0, .ref ad0), (1, .int x1_1)] → W p l e rX8_plain s m args below meth c H locs 0 0 Q (F0 m 20 ls []) := by
    intro n20
    induction n20 with
    | zero => intro x1_1 w_2 H locs ls hf hP hD hS hl; cases hf
    | succ n20 ih20 =>
      intro x1_1 w_2 H locs ls hf hP hD hS hl
      rw [fX8_plain_L20] at hf
      refine lv_iload_n hx hb (dt uX8_plain 13 rfl) rfl (lv_at hl 1 rfl) ?_
      refine lv_bipush (v := (6 : Int32)) hx hb (dt uX8_plain 14 rfl) (by decide) ?_
      refine lv_icmp_ge (tgt := 39) hx hb (dt uX8_plain 15 rfl) (by decide) (fun c_3 => ?_) (fun c_3 => ?_)
      · have hf := vif_t c_3 hf
        have hf := Option.some.inj hf
        subst hf
        rw [hQ]
        exact vret_v C hP hD hS (dt uX8_plain 23 rfl)
      · have hf := vif_f c_3 hf
        refine lv_aload_n hx hb (dt uX8_plain 16 rfl) rfl (lv_at hl 0 rfl) ?_
        refine va_get (D := (dC, dI)) (ci := 8) (v := .ref ad_draftTouches) (C := RX8) (T := TX8) (N := 24) hx hb hts inU8 hown hK hP 0 rfl rfl 6 (by decide) (hts _ tw_366) (fun _ h9 => h9) rfl (dt uX8_plain 17 rfl) ?_
        refine lv_iload_n hx hb (dt uX8_plain 18 rfl) rfl (lv_at hl 1 rfl) ?_
        refine lv_iconst (v := (0 : Int32)) hx hb (dt uX8_plain 19 rfl) (by decide) ?_
        obtain ⟨hi_4, hf⟩ := vg_some hf
        refine va_iast hx hb hK hP hD hS 2 0 rfl rfl hi_4 (dt uX8_plain 20 rfl) (fun H locs hP hD hS => ?_)
        have hP : va_P (dC, dI) vwCl [(ad0, oX8 v_trace ad_text v_typed ad_books ad_numberA ad_numberB ad_draftTouches (-9 : Int32) (0 : Int32) v_at v_start v_sort v_value v_fault ad_now ad_isKept ad_near ad_seenDays ad_seenBook ad_seenIs v_seen v_sets v_inEach v_inSome), (ad_books, .inl (cI, 2, .inl (upd a_books (1 : Int32).toNatClampNeg (0 : Int32)))), (ad_draftTouches, .inl (cI, 6, .inl (upd w_2 x1_1.toNatClampNeg (0 : Int32))))] H := hP
        have hD : va_D A [(ad0, oX8 v_trace ad_text v_typed ad_books ad_numberA ad_numberB ad_draftTouches (-9 : Int32) (0 : Int32) v_at v_start v_sort v_value v_fault ad_now ad_isKept ad_near ad_seenDays ad_seenBook ad_seenIs v_seen v_sets v_inEach v_inSome), (ad_books, .inl (cI, 2, .inl (upd a_books (1 : Int32).toNatClampNeg (0 : Int32)))), (ad_draftTouches, .inl (cI, 6, .inl (upd w_2 x1_1.toNatClampNeg (0 : Int32))))] := hD
        refine lv_iinc (v := x1_1 + 1) (lv' := [(1, .int (x1_1 + 1)), (0, .ref ad0)]) hx hb (dt uX8_plain 21 rfl) hl (k := 1) rfl rfl (by decide) rfl (fun ls hl => ?_)
        refine lv_goto (tgt := 20) hx hb (dt uX8_plain 22 rfl) (by decide) ?_
        exact ih20 (x1_1 + 1) (upd w_2 x1_1.toNatClampNeg (0 : Int32)) _ _ _ hf hP hD hS (lv_sub hl [1, 0] rfl)
  exact hL20 N (0 : Int32) a_draftTouches _ _ _ hf hP hD hS (lv_sub hl [1, 0] rfl)
abbrev rX8_takeDraft : Room := { frames := 0, cells := 0, slots := 0, locals := 0 }
abbrev wX8_takeDraft : List Cond := Cond.code yX8_takeDraft cX8_takeDraft 2 none :: VT
set_option maxHeartbeats 4000000 in
set_option maxRecDepth 100000 in
theorem kX8_takeDraft (ad0 : Nat) (ad_text : Nat) (ad_books : Nat) (ad_numberA : Nat) (ad_numberB : Nat) (ad_draftTouches : Nat) (ad_now : Nat) (ad_isKept : Nat) (ad_near : Nat) (ad_seenDays : Nat) (ad_seenBook : Nat) (ad_seenIs : Nat) (v_trace : Int64) (v_typed : Int32) (v_draftOne : Int32) (v_oneTold : Int32) (v_at : Int32) (v_start : Int32) (v_sort : Int32) (v_value : Int32) (v_fault : Int32) (v_seen : Int32) (v_sets : Int32) (v_inEach : Int32) (v_inSome : Int32) (a_books : Nat → Int32) (a_numberA : Nat → Int32) (a_numberB : Nat → Int32) (a_draftTouches : Nat → Int32) (a_now : Nat → Int32) (a_isKept : Nat → Int32) (N : Nat) (q0 : ((Nat → Int32) × (Nat → Int32) × (Nat → Int32) × (Nat → Int32) × (Nat → Int32) × Int32)) (hf : fX8_takeDraft N a_books a_numberA a_numberB a_draftTouches a_now a_isKept v_draftOne v_seen = some q0) : Kv l yX8_takeDraft wX8_takeDraft rX8_takeDraft (dC, dI) (vTy cI cJ cB cZ) [.ref ad0] [(ad0, oX8 v_trace ad_text v_typed ad_books ad_numberA ad_numberB ad_draftTouches v_draftOne v_oneTold v_at v_start v_sort v_value v_fault ad_now ad_isKept ad_near ad_seenDays ad_seenBook ad_seenIs v_seen v_sets v_inEach v_inSome), (ad_books, .inl (cI, 2, .inl a_books)), (ad_numberA, .inl (cI, 12, .inl a_numberA)), (ad_numberB, .inl (cI, 12, .inl a_numberB)), (ad_draftTouches, .inl (cI, 6, .inl a_draftTouches)), (ad_now, .inl (cI, 498, .inl a_now)), (ad_isKept, .inl (cZ, 2, .inl a_isKept))] [(ad0, oX8 v_trace ad_text v_typed ad_books ad_numberA ad_numberB ad_draftTouches v_draftOne v_oneTold v_at v_start v_sort v_value v_fault ad_now ad_isKept ad_near ad_seenDays ad_seenBook ad_seenIs q0.2.2.2.2.2 v_sets v_inEach v_inSome), (ad_books, .inl (cI, 2, .inl q0.1)), (ad_numberA, .inl (cI, 12, .inl q0.2.1)), (ad_numberB, .inl (cI, 12, .inl q0.2.2.1)), (ad_draftTouches, .inl (cI, 6, .inl a_draftTouches)), (ad_now, .inl (cI, 498, .inl q0.2.2.2.1)), (ad_isKept, .inl (cZ, 2, .inl q0.2.2.2.2.1))] := by
  refine Kv.mk (cc := cX8_takeDraft) (maxL := 2) (ret := none) (by decide) (Nat.le_of_ble_eq_true rfl) ?_
  intro p e s m args below meth c A Q H locs C hQ hP hD hS ls hl
  obtain ⟨hx, hb, -, hml, hts, hown, -, hK, hN, hA⟩ := id C
  have hown : s.vm.findClass RX8 = some m.cls := hown
  have hl : lv_has ls 2 [(0, .ref ad0)] := hl
  unfold fX8_takeDraft at hf
  refine lv_aload_n hx hb (dt uX8_takeDraft_0 0 rfl) rfl (lv_at hl 0 rfl) ?_
  refine va_get (D := (dC, dI)) (ci := 8) (v := .ref ad_books) (C := RX8) (T := TX8) (N := 24) hx hb hts inU8 hown hK hP 0 rfl rfl 3 (by decide) (hts _ tw_360) (fun _ h9 => h9) rfl (dt uX8_takeDraft_0 1 rfl) ?_
  refine lv_iconst (v := (0 : Int32)) hx hb (dt uX8_takeDraft_0 2 rfl) (by decide) ?_
  refine lv_aload_n hx hb (dt uX8_takeDraft_0 3 rfl) rfl (lv_at hl 0 rfl) ?_
  refine va_get (D := (dC, dI)) (ci := 8) (v := .ref ad_books) (C := RX8) (T := TX8) (N := 24) hx hb hts inU8 hown hK hP 0 rfl rfl 3 (by decide) (hts _ tw_360) (fun _ h9 => h9) rfl (dt uX8_takeDraft_0 4 rfl) ?_
  refine lv_iconst (v := (1 : Int32)) hx hb (dt uX8_takeDraft_0 5 rfl) (by decide) ?_
  refine va_iald hx hb hK hP 1 0 rfl rfl (vp_in_iff.mpr (by decide)) (dt uX8_takeDraft_0 6 rfl) ?_
  refine va_iast hx hb hK hP hD hS 1 0 rfl rfl (vp_in_iff.mpr (by decide)) (dt uX8_takeDraft_0 7 rfl) (fun H locs hP hD hS => ?_)
  have hP : va_P (dC, dI) vwCl [(ad0, oX8 v_trace ad_text v_typed ad_books ad_numberA ad_numberB ad_draftTouches v_draftOne v_oneTold v_at v_start v_sort v_value v_fault ad_now ad_isKept ad_near ad_seenDays ad_seenBook ad_seenIs v_seen v_sets v_inEach v_inSome), (ad_books, .inl (cI, 2, .inl (upd a_books (0 : Int32).toNatClampNeg (a_books (1 : Int32).toNatClampNeg)))), (ad_numberA, .inl (cI, 12, .inl a_numberA)), (ad_numberB, .inl (cI, 12, .inl a_numberB)), (ad_draftTouches, .inl (cI, 6, .inl a_draftTouches)), (ad_now, .inl (cI, 498, .inl a_now)), (ad_isKept, .inl (cZ, 2, .inl a_isKept))] H := hP
  have hD : va_D A [(ad0, oX8 v_trace ad_text v_typed ad_books ad_numberA ad_numberB ad_draftTouches v_draftOne v_oneTold v_at v_start v_sort v_value v_fault ad_now ad_isKept ad_near ad_seenDays ad_seenBook ad_seenIs v_seen v_sets v_inEach v_inSome), (ad_books, .inl (cI, 2, .inl (upd a_books (0 : Int32).toNatClampNeg (a_books (1 : Int32).toNatClampNeg)))), (ad_numberA, .inl (cI, 12, .inl a_numberA)), (ad_numberB, .inl (cI, 12, .inl a_numberB)), (ad_draftTouches, .inl (cI, 6, .inl a_draftTouches)), (ad_now, .inl (cI, 498, .inl a_now)), (ad_isKept, .inl (cZ, 2, .inl a_isKept))] := hD
  refine lv_iconst (v := (0 : Int32)) hx hb (dt uX8_takeDraft_0 8 rfl) (by decide) ?_
  refine lv_istore_n (lv' := [(1, .int (0 : Int32)), (0, .ref ad0)]) hx hb (dt uX8_takeDraft_0 9 rfl) rfl hl (by decide) rfl (fun ls hl => ?_)
  have hL14 : ∀ (n14 : Nat), ∀ (x1_1 : Int32) (w_2 : Nat → Int32) (H : Heap) (locs : List Loc) (ls : Array Slot), fX8_takeDraft_L14 N a_books a_numberA a_numberB a_draftTouches a_isKept v_draftOne n14 x1_1 w_2 = some q0 → va_P (dC, dI) vwCl [(ad0, oX8 v_trace ad_text v_typed ad_books ad_numberA ad_numberB ad_draftTouches v_draftOne v_oneTold v_at v_start v_sort v_value v_fault ad_now ad_isKept ad_near ad_seenDays ad_seenBook ad_seenIs v_seen v_sets v_inEach v_inSome), (ad_books, .inl (cI, 2, .inl (upd a_books (0 : Int32).toNatClampNeg (a_books (1 : Int32).toNatClampNeg)))), (ad_numberA, .inl (cI, 12, .inl a_numberA)), (ad_numberB, .inl (cI, 12, .inl a_numberB)), (ad_draftTouches, .inl (cI, 6, .inl a_draftTouches)), (ad_now, .inl (cI, 498, .inl w_2)), (ad_isKept, .inl (cZ, 2, .inl a_isKept))] H → va_D A [(ad0, oX8 v_trace ad_text v_typed ad_books ad_numberA ad_numberB ad_draftTouches v_draftOne v_oneTold v_at v_start v_sort v_value v_fault ad_now ad_isKept ad_near ad_seenDays ad_seenBook ad_seenIs v_seen v_sets v_inEach v_inSome), (ad_books, .inl (cI, 2, .inl (upd a_books (0 : Int32).toNatClampNeg (a_books (1 : Int32).toNatClampNeg)))), (ad_numberA, .inl (cI, 12, .inl a_numberA)), (ad_numberB, .inl (cI, 12, .inl a_numberB)), (ad_draftTouches, .inl (cI, 6, .inl a_draftTouches)), (ad_now, .inl (cI, 498, .inl w_2)), (ad_isKept, .inl (cZ, 2, .inl a_isKept))] → va_S A s.heap H locs → lv_has ls 2 [(0, .ref ad0), (1, .int x1_1)] → W p l e rX8_takeDraft s m args below meth c H locs 0 0 Q (F0 m 14 ls []) := by
    intro n14
    induction n14 with
    | zero => intro x1_1 w_2 H locs ls hf hP hD hS hl; cases hf
    | succ n14 ih14 =>
      intro x1_1 w_2 H locs ls hf hP hD hS hl
      rw [fX8_takeDraft_L14] at hf
      refine lv_iload_n hx hb (dt uX8_takeDraft_0 10 rfl) rfl (lv_at hl 1 rfl) ?_
      refine lv_bipush (v := (15 : Int32)) hx hb (dt uX8_takeDraft_0 11 rfl) (by decide) ?_
      refine lv_icmp_ge (tgt := 33) hx hb (dt uX8_takeDraft_0 12 rfl) (by decide) (fun c_3 => ?_) (fun c_3 => ?_)
      · have hf := vif_t c_3 hf
        refine lv_iconst (v := (0 : Int32)) hx hb (dt uX8_takeDraft_0 20 rfl) (by decide) ?_
        refine lv_istore_n (lv' := [(1, .int (0 : Int32)), (0, .ref ad0)]) hx hb (dt uX8_takeDraft_0 21 rfl) rfl hl (by decide) rfl (fun ls hl => ?_)
        have hL35 : ∀ (n35 : Nat), ∀ (x1_4 : Int32) (w_5 : Nat → Int32) (w_6 : Nat → Int32) (w_7 : Nat → Int32) (H : Heap) (locs : List Loc) (ls : Array Slot), fX8_takeDraft_L35 a_books a_draftTouches a_isKept v_draftOne n35 x1_4 w_5 w_6 w_7 = some q0 → va_P (dC, dI) vwCl [(ad0, oX8 v_trace ad_text v_typed ad_books ad_numberA ad_numberB ad_draftTouches v_draftOne v_oneTold v_at v_start v_sort v_value v_fault ad_now ad_isKept ad_near ad_seenDays ad_seenBook ad_seenIs v_seen v_sets v_inEach v_inSome), (ad_books, .inl (cI, 2, .inl (upd a_books (0 : Int32).toNatClampNeg (a_books (1 : Int32).toNatClampNeg)))), (ad_numberA, .inl (cI, 12, .inl w_5)), (ad_numberB, .inl (cI, 12, .inl w_6)), (ad_draftTouches, .inl (cI, 6, .inl a_draftTouches)), (ad_now, .inl (cI, 498, .inl w_7)), (ad_isKept, .inl (cZ, 2, .inl a_isKept))] H → va_D A [(ad0, oX8 v_trace ad_text v_typed ad_books ad_numberA ad_numberB ad_draftTouches v_draftOne v_oneTold v_at v_start v_sort v_value v_fault ad_now ad_isKept ad_near ad_seenDays ad_seenBook ad_seenIs v_seen v_sets v_inEach v_inSome), (ad_books, .inl (cI, 2, .inl (upd a_books (0 : Int32).toNatClampNeg (a_books (1 : Int32).toNatClampNeg)))), (ad_numberA, .inl (cI, 12, .inl w_5)), (ad_numberB, .inl (cI, 12, .inl w_6)), (ad_draftTouches, .inl (cI, 6, .inl a_draftTouches)), (ad_now, .inl (cI, 498, .inl w_7)), (ad_isKept, .inl (cZ, 2, .inl a_isKept))] → va_S A s.heap H locs → lv_has ls 2 [(0, .ref ad0), (1, .int x1_4)] → W p l e rX8_takeDraft s m args below meth c H locs 0 0 Q (F0 m 35 ls []) := by
          intro n35
          induction n35 with
          | zero => intro x1_4 w_5 w_6 w_7 H locs ls hf hP hD hS hl; cases hf
          | succ n35 ih35 =>
            intro x1_4 w_5 w_6 w_7 H locs ls hf hP hD hS hl
            rw [fX8_takeDraft_L35] at hf
            refine lv_iload_n hx hb (dt uX8_takeDraft_0 22 rfl) rfl (lv_at hl 1 rfl) ?_
            refine lv_bipush (v := (6 : Int32)) hx hb (dt uX8_takeDraft_0 23 rfl) (by decide) ?_
            refine lv_icmp_ge (tgt := 92) hx hb (dt uX8_takeDraft_0 24 rfl) (by decide) (fun c_8 => ?_) (fun c_8 => ?_)
            · have hf := vif_t c_8 hf
              refine lv_aload_n hx hb (dt uX8_takeDraft_0 57 rfl) rfl (lv_at hl 0 rfl) ?_
              refine va_get (D := (dC, dI)) (ci := 8) (v := .ref ad_now) (C := RX8) (T := TX8) (N := 24) hx hb hts inU8 hown hK hP 0 rfl rfl 14 (by decide) (hts _ tw_369) (fun _ h9 => h9) rfl (dt uX8_takeDraft_0 58 rfl) ?_
              refine lv_bipush (v := (13 : Int32)) hx hb (dt uX8_takeDraft_0 59 rfl) (by decide) ?_
              refine lv_aload_n hx hb (dt uX8_takeDraft_1 0 rfl) rfl (lv_at hl 0 rfl) ?_
              refine va_get (D := (dC, dI)) (ci := 8) (v := .int v_draftOne) (C := RX8) (T := TX8) (N := 24) hx hb hts inU8 hown hK hP 0 rfl rfl 7 (by decide) (hts _ tw_365) (fun _ h9 => h9) rfl (dt uX8_takeDraft_1 1 rfl) ?_
              refine va_iast hx hb hK hP hD hS 5 0 rfl rfl (vp_in_iff.mpr (by decide)) (dt uX8_takeDraft_1 2 rfl) (fun H locs hP hD hS => ?_)
              have hP : va_P (dC, dI) vwCl [(ad0, oX8 v_trace ad_text v_typed ad_books ad_numberA ad_numberB ad_draftTouches v_draftOne v_oneTold v_at v_start v_sort v_value v_fault ad_now ad_isKept ad_near ad_seenDays ad_seenBook ad_seenIs v_seen v_sets v_inEach v_inSome), (ad_books, .inl (cI, 2, .inl (upd a_books (0 : Int32).toNatClampNeg (a_books (1 : Int32).toNatClampNeg)))), (ad_numberA, .inl (cI, 12, .inl w_5)), (ad_numberB, .inl (cI, 12, .inl w_6)), (ad_draftTouches, .inl (cI, 6, .inl a_draftTouches)), (ad_now, .inl (cI, 498, .inl (upd w_7 (13 : Int32).toNatClampNeg v_draftOne))), (ad_isKept, .inl (cZ, 2, .inl a_isKept))] H := hP
              have hD : va_D A [(ad0, oX8 v_trace ad_text v_typed ad_books ad_numberA ad_numberB ad_draftTouches v_draftOne v_oneTold v_at v_start v_sort v_value v_fault ad_now ad_isKept ad_near ad_seenDays ad_seenBook ad_seenIs v_seen v_sets v_inEach v_inSome), (ad_books, .inl (cI, 2, .inl (upd a_books (0 : Int32).toNatClampNeg (a_books (1 : Int32).toNatClampNeg)))), (ad_numberA, .inl (cI, 12, .inl w_5)), (ad_numberB, .inl (cI, 12, .inl w_6)), (ad_draftTouches, .inl (cI, 6, .inl a_draftTouches)), (ad_now, .inl (cI, 498, .inl (upd w_7 (13 : Int32).toNatClampNeg v_draftOne))), (ad_isKept, .inl (cZ, 2, .inl a_isKept))] := hD
              refine lv_aload_n hx hb (dt uX8_takeDraft_1 3 rfl) rfl (lv_at hl 0 rfl) ?_
              refine va_get (D := (dC, dI)) (ci := 8) (v := .ref ad_now) (C := RX8) (T := TX8) (N := 24) hx hb hts inU8 hown hK hP 0 rfl rfl 14 (by decide) (hts _ tw_369) (fun _ h9 => h9) rfl (dt uX8_takeDraft_1 4 rfl) ?_
              refine lv_bipush (v := (15 : Int32)) hx hb (dt uX8_takeDraft_1 5 rfl) (by decide) ?_
              refine lv_iconst (v := (0 : Int32)) hx hb (dt uX8_takeDraft_1 6 rfl) (by decide) ?_
              refine va_iast hx hb hK hP hD hS 5 0 rfl rfl (vp_in_iff.mpr (by decide)) (dt uX8_takeDraft_1 7 rfl) (fun H locs hP hD hS => ?_)
              have hP : va_P (dC, dI) vwCl [(ad0, oX8 v_trace ad_text v_typed ad_books ad_numberA ad_numberB ad_draftTouches v_draftOne v_oneTold v_at v_start v_sort v_value v_fault ad_now ad_isKept ad_near ad_seenDays ad_seenBook ad_seenIs v_seen v_sets v_inEach v_inSome), (ad_books, .inl (cI, 2, .inl (upd a_books (0 : Int32).toNatClampNeg (a_books (1 : Int32).toNatClampNeg)))), (ad_numberA, .inl (cI, 12, .inl w_5)), (ad_numberB, .inl (cI, 12, .inl w_6)), (ad_draftTouches, .inl (cI, 6, .inl a_draftTouches)), (ad_now, .inl (cI, 498, .inl (upd (upd w_7 (13 : Int32).toNatClampNeg v_draftOne) (15 : Int32).toNatClampNeg (0 : Int32)))), (ad_isKept, .inl (cZ, 2, .inl a_isKept))] H := hP
              have hD : va_D A [(ad0, oX8 v_trace ad_text v_typed ad_books ad_numberA ad_numberB ad_draftTouches v_draftOne v_oneTold v_at v_start v_sort v_value v_fault ad_now ad_isKept ad_near ad_seenDays ad_seenBook ad_seenIs v_seen v_sets v_inEach v_inSome), (ad_books, .inl (cI, 2, .inl (upd a_books (0 : Int32).toNatClampNeg (a_books (1 : Int32).toNatClampNeg)))), (ad_numberA, .inl (cI, 12, .inl w_5)), (ad_numberB, .inl (cI, 12, .inl w_6)), (ad_draftTouches, .inl (cI, 6, .inl a_draftTouches)), (ad_now, .inl (cI, 498, .inl (upd (upd w_7 (13 : Int32).toNatClampNeg v_draftOne) (15 : Int32).toNatClampNeg (0 : Int32)))), (ad_isKept, .inl (cZ, 2, .inl a_isKept))] := hD
              refine lv_aload_n hx hb (dt uX8_takeDraft_1 8 rfl) rfl (lv_at hl 0 rfl) ?_
              refine lv_iconst (v := (0 : Int32)) hx hb (dt uX8_takeDraft_1 9 rfl) (by decide) ?_
              refine va_put (D := (dC, dI)) (ci := 8) (v := .int (0 : Int32)) (ty := .int) (C := RX8) (T := TX8) (N := 24) hx hb hts inU8 tyX8 tyX8_ok nmX8 hown hK hP hD hS 0 rfl rfl 20 (by decide) (hts _ tw_370) (fun _ h9 => h9) rfl (by decide +kernel) rfl rfl (Nat.le_of_ble_eq_true rfl) (dt uX8_takeDraft_1 10 rfl) (fun H locs hP hD hS => ?_)
              have hP : va_P (dC, dI) vwCl [(ad0, oX8 v_trace ad_text v_typed ad_books ad_numberA ad_numberB ad_draftTouches v_draftOne v_oneTold v_at v_start v_sort v_value v_fault ad_now ad_isKept ad_near ad_seenDays ad_seenBook ad_seenIs (0 : Int32) v_sets v_inEach v_inSome), (ad_books, .inl (cI, 2, .inl (upd a_books (0 : Int32).toNatClampNeg (a_books (1 : Int32).toNatClampNeg)))), (ad_numberA, .inl (cI, 12, .inl w_5)), (ad_numberB, .inl (cI, 12, .inl w_6)), (ad_draftTouches, .inl (cI, 6, .inl a_draftTouches)), (ad_now, .inl (cI, 498, .inl (upd (upd w_7 (13 : Int32).toNatClampNeg v_draftOne) (15 : Int32).toNatClampNeg (0 : Int32)))), (ad_isKept, .inl (cZ, 2, .inl a_isKept))] H := hP
              have hD : va_D A [(ad0, oX8 v_trace ad_text v_typed ad_books ad_numberA ad_numberB ad_draftTouches v_draftOne v_oneTold v_at v_start v_sort v_value v_fault ad_now ad_isKept ad_near ad_seenDays ad_seenBook ad_seenIs (0 : Int32) v_sets v_inEach v_inSome), (ad_books, .inl (cI, 2, .inl (upd a_books (0 : Int32).toNatClampNeg (a_books (1 : Int32).toNatClampNeg)))), (ad_numberA, .inl (cI, 12, .inl w_5)), (ad_numberB, .inl (cI, 12, .inl w_6)), (ad_draftTouches, .inl (cI, 6, .inl a_draftTouches)), (ad_now, .inl (cI, 498, .inl (upd (upd w_7 (13 : Int32).toNatClampNeg v_draftOne) (15 : Int32).toNatClampNeg (0 : Int32)))), (ad_isKept, .inl (cZ, 2, .inl a_isKept))] := hD
              refine lv_aload_n hx hb (dt uX8_takeDraft_1 11 rfl) rfl (lv_at hl 0 rfl) ?_
              refine va_get (D := (dC, dI)) (ci := 8) (v := .ref ad_isKept) (C := RX8) (T := TX8) (N := 24) hx hb hts inU8 hown hK hP 0 rfl rfl 15 (by decide) (hts _ tw_371) (fun _ h9 => h9) rfl (dt uX8_takeDraft_1 12 rfl) ?_
              refine lv_iconst (v := (0 : Int32)) hx hb (dt uX8_takeDraft_1 13 rfl) (by decide) ?_
              refine lv_iconst (v := (0 : Int32)) hx hb (dt uX8_takeDraft_1 14 rfl) (by decide) ?_
              refine va_zast hx hb hK hP hD hS 6 3 rfl rfl (vp_in_iff.mpr (by decide)) (dt uX8_takeDraft_1 15 rfl) (fun H locs hP hD hS => ?_)
              have hP : va_P (dC, dI) vwCl [(ad0, oX8 v_trace ad_text v_typed ad_books ad_numberA ad_numberB ad_draftTouches v_draftOne v_oneTold v_at v_start v_sort v_value v_fault ad_now ad_isKept ad_near ad_seenDays ad_seenBook ad_seenIs (0 : Int32) v_sets v_inEach v_inSome), (ad_books, .inl (cI, 2, .inl (upd a_books (0 : Int32).toNatClampNeg (a_books (1 : Int32).toNatClampNeg)))), (ad_numberA, .inl (cI, 12, .inl w_5)), (ad_numberB, .inl (cI, 12, .inl w_6)), (ad_draftTouches, .inl (cI, 6, .inl a_draftTouches)), (ad_now, .inl (cI, 498, .inl (upd (upd w_7 (13 : Int32).toNatClampNeg v_draftOne) (15 : Int32).toNatClampNeg (0 : Int32)))), (ad_isKept, .inl (cZ, 2, .inl (upd a_isKept (0 : Int32).toNatClampNeg (vp_nar .boolean (0 : Int32)))))] H := hP
              have hD : va_D A [(ad0, oX8 v_trace ad_text v_typed ad_books ad_numberA ad_numberB ad_draftTouches v_draftOne v_oneTold v_at v_start v_sort v_value v_fault ad_now ad_isKept ad_near ad_seenDays ad_seenBook ad_seenIs (0 : Int32) v_sets v_inEach v_inSome), (ad_books, .inl (cI, 2, .inl (upd a_books (0 : Int32).toNatClampNeg (a_books (1 : Int32).toNatClampNeg)))), (ad_numberA, .inl (cI, 12, .inl w_5)), (ad_numberB, .inl (cI, 12, .inl w_6)), (ad_draftTouches, .inl (cI, 6, .inl a_draftTouches)), (ad_now, .inl (cI, 498, .inl (upd (upd w_7 (13 : Int32).toNatClampNeg v_draftOne) (15 : Int32).toNatClampNeg (0 : Int32)))), (ad_isKept, .inl (cZ, 2, .inl (upd a_isKept (0 : Int32).toNatClampNeg (vp_nar .boolean (0 : Int32)))))] := hD
              refine lv_aload_n hx hb (dt uX8_takeDraft_1 16 rfl) rfl (lv_at hl 0 rfl) ?_
              refine va_get (D := (dC, dI)) (ci := 8) (v := .ref ad_isKept) (C := RX8) (T := TX8) (N := 24) hx hb hts inU8 hown hK hP 0 rfl rfl 15 (by decide) (hts _ tw_371) (fun _ h9 => h9) rfl (dt uX8_takeDraft_1 17 rfl) ?_
              refine lv_iconst (v := (1 : Int32)) hx hb (dt uX8_takeDraft_1 18 rfl) (by decide) ?_
              refine lv_iconst (v := (0 : Int32)) hx hb (dt uX8_takeDraft_1 19 rfl) (by decide) ?_
              refine va_zast hx hb hK hP hD hS 6 3 rfl rfl (vp_in_iff.mpr (by decide)) (dt uX8_takeDraft_1 20 rfl) (fun H locs hP hD hS => ?_)
              have hP : va_P (dC, dI) vwCl [(ad0, oX8 v_trace ad_text v_typed ad_books ad_numberA ad_numberB ad_draftTouches v_draftOne v_oneTold v_at v_start v_sort v_value v_fault ad_now ad_isKept ad_near ad_seenDays ad_seenBook ad_seenIs (0 : Int32) v_sets v_inEach v_inSome), (ad_books, .inl (cI, 2, .inl (upd a_books (0 : Int32).toNatClampNeg (a_books (1 : Int32).toNatClampNeg)))), (ad_numberA, .inl (cI, 12, .inl w_5)), (ad_numberB, .inl (cI, 12, .inl w_6)), (ad_draftTouches, .inl (cI, 6, .inl a_draftTouches)), (ad_now, .inl (cI, 498, .inl (upd (upd w_7 (13 : Int32).toNatClampNeg v_draftOne) (15 : Int32).toNatClampNeg (0 : Int32)))), (ad_isKept, .inl (cZ, 2, .inl (upd (upd a_isKept (0 : Int32).toNatClampNeg (vp_nar .boolean (0 : Int32))) (1 : Int32).toNatClampNeg (vp_nar .boolean (0 : Int32)))))] H := hP
              have hD : va_D A [(ad0, oX8 v_trace ad_text v_typed ad_books ad_numberA ad_numberB ad_draftTouches v_draftOne v_oneTold v_at v_start v_sort v_value v_fault ad_now ad_isKept ad_near ad_seenDays ad_seenBook ad_seenIs (0 : Int32) v_sets v_inEach v_inSome), (ad_books, .inl (cI, 2, .inl (upd a_books (0 : Int32).toNatClampNeg (a_books (1 : Int32).toNatClampNeg)))), (ad_numberA, .inl (cI, 12, .inl w_5)), (ad_numberB, .inl (cI, 12, .inl w_6)), (ad_draftTouches, .inl (cI, 6, .inl a_draftTouches)), (ad_now, .inl (cI, 498, .inl (upd (upd w_7 (13 : Int32).toNatClampNeg v_draftOne) (15 : Int32).toNatClampNeg (0 : Int32)))), (ad_isKept, .inl (cZ, 2, .inl (upd (upd a_isKept (0 : Int32).toNatClampNeg (vp_nar .boolean (0 : Int32))) (1 : Int32).toNatClampNeg (vp_nar .boolean (0 : Int32)))))] := hD
              have hf := Option.some.inj hf
              subst hf
              rw [hQ]
              exact vret_v C hP hD hS (dt uX8_takeDraft_1 21 rfl)
            · have hf := vif_f c_8 hf
              refine lv_aload_n hx hb (dt uX8_takeDraft_0 25 rfl) rfl (lv_at hl 0 rfl) ?_
              refine va_get (D := (dC, dI)) (ci := 8) (v := .ref ad_numberA) (C := RX8) (T := TX8) (N := 24) hx hb hts inU8 hown hK hP 0 rfl rfl 4 (by decide) (hts _ tw_367) (fun _ h9 => h9) rfl (dt uX8_takeDraft_0 26 rfl) ?_
              refine lv_iload_n hx hb (dt uX8_takeDraft_0 27 rfl) rfl (lv_at hl 1 rfl) ?_
              refine lv_aload_n hx hb (dt uX8_takeDraft_0 28 rfl) rfl (lv_at hl 0 rfl) ?_
              refine va_get (D := (dC, dI)) (ci := 8) (v := .ref ad_numberA) (C := RX8) (T := TX8) (N := 24) hx hb hts inU8 hown hK hP 0 rfl rfl 4 (by decide) (hts _ tw_367) (fun _ h9 => h9) rfl (dt uX8_takeDraft_0 29 rfl) ?_
              refine lv_bipush (v := (6 : Int32)) hx hb (dt uX8_takeDraft_0 30 rfl) (by decide) ?_
              refine lv_iload_n hx hb (dt uX8_takeDraft_0 31 rfl) rfl (lv_at hl 1 rfl) ?_
              refine lv_iadd hx hb (dt uX8_takeDraft_0 32 rfl) ?_
              obtain ⟨hi_9, hf⟩ := vg_some hf
              refine va_iald hx hb hK hP 2 0 rfl rfl hi_9 (dt uX8_takeDraft_0 33 rfl) ?_
              obtain ⟨hi_10, hf⟩ := vg_some hf
              refine va_iast hx hb hK hP hD hS 2 0 rfl rfl hi_10 (dt uX8_takeDraft_0 34 rfl) (fun H locs hP hD hS => ?_)
              have hP : va_P (dC, dI) vwCl [(ad0, oX8 v_trace ad_text v_typed ad_books ad_numberA ad_numberB ad_draftTouches v_draftOne v_oneTold v_at v_start v_sort v_value v_fault ad_now ad_isKept ad_near ad_seenDays ad_seenBook ad_seenIs v_seen v_sets v_inEach v_inSome), (ad_books, .inl (cI, 2, .inl (upd a_books (0 : Int32).toNatClampNeg (a_books (1 : Int32).toNatClampNeg)))), (ad_numberA, .inl (cI, 12, .inl (upd w_5 x1_4.toNatClampNeg (w_5 ((6 : Int32) + x1_4).toNatClampNeg)))), (ad_numberB, .inl (cI, 12, .inl w_6)), (ad_draftTouches, .inl (cI, 6, .inl a_draftTouches)), (ad_now, .inl (cI, 498, .inl w_7)), (ad_isKept, .inl (cZ, 2, .inl a_isKept))] H := hP
              have hD : va_D A [(ad0, oX8 v_trace ad_text v_typed ad_books ad_numberA ad_numberB ad_draftTouches v_draftOne v_oneTold v_at v_start v_sort v_value v_fault ad_now ad_isKept ad_near ad_seenDays ad_seenBook ad_seenIs v_seen v_sets v_inEach v_inSome), (ad_books, .inl (cI, 2, .inl (upd a_books (0 : Int32).toNatClampNeg (a_books (1 : Int32).toNatClampNeg)))), (ad_numberA, .inl (cI, 12, .inl (upd w_5 x1_4.toNatClampNeg (w_5 ((6 : Int32) + x1_4).toNatClampNeg)))), (ad_numberB, .inl (cI, 12, .inl w_6)), (ad_draftTouches, .inl (cI, 6, .inl a_draftTouches)), (ad_now, .inl (cI, 498, .inl w_7)), (ad_isKept, .inl (cZ, 2, .inl a_isKept))] := hD
              refine lv_aload_n hx hb (dt uX8_takeDraft_0 35 rfl) rfl (lv_at hl 0 rfl) ?_
              refine va_get (D := (dC, dI)) (ci := 8) (v := .ref ad_numberB) (C := RX8) (T := TX8) (N := 24) hx hb hts inU8 hown hK hP 0 rfl rfl 5 (by decide) (hts _ tw_368) (fun _ h9 => h9) rfl (dt uX8_takeDraft_0 36 rfl) ?_
              refine lv_iload_n hx hb (dt uX8_takeDraft_0 37 rfl) rfl (lv_at hl 1 rfl) ?_
              refine lv_aload_n hx hb (dt uX8_takeDraft_0 38 rfl) rfl (lv_at hl 0 rfl) ?_
              refine va_get (D := (dC, dI)) (ci := 8) (v := .ref ad_numberB) (C := RX8) (T := TX8) (N := 24) hx hb hts inU8 hown hK hP 0 rfl rfl 5 (by decide) (hts _ tw_368) (fun _ h9 => h9) rfl (dt uX8_takeDraft_0 39 rfl) ?_
              refine lv_bipush (v := (6 : Int32)) hx hb (dt uX8_takeDraft_0 40 rfl) (by decide) ?_
              refine lv_iload_n hx hb (dt uX8_takeDraft_0 41 rfl) rfl (lv_at hl 1 rfl) ?_
              refine lv_iadd hx hb (dt uX8_takeDraft_0 42 rfl) ?_
              obtain ⟨hi_11, hf⟩ := vg_some hf
              refine va_iald hx hb hK hP 3 0 rfl rfl hi_11 (dt uX8_takeDraft_0 43 rfl) ?_
              obtain ⟨hi_12, hf⟩ := vg_some hf
              refine va_iast hx hb hK hP hD hS 3 0 rfl rfl hi_12 (dt uX8_takeDraft_0 44 rfl) (fun H locs hP hD hS => ?_)
              have hP : va_P (dC, dI) vwCl [(ad0, oX8 v_trace ad_text v_typed ad_books ad_numberA ad_numberB ad_draftTouches v_draftOne v_oneTold v_at v_start v_sort v_value v_fault ad_now ad_isKept ad_near ad_seenDays ad_seenBook ad_seenIs v_seen v_sets v_inEach v_inSome), (ad_books, .inl (cI, 2, .inl (upd a_books (0 : Int32).toNatClampNeg (a_books (1 : Int32).toNatClampNeg)))), (ad_numberA, .inl (cI, 12, .inl (upd w_5 x1_4.toNatClampNeg (w_5 ((6 : Int32) + x1_4).toNatClampNeg)))), (ad_numberB, .inl (cI, 12, .inl (upd w_6 x1_4.toNatClampNeg (w_6 ((6 : Int32) + x1_4).toNatClampNeg)))), (ad_draftTouches, .inl (cI, 6, .inl a_draftTouches)), (ad_now, .inl (cI, 498, .inl w_7)), (ad_isKept, .inl (cZ, 2, .inl a_isKept))] H := hP
              have hD : va_D A [(ad0, oX8 v_trace ad_text v_typed ad_books ad_numberA ad_numberB ad_draftTouches v_draftOne v_oneTold v_at v_start v_sort v_value v_fault ad_now ad_isKept ad_near ad_seenDays ad_seenBook ad_seenIs v_seen v_sets v_inEach v_inSome), (ad_books, .inl (cI, 2, .inl (upd a_books (0 : Int32).toNatClampNeg (a_books (1 : Int32).toNatClampNeg)))), (ad_numberA, .inl (cI, 12, .inl (upd w_5 x1_4.toNatClampNeg (w_5 ((6 : Int32) + x1_4).toNatClampNeg)))), (ad_numberB, .inl (cI, 12, .inl (upd w_6 x1_4.toNatClampNeg (w_6 ((6 : Int32) + x1_4).toNatClampNeg)))), (ad_draftTouches, .inl (cI, 6, .inl a_draftTouches)), (ad_now, .inl (cI, 498, .inl w_7)), (ad_isKept, .inl (cZ, 2, .inl a_isKept))] := hD
              refine lv_aload_n hx hb (dt uX8_takeDraft_0 45 rfl) rfl (lv_at hl 0 rfl) ?_
              refine va_get (D := (dC, dI)) (ci := 8) (v := .ref ad_now) (C := RX8) (T := TX8) (N := 24) hx hb hts inU8 hown hK hP 0 rfl rfl 14 (by decide) (hts _ tw_369) (fun _ h9 => h9) rfl (dt uX8_takeDraft_0 46 rfl) ?_
              refine lv_bipush (v := (6 : Int32)) hx hb (dt uX8_takeDraft_0 47 rfl) (by decide) ?_
              refine lv_iload_n hx hb (dt uX8_takeDraft_0 48 rfl) rfl (lv_at hl 1 rfl) ?_
              refine lv_iadd hx hb (dt uX8_takeDraft_0 49 rfl) ?_
              refine lv_aload_n hx hb (dt uX8_takeDraft_0 50 rfl) rfl (lv_at hl 0 rfl) ?_
              refine va_get (D := (dC, dI)) (ci := 8) (v := .ref ad_draftTouches) (C := RX8) (T := TX8) (N := 24) hx hb hts inU8 hown hK hP 0 rfl rfl 6 (by decide) (hts _ tw_366) (fun _ h9 => h9) rfl (dt uX8_takeDraft_0 51 rfl) ?_
              refine lv_iload_n hx hb (dt uX8_takeDraft_0 52 rfl) rfl (lv_at hl 1 rfl) ?_
              obtain ⟨hi_13, hf⟩ := vg_some hf
              refine va_iald hx hb hK hP 4 0 rfl rfl hi_13 (dt uX8_takeDraft_0 53 rfl) ?_
              obtain ⟨hi_14, hf⟩ := vg_some hf
              refine va_iast hx hb hK hP hD hS 5 0 rfl rfl hi_14 (dt uX8_takeDraft_0 54 rfl) (fun H locs hP hD hS => ?_)
              have hP : va_P (dC, dI) vwCl [(ad0, oX8 v_trace ad_text v_typed ad_books ad_numberA ad_numberB ad_draftTouches v_draftOne v_oneTold v_at v_start v_sort v_value v_fault ad_now ad_isKept ad_near ad_seenDays ad_seenBook ad_seenIs v_seen v_sets v_inEach v_inSome), (ad_books, .inl (cI, 2, .inl (upd a_books (0 : Int32).toNatClampNeg (a_books (1 : Int32).toNatClampNeg)))), (ad_numberA, .inl (cI, 12, .inl (upd w_5 x1_4.toNatClampNeg (w_5 ((6 : Int32) + x1_4).toNatClampNeg)))), (ad_numberB, .inl (cI, 12, .inl (upd w_6 x1_4.toNatClampNeg (w_6 ((6 : Int32) + x1_4).toNatClampNeg)))), (ad_draftTouches, .inl (cI, 6, .inl a_draftTouches)), (ad_now, .inl (cI, 498, .inl (upd w_7 ((6 : Int32) + x1_4).toNatClampNeg (a_draftTouches x1_4.toNatClampNeg)))), (ad_isKept, .inl (cZ, 2, .inl a_isKept))] H := hP
              have hD : va_D A [(ad0, oX8 v_trace ad_text v_typed ad_books ad_numberA ad_numberB ad_draftTouches v_draftOne v_oneTold v_at v_start v_sort v_value v_fault ad_now ad_isKept ad_near ad_seenDays ad_seenBook ad_seenIs v_seen v_sets v_inEach v_inSome), (ad_books, .inl (cI, 2, .inl (upd a_books (0 : Int32).toNatClampNeg (a_books (1 : Int32).toNatClampNeg)))), (ad_numberA, .inl (cI, 12, .inl (upd w_5 x1_4.toNatClampNeg (w_5 ((6 : Int32) + x1_4).toNatClampNeg)))), (ad_numberB, .inl (cI, 12, .inl (upd w_6 x1_4.toNatClampNeg (w_6 ((6 : Int32) + x1_4).toNatClampNeg)))), (ad_draftTouches, .inl (cI, 6, .inl a_draftTouches)), (ad_now, .inl (cI, 498, .inl (upd w_7 ((6 : Int32) + x1_4).toNatClampNeg (a_draftTouches x1_4.toNatClampNeg)))), (ad_isKept, .inl (cZ, 2, .inl a_isKept))] := hD
              refine lv_iinc (v := x1_4 + 1) (lv' := [(1, .int (x1_4 + 1)), (0, .ref ad0)]) hx hb (dt uX8_takeDraft_0 55 rfl) hl (k := 1) rfl rfl (by decide) rfl (fun ls hl => ?_)
              refine lv_goto (tgt := 35) hx hb (dt uX8_takeDraft_0 56 rfl) (by decide) ?_
              exact ih35 (x1_4 + 1) (upd w_5 x1_4.toNatClampNeg (w_5 ((6 : Int32) + x1_4).toNatClampNeg)) (upd w_6 x1_4.toNatClampNeg (w_6 ((6 : Int32) + x1_4).toNatClampNeg)) (upd w_7 ((6 : Int32) + x1_4).toNatClampNeg (a_draftTouches x1_4.toNatClampNeg)) _ _ _ hf hP hD hS (lv_sub hl [1, 0] rfl)
        exact hL35 N (0 : Int32) a_numberA a_numberB w_2 _ _ _ hf hP hD hS (lv_sub hl [1, 0] rfl)
      · have hf := vif_f c_3 hf
        refine lv_aload_n hx hb (dt uX8_takeDraft_0 13 rfl) rfl (lv_at hl 0 rfl) ?_
        refine va_get (D := (dC, dI)) (ci := 8) (v := .ref ad_now) (C := RX8) (T := TX8) (N := 24) hx hb hts inU8 hown hK hP 0 rfl rfl 14 (by decide) (hts _ tw_369) (fun _ h9 => h9) rfl (dt uX8_takeDraft_0 14 rfl) ?_
        refine lv_iload_n hx hb (dt uX8_takeDraft_0 15 rfl) rfl (lv_at hl 1 rfl) ?_
        refine lv_iconst (v := (0 : Int32)) hx hb (dt uX8_takeDraft_0 16 rfl) (by decide) ?_
        obtain ⟨hi_15, hf⟩ := vg_some hf
        refine va_iast hx hb hK hP hD hS 5 0 rfl rfl hi_15 (dt uX8_takeDraft_0 17 rfl) (fun H locs hP hD hS => ?_)
        have hP : va_P (dC, dI) vwCl [(ad0, oX8 v_trace ad_text v_typed ad_books ad_numberA ad_numberB ad_draftTouches v_draftOne v_oneTold v_at v_start v_sort v_value v_fault ad_now ad_isKept ad_near ad_seenDays ad_seenBook ad_seenIs v_seen v_sets v_inEach v_inSome), (ad_books, .inl (cI, 2, .inl (upd a_books (0 : Int32).toNatClampNeg (a_books (1 : Int32).toNatClampNeg)))), (ad_numberA, .inl (cI, 12, .inl a_numberA)), (ad_numberB, .inl (cI, 12, .inl a_numberB)), (ad_draftTouches, .inl (cI, 6, .inl a_draftTouches)), (ad_now, .inl (cI, 498, .inl (upd w_2 x1_1.toNatClampNeg (0 : Int32)))), (ad_isKept, .inl (cZ, 2, .inl a_isKept))] H := hP
        have hD : va_D A [(ad0, oX8 v_trace ad_text v_typed ad_books ad_numberA ad_numberB ad_draftTouches v_draftOne v_oneTold v_at v_start v_sort v_value v_fault ad_now ad_isKept ad_near ad_seenDays ad_seenBook ad_seenIs v_seen v_sets v_inEach v_inSome), (ad_books, .inl (cI, 2, .inl (upd a_books (0 : Int32).toNatClampNeg (a_books (1 : Int32).toNatClampNeg)))), (ad_numberA, .inl (cI, 12, .inl a_numberA)), (ad_numberB, .inl (cI, 12, .inl a_numberB)), (ad_draftTouches, .inl (cI, 6, .inl a_draftTouches)), (ad_now, .inl (cI, 498, .inl (upd w_2 x1_1.toNatClampNeg (0 : Int32)))), (ad_isKept, .inl (cZ, 2, .inl a_isKept))] := hD
        refine lv_iinc (v := x1_1 + 1) (lv' := [(1, .int (x1_1 + 1)), (0, .ref ad0)]) hx hb (dt uX8_takeDraft_0 18 rfl) hl (k := 1) rfl rfl (by decide) rfl (fun ls hl => ?_)
        refine lv_goto (tgt := 14) hx hb (dt uX8_takeDraft_0 19 rfl) (by decide) ?_
        exact ih14 (x1_1 + 1) (upd w_2 x1_1.toNatClampNeg (0 : Int32)) _ _ _ hf hP hD hS (lv_sub hl [1, 0] rfl)
  exact hL14 N (0 : Int32) a_now _ _ _ hf hP hD hS (lv_sub hl [1, 0] rfl)
abbrev rX8_books : Room := { frames := 5, cells := 0, slots := 0, locals := 110 }
abbrev wX8_books : List Cond := Cond.code yX8_books cX8_books 3 (some .int) :: VT
set_option maxHeartbeats 4000000 in
set_option maxRecDepth 100000 in
theorem kX8_books (ad0 : Nat) (ad_text : Nat) (ad_books : Nat) (ad_numberA : Nat) (ad_numberB : Nat) (ad_draftTouches : Nat) (ad_now : Nat) (ad_isKept : Nat) (ad_near : Nat) (ad_seenDays : Nat) (ad_seenBook : Nat) (ad_seenIs : Nat) (v_trace : Int64) (v_typed : Int32) (v_draftOne : Int32) (v_oneTold : Int32) (v_at : Int32) (v_start : Int32) (v_sort : Int32) (v_value : Int32) (v_fault : Int32) (v_seen : Int32) (v_sets : Int32) (v_inEach : Int32) (v_inSome : Int32) (a_text : Nat → Int32) (a_books : Nat → Int32) (a_numberA : Nat → Int32) (a_numberB : Nat → Int32) (a_draftTouches : Nat → Int32) (a_now : Nat → Int32) (a_isKept : Nat → Int32) (N : Nat) (q0 : (Int32 × (Nat → Int32) × (Nat → Int32) × (Nat → Int32) × (Nat → Int32) × (Nat → Int32) × (Nat → Int32) × Int32 × Int32 × Int32 × Int32 × Int32 × Int32 × Int32 × Int32 × Int32)) (hf : fX8_books N a_text a_books a_numberA a_numberB a_draftTouches a_now a_isKept v_typed v_draftOne v_oneTold v_at v_start v_sort v_value v_fault v_seen = some q0) : Ki l yX8_books wX8_books rX8_books (dC, dI) (vTy cI cJ cB cZ) [.ref ad0] [(ad0, oX8 v_trace ad_text v_typed ad_books ad_numberA ad_numberB ad_draftTouches v_draftOne v_oneTold v_at v_start v_sort v_value v_fault ad_now ad_isKept ad_near ad_seenDays ad_seenBook ad_seenIs v_seen v_sets v_inEach v_inSome), (ad_text, .inl (cB, 150, .inl a_text)), (ad_books, .inl (cI, 2, .inl a_books)), (ad_numberA, .inl (cI, 12, .inl a_numberA)), (ad_numberB, .inl (cI, 12, .inl a_numberB)), (ad_draftTouches, .inl (cI, 6, .inl a_draftTouches)), (ad_now, .inl (cI, 498, .inl a_now)), (ad_isKept, .inl (cZ, 2, .inl a_isKept))] [(ad0, oX8 v_trace ad_text q0.2.2.2.2.2.2.2.1 ad_books ad_numberA ad_numberB ad_draftTouches q0.2.2.2.2.2.2.2.2.1 q0.2.2.2.2.2.2.2.2.2.1 q0.2.2.2.2.2.2.2.2.2.2.1 q0.2.2.2.2.2.2.2.2.2.2.2.1 q0.2.2.2.2.2.2.2.2.2.2.2.2.1 q0.2.2.2.2.2.2.2.2.2.2.2.2.2.1 q0.2.2.2.2.2.2.2.2.2.2.2.2.2.2.1 ad_now ad_isKept ad_near ad_seenDays ad_seenBook ad_seenIs q0.2.2.2.2.2.2.2.2.2.2.2.2.2.2.2 v_sets v_inEach v_inSome), (ad_text, .inl (cB, 150, .inl a_text)), (ad_books, .inl (cI, 2, .inl q0.2.1)), (ad_numberA, .inl (cI, 12, .inl q0.2.2.1)), (ad_numberB, .inl (cI, 12, .inl q0.2.2.2.1)), (ad_draftTouches, .inl (cI, 6, .inl q0.2.2.2.2.1)), (ad_now, .inl (cI, 498, .inl q0.2.2.2.2.2.1)), (ad_isKept, .inl (cZ, 2, .inl q0.2.2.2.2.2.2.1))] q0.1 := by
  refine Ki.mk (cc := cX8_books) (maxL := 3) (ret := some .int) (by decide) (Nat.le_of_ble_eq_true rfl) ?_
  intro p e s m args below meth c A Q H locs C hQ hP hD hS ls hl
  obtain ⟨hx, hb, -, hml, hts, hown, -, hK, hN, hA⟩ := id C
  have hown : s.vm.findClass RX8 = some m.cls := hown
  have hl : lv_has ls 3 [(0, .ref ad0)] := hl
  unfold fX8_books at hf
  refine lv_aload_n hx hb (dt uX8_books_0 0 rfl) rfl (lv_at hl 0 rfl) ?_
  refine lv_iconst (v := (0 : Int32)) hx hb (dt uX8_books_0 1 rfl) (by decide) ?_
  refine va_put (D := (dC, dI)) (ci := 8) (v := .int (0 : Int32)) (ty := .int) (C := RX8) (T := TX8) (N := 24) hx hb hts inU8 tyX8 tyX8_ok nmX8 hown hK hP hD hS 0 rfl rfl 9 (by decide) (hts _ tw_342) (fun _ h9 => h9) rfl (by decide +kernel) rfl rfl (Nat.le_of_ble_eq_true rfl) (dt uX8_books_0 2 rfl) (fun H locs hP hD hS => ?_)
  have hP : va_P (dC, dI) vwCl [(ad0, oX8 v_trace ad_text v_typed ad_books ad_numberA ad_numberB ad_draftTouches v_draftOne v_oneTold (0 : Int32) v_start v_sort v_value v_fault ad_now ad_isKept ad_near ad_seenDays ad_seenBook ad_seenIs v_seen v_sets v_inEach v_inSome), (ad_text, .inl (cB, 150, .inl a_text)), (ad_books, .inl (cI, 2, .inl a_books)), (ad_numberA, .inl (cI, 12, .inl a_numberA)), (ad_numberB, .inl (cI, 12, .inl a_numberB)), (ad_draftTouches, .inl (cI, 6, .inl a_draftTouches)), (ad_now, .inl (cI, 498, .inl a_now)), (ad_isKept, .inl (cZ, 2, .inl a_isKept))] H := hP
  have hD : va_D A [(ad0, oX8 v_trace ad_text v_typed ad_books ad_numberA ad_numberB ad_draftTouches v_draftOne v_oneTold (0 : Int32) v_start v_sort v_value v_fault ad_now ad_isKept ad_near ad_seenDays ad_seenBook ad_seenIs v_seen v_sets v_inEach v_inSome), (ad_text, .inl (cB, 150, .inl a_text)), (ad_books, .inl (cI, 2, .inl a_books)), (ad_numberA, .inl (cI, 12, .inl a_numberA)), (ad_numberB, .inl (cI, 12, .inl a_numberB)), (ad_draftTouches, .inl (cI, 6, .inl a_draftTouches)), (ad_now, .inl (cI, 498, .inl a_now)), (ad_isKept, .inl (cZ, 2, .inl a_isKept))] := hD
  refine lv_aload_n hx hb (dt uX8_books_0 3 rfl) rfl (lv_at hl 0 rfl) ?_
  refine lv_bipush (v := (-9 : Int32)) hx hb (dt uX8_books_0 4 rfl) (by decide) ?_
  refine va_put (D := (dC, dI)) (ci := 8) (v := .int (-9 : Int32)) (ty := .int) (C := RX8) (T := TX8) (N := 24) hx hb hts inU8 tyX8 tyX8_ok nmX8 hown hK hP hD hS 0 rfl rfl 13 (by decide) (hts _ tw_350) (fun _ h9 => h9) rfl (by decide +kernel) rfl rfl (Nat.le_of_ble_eq_true rfl) (dt uX8_books_0 5 rfl) (fun H locs hP hD hS => ?_)
  have hP : va_P (dC, dI) vwCl [(ad0, oX8 v_trace ad_text v_typed ad_books ad_numberA ad_numberB ad_draftTouches v_draftOne v_oneTold (0 : Int32) v_start v_sort v_value (-9 : Int32) ad_now ad_isKept ad_near ad_seenDays ad_seenBook ad_seenIs v_seen v_sets v_inEach v_inSome), (ad_text, .inl (cB, 150, .inl a_text)), (ad_books, .inl (cI, 2, .inl a_books)), (ad_numberA, .inl (cI, 12, .inl a_numberA)), (ad_numberB, .inl (cI, 12, .inl a_numberB)), (ad_draftTouches, .inl (cI, 6, .inl a_draftTouches)), (ad_now, .inl (cI, 498, .inl a_now)), (ad_isKept, .inl (cZ, 2, .inl a_isKept))] H := hP
  have hD : va_D A [(ad0, oX8 v_trace ad_text v_typed ad_books ad_numberA ad_numberB ad_draftTouches v_draftOne v_oneTold (0 : Int32) v_start v_sort v_value (-9 : Int32) ad_now ad_isKept ad_near ad_seenDays ad_seenBook ad_seenIs v_seen v_sets v_inEach v_inSome), (ad_text, .inl (cB, 150, .inl a_text)), (ad_books, .inl (cI, 2, .inl a_books)), (ad_numberA, .inl (cI, 12, .inl a_numberA)), (ad_numberB, .inl (cI, 12, .inl a_numberB)), (ad_draftTouches, .inl (cI, 6, .inl a_draftTouches)), (ad_now, .inl (cI, 498, .inl a_now)), (ad_isKept, .inl (cZ, 2, .inl a_isKept))] := hD
  refine lv_aload_n hx hb (dt uX8_books_0 6 rfl) rfl (lv_at hl 0 rfl) ?_
  obtain ⟨q_1, hq_2, hf⟩ := vbd hf
  refine vk_v [0, 2, 5] (ws2 := [(ad0, oX8 v_trace ad_text v_typed ad_books ad_numberA ad_numberB ad_draftTouches q_1.2.2.1 q_1.2.2.2 (0 : Int32) v_start v_sort v_value (-9 : Int32) ad_now ad_isKept ad_near ad_seenDays ad_seenBook ad_seenIs v_seen v_sets v_inEach v_inSome), (ad_text, .inl (cB, 150, .inl a_text)), (ad_books, .inl (cI, 2, .inl q_1.1)), (ad_numberA, .inl (cI, 12, .inl a_numberA)), (ad_numberB, .inl (cI, 12, .inl a_numberB)), (ad_draftTouches, .inl (cI, 6, .inl q_1.2.1)), (ad_now, .inl (cI, 498, .inl a_now)), (ad_isKept, .inl (cZ, 2, .inl a_isKept))]) (va_runV (As := []) (rest := []) ⟨hx, hb, hml, hown, hts⟩ (kX8_plain ad0 ad_text ad_books ad_numberA ad_numberB ad_draftTouches ad_now ad_isKept ad_near ad_seenDays ad_seenBook ad_seenIs v_trace v_typed v_draftOne v_oneTold (0 : Int32) v_start v_sort v_value (-9 : Int32) v_seen v_sets v_inEach v_inSome a_books a_draftTouches N q_1 hq_2 H.size) (vcwV hts tw_373 tw_374 tw_375 tw_336 tw_372 hd_X8_plain rfl rfl ⟨Nat.le_of_ble_eq_true rfl, Nat.le_of_ble_eq_true rfl⟩) (vpreV hK hN hP hD [0, 2, 5] rfl (by decide) (ci := 8) (q0 := 0) rfl rfl) rfl rfl hl.1 rfl (lv_room (Nat.le_of_ble_eq_true rfl)) (dt uX8_books_0 7 rfl) ⟨Nat.zero_le _, Nat.zero_le _⟩) hA hP hD hS rfl (by decide) rfl rfl (fun H locs hP hD hS => ?_)
  refine lv_iconst (v := (0 : Int32)) hx hb (dt uX8_books_0 8 rfl) (by decide) ?_
  refine lv_istore_n (lv' := [(1, .int (0 : Int32)), (0, .ref ad0)]) hx hb (dt uX8_books_0 9 rfl) rfl hl (by decide) rfl (fun ls hl => ?_)
  refine lv_aload_n hx hb (dt uX8_books_0 10 rfl) rfl (lv_at hl 1 rfl) ?_
  obtain ⟨q_3, hq_4, hf⟩ := vbd hf
  refine vk_v [0, 1] (ws2 := [(ad0, oX8 v_trace ad_text v_typed ad_books ad_numberA ad_numberB ad_draftTouches q_1.2.2.1 q_1.2.2.2 q_3.1 q_3.2.1 q_3.2.2.1 q_3.2.2.2 (-9 : Int32) ad_now ad_isKept ad_near ad_seenDays ad_seenBook ad_seenIs v_seen v_sets v_inEach v_inSome), (ad_text, .inl (cB, 150, .inl a_text)), (ad_books, .inl (cI, 2, .inl q_1.1)), (ad_numberA, .inl (cI, 12, .inl a_numberA)), (ad_numberB, .inl (cI, 12, .inl a_numberB)), (ad_draftTouches, .inl (cI, 6, .inl q_1.2.1)), (ad_now, .inl (cI, 498, .inl a_now)), (ad_isKept, .inl (cZ, 2, .inl a_isKept))]) (va_runV (As := []) (rest := []) ⟨hx, hb, hml, hown, hts⟩ (kX8_step ad0 ad_text ad_books ad_numberA ad_numberB ad_draftTouches ad_now ad_isKept ad_near ad_seenDays ad_seenBook ad_seenIs v_trace v_typed q_1.2.2.1 q_1.2.2.2 (0 : Int32) v_start v_sort v_value (-9 : Int32) v_seen v_sets v_inEach v_inSome a_text N q_3 hq_4 H.size) (vcwV hts tw_352 tw_353 tw_354 tw_336 tw_351 hd_X8_step rfl rfl ⟨Nat.le_of_ble_eq_true rfl, Nat.le_of_ble_eq_true rfl⟩) (vpreV hK hN hP hD [0, 1] rfl (by decide) (ci := 8) (q0 := 0) rfl rfl) rfl rfl hl.1 rfl (lv_room (Nat.le_of_ble_eq_true rfl)) (dt uX8_books_0 11 rfl) ⟨Nat.zero_le _, Nat.zero_le _⟩) hA hP hD hS rfl (by decide) rfl rfl (fun H locs hP hD hS => ?_)
  have hL21 : ∀ (n21 : Nat), ∀ (x1_5 : Int32) (w_6 : Nat → Int32) (w_7 : Nat → Int32) (w_8 : Nat → Int32) (w_9 : Nat → Int32) (w_10 : Int32) (w_11 : Int32) (w_12 : Int32) (w_13 : Int32) (w_14 : Int32) (w_15 : Int32) (w_16 : Int32) (H : Heap) (locs : List Loc) (ls : Array Slot), fX8_books_L21 N a_text a_now a_isKept v_typed v_seen n21 x1_5 w_6 w_7 w_8 w_9 w_10 w_11 w_12 w_13 w_14 w_15 w_16 = some q0 → va_P (dC, dI) vwCl [(ad0, oX8 v_trace ad_text v_typed ad_books ad_numberA ad_numberB ad_draftTouches w_10 w_11 w_12 w_13 w_14 w_15 w_16 ad_now ad_isKept ad_near ad_seenDays ad_seenBook ad_seenIs v_seen v_sets v_inEach v_inSome), (ad_text, .inl (cB, 150, .inl a_text)), (ad_books, .inl (cI, 2, .inl w_6)), (ad_numberA, .inl (cI, 12, .inl w_7)), (ad_numberB, .inl (cI, 12, .inl w_8)), (ad_draftTouches, .inl (cI, 6, .inl w_9)), (ad_now, .inl (cI, 498, .inl a_now)), (ad_isKept, .inl (cZ, 2, .inl a_isKept))] H → va_D A [(ad0, oX8 v_trace ad_text v_typed ad_books ad_numberA ad_numberB ad_draftTouches w_10 w_11 w_12 w_13 w_14 w_15 w_16 ad_now ad_isKept ad_near ad_seenDays ad_seenBook ad_seenIs v_seen v_sets v_inEach v_inSome), (ad_text, .inl (cB, 150, .inl a_text)), (ad_books, .inl (cI, 2, .inl w_6)), (ad_numberA, .inl (cI, 12, .inl w_7)), (ad_numberB, .inl (cI, 12, .inl w_8)), (ad_draftTouches, .inl (cI, 6, .inl w_9)), (ad_now, .inl (cI, 498, .inl a_now)), (ad_isKept, .inl (cZ, 2, .inl a_isKept))] → va_S A s.heap H locs → lv_has ls 3 [(0, .ref ad0), (1, .int x1_5)] → W p l e rX8_books s m args below meth c H locs 0 0 Q (F0 m 21 ls []) := by
    intro n21
    induction n21 with
    | zero => intro x1_5 w_6 w_7 w_8 w_9 w_10 w_11 w_12 w_13 w_14 w_15 w_16 H locs ls hf hP hD hS hl; cases hf
    | succ n21 ih21 =>
      intro x1_5 w_6 w_7 w_8 w_9 w_10 w_11 w_12 w_13 w_14 w_15 w_16 H locs ls hf hP hD hS hl
      rw [fX8_books_L21] at hf
      refine lv_aload_n hx hb (dt uX8_books_0 12 rfl) rfl (lv_at hl 0 rfl) ?_
      refine va_get (D := (dC, dI)) (ci := 8) (v := .int w_16) (C := RX8) (T := TX8) (N := 24) hx hb hts inU8 hown hK hP 0 rfl rfl 13 (by decide) (hts _ tw_350) (fun _ h9 => h9) rfl (dt uX8_books_0 13 rfl) ?_
      refine lv_bipush (v := (-9 : Int32)) hx hb (dt uX8_books_0 14 rfl) (by decide) ?_
      have hJ91 : ∀ (H : Heap) (locs : List Loc) (ls : Array Slot), fX8_books_J91 N a_now a_isKept v_typed v_seen x1_5 w_6 w_7 w_8 w_9 w_10 w_11 w_12 w_13 w_14 w_15 w_16 = some q0 → va_P (dC, dI) vwCl [(ad0, oX8 v_trace ad_text v_typed ad_books ad_numberA ad_numberB ad_draftTouches w_10 w_11 w_12 w_13 w_14 w_15 w_16 ad_now ad_isKept ad_near ad_seenDays ad_seenBook ad_seenIs v_seen v_sets v_inEach v_inSome), (ad_text, .inl (cB, 150, .inl a_text)), (ad_books, .inl (cI, 2, .inl w_6)), (ad_numberA, .inl (cI, 12, .inl w_7)), (ad_numberB, .inl (cI, 12, .inl w_8)), (ad_draftTouches, .inl (cI, 6, .inl w_9)), (ad_now, .inl (cI, 498, .inl a_now)), (ad_isKept, .inl (cZ, 2, .inl a_isKept))] H → va_D A [(ad0, oX8 v_trace ad_text v_typed ad_books ad_numberA ad_numberB ad_draftTouches w_10 w_11 w_12 w_13 w_14 w_15 w_16 ad_now ad_isKept ad_near ad_seenDays ad_seenBook ad_seenIs v_seen v_sets v_inEach v_inSome), (ad_text, .inl (cB, 150, .inl a_text)), (ad_books, .inl (cI, 2, .inl w_6)), (ad_numberA, .inl (cI, 12, .inl w_7)), (ad_numberB, .inl (cI, 12, .inl w_8)), (ad_draftTouches, .inl (cI, 6, .inl w_9)), (ad_now, .inl (cI, 498, .inl a_now)), (ad_isKept, .inl (cZ, 2, .inl a_isKept))] → va_S A s.heap H locs → lv_has ls 3 [(0, .ref ad0), (1, .int x1_5)] → W p l e rX8_books s m args below meth c H locs 0 0 Q (F0 m 91 ls []) := by
        intro H locs ls hf hP hD hS hl
        unfold fX8_books_J91 at hf
        refine lv_aload_n hx hb (dt uX8_books_0 48 rfl) rfl (lv_at hl 0 rfl) ?_
        refine va_get (D := (dC, dI)) (ci := 8) (v := .int w_16) (C := RX8) (T := TX8) (N := 24) hx hb hts inU8 hown hK hP 0 rfl rfl 13 (by decide) (hts _ tw_350) (fun _ h9 => h9) rfl (dt uX8_books_0 49 rfl) ?_
        refine lv_bipush (v := (-9 : Int32)) hx hb (dt uX8_books_0 50 rfl) (by decide) ?_
        refine lv_icmp_eq (tgt := 108) hx hb (dt uX8_books_0 51 rfl) (by decide) (fun c_26 => ?_) (fun c_26 => ?_)
        · have hf := vif_t c_26 hf
          refine lv_aload_n hx hb (dt uX8_books_0 57 rfl) rfl (lv_at hl 0 rfl) ?_
          obtain ⟨q_27, hq_28, hf⟩ := vbd hf
          refine vk_v [0, 2, 3, 4, 5, 6, 7] (ws2 := [(ad0, oX8 v_trace ad_text v_typed ad_books ad_numberA ad_numberB ad_draftTouches w_10 w_11 w_12 w_13 w_14 w_15 w_16 ad_now ad_isKept ad_near ad_seenDays ad_seenBook ad_seenIs q_27.2.2.2.2.2 v_sets v_inEach v_inSome), (ad_text, .inl (cB, 150, .inl a_text)), (ad_books, .inl (cI, 2, .inl q_27.1)), (ad_numberA, .inl (cI, 12, .inl q_27.2.1)), (ad_numberB, .inl (cI, 12, .inl q_27.2.2.1)), (ad_draftTouches, .inl (cI, 6, .inl w_9)), (ad_now, .inl (cI, 498, .inl q_27.2.2.2.1)), (ad_isKept, .inl (cZ, 2, .inl q_27.2.2.2.2.1))]) (va_runV (As := []) (rest := []) ⟨hx, hb, hml, hown, hts⟩ (kX8_takeDraft ad0 ad_text ad_books ad_numberA ad_numberB ad_draftTouches ad_now ad_isKept ad_near ad_seenDays ad_seenBook ad_seenIs v_trace v_typed w_10 w_11 w_12 w_13 w_14 w_15 w_16 v_seen v_sets v_inEach v_inSome w_6 w_7 w_8 w_9 a_now a_isKept N q_27 hq_28 H.size) (vcwV hts tw_385 tw_386 tw_387 tw_336 tw_384 hd_X8_takeDraft rfl rfl ⟨Nat.le_of_ble_eq_true rfl, Nat.le_of_ble_eq_true rfl⟩) (vpreV hK hN hP hD [0, 2, 3, 4, 5, 6, 7] rfl (by decide) (ci := 8) (q0 := 0) rfl rfl) rfl rfl hl.1 rfl (lv_room (Nat.le_of_ble_eq_true rfl)) (dt uX8_books_0 58 rfl) ⟨Nat.zero_le _, Nat.zero_le _⟩) hA hP hD hS rfl (by decide) rfl rfl (fun H locs hP hD hS => ?_)
          refine lv_aload_n hx hb (dt uX8_books_0 59 rfl) rfl (lv_at hl 0 rfl) ?_
          refine lv_iconst (v := (0 : Int32)) hx hb (dt uX8_books_1 0 rfl) (by decide) ?_
          refine va_put (D := (dC, dI)) (ci := 8) (v := .int (0 : Int32)) (ty := .int) (C := RX8) (T := TX8) (N := 24) hx hb hts inU8 tyX8 tyX8_ok nmX8 hown hK hP hD hS 0 rfl rfl 2 (by decide) (hts _ tw_340) (fun _ h9 => h9) rfl (by decide +kernel) rfl rfl (Nat.le_of_ble_eq_true rfl) (dt uX8_books_1 1 rfl) (fun H locs hP hD hS => ?_)
          have hP : va_P (dC, dI) vwCl [(ad0, oX8 v_trace ad_text (0 : Int32) ad_books ad_numberA ad_numberB ad_draftTouches w_10 w_11 w_12 w_13 w_14 w_15 w_16 ad_now ad_isKept ad_near ad_seenDays ad_seenBook ad_seenIs q_27.2.2.2.2.2 v_sets v_inEach v_inSome), (ad_text, .inl (cB, 150, .inl a_text)), (ad_books, .inl (cI, 2, .inl q_27.1)), (ad_numberA, .inl (cI, 12, .inl q_27.2.1)), (ad_numberB, .inl (cI, 12, .inl q_27.2.2.1)), (ad_draftTouches, .inl (cI, 6, .inl w_9)), (ad_now, .inl (cI, 498, .inl q_27.2.2.2.1)), (ad_isKept, .inl (cZ, 2, .inl q_27.2.2.2.2.1))] H := hP
          have hD : va_D A [(ad0, oX8 v_trace ad_text (0 : Int32) ad_books ad_numberA ad_numberB ad_draftTouches w_10 w_11 w_12 w_13 w_14 w_15 w_16 ad_now ad_isKept ad_near ad_seenDays ad_seenBook ad_seenIs q_27.2.2.2.2.2 v_sets v_inEach v_inSome), (ad_text, .inl (cB, 150, .inl a_text)), (ad_books, .inl (cI, 2, .inl q_27.1)), (ad_numberA, .inl (cI, 12, .inl q_27.2.1)), (ad_numberB, .inl (cI, 12, .inl q_27.2.2.1)), (ad_draftTouches, .inl (cI, 6, .inl w_9)), (ad_now, .inl (cI, 498, .inl q_27.2.2.2.1)), (ad_isKept, .inl (cZ, 2, .inl q_27.2.2.2.2.1))] := hD
          refine lv_iload_n hx hb (dt uX8_books_1 2 rfl) rfl (lv_at hl 1 rfl) ?_
          have hf := Option.some.inj hf
          subst hf
          rw [hQ]
          exact vret_i C hP hD hS (dt uX8_books_1 3 rfl)
        · have hf := vif_f c_26 hf
          refine lv_bipush (v := (-10 : Int32)) hx hb (dt uX8_books_0 52 rfl) (by decide) ?_
          refine lv_aload_n hx hb (dt uX8_books_0 53 rfl) rfl (lv_at hl 0 rfl) ?_
          refine va_get (D := (dC, dI)) (ci := 8) (v := .int w_16) (C := RX8) (T := TX8) (N := 24) hx hb hts inU8 hown hK hP 0 rfl rfl 13 (by decide) (hts _ tw_350) (fun _ h9 => h9) rfl (dt uX8_books_0 54 rfl) ?_
          refine lv_isub hx hb (dt uX8_books_0 55 rfl) ?_
          have hf := Option.some.inj hf
          subst hf
          rw [hQ]
          exact vret_i C hP hD hS (dt uX8_books_0 56 rfl)
      refine lv_icmp_ne (tgt := 91) hx hb (dt uX8_books_0 15 rfl) (by decide) (fun c_29 => ?_) (fun c_29 => ?_)
      · have hf := vif_f c_29 hf
        exact hJ91  _ _ _ hf hP hD hS (lv_sub hl [0, 1] rfl)
      · have hf := vif_t c_29 hf
        refine lv_aload_n hx hb (dt uX8_books_0 16 rfl) rfl (lv_at hl 0 rfl) ?_
        refine va_get (D := (dC, dI)) (ci := 8) (v := .int w_14) (C := RX8) (T := TX8) (N := 24) hx hb hts inU8 hown hK hP 0 rfl rfl 11 (by decide) (hts _ tw_349) (fun _ h9 => h9) rfl (dt uX8_books_0 17 rfl) ?_
        refine lv_iconst (v := (3 : Int32)) hx hb (dt uX8_books_0 18 rfl) (by decide) ?_
        refine lv_icmp_eq (tgt := 91) hx hb (dt uX8_books_0 19 rfl) (by decide) (fun c_30 => ?_) (fun c_30 => ?_)
        · have hf := vif_t c_30 hf
          exact hJ91  _ _ _ hf hP hD hS (lv_sub hl [0, 1] rfl)
        · have hf := vif_f c_30 hf
          refine lv_aload_n hx hb (dt uX8_books_0 20 rfl) rfl (lv_at hl 0 rfl) ?_
          refine va_get (D := (dC, dI)) (ci := 8) (v := .int w_14) (C := RX8) (T := TX8) (N := 24) hx hb hts inU8 hown hK hP 0 rfl rfl 11 (by decide) (hts _ tw_349) (fun _ h9 => h9) rfl (dt uX8_books_0 21 rfl) ?_
          refine lv_istore_n (lv' := [(2, .int w_14), (0, .ref ad0), (1, .int x1_5)]) hx hb (dt uX8_books_0 22 rfl) rfl hl (by decide) rfl (fun ls hl => ?_)
          refine lv_aload_n hx hb (dt uX8_books_0 23 rfl) rfl (lv_at hl 1 rfl) ?_
          refine lv_aload_n hx hb (dt uX8_books_0 24 rfl) rfl (lv_at hl 1 rfl) ?_
          refine lv_iload_n hx hb (dt uX8_books_0 25 rfl) rfl (lv_at hl 0 rfl) ?_
          refine vk_z0 [0, 2] (va_runV (As := [.int w_14]) (rest := [.ref ad0]) ⟨hx, hb, hml, hown, hts⟩ (kX8_mayBe ad0 ad_text ad_books ad_numberA ad_numberB ad_draftTouches ad_now ad_isKept ad_near ad_seenDays ad_seenBook ad_seenIs v_trace v_typed w_10 w_11 w_12 w_13 w_14 w_15 w_16 v_seen v_sets v_inEach v_inSome w_6 w_14 _ rfl H.size) (vcwV hts tw_377 tw_378 tw_379 tw_336 tw_376 hd_X8_mayBe rfl rfl ⟨Nat.le_of_ble_eq_true rfl, Nat.le_of_ble_eq_true rfl⟩) (vpreV hK hN hP hD [0, 2] rfl (by decide) (ci := 8) (q0 := 0) rfl rfl) rfl rfl hl.1 rfl (lv_room (Nat.le_of_ble_eq_true rfl)) (dt uX8_books_0 26 rfl) ⟨Nat.zero_le _, Nat.zero_le _⟩) hA hP hD hS rfl (by decide) (fun hz_31 H locs hP hD hS => ?_)
          obtain ⟨q_32, hq_33, hf⟩ := vbd hf
          refine vk_i [0, 1] (ws2 := [(ad0, oX8 v_trace ad_text v_typed ad_books ad_numberA ad_numberB ad_draftTouches w_10 w_11 q_32.2.1 q_32.2.2.1 q_32.2.2.2.1 q_32.2.2.2.2.1 q_32.2.2.2.2.2 ad_now ad_isKept ad_near ad_seenDays ad_seenBook ad_seenIs v_seen v_sets v_inEach v_inSome), (ad_text, .inl (cB, 150, .inl a_text)), (ad_books, .inl (cI, 2, .inl w_6)), (ad_numberA, .inl (cI, 12, .inl w_7)), (ad_numberB, .inl (cI, 12, .inl w_8)), (ad_draftTouches, .inl (cI, 6, .inl w_9)), (ad_now, .inl (cI, 498, .inl a_now)), (ad_isKept, .inl (cZ, 2, .inl a_isKept))]) (va_runV (As := [.int (fX8_mayBe w_6 w_11 w_14)]) (rest := []) ⟨hx, hb, hml, hown, hts⟩ (kX8_due ad0 ad_text ad_books ad_numberA ad_numberB ad_draftTouches ad_now ad_isKept ad_near ad_seenDays ad_seenBook ad_seenIs v_trace v_typed w_10 w_11 w_12 w_13 w_14 w_15 w_16 v_seen v_sets v_inEach v_inSome a_text (fX8_mayBe w_6 w_11 w_14) N q_32 hq_33 H.size) (vcwV hts tw_356 tw_357 tw_358 tw_336 tw_355 hd_X8_due rfl rfl ⟨Nat.le_of_ble_eq_true rfl, Nat.le_of_ble_eq_true rfl⟩) (vpreV hK hN hP hD [0, 1] rfl (by decide) (ci := 8) (q0 := 0) rfl rfl) rfl rfl hl.1 rfl (lv_room (Nat.le_of_ble_eq_true rfl)) (dt uX8_books_0 27 rfl) ⟨Nat.zero_le _, Nat.zero_le _⟩) hA hP hD hS rfl (by decide) rfl rfl (fun H locs hP hD hS => ?_)
          refine lv_pop hx hb (dt uX8_books_0 28 rfl) rfl ?_
          refine lv_aload_n hx hb (dt uX8_books_0 29 rfl) rfl (lv_at hl 1 rfl) ?_
          refine va_get (D := (dC, dI)) (ci := 8) (v := .int q_32.2.2.2.2.2) (C := RX8) (T := TX8) (N := 24) hx hb hts inU8 hown hK hP 0 rfl rfl 13 (by decide) (hts _ tw_350) (fun _ h9 => h9) rfl (dt uX8_books_0 30 rfl) ?_
          refine lv_bipush (v := (-9 : Int32)) hx hb (dt uX8_books_0 31 rfl) (by decide) ?_
          refine lv_icmp_ne (tgt := 88) hx hb (dt uX8_books_0 32 rfl) (by decide) (fun c_34 => ?_) (fun c_34 => ?_)
          · have hf := vif_f c_34 hf
            refine lv_goto (tgt := 21) hx hb (dt uX8_books_0 47 rfl) (by decide) ?_
            exact ih21 x1_5 w_6 w_7 w_8 w_9 w_10 w_11 q_32.2.1 q_32.2.2.1 q_32.2.2.2.1 q_32.2.2.2.2.1 q_32.2.2.2.2.2 _ _ _ hf hP hD hS (lv_sub hl [1, 2] rfl)
          · have hf := vif_t c_34 hf
            refine lv_aload_n hx hb (dt uX8_books_0 33 rfl) rfl (lv_at hl 1 rfl) ?_
            refine lv_iload_n hx hb (dt uX8_books_0 34 rfl) rfl (lv_at hl 0 rfl) ?_
            obtain ⟨q_35, hq_36, hf⟩ := vbd hf
            refine vk_v [0, 1, 2, 3, 4, 5] (ws2 := [(ad0, oX8 v_trace ad_text v_typed ad_books ad_numberA ad_numberB ad_draftTouches q_35.2.2.2.2.1 q_35.2.2.2.2.2.1 q_35.2.2.2.2.2.2.1 q_35.2.2.2.2.2.2.2.1 q_35.2.2.2.2.2.2.2.2.1 q_35.2.2.2.2.2.2.2.2.2.1 q_35.2.2.2.2.2.2.2.2.2.2 ad_now ad_isKept ad_near ad_seenDays ad_seenBook ad_seenIs v_seen v_sets v_inEach v_inSome), (ad_text, .inl (cB, 150, .inl a_text)), (ad_books, .inl (cI, 2, .inl q_35.1)), (ad_numberA, .inl (cI, 12, .inl q_35.2.1)), (ad_numberB, .inl (cI, 12, .inl q_35.2.2.1)), (ad_draftTouches, .inl (cI, 6, .inl q_35.2.2.2.1)), (ad_now, .inl (cI, 498, .inl a_now)), (ad_isKept, .inl (cZ, 2, .inl a_isKept))]) (va_runV (As := [.int w_14]) (rest := []) ⟨hx, hb, hml, hown, hts⟩ (kX8_readRow ad0 ad_text ad_books ad_numberA ad_numberB ad_draftTouches ad_now ad_isKept ad_near ad_seenDays ad_seenBook ad_seenIs v_trace v_typed w_10 w_11 q_32.2.1 q_32.2.2.1 q_32.2.2.2.1 q_32.2.2.2.2.1 q_32.2.2.2.2.2 v_seen v_sets v_inEach v_inSome a_text w_6 w_7 w_8 w_9 w_14 N q_35 hq_36 H.size) (vcwV hts tw_381 tw_382 tw_383 tw_336 tw_380 hd_X8_readRow rfl rfl ⟨Nat.le_of_ble_eq_true rfl, Nat.le_of_ble_eq_true rfl⟩) (vpreV hK hN hP hD [0, 1, 2, 3, 4, 5] rfl (by decide) (ci := 8) (q0 := 0) rfl rfl) rfl rfl hl.1 rfl (lv_room (Nat.le_of_ble_eq_true rfl)) (dt uX8_books_0 35 rfl) ⟨Nat.zero_le _, Nat.zero_le _⟩) hA hP hD hS rfl (by decide) rfl rfl (fun H locs hP hD hS => ?_)
            refine lv_aload_n hx hb (dt uX8_books_0 36 rfl) rfl (lv_at hl 1 rfl) ?_
            refine lv_aload_n hx hb (dt uX8_books_0 37 rfl) rfl (lv_at hl 1 rfl) ?_
            refine va_get (D := (dC, dI)) (ci := 8) (v := .int q_35.2.2.2.2.2.2.2.2.1) (C := RX8) (T := TX8) (N := 24) hx hb hts inU8 hown hK hP 0 rfl rfl 11 (by decide) (hts _ tw_349) (fun _ h9 => h9) rfl (dt uX8_books_0 38 rfl) ?_
            refine lv_iconst (v := (2 : Int32)) hx hb (dt uX8_books_0 39 rfl) (by decide) ?_
            have hJ81 : ∀ (y1_37 : Int32) (H : Heap) (locs : List Loc) (ls : Array Slot), fX8_books_J81 N a_text v_typed x1_5 q_35 (fun z21_0 z21_1 z21_2 z21_3 z21_4 z21_5 z21_6 z21_7 z21_8 z21_9 z21_10 z21_11 => fX8_books_L21 N a_text a_now a_isKept v_typed v_seen n21 z21_0 z21_1 z21_2 z21_3 z21_4 z21_5 z21_6 z21_7 z21_8 z21_9 z21_10 z21_11) y1_37 = some q0 → va_P (dC, dI) vwCl [(ad0, oX8 v_trace ad_text v_typed ad_books ad_numberA ad_numberB ad_draftTouches q_35.2.2.2.2.1 q_35.2.2.2.2.2.1 q_35.2.2.2.2.2.2.1 q_35.2.2.2.2.2.2.2.1 q_35.2.2.2.2.2.2.2.2.1 q_35.2.2.2.2.2.2.2.2.2.1 q_35.2.2.2.2.2.2.2.2.2.2 ad_now ad_isKept ad_near ad_seenDays ad_seenBook ad_seenIs v_seen v_sets v_inEach v_inSome), (ad_text, .inl (cB, 150, .inl a_text)), (ad_books, .inl (cI, 2, .inl q_35.1)), (ad_numberA, .inl (cI, 12, .inl q_35.2.1)), (ad_numberB, .inl (cI, 12, .inl q_35.2.2.1)), (ad_draftTouches, .inl (cI, 6, .inl q_35.2.2.2.1)), (ad_now, .inl (cI, 498, .inl a_now)), (ad_isKept, .inl (cZ, 2, .inl a_isKept))] H → va_D A [(ad0, oX8 v_trace ad_text v_typed ad_books ad_numberA ad_numberB ad_draftTouches q_35.2.2.2.2.1 q_35.2.2.2.2.2.1 q_35.2.2.2.2.2.2.1 q_35.2.2.2.2.2.2.2.1 q_35.2.2.2.2.2.2.2.2.1 q_35.2.2.2.2.2.2.2.2.2.1 q_35.2.2.2.2.2.2.2.2.2.2 ad_now ad_isKept ad_near ad_seenDays ad_seenBook ad_seenIs v_seen v_sets v_inEach v_inSome), (ad_text, .inl (cB, 150, .inl a_text)), (ad_books, .inl (cI, 2, .inl q_35.1)), (ad_numberA, .inl (cI, 12, .inl q_35.2.1)), (ad_numberB, .inl (cI, 12, .inl q_35.2.2.1)), (ad_draftTouches, .inl (cI, 6, .inl q_35.2.2.2.1)), (ad_now, .inl (cI, 498, .inl a_now)), (ad_isKept, .inl (cZ, 2, .inl a_isKept))] → va_S A s.heap H locs → lv_has ls 3 [(0, .ref ad0), (1, .int x1_5)] → W p l e rX8_books s m args below meth c H locs 0 0 Q (F0 m 81 ls [.int y1_37, .ref ad0]) := by
              intro y1_37 H locs ls hf hP hD hS hl
              unfold fX8_books_J81 at hf
              obtain ⟨q_38, hq_39, hf⟩ := vbd hf
              refine vk_i [0, 1] (ws2 := [(ad0, oX8 v_trace ad_text v_typed ad_books ad_numberA ad_numberB ad_draftTouches q_35.2.2.2.2.1 q_35.2.2.2.2.2.1 q_38.2.1 q_38.2.2.1 q_38.2.2.2.1 q_38.2.2.2.2.1 q_38.2.2.2.2.2 ad_now ad_isKept ad_near ad_seenDays ad_seenBook ad_seenIs v_seen v_sets v_inEach v_inSome), (ad_text, .inl (cB, 150, .inl a_text)), (ad_books, .inl (cI, 2, .inl q_35.1)), (ad_numberA, .inl (cI, 12, .inl q_35.2.1)), (ad_numberB, .inl (cI, 12, .inl q_35.2.2.1)), (ad_draftTouches, .inl (cI, 6, .inl q_35.2.2.2.1)), (ad_now, .inl (cI, 498, .inl a_now)), (ad_isKept, .inl (cZ, 2, .inl a_isKept))]) (va_runV (As := [.int y1_37]) (rest := []) ⟨hx, hb, hml, hown, hts⟩ (kX8_due ad0 ad_text ad_books ad_numberA ad_numberB ad_draftTouches ad_now ad_isKept ad_near ad_seenDays ad_seenBook ad_seenIs v_trace v_typed q_35.2.2.2.2.1 q_35.2.2.2.2.2.1 q_35.2.2.2.2.2.2.1 q_35.2.2.2.2.2.2.2.1 q_35.2.2.2.2.2.2.2.2.1 q_35.2.2.2.2.2.2.2.2.2.1 q_35.2.2.2.2.2.2.2.2.2.2 v_seen v_sets v_inEach v_inSome a_text y1_37 N q_38 hq_39 H.size) (vcwV hts tw_356 tw_357 tw_358 tw_336 tw_355 hd_X8_due rfl rfl ⟨Nat.le_of_ble_eq_true rfl, Nat.le_of_ble_eq_true rfl⟩) (vpreV hK hN hP hD [0, 1] rfl (by decide) (ci := 8) (q0 := 0) rfl rfl) rfl rfl hl.1 rfl (lv_room (Nat.le_of_ble_eq_true rfl)) (dt uX8_books_0 44 rfl) ⟨Nat.zero_le _, Nat.zero_le _⟩) hA hP hD hS rfl (by decide) rfl rfl (fun H locs hP hD hS => ?_)
              refine lv_pop hx hb (dt uX8_books_0 45 rfl) rfl ?_
              refine lv_iinc (v := x1_5 + 1) (lv' := [(1, .int (x1_5 + 1)), (0, .ref ad0)]) hx hb (dt uX8_books_0 46 rfl) hl (k := 1) rfl rfl (by decide) rfl (fun ls hl => ?_)
              refine lv_goto (tgt := 21) hx hb (dt uX8_books_0 47 rfl) (by decide) ?_
              exact ih21 (x1_5 + 1) q_35.1 q_35.2.1 q_35.2.2.1 q_35.2.2.2.1 q_35.2.2.2.2.1 q_35.2.2.2.2.2.1 q_38.2.1 q_38.2.2.1 q_38.2.2.2.1 q_38.2.2.2.2.1 q_38.2.2.2.2.2 _ _ _ hf hP hD hS (lv_sub hl [1, 0] rfl)
            refine lv_icmp_ne (tgt := 80) hx hb (dt uX8_books_0 40 rfl) (by decide) (fun c_40 => ?_) (fun c_40 => ?_)
            · have hf := vif_f c_40 hf
              refine lv_iconst (v := (0 : Int32)) hx hb (dt uX8_books_0 43 rfl) (by decide) ?_
              exact hJ81 (0 : Int32) _ _ _ hf hP hD hS (lv_sub hl [1, 2] rfl)
            · have hf := vif_t c_40 hf
              refine lv_iconst (v := (1 : Int32)) hx hb (dt uX8_books_0 41 rfl) (by decide) ?_
              refine lv_goto (tgt := 81) hx hb (dt uX8_books_0 42 rfl) (by decide) ?_
              exact hJ81 (1 : Int32) _ _ _ hf hP hD hS (lv_sub hl [1, 2] rfl)
  exact hL21 N (0 : Int32) q_1.1 a_numberA a_numberB q_1.2.1 q_1.2.2.1 q_1.2.2.2 q_3.1 q_3.2.1 q_3.2.2.1 q_3.2.2.2 (-9 : Int32) _ _ _ hf hP hD hS (lv_sub hl [1, 0] rfl)
abbrev rX8_isBook : Room := { frames := 1, cells := 0, slots := 0, locals := 22 }
abbrev wX8_isBook : List Cond := Cond.code yX8_isBook cX8_isBook 2 (some .boolean) :: VT
set_option maxHeartbeats 4000000 in
set_option maxRecDepth 100000 in
theorem kX8_isBook (ad0 : Nat) (ad_text : Nat) (ad_books : Nat) (ad_numberA : Nat) (ad_numberB : Nat) (ad_draftTouches : Nat) (ad_now : Nat) (ad_isKept : Nat) (ad_near : Nat) (ad_seenDays : Nat) (ad_seenBook : Nat) (ad_seenIs : Nat) (v_trace : Int64) (v_typed : Int32) (v_draftOne : Int32) (v_oneTold : Int32) (v_at : Int32) (v_start : Int32) (v_sort : Int32) (v_value : Int32) (v_fault : Int32) (v_seen : Int32) (v_sets : Int32) (v_inEach : Int32) (v_inSome : Int32) (a_books : Nat → Int32) (p1 : Int32) (q0 : Int32) (hf : fX8_isBook a_books p1 = q0) : Kz l yX8_isBook wX8_isBook rX8_isBook (dC, dI) (vTy cI cJ cB cZ) [.ref ad0, .int p1] [(ad0, oX8 v_trace ad_text v_typed ad_books ad_numberA ad_numberB ad_draftTouches v_draftOne v_oneTold v_at v_start v_sort v_value v_fault ad_now ad_isKept ad_near ad_seenDays ad_seenBook ad_seenIs v_seen v_sets v_inEach v_inSome), (ad_books, .inl (cI, 2, .inl a_books))] [(ad0, oX8 v_trace ad_text v_typed ad_books ad_numberA ad_numberB ad_draftTouches v_draftOne v_oneTold v_at v_start v_sort v_value v_fault ad_now ad_isKept ad_near ad_seenDays ad_seenBook ad_seenIs v_seen v_sets v_inEach v_inSome), (ad_books, .inl (cI, 2, .inl a_books))] q0 := by
  refine Kz.mk (cc := cX8_isBook) (maxL := 2) (ret := some .boolean) (by decide) (Nat.le_of_ble_eq_true rfl) ?_
  intro p e s m args below meth c A Q H locs C hQ hP hD hS ls hl
  obtain ⟨hx, hb, -, hml, hts, hown, -, hK, hN, hA⟩ := id C
  have hown : s.vm.findClass RX8 = some m.cls := hown
  have hl : lv_has ls 2 [(0, .ref ad0), (1, .int p1)] := hl
  unfold fX8_isBook at hf
  refine lv_iload_n hx hb (dt uX8_isBook 0 rfl) rfl (lv_at hl 1 rfl) ?_
  refine lv_iconst (v := (0 : Int32)) hx hb (dt uX8_isBook 1 rfl) (by decide) ?_
  refine lv_aload_n hx hb (dt uX8_isBook 2 rfl) rfl (lv_at hl 0 rfl) ?_
  refine va_get (D := (dC, dI)) (ci := 8) (v := .ref ad_books) (C := RX8) (T := TX8) (N := 24) hx hb hts inU8 hown hK hP 0 rfl rfl 3 (by decide) (hts _ tw_360) (fun _ h9 => h9) rfl (dt uX8_isBook 3 rfl) ?_
  refine lv_iconst (v := (0 : Int32)) hx hb (dt uX8_isBook 4 rfl) (by decide) ?_
  refine va_iald hx hb hK hP 1 0 rfl rfl (vp_in_iff.mpr (by decide)) (dt uX8_isBook 5 rfl) ?_
  refine lv_iconst (v := (1 : Int32)) hx hb (dt uX8_isBook 6 rfl) (by decide) ?_
  refine lv_isub hx hb (dt uX8_isBook 7 rfl) ?_
  refine vk_z0 [] (va_runS (As := [.int p1, .int (0 : Int32), .int ((a_books (0 : Int32).toNatClampNeg) - (1 : Int32))]) (rest := []) ⟨hx, hb, hml, hown, hts⟩ (kX8_in p1 (0 : Int32) ((a_books (0 : Int32).toNatClampNeg) - (1 : Int32)) _ rfl H.size) (vcwS hts tw_338 tw_339 tw_336 tw_337 hd_X8_in rfl rfl ⟨Nat.le_of_ble_eq_true rfl, Nat.le_of_ble_eq_true rfl⟩) (vpreS hK hN hP hD [] rfl (by decide)) rfl rfl hl.1 rfl (lv_room (Nat.le_of_ble_eq_true rfl)) (dt uX8_isBook 8 rfl) ⟨Nat.zero_le _, Nat.zero_le _⟩) hA hP hD hS rfl (by decide) (fun hz_1 H locs hP hD hS => ?_)
  subst hf
  rw [hQ]
  exact vret_z C hP hD hS (dt uX8_isBook 9 rfl) hz_1
abbrev rX8_figure : Room := { frames := 0, cells := 0, slots := 0, locals := 0 }
abbrev wX8_figure : List Cond := Cond.code yX8_figure cX8_figure 4 (some .int) :: VT
set_option maxHeartbeats 4000000 in
set_option maxRecDepth 100000 in
theorem kX8_figure (p1 : Int32) (p2 : Int32) (N : Nat) (q0 : Int32) (hf : fX8_figure N p1 p2 = some q0) : Ki l yX8_figure wX8_figure rX8_figure (dC, dI) (vTy cI cJ cB cZ) [.int p1, .int p2] [] [] q0 := by
  refine Ki.mk (cc := cX8_figure) (maxL := 4) (ret := some .int) (by decide) (Nat.le_of_ble_eq_true rfl) ?_
  intro p e s m args below meth c A Q H locs C hQ hP hD hS ls hl
  obtain ⟨hx, hb, -, hml, hts, hown, -, hK, hN, hA⟩ := id C
  have hown : s.vm.findClass RX8 = some m.cls := hown
  have hl : lv_has ls 4 [(0, .int p1), (1, .int p2)] := hl
  unfold fX8_figure at hf
  refine lv_iload_n hx hb (dt uX8_figure 0 rfl) rfl (lv_at hl 0 rfl) ?_
  refine lv_istore_n (lv' := [(2, .int p1), (0, .int p1), (1, .int p2)]) hx hb (dt uX8_figure 1 rfl) rfl hl (by decide) rfl (fun ls hl => ?_)
  refine lv_iconst (v := (0 : Int32)) hx hb (dt uX8_figure 2 rfl) (by decide) ?_
  refine lv_istore_n (lv' := [(3, .int (0 : Int32)), (2, .int p1), (0, .int p1), (1, .int p2)]) hx hb (dt uX8_figure 3 rfl) rfl hl (by decide) rfl (fun ls hl => ?_)
  have hL4 : ∀ (n4 : Nat), ∀ (x2_1 : Int32) (x3_2 : Int32) (H : Heap) (locs : List Loc) (ls : Array Slot), fX8_figure_L4 p2 n4 x2_1 x3_2 = some q0 → va_P (dC, dI) vwCl [] H → va_D A [] → va_S A s.heap H locs → lv_has ls 4 [(1, .int p2), (2, .int x2_1), (3, .int x3_2)] → W p l e rX8_figure s m args below meth c H locs 0 0 Q (F0 m 4 ls []) := by
    intro n4
    induction n4 with
    | zero => intro x2_1 x3_2 H locs ls hf hP hD hS hl; cases hf
    | succ n4 ih4 =>
      intro x2_1 x3_2 H locs ls hf hP hD hS hl
      rw [fX8_figure_L4] at hf
      refine lv_iload_n hx hb (dt uX8_figure 4 rfl) rfl (lv_at hl 2 rfl) ?_
      refine lv_iload_n hx hb (dt uX8_figure 5 rfl) rfl (lv_at hl 0 rfl) ?_
      refine lv_icmp_ge (tgt := 20) hx hb (dt uX8_figure 6 rfl) (by decide) (fun c_3 => ?_) (fun c_3 => ?_)
      · have hf := vif_t c_3 hf
        refine lv_iload_n hx hb (dt uX8_figure 13 rfl) rfl (lv_at hl 1 rfl) ?_
        refine lv_bipush (v := (10 : Int32)) hx hb (dt uX8_figure 14 rfl) (by decide) ?_
        refine lv_irem hx hb (dt uX8_figure 15 rfl) (by decide) ?_
        have hf := Option.some.inj hf
        subst hf
        rw [hQ]
        exact vret_i C hP hD hS (dt uX8_figure 16 rfl)
      · have hf := vif_f c_3 hf
        refine lv_iload_n hx hb (dt uX8_figure 7 rfl) rfl (lv_at hl 1 rfl) ?_
        refine lv_bipush (v := (10 : Int32)) hx hb (dt uX8_figure 8 rfl) (by decide) ?_
        refine lv_idiv hx hb (dt uX8_figure 9 rfl) (by decide) ?_
        refine lv_istore_n (lv' := [(2, .int (x2_1 / (10 : Int32))), (1, .int p2), (3, .int x3_2)]) hx hb (dt uX8_figure 10 rfl) rfl hl (by decide) rfl (fun ls hl => ?_)
        refine lv_iinc (v := x3_2 + 1) (lv' := [(3, .int (x3_2 + 1)), (2, .int (x2_1 / (10 : Int32))), (1, .int p2)]) hx hb (dt uX8_figure 11 rfl) hl (k := 2) rfl rfl (by decide) rfl (fun ls hl => ?_)
        refine lv_goto (tgt := 4) hx hb (dt uX8_figure 12 rfl) (by decide) ?_
        exact ih4 (x2_1 / (10 : Int32)) (x3_2 + 1) _ _ _ hf hP hD hS (lv_sub hl [2, 1, 0] rfl)
  exact hL4 N p1 (0 : Int32) _ _ _ hf hP hD hS (lv_sub hl [3, 1, 0] rfl)
abbrev rX8_carries : Room := { frames := 1, cells := 0, slots := 0, locals := 23 }
abbrev wX8_carries : List Cond := Cond.code yX8_carries cX8_carries 4 (some .int) :: VT
set_option maxHeartbeats 4000000 in
set_option maxRecDepth 100000 in
theorem kX8_carries (ad0 : Nat) (ad_text : Nat) (ad_books : Nat) (ad_numberA : Nat) (ad_numberB : Nat) (ad_draftTouches : Nat) (ad_now : Nat) (ad_isKept : Nat) (ad_near : Nat) (ad_seenDays : Nat) (ad_seenBook : Nat) (ad_seenIs : Nat) (v_trace : Int64) (v_typed : Int32) (v_draftOne : Int32) (v_oneTold : Int32) (v_at : Int32) (v_start : Int32) (v_sort : Int32) (v_value : Int32) (v_fault : Int32) (v_seen : Int32) (v_sets : Int32) (v_inEach : Int32) (v_inSome : Int32) (a_numberA : Nat → Int32) (a_numberB : Nat → Int32) (p1 : Int32) (N : Nat) (q0 : Int32) (hf : fX8_carries N a_numberA a_numberB p1 = some q0) : Ki l yX8_carries wX8_carries rX8_carries (dC, dI) (vTy cI cJ cB cZ) [.ref ad0, .int p1] [(ad0, oX8 v_trace ad_text v_typed ad_books ad_numberA ad_numberB ad_draftTouches v_draftOne v_oneTold v_at v_start v_sort v_value v_fault ad_now ad_isKept ad_near ad_seenDays ad_seenBook ad_seenIs v_seen v_sets v_inEach v_inSome), (ad_numberA, .inl (cI, 12, .inl a_numberA)), (ad_numberB, .inl (cI, 12, .inl a_numberB))] [(ad0, oX8 v_trace ad_text v_typed ad_books ad_numberA ad_numberB ad_draftTouches v_draftOne v_oneTold v_at v_start v_sort v_value v_fault ad_now ad_isKept ad_near ad_seenDays ad_seenBook ad_seenIs v_seen v_sets v_inEach v_inSome), (ad_numberA, .inl (cI, 12, .inl a_numberA)), (ad_numberB, .inl (cI, 12, .inl a_numberB))] q0 := by
  refine Ki.mk (cc := cX8_carries) (maxL := 4) (ret := some .int) (by decide) (Nat.le_of_ble_eq_true rfl) ?_
  intro p e s m args below meth c A Q H locs C hQ hP hD hS ls hl
  obtain ⟨hx, hb, -, hml, hts, hown, -, hK, hN, hA⟩ := id C
  have hown : s.vm.findClass RX8 = some m.cls := hown
  have hl : lv_has ls 4 [(0, .ref ad0), (1, .int p1)] := hl
  unfold fX8_carries at hf
  refine lv_aload_n hx hb (dt uX8_carries 0 rfl) rfl (lv_at hl 0 rfl) ?_
  refine va_get (D := (dC, dI)) (ci := 8) (v := .ref ad_numberA) (C := RX8) (T := TX8) (N := 24) hx hb hts inU8 hown hK hP 0 rfl rfl 4 (by decide) (hts _ tw_367) (fun _ h9 => h9) rfl (dt uX8_carries 1 rfl) ?_
  refine lv_iload_n hx hb (dt uX8_carries 2 rfl) rfl (lv_at hl 1 rfl) ?_
  obtain ⟨hi_1, hf⟩ := vg_some hf
  refine va_iald hx hb hK hP 1 0 rfl rfl hi_1 (dt uX8_carries 3 rfl) ?_
  refine lv_iconst (v := (0 : Int32)) hx hb (dt uX8_carries 4 rfl) (by decide) ?_
  obtain ⟨q_2, hq_3, hf⟩ := vbd hf
  refine vk_i0 [] (va_runS (As := [.int (a_numberA p1.toNatClampNeg), .int (0 : Int32)]) (rest := []) ⟨hx, hb, hml, hown, hts⟩ (kX8_figure (a_numberA p1.toNatClampNeg) (0 : Int32) N q_2 hq_3 H.size) (vcwS hts tw_389 tw_390 tw_336 tw_388 hd_X8_figure rfl rfl ⟨Nat.le_of_ble_eq_true rfl, Nat.le_of_ble_eq_true rfl⟩) (vpreS hK hN hP hD [] rfl (by decide)) rfl rfl hl.1 rfl (lv_room (Nat.le_of_ble_eq_true rfl)) (dt uX8_carries 5 rfl) ⟨Nat.zero_le _, Nat.zero_le _⟩) hA hP hD hS rfl (by decide) (fun H locs hP hD hS => ?_)
  refine lv_aload_n hx hb (dt uX8_carries 6 rfl) rfl (lv_at hl 0 rfl) ?_
  refine va_get (D := (dC, dI)) (ci := 8) (v := .ref ad_numberB) (C := RX8) (T := TX8) (N := 24) hx hb hts inU8 hown hK hP 0 rfl rfl 5 (by decide) (hts _ tw_368) (fun _ h9 => h9) rfl (dt uX8_carries 7 rfl) ?_
  refine lv_iload_n hx hb (dt uX8_carries 8 rfl) rfl (lv_at hl 1 rfl) ?_
  obtain ⟨hi_4, hf⟩ := vg_some hf
  refine va_iald hx hb hK hP 2 0 rfl rfl hi_4 (dt uX8_carries 9 rfl) ?_
  refine lv_iconst (v := (0 : Int32)) hx hb (dt uX8_carries 10 rfl) (by decide) ?_
  obtain ⟨q_5, hq_6, hf⟩ := vbd hf
  refine vk_i0 [] (va_runS (As := [.int (a_numberB p1.toNatClampNeg), .int (0 : Int32)]) (rest := [.int q_2]) ⟨hx, hb, hml, hown, hts⟩ (kX8_figure (a_numberB p1.toNatClampNeg) (0 : Int32) N q_5 hq_6 H.size) (vcwS hts tw_389 tw_390 tw_336 tw_388 hd_X8_figure rfl rfl ⟨Nat.le_of_ble_eq_true rfl, Nat.le_of_ble_eq_true rfl⟩) (vpreS hK hN hP hD [] rfl (by decide)) rfl rfl hl.1 rfl (lv_room (Nat.le_of_ble_eq_true rfl)) (dt uX8_carries 11 rfl) ⟨Nat.zero_le _, Nat.zero_le _⟩) hA hP hD hS rfl (by decide) (fun H locs hP hD hS => ?_)
  refine lv_iadd hx hb (dt uX8_carries 12 rfl) ?_
  refine lv_bipush (v := (10 : Int32)) hx hb (dt uX8_carries 13 rfl) (by decide) ?_
  have hJ31 : ∀ (y0_7 : Int32) (H : Heap) (locs : List Loc) (ls : Array Slot), fX8_carries_J31 N a_numberA a_numberB p1 y0_7 = some q0 → va_P (dC, dI) vwCl [(ad0, oX8 v_trace ad_text v_typed ad_books ad_numberA ad_numberB ad_draftTouches v_draftOne v_oneTold v_at v_start v_sort v_value v_fault ad_now ad_isKept ad_near ad_seenDays ad_seenBook ad_seenIs v_seen v_sets v_inEach v_inSome), (ad_numberA, .inl (cI, 12, .inl a_numberA)), (ad_numberB, .inl (cI, 12, .inl a_numberB))] H → va_D A [(ad0, oX8 v_trace ad_text v_typed ad_books ad_numberA ad_numberB ad_draftTouches v_draftOne v_oneTold v_at v_start v_sort v_value v_fault ad_now ad_isKept ad_near ad_seenDays ad_seenBook ad_seenIs v_seen v_sets v_inEach v_inSome), (ad_numberA, .inl (cI, 12, .inl a_numberA)), (ad_numberB, .inl (cI, 12, .inl a_numberB))] → va_S A s.heap H locs → lv_has ls 4 [(0, .ref ad0), (1, .int p1)] → W p l e rX8_carries s m args below meth c H locs 0 0 Q (F0 m 31 ls [.int y0_7]) := by
    intro y0_7 H locs ls hf hP hD hS hl
    unfold fX8_carries_J31 at hf
    refine lv_istore_n (lv' := [(2, .int y0_7), (0, .ref ad0), (1, .int p1)]) hx hb (dt uX8_carries 18 rfl) rfl hl (by decide) rfl (fun ls hl => ?_)
    refine lv_aload_n hx hb (dt uX8_carries 19 rfl) rfl (lv_at hl 1 rfl) ?_
    refine va_get (D := (dC, dI)) (ci := 8) (v := .ref ad_numberA) (C := RX8) (T := TX8) (N := 24) hx hb hts inU8 hown hK hP 0 rfl rfl 4 (by decide) (hts _ tw_367) (fun _ h9 => h9) rfl (dt uX8_carries 20 rfl) ?_
    refine lv_iload_n hx hb (dt uX8_carries 21 rfl) rfl (lv_at hl 2 rfl) ?_
    obtain ⟨hi_8, hf⟩ := vg_some hf
    refine va_iald hx hb hK hP 1 0 rfl rfl hi_8 (dt uX8_carries 22 rfl) ?_
    refine lv_iconst (v := (1 : Int32)) hx hb (dt uX8_carries 23 rfl) (by decide) ?_
    obtain ⟨q_9, hq_10, hf⟩ := vbd hf
    refine vk_i0 [] (va_runS (As := [.int (a_numberA p1.toNatClampNeg), .int (1 : Int32)]) (rest := []) ⟨hx, hb, hml, hown, hts⟩ (kX8_figure (a_numberA p1.toNatClampNeg) (1 : Int32) N q_9 hq_10 H.size) (vcwS hts tw_389 tw_390 tw_336 tw_388 hd_X8_figure rfl rfl ⟨Nat.le_of_ble_eq_true rfl, Nat.le_of_ble_eq_true rfl⟩) (vpreS hK hN hP hD [] rfl (by decide)) rfl rfl hl.1 rfl (lv_room (Nat.le_of_ble_eq_true rfl)) (dt uX8_carries 24 rfl) ⟨Nat.zero_le _, Nat.zero_le _⟩) hA hP hD hS rfl (by decide) (fun H locs hP hD hS => ?_)
    refine lv_aload_n hx hb (dt uX8_carries 25 rfl) rfl (lv_at hl 1 rfl) ?_
    refine va_get (D := (dC, dI)) (ci := 8) (v := .ref ad_numberB) (C := RX8) (T := TX8) (N := 24) hx hb hts inU8 hown hK hP 0 rfl rfl 5 (by decide) (hts _ tw_368) (fun _ h9 => h9) rfl (dt uX8_carries 26 rfl) ?_
    refine lv_iload_n hx hb (dt uX8_carries 27 rfl) rfl (lv_at hl 2 rfl) ?_
    obtain ⟨hi_11, hf⟩ := vg_some hf
    refine va_iald hx hb hK hP 2 0 rfl rfl hi_11 (dt uX8_carries 28 rfl) ?_
    refine lv_iconst (v := (1 : Int32)) hx hb (dt uX8_carries 29 rfl) (by decide) ?_
    obtain ⟨q_12, hq_13, hf⟩ := vbd hf
    refine vk_i0 [] (va_runS (As := [.int (a_numberB p1.toNatClampNeg), .int (1 : Int32)]) (rest := [.int q_9]) ⟨hx, hb, hml, hown, hts⟩ (kX8_figure (a_numberB p1.toNatClampNeg) (1 : Int32) N q_12 hq_13 H.size) (vcwS hts tw_389 tw_390 tw_336 tw_388 hd_X8_figure rfl rfl ⟨Nat.le_of_ble_eq_true rfl, Nat.le_of_ble_eq_true rfl⟩) (vpreS hK hN hP hD [] rfl (by decide)) rfl rfl hl.1 rfl (lv_room (Nat.le_of_ble_eq_true rfl)) (dt uX8_carries 30 rfl) ⟨Nat.zero_le _, Nat.zero_le _⟩) hA hP hD hS rfl (by decide) (fun H locs hP hD hS => ?_)
    refine lv_iadd hx hb (dt uX8_carries 31 rfl) ?_
    refine lv_iload_n hx hb (dt uX8_carries 32 rfl) rfl (lv_at hl 0 rfl) ?_
    refine lv_iadd hx hb (dt uX8_carries 33 rfl) ?_
    refine lv_bipush (v := (10 : Int32)) hx hb (dt uX8_carries 34 rfl) (by decide) ?_
    refine lv_icmp_lt (tgt := 64) hx hb (dt uX8_carries 35 rfl) (by decide) (fun c_14 => ?_) (fun c_14 => ?_)
    · have hf := vif_t c_14 hf
      refine lv_iconst (v := (0 : Int32)) hx hb (dt uX8_carries 38 rfl) (by decide) ?_
      refine lv_istore_n (lv' := [(3, .int (0 : Int32)), (2, .int y0_7), (0, .ref ad0), (1, .int p1)]) hx hb (dt uX8_carries 39 rfl) rfl hl (by decide) rfl (fun ls hl => ?_)
      refine lv_iload_n hx hb (dt uX8_carries 40 rfl) rfl (lv_at hl 1 rfl) ?_
      refine lv_iload_n hx hb (dt uX8_carries 41 rfl) rfl (lv_at hl 0 rfl) ?_
      refine lv_ior hx hb (dt uX8_carries 42 rfl) ?_
      have hf := Option.some.inj hf
      subst hf
      rw [hQ]
      exact vret_i C hP hD hS (dt uX8_carries 43 rfl)
    · have hf := vif_f c_14 hf
      refine lv_iconst (v := (2 : Int32)) hx hb (dt uX8_carries 36 rfl) (by decide) ?_
      refine lv_goto (tgt := 65) hx hb (dt uX8_carries 37 rfl) (by decide) ?_
      refine lv_istore_n (lv' := [(3, .int (2 : Int32)), (2, .int y0_7), (0, .ref ad0), (1, .int p1)]) hx hb (dt uX8_carries 39 rfl) rfl hl (by decide) rfl (fun ls hl => ?_)
      refine lv_iload_n hx hb (dt uX8_carries 40 rfl) rfl (lv_at hl 1 rfl) ?_
      refine lv_iload_n hx hb (dt uX8_carries 41 rfl) rfl (lv_at hl 0 rfl) ?_
      refine lv_ior hx hb (dt uX8_carries 42 rfl) ?_
      have hf := Option.some.inj hf
      subst hf
      rw [hQ]
      exact vret_i C hP hD hS (dt uX8_carries 43 rfl)
  refine lv_icmp_lt (tgt := 30) hx hb (dt uX8_carries 14 rfl) (by decide) (fun c_15 => ?_) (fun c_15 => ?_)
  · have hf := vif_t c_15 hf
    refine lv_iconst (v := (0 : Int32)) hx hb (dt uX8_carries 17 rfl) (by decide) ?_
    exact hJ31 (0 : Int32) _ _ _ hf hP hD hS (lv_sub hl [0, 1] rfl)
  · have hf := vif_f c_15 hf
    refine lv_iconst (v := (1 : Int32)) hx hb (dt uX8_carries 15 rfl) (by decide) ?_
    refine lv_goto (tgt := 31) hx hb (dt uX8_carries 16 rfl) (by decide) ?_
    exact hJ31 (1 : Int32) _ _ _ hf hP hD hS (lv_sub hl [0, 1] rfl)
abbrev rX8_sum : Room := { frames := 0, cells := 0, slots := 0, locals := 0 }
abbrev wX8_sum : List Cond := Cond.code yX8_sum cX8_sum 2 (some .int) :: VT
set_option maxHeartbeats 4000000 in
set_option maxRecDepth 100000 in
theorem kX8_sum (ad0 : Nat) (ad_text : Nat) (ad_books : Nat) (ad_numberA : Nat) (ad_numberB : Nat) (ad_draftTouches : Nat) (ad_now : Nat) (ad_isKept : Nat) (ad_near : Nat) (ad_seenDays : Nat) (ad_seenBook : Nat) (ad_seenIs : Nat) (v_trace : Int64) (v_typed : Int32) (v_draftOne : Int32) (v_oneTold : Int32) (v_at : Int32) (v_start : Int32) (v_sort : Int32) (v_value : Int32) (v_fault : Int32) (v_seen : Int32) (v_sets : Int32) (v_inEach : Int32) (v_inSome : Int32) (a_numberA : Nat → Int32) (a_numberB : Nat → Int32) (p1 : Int32) (q0 : Int32) (hf : fX8_sum a_numberA a_numberB p1 = some q0) : Ki l yX8_sum wX8_sum rX8_sum (dC, dI) (vTy cI cJ cB cZ) [.ref ad0, .int p1] [(ad0, oX8 v_trace ad_text v_typed ad_books ad_numberA ad_numberB ad_draftTouches v_draftOne v_oneTold v_at v_start v_sort v_value v_fault ad_now ad_isKept ad_near ad_seenDays ad_seenBook ad_seenIs v_seen v_sets v_inEach v_inSome), (ad_numberA, .inl (cI, 12, .inl a_numberA)), (ad_numberB, .inl (cI, 12, .inl a_numberB))] [(ad0, oX8 v_trace ad_text v_typed ad_books ad_numberA ad_numberB ad_draftTouches v_draftOne v_oneTold v_at v_start v_sort v_value v_fault ad_now ad_isKept ad_near ad_seenDays ad_seenBook ad_seenIs v_seen v_sets v_inEach v_inSome), (ad_numberA, .inl (cI, 12, .inl a_numberA)), (ad_numberB, .inl (cI, 12, .inl a_numberB))] q0 := by
  refine Ki.mk (cc := cX8_sum) (maxL := 2) (ret := some .int) (by decide) (Nat.le_of_ble_eq_true rfl) ?_
  intro p e s m args below meth c A Q H locs C hQ hP hD hS ls hl
  obtain ⟨hx, hb, -, hml, hts, hown, -, hK, hN, hA⟩ := id C
  have hown : s.vm.findClass RX8 = some m.cls := hown
  have hl : lv_has ls 2 [(0, .ref ad0), (1, .int p1)] := hl
  unfold fX8_sum at hf
  refine lv_aload_n hx hb (dt uX8_sum 0 rfl) rfl (lv_at hl 0 rfl) ?_
  refine va_get (D := (dC, dI)) (ci := 8) (v := .ref ad_numberA) (C := RX8) (T := TX8) (N := 24) hx hb hts inU8 hown hK hP 0 rfl rfl 4 (by decide) (hts _ tw_367) (fun _ h9 => h9) rfl (dt uX8_sum 1 rfl) ?_
  refine lv_iload_n hx hb (dt uX8_sum 2 rfl) rfl (lv_at hl 1 rfl) ?_
  obtain ⟨hi_1, hf⟩ := vg_some hf
  refine va_iald hx hb hK hP 1 0 rfl rfl hi_1 (dt uX8_sum 3 rfl) ?_
  refine lv_aload_n hx hb (dt uX8_sum 4 rfl) rfl (lv_at hl 0 rfl) ?_
  refine va_get (D := (dC, dI)) (ci := 8) (v := .ref ad_numberB) (C := RX8) (T := TX8) (N := 24) hx hb hts inU8 hown hK hP 0 rfl rfl 5 (by decide) (hts _ tw_368) (fun _ h9 => h9) rfl (dt uX8_sum 5 rfl) ?_
  refine lv_iload_n hx hb (dt uX8_sum 6 rfl) rfl (lv_at hl 1 rfl) ?_
  obtain ⟨hi_2, hf⟩ := vg_some hf
  refine va_iald hx hb hK hP 2 0 rfl rfl hi_2 (dt uX8_sum 7 rfl) ?_
  refine lv_iadd hx hb (dt uX8_sum 8 rfl) ?_
  have hf := Option.some.inj hf
  subst hf
  rw [hQ]
  exact vret_i C hP hD hS (dt uX8_sum 9 rfl)
abbrev rX8_written : Room := { frames := 1, cells := 0, slots := 0, locals := 21 }
abbrev wX8_written : List Cond := Cond.code yX8_written cX8_written 3 (some .int) :: VT
set_option maxHeartbeats 4000000 in
set_option maxRecDepth 100000 in
theorem kX8_written (ad0 : Nat) (ad_text : Nat) (ad_books : Nat) (ad_numberA : Nat) (ad_numberB : Nat) (ad_draftTouches : Nat) (ad_now : Nat) (ad_isKept : Nat) (ad_near : Nat) (ad_seenDays : Nat) (ad_seenBook : Nat) (ad_seenIs : Nat) (v_trace : Int64) (v_typed : Int32) (v_draftOne : Int32) (v_oneTold : Int32) (v_at : Int32) (v_start : Int32) (v_sort : Int32) (v_value : Int32) (v_fault : Int32) (v_seen : Int32) (v_sets : Int32) (v_inEach : Int32) (v_inSome : Int32) (a_numberA : Nat → Int32) (a_numberB : Nat → Int32) (a_now : Nat → Int32) (p1 : Int32) (q0 : Int32) (hf : fX8_written a_numberA a_numberB a_now p1 = some q0) : Ki l yX8_written wX8_written rX8_written (dC, dI) (vTy cI cJ cB cZ) [.ref ad0, .int p1] [(ad0, oX8 v_trace ad_text v_typed ad_books ad_numberA ad_numberB ad_draftTouches v_draftOne v_oneTold v_at v_start v_sort v_value v_fault ad_now ad_isKept ad_near ad_seenDays ad_seenBook ad_seenIs v_seen v_sets v_inEach v_inSome), (ad_numberA, .inl (cI, 12, .inl a_numberA)), (ad_numberB, .inl (cI, 12, .inl a_numberB)), (ad_now, .inl (cI, 498, .inl a_now))] [(ad0, oX8 v_trace ad_text v_typed ad_books ad_numberA ad_numberB ad_draftTouches v_draftOne v_oneTold v_at v_start v_sort v_value v_fault ad_now ad_isKept ad_near ad_seenDays ad_seenBook ad_seenIs v_seen v_sets v_inEach v_inSome), (ad_numberA, .inl (cI, 12, .inl a_numberA)), (ad_numberB, .inl (cI, 12, .inl a_numberB)), (ad_now, .inl (cI, 498, .inl a_now))] q0 := by
  refine Ki.mk (cc := cX8_written) (maxL := 3) (ret := some .int) (by decide) (Nat.le_of_ble_eq_true rfl) ?_
  intro p e s m args below meth c A Q H locs C hQ hP hD hS ls hl
  obtain ⟨hx, hb, -, hml, hts, hown, -, hK, hN, hA⟩ := id C
  have hown : s.vm.findClass RX8 = some m.cls := hown
  have hl : lv_has ls 3 [(0, .ref ad0), (1, .int p1)] := hl
  unfold fX8_written at hf
  refine lv_aload_n hx hb (dt uX8_written 0 rfl) rfl (lv_at hl 0 rfl) ?_
  refine va_get (D := (dC, dI)) (ci := 8) (v := .ref ad_now) (C := RX8) (T := TX8) (N := 24) hx hb hts inU8 hown hK hP 0 rfl rfl 14 (by decide) (hts _ tw_369) (fun _ h9 => h9) rfl (dt uX8_written 1 rfl) ?_
  refine lv_iconst (v := (0 : Int32)) hx hb (dt uX8_written 2 rfl) (by decide) ?_
  refine lv_iload_n hx hb (dt uX8_written 3 rfl) rfl (lv_at hl 1 rfl) ?_
  refine lv_iadd hx hb (dt uX8_written 4 rfl) ?_
  obtain ⟨hi_1, hf⟩ := vg_some hf
  refine va_iald hx hb hK hP 3 0 rfl rfl hi_1 (dt uX8_written 5 rfl) ?_
  refine lv_istore_n (lv' := [(2, .int (a_now ((0 : Int32) + p1).toNatClampNeg)), (0, .ref ad0), (1, .int p1)]) hx hb (dt uX8_written 6 rfl) rfl hl (by decide) rfl (fun ls hl => ?_)
  refine lv_aload_n hx hb (dt uX8_written 7 rfl) rfl (lv_at hl 1 rfl) ?_
  refine lv_iload_n hx hb (dt uX8_written 8 rfl) rfl (lv_at hl 2 rfl) ?_
  obtain ⟨q_2, hq_3, hf⟩ := vbd hf
  refine vk_i0 [0, 1, 2] (va_runV (As := [.int p1]) (rest := []) ⟨hx, hb, hml, hown, hts⟩ (kX8_sum ad0 ad_text ad_books ad_numberA ad_numberB ad_draftTouches ad_now ad_isKept ad_near ad_seenDays ad_seenBook ad_seenIs v_trace v_typed v_draftOne v_oneTold v_at v_start v_sort v_value v_fault v_seen v_sets v_inEach v_inSome a_numberA a_numberB p1 q_2 hq_3 H.size) (vcwV hts tw_392 tw_393 tw_394 tw_336 tw_391 hd_X8_sum rfl rfl ⟨Nat.le_of_ble_eq_true rfl, Nat.le_of_ble_eq_true rfl⟩) (vpreV hK hN hP hD [0, 1, 2] rfl (by decide) (ci := 8) (q0 := 0) rfl rfl) rfl rfl hl.1 rfl (lv_room (Nat.le_of_ble_eq_true rfl)) (dt uX8_written 9 rfl) ⟨Nat.zero_le _, Nat.zero_le _⟩) hA hP hD hS rfl (by decide) (fun H locs hP hD hS => ?_)
  refine lv_bipush (v := (10 : Int32)) hx hb (dt uX8_written 10 rfl) (by decide) ?_
  refine lv_iload_n hx hb (dt uX8_written 11 rfl) rfl (lv_at hl 0 rfl) ?_
  refine lv_iconst (v := (1 : Int32)) hx hb (dt uX8_written 12 rfl) (by decide) ?_
  refine lv_iand hx hb (dt uX8_written 13 rfl) ?_
  refine lv_imul hx hb (dt uX8_written 14 rfl) ?_
  refine lv_isub hx hb (dt uX8_written 15 rfl) ?_
  refine lv_bipush (v := (100 : Int32)) hx hb (dt uX8_written 16 rfl) (by decide) ?_
  refine lv_iload_n hx hb (dt uX8_written 17 rfl) rfl (lv_at hl 0 rfl) ?_
  refine lv_iconst (v := (1 : Int32)) hx hb (dt uX8_written 18 rfl) (by decide) ?_
  refine lv_ishr hx hb (dt uX8_written 19 rfl) ?_
  refine lv_imul hx hb (dt uX8_written 20 rfl) ?_
  refine lv_isub hx hb (dt uX8_written 21 rfl) ?_
  have hf := Option.some.inj hf
  subst hf
  rw [hQ]
  exact vret_i C hP hD hS (dt uX8_written 22 rfl)
abbrev rX8_shown : Room := { frames := 2, cells := 0, slots := 0, locals := 43 }
abbrev wX8_shown : List Cond := Cond.code yX8_shown cX8_shown 2 (some .int) :: VT
set_option maxHeartbeats 4000000 in
set_option maxRecDepth 100000 in
theorem kX8_shown (ad0 : Nat) (ad_text : Nat) (ad_books : Nat) (ad_numberA : Nat) (ad_numberB : Nat) (ad_draftTouches : Nat) (ad_now : Nat) (ad_isKept : Nat) (ad_near : Nat) (ad_seenDays : Nat) (ad_seenBook : Nat) (ad_seenIs : Nat) (v_trace : Int64) (v_typed : Int32) (v_draftOne : Int32) (v_oneTold : Int32) (v_at : Int32) (v_start : Int32) (v_sort : Int32) (v_value : Int32) (v_fault : Int32) (v_seen : Int32) (v_sets : Int32) (v_inEach : Int32) (v_inSome : Int32) (a_numberA : Nat → Int32) (a_numberB : Nat → Int32) (a_now : Nat → Int32) (p1 : Int32) (q0 : Int32) (hf : fX8_shown a_numberA a_numberB a_now p1 = some q0) : Ki l yX8_shown wX8_shown rX8_shown (dC, dI) (vTy cI cJ cB cZ) [.ref ad0, .int p1] [(ad0, oX8 v_trace ad_text v_typed ad_books ad_numberA ad_numberB ad_draftTouches v_draftOne v_oneTold v_at v_start v_sort v_value v_fault ad_now ad_isKept ad_near ad_seenDays ad_seenBook ad_seenIs v_seen v_sets v_inEach v_inSome), (ad_numberA, .inl (cI, 12, .inl a_numberA)), (ad_numberB, .inl (cI, 12, .inl a_numberB)), (ad_now, .inl (cI, 498, .inl a_now))] [(ad0, oX8 v_trace ad_text v_typed ad_books ad_numberA ad_numberB ad_draftTouches v_draftOne v_oneTold v_at v_start v_sort v_value v_fault ad_now ad_isKept ad_near ad_seenDays ad_seenBook ad_seenIs v_seen v_sets v_inEach v_inSome), (ad_numberA, .inl (cI, 12, .inl a_numberA)), (ad_numberB, .inl (cI, 12, .inl a_numberB)), (ad_now, .inl (cI, 498, .inl a_now))] q0 := by
  refine Ki.mk (cc := cX8_shown) (maxL := 2) (ret := some .int) (by decide) (Nat.le_of_ble_eq_true rfl) ?_
  intro p e s m args below meth c A Q H locs C hQ hP hD hS ls hl
  obtain ⟨hx, hb, -, hml, hts, hown, -, hK, hN, hA⟩ := id C
  have hown : s.vm.findClass RX8 = some m.cls := hown
  have hl : lv_has ls 2 [(0, .ref ad0), (1, .int p1)] := hl
  unfold fX8_shown at hf
  refine lv_aload_n hx hb (dt uX8_shown 0 rfl) rfl (lv_at hl 0 rfl) ?_
  refine lv_iload_n hx hb (dt uX8_shown 1 rfl) rfl (lv_at hl 1 rfl) ?_
  obtain ⟨q_1, hq_2, hf⟩ := vbd hf
  refine vk_i0 [0, 1, 2, 3] (va_runV (As := [.int p1]) (rest := []) ⟨hx, hb, hml, hown, hts⟩ (kX8_written ad0 ad_text ad_books ad_numberA ad_numberB ad_draftTouches ad_now ad_isKept ad_near ad_seenDays ad_seenBook ad_seenIs v_trace v_typed v_draftOne v_oneTold v_at v_start v_sort v_value v_fault v_seen v_sets v_inEach v_inSome a_numberA a_numberB a_now p1 q_1 hq_2 H.size) (vcwV hts tw_396 tw_397 tw_398 tw_336 tw_395 hd_X8_written rfl rfl ⟨Nat.le_of_ble_eq_true rfl, Nat.le_of_ble_eq_true rfl⟩) (vpreV hK hN hP hD [0, 1, 2, 3] rfl (by decide) (ci := 8) (q0 := 0) rfl rfl) rfl rfl hl.1 rfl (lv_room (Nat.le_of_ble_eq_true rfl)) (dt uX8_shown 2 rfl) ⟨Nat.zero_le _, Nat.zero_le _⟩) hA hP hD hS rfl (by decide) (fun H locs hP hD hS => ?_)
  refine lv_aload_n hx hb (dt uX8_shown 3 rfl) rfl (lv_at hl 0 rfl) ?_
  refine va_get (D := (dC, dI)) (ci := 8) (v := .ref ad_now) (C := RX8) (T := TX8) (N := 24) hx hb hts inU8 hown hK hP 0 rfl rfl 14 (by decide) (hts _ tw_369) (fun _ h9 => h9) rfl (dt uX8_shown 4 rfl) ?_
  refine lv_bipush (v := (13 : Int32)) hx hb (dt uX8_shown 5 rfl) (by decide) ?_
  refine va_iald hx hb hK hP 3 0 rfl rfl (vp_in_iff.mpr (by decide)) (dt uX8_shown 6 rfl) ?_
  refine lv_iload_n hx hb (dt uX8_shown 7 rfl) rfl (lv_at hl 1 rfl) ?_
  refine lv_icmp_ne (tgt := 21) hx hb (dt uX8_shown 8 rfl) (by decide) (fun c_3 => ?_) (fun c_3 => ?_)
  · have hf := vif_f c_3 hf
    refine lv_iconst (v := (0 : Int32)) hx hb (dt uX8_shown 11 rfl) (by decide) ?_
    refine lv_iadd hx hb (dt uX8_shown 12 rfl) ?_
    have hf := Option.some.inj hf
    subst hf
    rw [hQ]
    exact vret_i C hP hD hS (dt uX8_shown 13 rfl)
  · have hf := vif_t c_3 hf
    refine lv_bipush (v := (10 : Int32)) hx hb (dt uX8_shown 9 rfl) (by decide) ?_
    refine lv_goto (tgt := 22) hx hb (dt uX8_shown 10 rfl) (by decide) ?_
    refine lv_iadd hx hb (dt uX8_shown 12 rfl) ?_
    have hf := Option.some.inj hf
    subst hf
    rw [hQ]
    exact vret_i C hP hD hS (dt uX8_shown 13 rfl)
abbrev rX8_tens : Room := { frames := 1, cells := 0, slots := 0, locals := 23 }
abbrev wX8_tens : List Cond := Cond.code yX8_tens cX8_tens 1 (some .int) :: VT
set_option maxHeartbeats 4000000 in
set_option maxRecDepth 100000 in
theorem kX8_tens (p1 : Int32) (N : Nat) (q0 : Int32) (hf : fX8_tens N p1 = some q0) : Ki l yX8_tens wX8_tens rX8_tens (dC, dI) (vTy cI cJ cB cZ) [.int p1] [] [] q0 := by
  refine Ki.mk (cc := cX8_tens) (maxL := 1) (ret := some .int) (by decide) (Nat.le_of_ble_eq_true rfl) ?_
  intro p e s m args below meth c A Q H locs C hQ hP hD hS ls hl
  obtain ⟨hx, hb, -, hml, hts, hown, -, hK, hN, hA⟩ := id C
  have hown : s.vm.findClass RX8 = some m.cls := hown
  have hl : lv_has ls 1 [(0, .int p1)] := hl
  unfold fX8_tens at hf
  refine lv_iload_n hx hb (dt uX8_tens 0 rfl) rfl (lv_at hl 0 rfl) ?_
  refine lv_if_ge (tgt := 8) hx hb (dt uX8_tens 1 rfl) (by decide) (fun c_1 => ?_) (fun c_1 => ?_)
  · have hf := vif_t c_1 hf
    refine lv_iload_n hx hb (dt uX8_tens 4 rfl) rfl (lv_at hl 0 rfl) ?_
    refine lv_iconst (v := (1 : Int32)) hx hb (dt uX8_tens 5 rfl) (by decide) ?_
    obtain ⟨q_2, hq_3, hf⟩ := vbd hf
    refine vk_i0 [] (va_runS (As := [.int p1, .int (1 : Int32)]) (rest := []) ⟨hx, hb, hml, hown, hts⟩ (kX8_figure p1 (1 : Int32) N q_2 hq_3 H.size) (vcwS hts tw_389 tw_390 tw_336 tw_388 hd_X8_figure rfl rfl ⟨Nat.le_of_ble_eq_true rfl, Nat.le_of_ble_eq_true rfl⟩) (vpreS hK hN hP hD [] rfl (by decide)) rfl rfl hl.1 rfl (lv_room (Nat.le_of_ble_eq_true rfl)) (dt uX8_tens 6 rfl) ⟨Nat.zero_le _, Nat.zero_le _⟩) hA hP hD hS rfl (by decide) (fun H locs hP hD hS => ?_)
    have hf := Option.some.inj hf
    subst hf
    rw [hQ]
    exact vret_i C hP hD hS (dt uX8_tens 7 rfl)
  · have hf := vif_f c_1 hf
    refine lv_iconst (v := (0 : Int32)) hx hb (dt uX8_tens 2 rfl) (by decide) ?_
    refine lv_goto (tgt := 13) hx hb (dt uX8_tens 3 rfl) (by decide) ?_
    have hf := Option.some.inj hf
    subst hf
    rw [hQ]
    exact vret_i C hP hD hS (dt uX8_tens 7 rfl)
end WALKS
