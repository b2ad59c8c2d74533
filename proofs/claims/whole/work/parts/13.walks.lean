section WALKS
variable {l : Launch} {dC : Nat → ClassId} {dI : Nat → Nat → Nat} {cI cJ cB cZ : ClassId}
abbrev rX7_fewestTouchesToCut : Room := { frames := 4, cells := 0, slots := 0, locals := 97 }
abbrev wX7_fewestTouchesToCut : List Cond := Cond.code yX7_fewestTouchesToCut cX7_fewestTouchesToCut 4 (some .int) :: VT
set_option maxHeartbeats 4000000 in
set_option maxRecDepth 100000 in
theorem kX7_fewestTouchesToCut (ad0 : Nat) (ad_text : Nat) (ad_draft : Nat) (ad_told : Nat) (ad_told_a : Nat) (ad_told_b : Nat) (ad_now : Nat) (ad_history : Nat) (ad_firstImage : Nat) (ad_secondImage : Nat) (ad_seen : Nat) (ad_ways : Nat) (ad_ways_ranked : Nat) (ad_ways_tens : Nat) (v_traced : Int64) (v_told_size : Int32) (v_told_touches : Int32) (v_told_one : Int32) (a_told_a : Nat → Int32) (a_told_b : Nat → Int32) (v_now_forgotten : Int32) (v_now_touches : Int32) (v_now_trapped : Int32) (v_now_one : Int32) (v_now_date : Int32) (v_ways_size : Int32) (v_ways_trapped : Int32) (a_ways_ranked : Nat → Int32) (a_ways_tens : Nat → Int32) (p1 : Int32) (N : Nat) (q0 : (Int32 × (Nat → Int32) × (Nat → Int32) × Int32 × Int32)) (hf : fX7_fewestTouchesToCut N a_told_a a_told_b v_told_size v_now_forgotten v_now_touches v_now_trapped v_now_one a_ways_ranked a_ways_tens v_ways_size v_ways_trapped p1 = some q0) : Ki l yX7_fewestTouchesToCut wX7_fewestTouchesToCut rX7_fewestTouchesToCut (dC, dI) (vTy cI cJ cB cZ) [.ref ad0, .int p1] [(ad0, oX7 ad_text ad_draft ad_told ad_now ad_history ad_firstImage ad_secondImage ad_seen ad_ways v_traced), (ad_told, oX0 ad_told_a ad_told_b v_told_size v_told_touches v_told_one), (ad_told_a, .inl (cI, 6, .inl a_told_a)), (ad_told_b, .inl (cI, 6, .inl a_told_b)), (ad_now, oX3 v_now_forgotten v_now_touches v_now_trapped v_now_one v_now_date), (ad_ways, oX6 ad_ways_ranked ad_ways_tens v_ways_size v_ways_trapped), (ad_ways_ranked, .inl (cI, 6, .inl a_ways_ranked)), (ad_ways_tens, .inl (cI, 6, .inl a_ways_tens))] [(ad0, oX7 ad_text ad_draft ad_told ad_now ad_history ad_firstImage ad_secondImage ad_seen ad_ways v_traced), (ad_told, oX0 ad_told_a ad_told_b v_told_size v_told_touches v_told_one), (ad_told_a, .inl (cI, 6, .inl a_told_a)), (ad_told_b, .inl (cI, 6, .inl a_told_b)), (ad_now, oX3 v_now_forgotten v_now_touches v_now_trapped v_now_one v_now_date), (ad_ways, oX6 ad_ways_ranked ad_ways_tens q0.2.2.2.1 q0.2.2.2.2), (ad_ways_ranked, .inl (cI, 6, .inl q0.2.1)), (ad_ways_tens, .inl (cI, 6, .inl q0.2.2.1))] q0.1 := by
  refine Ki.mk (cc := cX7_fewestTouchesToCut) (maxL := 4) (ret := some .int) (by decide) (Nat.le_of_ble_eq_true rfl) ?_
  intro p e s m args below meth c A Q H locs C hQ hP hD hS ls hl
  obtain ⟨hx, hb, -, hml, hts, hown, -, hK, hN, hA⟩ := id C
  have hown : s.vm.findClass RX7 = some m.cls := hown
  have hl : lv_has ls 4 [(0, .ref ad0), (1, .int p1)] := hl
  unfold fX7_fewestTouchesToCut at hf
  refine lv_aload_n hx hb (dt uX7_fewestTouchesToCut 0 rfl) rfl (lv_at hl 0 rfl) ?_
  obtain ⟨q_1, hq_2, hf⟩ := vbd hf
  refine vk_r [0, 1, 2, 3, 4, 5, 6, 7] (ws2 := [(ad0, oX7 ad_text ad_draft ad_told ad_now ad_history ad_firstImage ad_secondImage ad_seen ad_ways v_traced), (ad_told, oX0 ad_told_a ad_told_b v_told_size v_told_touches v_told_one), (ad_told_a, .inl (cI, 6, .inl a_told_a)), (ad_told_b, .inl (cI, 6, .inl a_told_b)), (ad_now, oX3 v_now_forgotten v_now_touches v_now_trapped v_now_one v_now_date), (ad_ways, oX6 ad_ways_ranked ad_ways_tens q_1.2.2.1 q_1.2.2.2), (ad_ways_ranked, .inl (cI, 6, .inl q_1.1)), (ad_ways_tens, .inl (cI, 6, .inl q_1.2.1))]) (va_runV (As := []) (rest := []) ⟨hx, hb, hml, hown, hts⟩ (kX7_waysNow ad0 ad_text ad_draft ad_told ad_told_a ad_told_b ad_now ad_history ad_firstImage ad_secondImage ad_seen ad_ways ad_ways_ranked ad_ways_tens v_traced v_told_size v_told_touches v_told_one a_told_a a_told_b v_now_forgotten v_now_touches v_now_trapped v_now_one v_now_date v_ways_size v_ways_trapped a_ways_ranked a_ways_tens N q_1 hq_2 H.size) (vcwV hts tw_185 tw_186 tw_187 tw_41 tw_184 hd_X7_waysNow rfl rfl ⟨Nat.le_of_ble_eq_true rfl, Nat.le_of_ble_eq_true rfl⟩) (vpreV hK hN hP hD [0, 1, 2, 3, 4, 5, 6, 7] rfl (by decide) (ci := 7) (q0 := 0) rfl rfl) rfl rfl hl.1 rfl (lv_room (Nat.le_of_ble_eq_true rfl)) (dt uX7_fewestTouchesToCut 1 rfl) ⟨Nat.zero_le _, Nat.zero_le _⟩) hA hP hD hS rfl (by decide) rfl rfl (fun H locs hP hD hS => ?_)
  refine lv_iload_n hx hb (dt uX7_fewestTouchesToCut 2 rfl) rfl (lv_at hl 1 rfl) ?_
  refine lv_aload_n hx hb (dt uX7_fewestTouchesToCut 3 rfl) rfl (lv_at hl 0 rfl) ?_
  refine va_get (D := (dC, dI)) (ci := 7) (v := .ref ad_now) (C := RX7) (T := TX7) (N := 10) hx hb hts inU7 hown hK hP 0 rfl rfl 3 (by decide) (hts _ tw_122) (fun _ h9 => h9) rfl (dt uX7_fewestTouchesToCut 4 rfl) ?_
  refine va_getN (D := (dC, dI)) (ci := 3) (v := .int v_now_one) (C := RX3) (T := TX3) (N := 5) hx hb hts inU3 hown hK hP 4 rfl rfl 3 (by decide) (nw_16 hN) (fun _ h9 => h9) rfl (dt uX7_fewestTouchesToCut 5 rfl) ?_
  refine lv_aload_n hx hb (dt uX7_fewestTouchesToCut 6 rfl) rfl (lv_at hl 0 rfl) ?_
  refine va_get (D := (dC, dI)) (ci := 7) (v := .ref ad_now) (C := RX7) (T := TX7) (N := 10) hx hb hts inU7 hown hK hP 0 rfl rfl 3 (by decide) (hts _ tw_122) (fun _ h9 => h9) rfl (dt uX7_fewestTouchesToCut 7 rfl) ?_
  refine va_getN (D := (dC, dI)) (ci := 3) (v := .int v_now_touches) (C := RX3) (T := TX3) (N := 5) hx hb hts inU3 hown hK hP 4 rfl rfl 1 (by decide) (nw_14 hN) (fun _ h9 => h9) rfl (dt uX7_fewestTouchesToCut 8 rfl) ?_
  obtain ⟨q_3, hq_4, hf⟩ := vbd hf
  refine vk_z0 [5, 6] (va_runVN (As := [.int p1, .int v_now_one, .int v_now_touches]) (rest := []) ⟨hx, hb, hml, hown, hts⟩ (kX6_comesTo ad_ways ad_ways_ranked ad_ways_tens q_1.2.2.1 q_1.2.2.2 q_1.1 p1 v_now_one v_now_touches N q_3 hq_4 H.size) (vcwVN hts (nm_53 hN) tw_240 tw_241 tw_97 tw_239 hd_X6_comesTo rfl rfl ⟨Nat.le_of_ble_eq_true rfl, Nat.le_of_ble_eq_true rfl⟩) (vpreV hK hN hP hD [5, 6] rfl (by decide) (ci := 6) (q0 := 5) rfl rfl) rfl rfl hl.1 rfl (lv_room (Nat.le_of_ble_eq_true rfl)) (dt uX7_fewestTouchesToCut 9 rfl) ⟨Nat.zero_le _, Nat.zero_le _⟩) hA hP hD hS rfl (by decide) (fun hz_5 H locs hP hD hS => ?_)
  refine lv_if_ne (tgt := 27) hx hb (dt uX7_fewestTouchesToCut 10 rfl) (by decide) (fun c_6 => ?_) (fun c_6 => ?_)
  · have hf := vif_f c_6 hf
    refine lv_iconst (v := (1 : Int32)) hx hb (dt uX7_fewestTouchesToCut 13 rfl) (by decide) ?_
    refine lv_istore_n (lv' := [(2, .int (1 : Int32)), (0, .ref ad0), (1, .int p1)]) hx hb (dt uX7_fewestTouchesToCut 14 rfl) rfl hl (by decide) rfl (fun ls hl => ?_)
    have hL29 : ∀ (n29 : Nat), ∀ (x2_7 : Int32) (H : Heap) (locs : List Loc) (ls : Array Slot), fX7_fewestTouchesToCut_L29 N v_now_touches v_now_one p1 q_1 n29 x2_7 = some q0 → va_P (dC, dI) vwCl [(ad0, oX7 ad_text ad_draft ad_told ad_now ad_history ad_firstImage ad_secondImage ad_seen ad_ways v_traced), (ad_told, oX0 ad_told_a ad_told_b v_told_size v_told_touches v_told_one), (ad_told_a, .inl (cI, 6, .inl a_told_a)), (ad_told_b, .inl (cI, 6, .inl a_told_b)), (ad_now, oX3 v_now_forgotten v_now_touches v_now_trapped v_now_one v_now_date), (ad_ways, oX6 ad_ways_ranked ad_ways_tens q_1.2.2.1 q_1.2.2.2), (ad_ways_ranked, .inl (cI, 6, .inl q_1.1)), (ad_ways_tens, .inl (cI, 6, .inl q_1.2.1))] H → va_D A [(ad0, oX7 ad_text ad_draft ad_told ad_now ad_history ad_firstImage ad_secondImage ad_seen ad_ways v_traced), (ad_told, oX0 ad_told_a ad_told_b v_told_size v_told_touches v_told_one), (ad_told_a, .inl (cI, 6, .inl a_told_a)), (ad_told_b, .inl (cI, 6, .inl a_told_b)), (ad_now, oX3 v_now_forgotten v_now_touches v_now_trapped v_now_one v_now_date), (ad_ways, oX6 ad_ways_ranked ad_ways_tens q_1.2.2.1 q_1.2.2.2), (ad_ways_ranked, .inl (cI, 6, .inl q_1.1)), (ad_ways_tens, .inl (cI, 6, .inl q_1.2.1))] → va_S A s.heap H locs → lv_has ls 4 [(0, .ref ad0), (1, .int p1), (2, .int x2_7)] → W p l e rX7_fewestTouchesToCut s m args below meth c H locs 0 0 Q (F0 m 29 ls []) := by
      intro n29
      induction n29 with
      | zero => intro x2_7 H locs ls hf hP hD hS hl; cases hf
      | succ n29 ih29 =>
        intro x2_7 H locs ls hf hP hD hS hl
        rw [fX7_fewestTouchesToCut_L29] at hf
        refine lv_iload_n hx hb (dt uX7_fewestTouchesToCut 15 rfl) rfl (lv_at hl 2 rfl) ?_
        refine lv_bipush (v := (6 : Int32)) hx hb (dt uX7_fewestTouchesToCut 16 rfl) (by decide) ?_
        refine lv_icmp_ge (tgt := 56) hx hb (dt uX7_fewestTouchesToCut 17 rfl) (by decide) (fun c_8 => ?_) (fun c_8 => ?_)
        · have hf := vif_t c_8 hf
          refine lv_bipush (v := (-9 : Int32)) hx hb (dt uX7_fewestTouchesToCut 30 rfl) (by decide) ?_
          have hf := Option.some.inj hf
          subst hf
          rw [hQ]
          exact vret_i C hP hD hS (dt uX7_fewestTouchesToCut 31 rfl)
        · have hf := vif_f c_8 hf
          refine lv_aload_n hx hb (dt uX7_fewestTouchesToCut 18 rfl) rfl (lv_at hl 0 rfl) ?_
          refine lv_iload_n hx hb (dt uX7_fewestTouchesToCut 19 rfl) rfl (lv_at hl 1 rfl) ?_
          refine lv_iload_n hx hb (dt uX7_fewestTouchesToCut 20 rfl) rfl (lv_at hl 2 rfl) ?_
          obtain ⟨q_9, hq_10, hf⟩ := vbd hf
          refine vk_i0 [0, 4, 5, 6] (va_runV (As := [.int p1, .int x2_7]) (rest := []) ⟨hx, hb, hml, hown, hts⟩ (kX7_leastCut ad0 ad_text ad_draft ad_told ad_now ad_history ad_firstImage ad_secondImage ad_seen ad_ways ad_ways_ranked ad_ways_tens v_traced v_now_forgotten v_now_touches v_now_trapped v_now_one v_now_date q_1.2.2.1 q_1.2.2.2 q_1.1 p1 x2_7 N q_9 hq_10 H.size) (vcwV hts tw_246 tw_247 tw_248 tw_41 tw_245 hd_X7_leastCut rfl rfl ⟨Nat.le_of_ble_eq_true rfl, Nat.le_of_ble_eq_true rfl⟩) (vpreV hK hN hP hD [0, 4, 5, 6] rfl (by decide) (ci := 7) (q0 := 0) rfl rfl) rfl rfl hl.1 rfl (lv_room (Nat.le_of_ble_eq_true rfl)) (dt uX7_fewestTouchesToCut 21 rfl) ⟨Nat.zero_le _, Nat.zero_le _⟩) hA hP hD hS rfl (by decide) (fun H locs hP hD hS => ?_)
          refine lv_istore_n (lv' := [(3, .int q_9), (0, .ref ad0), (1, .int p1), (2, .int x2_7)]) hx hb (dt uX7_fewestTouchesToCut 22 rfl) rfl hl (by decide) rfl (fun ls hl => ?_)
          refine lv_iload_n hx hb (dt uX7_fewestTouchesToCut 23 rfl) rfl (lv_at hl 0 rfl) ?_
          refine lv_bipush (v := (-9 : Int32)) hx hb (dt uX7_fewestTouchesToCut 24 rfl) (by decide) ?_
          refine lv_icmp_eq (tgt := 50) hx hb (dt uX7_fewestTouchesToCut 25 rfl) (by decide) (fun c_11 => ?_) (fun c_11 => ?_)
          · have hf := vif_t c_11 hf
            refine lv_iinc (v := x2_7 + 1) (lv' := [(2, .int (x2_7 + 1)), (3, .int q_9), (0, .ref ad0), (1, .int p1)]) hx hb (dt uX7_fewestTouchesToCut 28 rfl) hl (k := 3) rfl rfl (by decide) rfl (fun ls hl => ?_)
            refine lv_goto (tgt := 29) hx hb (dt uX7_fewestTouchesToCut 29 rfl) (by decide) ?_
            exact ih29 (x2_7 + 1) _ _ _ hf hP hD hS (lv_sub hl [2, 3, 0] rfl)
          · have hf := vif_f c_11 hf
            refine lv_iload_n hx hb (dt uX7_fewestTouchesToCut 26 rfl) rfl (lv_at hl 0 rfl) ?_
            have hf := Option.some.inj hf
            subst hf
            rw [hQ]
            exact vret_i C hP hD hS (dt uX7_fewestTouchesToCut 27 rfl)
    exact hL29 N (1 : Int32) _ _ _ hf hP hD hS (lv_sub hl [1, 2, 0] rfl)
  · have hf := vif_t c_6 hf
    refine lv_iconst (v := (0 : Int32)) hx hb (dt uX7_fewestTouchesToCut 11 rfl) (by decide) ?_
    have hf := Option.some.inj hf
    subst hf
    rw [hQ]
    exact vret_i C hP hD hS (dt uX7_fewestTouchesToCut 12 rfl)
abbrev rX7_cut : Room := { frames := 5, cells := 0, slots := 0, locals := 120 }
abbrev wX7_cut : List Cond := Cond.code yX7_cut cX7_cut 2 (some .int) :: VT
set_option maxHeartbeats 4000000 in
set_option maxRecDepth 100000 in
theorem kX7_cut (ad0 : Nat) (ad_text : Nat) (ad_draft : Nat) (ad_told : Nat) (ad_told_a : Nat) (ad_told_b : Nat) (ad_now : Nat) (ad_history : Nat) (ad_firstImage : Nat) (ad_secondImage : Nat) (ad_seen : Nat) (ad_ways : Nat) (ad_ways_ranked : Nat) (ad_ways_tens : Nat) (v_traced : Int64) (v_told_size : Int32) (v_told_touches : Int32) (v_told_one : Int32) (a_told_a : Nat → Int32) (a_told_b : Nat → Int32) (v_now_forgotten : Int32) (v_now_touches : Int32) (v_now_trapped : Int32) (v_now_one : Int32) (v_now_date : Int32) (v_ways_size : Int32) (v_ways_trapped : Int32) (a_ways_ranked : Nat → Int32) (a_ways_tens : Nat → Int32) (p1 : Int32) (N : Nat) (q0 : (Int32 × (Nat → Int32) × (Nat → Int32) × Int32 × Int32)) (hf : fX7_cut N a_told_a a_told_b v_told_size v_now_forgotten v_now_touches v_now_trapped v_now_one a_ways_ranked a_ways_tens v_ways_size v_ways_trapped p1 = some q0) : Ki l yX7_cut wX7_cut rX7_cut (dC, dI) (vTy cI cJ cB cZ) [.ref ad0, .int p1] [(ad0, oX7 ad_text ad_draft ad_told ad_now ad_history ad_firstImage ad_secondImage ad_seen ad_ways v_traced), (ad_told, oX0 ad_told_a ad_told_b v_told_size v_told_touches v_told_one), (ad_told_a, .inl (cI, 6, .inl a_told_a)), (ad_told_b, .inl (cI, 6, .inl a_told_b)), (ad_now, oX3 v_now_forgotten v_now_touches v_now_trapped v_now_one v_now_date), (ad_ways, oX6 ad_ways_ranked ad_ways_tens v_ways_size v_ways_trapped), (ad_ways_ranked, .inl (cI, 6, .inl a_ways_ranked)), (ad_ways_tens, .inl (cI, 6, .inl a_ways_tens))] [(ad0, oX7 ad_text ad_draft ad_told ad_now ad_history ad_firstImage ad_secondImage ad_seen ad_ways v_traced), (ad_told, oX0 ad_told_a ad_told_b v_told_size v_told_touches v_told_one), (ad_told_a, .inl (cI, 6, .inl a_told_a)), (ad_told_b, .inl (cI, 6, .inl a_told_b)), (ad_now, oX3 v_now_forgotten v_now_touches v_now_trapped v_now_one v_now_date), (ad_ways, oX6 ad_ways_ranked ad_ways_tens q0.2.2.2.1 q0.2.2.2.2), (ad_ways_ranked, .inl (cI, 6, .inl q0.2.1)), (ad_ways_tens, .inl (cI, 6, .inl q0.2.2.1))] q0.1 := by
  refine Ki.mk (cc := cX7_cut) (maxL := 2) (ret := some .int) (by decide) (Nat.le_of_ble_eq_true rfl) ?_
  intro p e s m args below meth c A Q H locs C hQ hP hD hS ls hl
  obtain ⟨hx, hb, -, hml, hts, hown, -, hK, hN, hA⟩ := id C
  have hown : s.vm.findClass RX7 = some m.cls := hown
  have hl : lv_has ls 2 [(0, .ref ad0), (1, .int p1)] := hl
  unfold fX7_cut at hf
  refine lv_aload_n hx hb (dt uX7_cut 0 rfl) rfl (lv_at hl 0 rfl) ?_
  refine lv_iload_n hx hb (dt uX7_cut 1 rfl) rfl (lv_at hl 1 rfl) ?_
  refine vk_z0 [0, 1] (va_runV (As := [.int p1]) (rest := []) ⟨hx, hb, hml, hown, hts⟩ (kX7_isBook ad0 ad_text ad_draft ad_told ad_told_a ad_told_b ad_now ad_history ad_firstImage ad_secondImage ad_seen ad_ways v_traced v_told_size v_told_touches v_told_one p1 _ rfl H.size) (vcwV hts tw_142 tw_143 tw_144 tw_41 tw_141 hd_X7_isBook rfl rfl ⟨Nat.le_of_ble_eq_true rfl, Nat.le_of_ble_eq_true rfl⟩) (vpreV hK hN hP hD [0, 1] rfl (by decide) (ci := 7) (q0 := 0) rfl rfl) rfl rfl hl.1 rfl (lv_room (Nat.le_of_ble_eq_true rfl)) (dt uX7_cut 2 rfl) ⟨Nat.zero_le _, Nat.zero_le _⟩) hA hP hD hS rfl (by decide) (fun hz_1 H locs hP hD hS => ?_)
  refine lv_if_ne (tgt := 10) hx hb (dt uX7_cut 3 rfl) (by decide) (fun c_2 => ?_) (fun c_2 => ?_)
  · have hf := vif_f c_2 hf
    refine lv_aload_n hx hb (dt uX7_cut 6 rfl) rfl (lv_at hl 0 rfl) ?_
    refine vk_z0 [0, 1, 4] (va_runV (As := []) (rest := []) ⟨hx, hb, hml, hown, hts⟩ (kX7_isSomewhere ad0 ad_text ad_draft ad_told ad_told_a ad_told_b ad_now ad_history ad_firstImage ad_secondImage ad_seen ad_ways v_traced v_told_size v_told_touches v_told_one v_now_forgotten v_now_touches v_now_trapped v_now_one v_now_date _ rfl H.size) (vcwV hts tw_181 tw_182 tw_183 tw_41 tw_180 hd_X7_isSomewhere rfl rfl ⟨Nat.le_of_ble_eq_true rfl, Nat.le_of_ble_eq_true rfl⟩) (vpreV hK hN hP hD [0, 1, 4] rfl (by decide) (ci := 7) (q0 := 0) rfl rfl) rfl rfl hl.1 rfl (lv_room (Nat.le_of_ble_eq_true rfl)) (dt uX7_cut 7 rfl) ⟨Nat.zero_le _, Nat.zero_le _⟩) hA hP hD hS rfl (by decide) (fun hz_3 H locs hP hD hS => ?_)
    refine lv_if_ne (tgt := 20) hx hb (dt uX7_cut 8 rfl) (by decide) (fun c_4 => ?_) (fun c_4 => ?_)
    · have hf := vif_f c_4 hf
      refine lv_aload_n hx hb (dt uX7_cut 11 rfl) rfl (lv_at hl 0 rfl) ?_
      refine va_get (D := (dC, dI)) (ci := 7) (v := .ref ad_now) (C := RX7) (T := TX7) (N := 10) hx hb hts inU7 hown hK hP 0 rfl rfl 3 (by decide) (hts _ tw_122) (fun _ h9 => h9) rfl (dt uX7_cut 12 rfl) ?_
      refine va_getN (D := (dC, dI)) (ci := 3) (v := .int v_now_one) (C := RX3) (T := TX3) (N := 5) hx hb hts inU3 hown hK hP 4 rfl rfl 3 (by decide) (nw_16 hN) (fun _ h9 => h9) rfl (dt uX7_cut 13 rfl) ?_
      refine lv_iload_n hx hb (dt uX7_cut 14 rfl) rfl (lv_at hl 1 rfl) ?_
      refine lv_icmp_ne (tgt := 36) hx hb (dt uX7_cut 15 rfl) (by decide) (fun c_5 => ?_) (fun c_5 => ?_)
      · have hf := vif_f c_5 hf
        refine lv_aload_n hx hb (dt uX7_cut 18 rfl) rfl (lv_at hl 0 rfl) ?_
        refine lv_iload_n hx hb (dt uX7_cut 19 rfl) rfl (lv_at hl 1 rfl) ?_
        obtain ⟨q_6, hq_7, hf⟩ := vbd hf
        refine vk_i [0, 1, 2, 3, 4, 5, 6, 7] (ws2 := [(ad0, oX7 ad_text ad_draft ad_told ad_now ad_history ad_firstImage ad_secondImage ad_seen ad_ways v_traced), (ad_told, oX0 ad_told_a ad_told_b v_told_size v_told_touches v_told_one), (ad_told_a, .inl (cI, 6, .inl a_told_a)), (ad_told_b, .inl (cI, 6, .inl a_told_b)), (ad_now, oX3 v_now_forgotten v_now_touches v_now_trapped v_now_one v_now_date), (ad_ways, oX6 ad_ways_ranked ad_ways_tens q_6.2.2.2.1 q_6.2.2.2.2), (ad_ways_ranked, .inl (cI, 6, .inl q_6.2.1)), (ad_ways_tens, .inl (cI, 6, .inl q_6.2.2.1))]) (va_runV (As := [.int p1]) (rest := []) ⟨hx, hb, hml, hown, hts⟩ (kX7_fewestTouchesToCut ad0 ad_text ad_draft ad_told ad_told_a ad_told_b ad_now ad_history ad_firstImage ad_secondImage ad_seen ad_ways ad_ways_ranked ad_ways_tens v_traced v_told_size v_told_touches v_told_one a_told_a a_told_b v_now_forgotten v_now_touches v_now_trapped v_now_one v_now_date v_ways_size v_ways_trapped a_ways_ranked a_ways_tens p1 N q_6 hq_7 H.size) (vcwV hts tw_250 tw_251 tw_252 tw_41 tw_249 hd_X7_fewestTouchesToCut rfl rfl ⟨Nat.le_of_ble_eq_true rfl, Nat.le_of_ble_eq_true rfl⟩) (vpreV hK hN hP hD [0, 1, 2, 3, 4, 5, 6, 7] rfl (by decide) (ci := 7) (q0 := 0) rfl rfl) rfl rfl hl.1 rfl (lv_room (Nat.le_of_ble_eq_true rfl)) (dt uX7_cut 20 rfl) ⟨Nat.zero_le _, Nat.zero_le _⟩) hA hP hD hS rfl (by decide) rfl rfl (fun H locs hP hD hS => ?_)
        have hf := Option.some.inj hf
        subst hf
        rw [hQ]
        exact vret_i C hP hD hS (dt uX7_cut 21 rfl)
      · have hf := vif_t c_5 hf
        refine lv_bipush (v := (-9 : Int32)) hx hb (dt uX7_cut 16 rfl) (by decide) ?_
        refine lv_goto (tgt := 41) hx hb (dt uX7_cut 17 rfl) (by decide) ?_
        have hf := Option.some.inj hf
        subst hf
        rw [hQ]
        exact vret_i C hP hD hS (dt uX7_cut 21 rfl)
    · have hf := vif_t c_4 hf
      refine lv_bipush (v := (-2 : Int32)) hx hb (dt uX7_cut 9 rfl) (by decide) ?_
      have hf := Option.some.inj hf
      subst hf
      rw [hQ]
      exact vret_i C hP hD hS (dt uX7_cut 10 rfl)
  · have hf := vif_t c_2 hf
    refine lv_iconst (v := (-1 : Int32)) hx hb (dt uX7_cut 4 rfl) (by decide) ?_
    have hf := Option.some.inj hf
    subst hf
    rw [hQ]
    exact vret_i C hP hD hS (dt uX7_cut 5 rfl)
abbrev rX7_choose : Room := { frames := 0, cells := 0, slots := 0, locals := 0 }
abbrev wX7_choose : List Cond := Cond.code yX7_choose cX7_choose 4 (some .int) :: VT
set_option maxHeartbeats 4000000 in
set_option maxRecDepth 100000 in
theorem kX7_choose (p1 : Int32) (p2 : Int32) (N : Nat) (q0 : Int32) (hf : fX7_choose N p1 p2 = some q0) : Ki l yX7_choose wX7_choose rX7_choose (dC, dI) (vTy cI cJ cB cZ) [.int p1, .int p2] [] [] q0 := by
  refine Ki.mk (cc := cX7_choose) (maxL := 4) (ret := some .int) (by decide) (Nat.le_of_ble_eq_true rfl) ?_
  intro p e s m args below meth c A Q H locs C hQ hP hD hS ls hl
  obtain ⟨hx, hb, -, hml, hts, hown, -, hK, hN, hA⟩ := id C
  have hown : s.vm.findClass RX7 = some m.cls := hown
  have hl : lv_has ls 4 [(0, .int p1), (1, .int p2)] := hl
  unfold fX7_choose at hf
  refine lv_iload_n hx hb (dt uX7_choose 0 rfl) rfl (lv_at hl 1 rfl) ?_
  refine lv_iload_n hx hb (dt uX7_choose 1 rfl) rfl (lv_at hl 0 rfl) ?_
  refine lv_icmp_le (tgt := 7) hx hb (dt uX7_choose 2 rfl) (by decide) (fun c_1 => ?_) (fun c_1 => ?_)
  · have hf := vif_t c_1 hf
    refine lv_iconst (v := (1 : Int32)) hx hb (dt uX7_choose 5 rfl) (by decide) ?_
    refine lv_istore_n (lv' := [(2, .int (1 : Int32)), (0, .int p1), (1, .int p2)]) hx hb (dt uX7_choose 6 rfl) rfl hl (by decide) rfl (fun ls hl => ?_)
    refine lv_iconst (v := (1 : Int32)) hx hb (dt uX7_choose 7 rfl) (by decide) ?_
    refine lv_istore_n (lv' := [(3, .int (1 : Int32)), (2, .int (1 : Int32)), (0, .int p1), (1, .int p2)]) hx hb (dt uX7_choose 8 rfl) rfl hl (by decide) rfl (fun ls hl => ?_)
    have hL11 : ∀ (n11 : Nat), ∀ (x2_2 : Int32) (x3_3 : Int32) (H : Heap) (locs : List Loc) (ls : Array Slot), fX7_choose_L11 p1 p2 n11 x2_2 x3_3 = some q0 → va_P (dC, dI) vwCl [] H → va_D A [] → va_S A s.heap H locs → lv_has ls 4 [(0, .int p1), (1, .int p2), (2, .int x2_2), (3, .int x3_3)] → W p l e rX7_choose s m args below meth c H locs 0 0 Q (F0 m 11 ls []) := by
      intro n11
      induction n11 with
      | zero => intro x2_2 x3_3 H locs ls hf hP hD hS hl; cases hf
      | succ n11 ih11 =>
        intro x2_2 x3_3 H locs ls hf hP hD hS hl
        rw [fX7_choose_L11] at hf
        refine lv_iload_n hx hb (dt uX7_choose 9 rfl) rfl (lv_at hl 3 rfl) ?_
        refine lv_iload_n hx hb (dt uX7_choose 10 rfl) rfl (lv_at hl 1 rfl) ?_
        refine lv_icmp_gt (tgt := 32) hx hb (dt uX7_choose 11 rfl) (by decide) (fun c_4 => ?_) (fun c_4 => ?_)
        · have hf := vif_t c_4 hf
          refine lv_iload_n hx hb (dt uX7_choose 24 rfl) rfl (lv_at hl 2 rfl) ?_
          have hf := Option.some.inj hf
          subst hf
          rw [hQ]
          exact vret_i C hP hD hS (dt uX7_choose 25 rfl)
        · have hf := vif_f c_4 hf
          refine lv_iload_n hx hb (dt uX7_choose 12 rfl) rfl (lv_at hl 2 rfl) ?_
          refine lv_iload_n hx hb (dt uX7_choose 13 rfl) rfl (lv_at hl 0 rfl) ?_
          refine lv_iload_n hx hb (dt uX7_choose 14 rfl) rfl (lv_at hl 3 rfl) ?_
          refine lv_isub hx hb (dt uX7_choose 15 rfl) ?_
          refine lv_iconst (v := (1 : Int32)) hx hb (dt uX7_choose 16 rfl) (by decide) ?_
          refine lv_iadd hx hb (dt uX7_choose 17 rfl) ?_
          refine lv_imul hx hb (dt uX7_choose 18 rfl) ?_
          refine lv_iload_n hx hb (dt uX7_choose 19 rfl) rfl (lv_at hl 3 rfl) ?_
          obtain ⟨hz_5, hf⟩ := vz_some hf
          refine lv_idiv hx hb (dt uX7_choose 20 rfl) hz_5 ?_
          refine lv_istore_n (lv' := [(2, .int ((x2_2 * ((p1 - x3_3) + (1 : Int32))) / x3_3)), (0, .int p1), (1, .int p2), (3, .int x3_3)]) hx hb (dt uX7_choose 21 rfl) rfl hl (by decide) rfl (fun ls hl => ?_)
          refine lv_iinc (v := x3_3 + 1) (lv' := [(3, .int (x3_3 + 1)), (2, .int ((x2_2 * ((p1 - x3_3) + (1 : Int32))) / x3_3)), (0, .int p1), (1, .int p2)]) hx hb (dt uX7_choose 22 rfl) hl (k := 3) rfl rfl (by decide) rfl (fun ls hl => ?_)
          refine lv_goto (tgt := 11) hx hb (dt uX7_choose 23 rfl) (by decide) ?_
          exact ih11 ((x2_2 * ((p1 - x3_3) + (1 : Int32))) / x3_3) (x3_3 + 1) _ _ _ hf hP hD hS (lv_sub hl [2, 3, 1, 0] rfl)
    exact hL11 N (1 : Int32) (1 : Int32) _ _ _ hf hP hD hS (lv_sub hl [2, 3, 1, 0] rfl)
  · have hf := vif_f c_1 hf
    refine lv_iconst (v := (0 : Int32)) hx hb (dt uX7_choose 3 rfl) (by decide) ?_
    have hf := Option.some.inj hf
    subst hf
    rw [hQ]
    exact vret_i C hP hD hS (dt uX7_choose 4 rfl)
abbrev rX7_power : Room := { frames := 0, cells := 0, slots := 0, locals := 0 }
abbrev wX7_power : List Cond := Cond.code yX7_power cX7_power 4 (some .int) :: VT
set_option maxHeartbeats 4000000 in
set_option maxRecDepth 100000 in
theorem kX7_power (p1 : Int32) (p2 : Int32) (N : Nat) (q0 : Int32) (hf : fX7_power N p1 p2 = some q0) : Ki l yX7_power wX7_power rX7_power (dC, dI) (vTy cI cJ cB cZ) [.int p1, .int p2] [] [] q0 := by
  refine Ki.mk (cc := cX7_power) (maxL := 4) (ret := some .int) (by decide) (Nat.le_of_ble_eq_true rfl) ?_
  intro p e s m args below meth c A Q H locs C hQ hP hD hS ls hl
  obtain ⟨hx, hb, -, hml, hts, hown, -, hK, hN, hA⟩ := id C
  have hown : s.vm.findClass RX7 = some m.cls := hown
  have hl : lv_has ls 4 [(0, .int p1), (1, .int p2)] := hl
  unfold fX7_power at hf
  refine lv_iconst (v := (1 : Int32)) hx hb (dt uX7_power 0 rfl) (by decide) ?_
  refine lv_istore_n (lv' := [(2, .int (1 : Int32)), (0, .int p1), (1, .int p2)]) hx hb (dt uX7_power 1 rfl) rfl hl (by decide) rfl (fun ls hl => ?_)
  refine lv_iconst (v := (0 : Int32)) hx hb (dt uX7_power 2 rfl) (by decide) ?_
  refine lv_istore_n (lv' := [(3, .int (0 : Int32)), (2, .int (1 : Int32)), (0, .int p1), (1, .int p2)]) hx hb (dt uX7_power 3 rfl) rfl hl (by decide) rfl (fun ls hl => ?_)
  have hL4 : ∀ (n4 : Nat), ∀ (x2_1 : Int32) (x3_2 : Int32) (H : Heap) (locs : List Loc) (ls : Array Slot), fX7_power_L4 p1 p2 n4 x2_1 x3_2 = some q0 → va_P (dC, dI) vwCl [] H → va_D A [] → va_S A s.heap H locs → lv_has ls 4 [(0, .int p1), (1, .int p2), (2, .int x2_1), (3, .int x3_2)] → W p l e rX7_power s m args below meth c H locs 0 0 Q (F0 m 4 ls []) := by
    intro n4
    induction n4 with
    | zero => intro x2_1 x3_2 H locs ls hf hP hD hS hl; cases hf
    | succ n4 ih4 =>
      intro x2_1 x3_2 H locs ls hf hP hD hS hl
      rw [fX7_power_L4] at hf
      refine lv_iload_n hx hb (dt uX7_power 4 rfl) rfl (lv_at hl 3 rfl) ?_
      refine lv_iload_n hx hb (dt uX7_power 5 rfl) rfl (lv_at hl 1 rfl) ?_
      refine lv_icmp_ge (tgt := 19) hx hb (dt uX7_power 6 rfl) (by decide) (fun c_3 => ?_) (fun c_3 => ?_)
      · have hf := vif_t c_3 hf
        refine lv_iload_n hx hb (dt uX7_power 13 rfl) rfl (lv_at hl 2 rfl) ?_
        have hf := Option.some.inj hf
        subst hf
        rw [hQ]
        exact vret_i C hP hD hS (dt uX7_power 14 rfl)
      · have hf := vif_f c_3 hf
        refine lv_iload_n hx hb (dt uX7_power 7 rfl) rfl (lv_at hl 2 rfl) ?_
        refine lv_iload_n hx hb (dt uX7_power 8 rfl) rfl (lv_at hl 0 rfl) ?_
        refine lv_imul hx hb (dt uX7_power 9 rfl) ?_
        refine lv_istore_n (lv' := [(2, .int (x2_1 * p1)), (0, .int p1), (1, .int p2), (3, .int x3_2)]) hx hb (dt uX7_power 10 rfl) rfl hl (by decide) rfl (fun ls hl => ?_)
        refine lv_iinc (v := x3_2 + 1) (lv' := [(3, .int (x3_2 + 1)), (2, .int (x2_1 * p1)), (0, .int p1), (1, .int p2)]) hx hb (dt uX7_power 11 rfl) hl (k := 3) rfl rfl (by decide) rfl (fun ls hl => ?_)
        refine lv_goto (tgt := 4) hx hb (dt uX7_power 12 rfl) (by decide) ?_
        exact ih4 (x2_1 * p1) (x3_2 + 1) _ _ _ hf hP hD hS (lv_sub hl [2, 3, 1, 0] rfl)
  exact hL4 N (1 : Int32) (0 : Int32) _ _ _ hf hP hD hS (lv_sub hl [2, 3, 1, 0] rfl)
abbrev rX7_chancesOf : Room := { frames := 3, cells := 0, slots := 0, locals := 72 }
abbrev wX7_chancesOf : List Cond := Cond.code yX7_chancesOf cX7_chancesOf 6 (some .int) :: VT
set_option maxHeartbeats 4000000 in
set_option maxRecDepth 100000 in
theorem kX7_chancesOf (ad0 : Nat) (ad_text : Nat) (ad_draft : Nat) (ad_told : Nat) (ad_told_a : Nat) (ad_told_b : Nat) (ad_now : Nat) (ad_history : Nat) (ad_firstImage : Nat) (ad_secondImage : Nat) (ad_seen : Nat) (ad_ways : Nat) (ad_ways_ranked : Nat) (ad_ways_tens : Nat) (v_traced : Int64) (v_told_size : Int32) (v_told_touches : Int32) (v_told_one : Int32) (a_told_a : Nat → Int32) (a_told_b : Nat → Int32) (v_now_forgotten : Int32) (v_now_touches : Int32) (v_now_trapped : Int32) (v_now_one : Int32) (v_now_date : Int32) (v_ways_size : Int32) (v_ways_trapped : Int32) (a_ways_ranked : Nat → Int32) (a_ways_tens : Nat → Int32) (p1 : Int32) (p2 : Int32) (p3 : Int32) (N : Nat) (q0 : (Int32 × (Nat → Int32) × (Nat → Int32) × Int32 × Int32)) (hf : fX7_chancesOf N a_told_a a_told_b v_told_size v_now_forgotten v_now_touches v_now_trapped v_now_one a_ways_ranked a_ways_tens v_ways_size v_ways_trapped p1 p2 p3 = some q0) : Ki l yX7_chancesOf wX7_chancesOf rX7_chancesOf (dC, dI) (vTy cI cJ cB cZ) [.ref ad0, .int p1, .int p2, .int p3] [(ad0, oX7 ad_text ad_draft ad_told ad_now ad_history ad_firstImage ad_secondImage ad_seen ad_ways v_traced), (ad_told, oX0 ad_told_a ad_told_b v_told_size v_told_touches v_told_one), (ad_told_a, .inl (cI, 6, .inl a_told_a)), (ad_told_b, .inl (cI, 6, .inl a_told_b)), (ad_now, oX3 v_now_forgotten v_now_touches v_now_trapped v_now_one v_now_date), (ad_ways, oX6 ad_ways_ranked ad_ways_tens v_ways_size v_ways_trapped), (ad_ways_ranked, .inl (cI, 6, .inl a_ways_ranked)), (ad_ways_tens, .inl (cI, 6, .inl a_ways_tens))] [(ad0, oX7 ad_text ad_draft ad_told ad_now ad_history ad_firstImage ad_secondImage ad_seen ad_ways v_traced), (ad_told, oX0 ad_told_a ad_told_b v_told_size v_told_touches v_told_one), (ad_told_a, .inl (cI, 6, .inl a_told_a)), (ad_told_b, .inl (cI, 6, .inl a_told_b)), (ad_now, oX3 v_now_forgotten v_now_touches v_now_trapped v_now_one v_now_date), (ad_ways, oX6 ad_ways_ranked ad_ways_tens q0.2.2.2.1 q0.2.2.2.2), (ad_ways_ranked, .inl (cI, 6, .inl q0.2.1)), (ad_ways_tens, .inl (cI, 6, .inl q0.2.2.1))] q0.1 := by
  refine Ki.mk (cc := cX7_chancesOf) (maxL := 6) (ret := some .int) (by decide) (Nat.le_of_ble_eq_true rfl) ?_
  intro p e s m args below meth c A Q H locs C hQ hP hD hS ls hl
  obtain ⟨hx, hb, -, hml, hts, hown, -, hK, hN, hA⟩ := id C
  have hown : s.vm.findClass RX7 = some m.cls := hown
  have hl : lv_has ls 6 [(0, .ref ad0), (1, .int p1), (2, .int p2), (3, .int p3)] := hl
  unfold fX7_chancesOf at hf
  refine lv_aload_n hx hb (dt uX7_chancesOf 0 rfl) rfl (lv_at hl 0 rfl) ?_
  obtain ⟨q_1, hq_2, hf⟩ := vbd hf
  refine vk_r [0, 1, 2, 3, 4, 5, 6, 7] (ws2 := [(ad0, oX7 ad_text ad_draft ad_told ad_now ad_history ad_firstImage ad_secondImage ad_seen ad_ways v_traced), (ad_told, oX0 ad_told_a ad_told_b v_told_size v_told_touches v_told_one), (ad_told_a, .inl (cI, 6, .inl a_told_a)), (ad_told_b, .inl (cI, 6, .inl a_told_b)), (ad_now, oX3 v_now_forgotten v_now_touches v_now_trapped v_now_one v_now_date), (ad_ways, oX6 ad_ways_ranked ad_ways_tens q_1.2.2.1 q_1.2.2.2), (ad_ways_ranked, .inl (cI, 6, .inl q_1.1)), (ad_ways_tens, .inl (cI, 6, .inl q_1.2.1))]) (va_runV (As := []) (rest := []) ⟨hx, hb, hml, hown, hts⟩ (kX7_waysNow ad0 ad_text ad_draft ad_told ad_told_a ad_told_b ad_now ad_history ad_firstImage ad_secondImage ad_seen ad_ways ad_ways_ranked ad_ways_tens v_traced v_told_size v_told_touches v_told_one a_told_a a_told_b v_now_forgotten v_now_touches v_now_trapped v_now_one v_now_date v_ways_size v_ways_trapped a_ways_ranked a_ways_tens N q_1 hq_2 H.size) (vcwV hts tw_185 tw_186 tw_187 tw_41 tw_184 hd_X7_waysNow rfl rfl ⟨Nat.le_of_ble_eq_true rfl, Nat.le_of_ble_eq_true rfl⟩) (vpreV hK hN hP hD [0, 1, 2, 3, 4, 5, 6, 7] rfl (by decide) (ci := 7) (q0 := 0) rfl rfl) rfl rfl hl.1 rfl (lv_room (Nat.le_of_ble_eq_true rfl)) (dt uX7_chancesOf 1 rfl) ⟨Nat.zero_le _, Nat.zero_le _⟩) hA hP hD hS rfl (by decide) rfl rfl (fun H locs hP hD hS => ?_)
  refine lv_pop hx hb (dt uX7_chancesOf 2 rfl) rfl ?_
  refine lv_iconst (v := (0 : Int32)) hx hb (dt uX7_chancesOf 3 rfl) (by decide) ?_
  refine lv_istore (lv' := [(4, .int (0 : Int32)), (0, .ref ad0), (1, .int p1), (2, .int p2), (3, .int p3)]) hx hb (dt uX7_chancesOf 4 rfl) hl (by decide) rfl (fun ls hl => ?_)
  refine lv_iconst (v := (0 : Int32)) hx hb (dt uX7_chancesOf 5 rfl) (by decide) ?_
  refine lv_istore (lv' := [(5, .int (0 : Int32)), (4, .int (0 : Int32)), (0, .ref ad0), (1, .int p1), (2, .int p2), (3, .int p3)]) hx hb (dt uX7_chancesOf 6 rfl) hl (by decide) rfl (fun ls hl => ?_)
  have hL11 : ∀ (n11 : Nat), ∀ (x4_3 : Int32) (x5_4 : Int32) (H : Heap) (locs : List Loc) (ls : Array Slot), fX7_chancesOf_L11 N v_now_touches v_now_one p1 p2 p3 q_1 n11 x4_3 x5_4 = some q0 → va_P (dC, dI) vwCl [(ad0, oX7 ad_text ad_draft ad_told ad_now ad_history ad_firstImage ad_secondImage ad_seen ad_ways v_traced), (ad_told, oX0 ad_told_a ad_told_b v_told_size v_told_touches v_told_one), (ad_told_a, .inl (cI, 6, .inl a_told_a)), (ad_told_b, .inl (cI, 6, .inl a_told_b)), (ad_now, oX3 v_now_forgotten v_now_touches v_now_trapped v_now_one v_now_date), (ad_ways, oX6 ad_ways_ranked ad_ways_tens q_1.2.2.1 q_1.2.2.2), (ad_ways_ranked, .inl (cI, 6, .inl q_1.1)), (ad_ways_tens, .inl (cI, 6, .inl q_1.2.1))] H → va_D A [(ad0, oX7 ad_text ad_draft ad_told ad_now ad_history ad_firstImage ad_secondImage ad_seen ad_ways v_traced), (ad_told, oX0 ad_told_a ad_told_b v_told_size v_told_touches v_told_one), (ad_told_a, .inl (cI, 6, .inl a_told_a)), (ad_told_b, .inl (cI, 6, .inl a_told_b)), (ad_now, oX3 v_now_forgotten v_now_touches v_now_trapped v_now_one v_now_date), (ad_ways, oX6 ad_ways_ranked ad_ways_tens q_1.2.2.1 q_1.2.2.2), (ad_ways_ranked, .inl (cI, 6, .inl q_1.1)), (ad_ways_tens, .inl (cI, 6, .inl q_1.2.1))] → va_S A s.heap H locs → lv_has ls 6 [(0, .ref ad0), (1, .int p1), (2, .int p2), (3, .int p3), (4, .int x4_3), (5, .int x5_4)] → W p l e rX7_chancesOf s m args below meth c H locs 0 0 Q (F0 m 11 ls []) := by
    intro n11
    induction n11 with
    | zero => intro x4_3 x5_4 H locs ls hf hP hD hS hl; cases hf
    | succ n11 ih11 =>
      intro x4_3 x5_4 H locs ls hf hP hD hS hl
      rw [fX7_chancesOf_L11] at hf
      refine lv_iload hx hb (dt uX7_chancesOf 7 rfl) (lv_at hl 5 rfl) ?_
      refine lv_iload_n hx hb (dt uX7_chancesOf 8 rfl) rfl (lv_at hl 2 rfl) ?_
      refine lv_icmp_gt (tgt := 80) hx hb (dt uX7_chancesOf 9 rfl) (by decide) (fun c_5 => ?_) (fun c_5 => ?_)
      · have hf := vif_t c_5 hf
        refine lv_iload hx hb (dt uX7_chancesOf 42 rfl) (lv_at hl 4 rfl) ?_
        have hf := Option.some.inj hf
        subst hf
        rw [hQ]
        exact vret_i C hP hD hS (dt uX7_chancesOf 43 rfl)
      · have hf := vif_f c_5 hf
        refine lv_aload_n hx hb (dt uX7_chancesOf 10 rfl) rfl (lv_at hl 0 rfl) ?_
        refine va_get (D := (dC, dI)) (ci := 7) (v := .ref ad_ways) (C := RX7) (T := TX7) (N := 10) hx hb hts inU7 hown hK hP 0 rfl rfl 8 (by decide) (hts _ tw_173) (fun _ h9 => h9) rfl (dt uX7_chancesOf 11 rfl) ?_
        refine lv_aload_n hx hb (dt uX7_chancesOf 12 rfl) rfl (lv_at hl 0 rfl) ?_
        refine va_get (D := (dC, dI)) (ci := 7) (v := .ref ad_now) (C := RX7) (T := TX7) (N := 10) hx hb hts inU7 hown hK hP 0 rfl rfl 3 (by decide) (hts _ tw_122) (fun _ h9 => h9) rfl (dt uX7_chancesOf 13 rfl) ?_
        refine va_getN (D := (dC, dI)) (ci := 3) (v := .int v_now_one) (C := RX3) (T := TX3) (N := 5) hx hb hts inU3 hown hK hP 4 rfl rfl 3 (by decide) (nw_16 hN) (fun _ h9 => h9) rfl (dt uX7_chancesOf 14 rfl) ?_
        refine lv_iload hx hb (dt uX7_chancesOf 15 rfl) (lv_at hl 5 rfl) ?_
        refine lv_aload_n hx hb (dt uX7_chancesOf 16 rfl) rfl (lv_at hl 0 rfl) ?_
        refine va_get (D := (dC, dI)) (ci := 7) (v := .ref ad_now) (C := RX7) (T := TX7) (N := 10) hx hb hts inU7 hown hK hP 0 rfl rfl 3 (by decide) (hts _ tw_122) (fun _ h9 => h9) rfl (dt uX7_chancesOf 17 rfl) ?_
        refine va_getN (D := (dC, dI)) (ci := 3) (v := .int v_now_touches) (C := RX3) (T := TX3) (N := 5) hx hb hts inU3 hown hK hP 4 rfl rfl 1 (by decide) (nw_14 hN) (fun _ h9 => h9) rfl (dt uX7_chancesOf 18 rfl) ?_
        obtain ⟨q_6, hq_7, hf⟩ := vbd hf
        refine vk_i0 [5, 6] (va_runVN (As := [.int v_now_one, .int x5_4, .int v_now_touches]) (rest := []) ⟨hx, hb, hml, hown, hts⟩ (kX6_walk ad_ways ad_ways_ranked ad_ways_tens q_1.2.2.1 q_1.2.2.2 q_1.1 v_now_one x5_4 v_now_touches N q_6 hq_7 H.size) (vcwVN hts (nm_50 hN) tw_104 tw_105 tw_97 tw_102 hd_X6_walk rfl rfl ⟨Nat.le_of_ble_eq_true rfl, Nat.le_of_ble_eq_true rfl⟩) (vpreV hK hN hP hD [5, 6] rfl (by decide) (ci := 6) (q0 := 5) rfl rfl) rfl rfl hl.1 rfl (lv_room (Nat.le_of_ble_eq_true rfl)) (dt uX7_chancesOf 19 rfl) ⟨Nat.zero_le _, Nat.zero_le _⟩) hA hP hD hS rfl (by decide) (fun H locs hP hD hS => ?_)
        refine lv_iload_n hx hb (dt uX7_chancesOf 20 rfl) rfl (lv_at hl 3 rfl) ?_
        refine lv_icmp_ne (tgt := 74) hx hb (dt uX7_chancesOf 21 rfl) (by decide) (fun c_8 => ?_) (fun c_8 => ?_)
        · have hf := vif_f c_8 hf
          refine lv_iinc (v := x5_4 + 1) (lv' := [(5, .int (x5_4 + 1)), (0, .ref ad0), (1, .int p1), (2, .int p2), (3, .int p3), (4, .int x4_3)]) hx hb (dt uX7_chancesOf 40 rfl) hl (k := 5) rfl rfl (by decide) rfl (fun ls hl => ?_)
          refine lv_goto (tgt := 11) hx hb (dt uX7_chancesOf 41 rfl) (by decide) ?_
          exact ih11 x4_3 (x5_4 + 1) _ _ _ hf hP hD hS (lv_sub hl [1, 2, 3, 4, 5, 0] rfl)
        · have hf := vif_t c_8 hf
          refine lv_iload hx hb (dt uX7_chancesOf 22 rfl) (lv_at hl 4 rfl) ?_
          refine lv_iload_n hx hb (dt uX7_chancesOf 23 rfl) rfl (lv_at hl 2 rfl) ?_
          refine lv_iload hx hb (dt uX7_chancesOf 24 rfl) (lv_at hl 5 rfl) ?_
          obtain ⟨q_9, hq_10, hf⟩ := vbd hf
          refine vk_i0 [] (va_runS (As := [.int p2, .int x5_4]) (rest := [.int x4_3]) ⟨hx, hb, hml, hown, hts⟩ (kX7_choose p2 x5_4 N q_9 hq_10 H.size) (vcwS hts tw_254 tw_255 tw_41 tw_253 hd_X7_choose rfl rfl ⟨Nat.le_of_ble_eq_true rfl, Nat.le_of_ble_eq_true rfl⟩) (vpreS hK hN hP hD [] rfl (by decide)) rfl rfl hl.1 rfl (lv_room (Nat.le_of_ble_eq_true rfl)) (dt uX7_chancesOf 25 rfl) ⟨Nat.zero_le _, Nat.zero_le _⟩) hA hP hD hS rfl (by decide) (fun H locs hP hD hS => ?_)
          refine lv_bipush (v := (10 : Int32)) hx hb (dt uX7_chancesOf 26 rfl) (by decide) ?_
          refine lv_iload_n hx hb (dt uX7_chancesOf 27 rfl) rfl (lv_at hl 1 rfl) ?_
          refine lv_isub hx hb (dt uX7_chancesOf 28 rfl) ?_
          refine lv_iload hx hb (dt uX7_chancesOf 29 rfl) (lv_at hl 5 rfl) ?_
          obtain ⟨q_11, hq_12, hf⟩ := vbd hf
          refine vk_i0 [] (va_runS (As := [.int ((10 : Int32) - p1), .int x5_4]) (rest := [.int q_9, .int x4_3]) ⟨hx, hb, hml, hown, hts⟩ (kX7_power ((10 : Int32) - p1) x5_4 N q_11 hq_12 H.size) (vcwS hts tw_257 tw_258 tw_41 tw_256 hd_X7_power rfl rfl ⟨Nat.le_of_ble_eq_true rfl, Nat.le_of_ble_eq_true rfl⟩) (vpreS hK hN hP hD [] rfl (by decide)) rfl rfl hl.1 rfl (lv_room (Nat.le_of_ble_eq_true rfl)) (dt uX7_chancesOf 30 rfl) ⟨Nat.zero_le _, Nat.zero_le _⟩) hA hP hD hS rfl (by decide) (fun H locs hP hD hS => ?_)
          refine lv_imul hx hb (dt uX7_chancesOf 31 rfl) ?_
          refine lv_iload_n hx hb (dt uX7_chancesOf 32 rfl) rfl (lv_at hl 1 rfl) ?_
          refine lv_iload_n hx hb (dt uX7_chancesOf 33 rfl) rfl (lv_at hl 2 rfl) ?_
          refine lv_iload hx hb (dt uX7_chancesOf 34 rfl) (lv_at hl 5 rfl) ?_
          refine lv_isub hx hb (dt uX7_chancesOf 35 rfl) ?_
          obtain ⟨q_13, hq_14, hf⟩ := vbd hf
          refine vk_i0 [] (va_runS (As := [.int p1, .int (p2 - x5_4)]) (rest := [.int (q_9 * q_11), .int x4_3]) ⟨hx, hb, hml, hown, hts⟩ (kX7_power p1 (p2 - x5_4) N q_13 hq_14 H.size) (vcwS hts tw_257 tw_258 tw_41 tw_256 hd_X7_power rfl rfl ⟨Nat.le_of_ble_eq_true rfl, Nat.le_of_ble_eq_true rfl⟩) (vpreS hK hN hP hD [] rfl (by decide)) rfl rfl hl.1 rfl (lv_room (Nat.le_of_ble_eq_true rfl)) (dt uX7_chancesOf 36 rfl) ⟨Nat.zero_le _, Nat.zero_le _⟩) hA hP hD hS rfl (by decide) (fun H locs hP hD hS => ?_)
          refine lv_imul hx hb (dt uX7_chancesOf 37 rfl) ?_
          refine lv_iadd hx hb (dt uX7_chancesOf 38 rfl) ?_
          refine lv_istore (lv' := [(4, .int (x4_3 + ((q_9 * q_11) * q_13))), (0, .ref ad0), (1, .int p1), (2, .int p2), (3, .int p3), (5, .int x5_4)]) hx hb (dt uX7_chancesOf 39 rfl) hl (by decide) rfl (fun ls hl => ?_)
          refine lv_iinc (v := x5_4 + 1) (lv' := [(5, .int (x5_4 + 1)), (4, .int (x4_3 + ((q_9 * q_11) * q_13))), (0, .ref ad0), (1, .int p1), (2, .int p2), (3, .int p3)]) hx hb (dt uX7_chancesOf 40 rfl) hl (k := 5) rfl rfl (by decide) rfl (fun ls hl => ?_)
          refine lv_goto (tgt := 11) hx hb (dt uX7_chancesOf 41 rfl) (by decide) ?_
          exact ih11 (x4_3 + ((q_9 * q_11) * q_13)) (x5_4 + 1) _ _ _ hf hP hD hS (lv_sub hl [2, 3, 4, 5, 1, 0] rfl)
  exact hL11 N (0 : Int32) (0 : Int32) _ _ _ hf hP hD hS (lv_sub hl [2, 3, 4, 5, 1, 0] rfl)
abbrev rX7_greatestDivisor : Room := { frames := 0, cells := 0, slots := 0, locals := 0 }
abbrev wX7_greatestDivisor : List Cond := Cond.code yX7_greatestDivisor cX7_greatestDivisor 6 (some .int) :: VT
set_option maxHeartbeats 4000000 in
set_option maxRecDepth 100000 in
theorem kX7_greatestDivisor (p1 : Int32) (p2 : Int32) (N : Nat) (q0 : Int32) (hf : fX7_greatestDivisor N p1 p2 = some q0) : Ki l yX7_greatestDivisor wX7_greatestDivisor rX7_greatestDivisor (dC, dI) (vTy cI cJ cB cZ) [.int p1, .int p2] [] [] q0 := by
  refine Ki.mk (cc := cX7_greatestDivisor) (maxL := 6) (ret := some .int) (by decide) (Nat.le_of_ble_eq_true rfl) ?_
  intro p e s m args below meth c A Q H locs C hQ hP hD hS ls hl
  obtain ⟨hx, hb, -, hml, hts, hown, -, hK, hN, hA⟩ := id C
  have hown : s.vm.findClass RX7 = some m.cls := hown
  have hl : lv_has ls 6 [(0, .int p1), (1, .int p2)] := hl
  unfold fX7_greatestDivisor at hf
  refine lv_iload_n hx hb (dt uX7_greatestDivisor 0 rfl) rfl (lv_at hl 1 rfl) ?_
  refine lv_istore_n (lv' := [(2, .int p2), (0, .int p1), (1, .int p2)]) hx hb (dt uX7_greatestDivisor 1 rfl) rfl hl (by decide) rfl (fun ls hl => ?_)
  refine lv_iload_n hx hb (dt uX7_greatestDivisor 2 rfl) rfl (lv_at hl 1 rfl) ?_
  refine lv_istore_n (lv' := [(3, .int p1), (2, .int p2), (0, .int p1), (1, .int p2)]) hx hb (dt uX7_greatestDivisor 3 rfl) rfl hl (by decide) rfl (fun ls hl => ?_)
  refine lv_iconst (v := (0 : Int32)) hx hb (dt uX7_greatestDivisor 4 rfl) (by decide) ?_
  refine lv_istore (lv' := [(4, .int (0 : Int32)), (3, .int p1), (2, .int p2), (0, .int p1), (1, .int p2)]) hx hb (dt uX7_greatestDivisor 5 rfl) hl (by decide) rfl (fun ls hl => ?_)
  have hL7 : ∀ (n7 : Nat), ∀ (x2_1 : Int32) (x3_2 : Int32) (x4_3 : Int32) (H : Heap) (locs : List Loc) (ls : Array Slot), fX7_greatestDivisor_L7 n7 x2_1 x3_2 x4_3 = some q0 → va_P (dC, dI) vwCl [] H → va_D A [] → va_S A s.heap H locs → lv_has ls 6 [(2, .int x2_1), (3, .int x3_2), (4, .int x4_3)] → W p l e rX7_greatestDivisor s m args below meth c H locs 0 0 Q (F0 m 7 ls []) := by
    intro n7
    induction n7 with
    | zero => intro x2_1 x3_2 x4_3 H locs ls hf hP hD hS hl; cases hf
    | succ n7 ih7 =>
      intro x2_1 x3_2 x4_3 H locs ls hf hP hD hS hl
      rw [fX7_greatestDivisor_L7] at hf
      refine lv_iload hx hb (dt uX7_greatestDivisor 6 rfl) (lv_at hl 2 rfl) ?_
      refine lv_bipush (v := (64 : Int32)) hx hb (dt uX7_greatestDivisor 7 rfl) (by decide) ?_
      refine lv_icmp_ge (tgt := 34) hx hb (dt uX7_greatestDivisor 8 rfl) (by decide) (fun c_4 => ?_) (fun c_4 => ?_)
      · have hf := vif_t c_4 hf
        refine lv_iload_n hx hb (dt uX7_greatestDivisor 21 rfl) rfl (lv_at hl 0 rfl) ?_
        have hf := Option.some.inj hf
        subst hf
        rw [hQ]
        exact vret_i C hP hD hS (dt uX7_greatestDivisor 22 rfl)
      · have hf := vif_f c_4 hf
        refine lv_iload_n hx hb (dt uX7_greatestDivisor 9 rfl) rfl (lv_at hl 1 rfl) ?_
        refine lv_if_eq (tgt := 34) hx hb (dt uX7_greatestDivisor 10 rfl) (by decide) (fun c_5 => ?_) (fun c_5 => ?_)
        · have hf := vif_t c_5 hf
          refine lv_iload_n hx hb (dt uX7_greatestDivisor 21 rfl) rfl (lv_at hl 0 rfl) ?_
          have hf := Option.some.inj hf
          subst hf
          rw [hQ]
          exact vret_i C hP hD hS (dt uX7_greatestDivisor 22 rfl)
        · have hf := vif_f c_5 hf
          refine lv_iload_n hx hb (dt uX7_greatestDivisor 11 rfl) rfl (lv_at hl 0 rfl) ?_
          refine lv_iload_n hx hb (dt uX7_greatestDivisor 12 rfl) rfl (lv_at hl 1 rfl) ?_
          obtain ⟨hz_6, hf⟩ := vz_some hf
          refine lv_irem hx hb (dt uX7_greatestDivisor 13 rfl) hz_6 ?_
          refine lv_istore (lv' := [(5, .int (x2_1 - x2_1 / x3_2 * x3_2)), (2, .int x2_1), (3, .int x3_2), (4, .int x4_3)]) hx hb (dt uX7_greatestDivisor 14 rfl) hl (by decide) rfl (fun ls hl => ?_)
          refine lv_iload_n hx hb (dt uX7_greatestDivisor 15 rfl) rfl (lv_at hl 2 rfl) ?_
          refine lv_istore_n (lv' := [(2, .int x3_2), (5, .int (x2_1 - x2_1 / x3_2 * x3_2)), (3, .int x3_2), (4, .int x4_3)]) hx hb (dt uX7_greatestDivisor 16 rfl) rfl hl (by decide) rfl (fun ls hl => ?_)
          refine lv_iload hx hb (dt uX7_greatestDivisor 17 rfl) (lv_at hl 1 rfl) ?_
          refine lv_istore_n (lv' := [(3, .int (x2_1 - x2_1 / x3_2 * x3_2)), (2, .int x3_2), (5, .int (x2_1 - x2_1 / x3_2 * x3_2)), (4, .int x4_3)]) hx hb (dt uX7_greatestDivisor 18 rfl) rfl hl (by decide) rfl (fun ls hl => ?_)
          refine lv_iinc (v := x4_3 + 1) (lv' := [(4, .int (x4_3 + 1)), (3, .int (x2_1 - x2_1 / x3_2 * x3_2)), (2, .int x3_2), (5, .int (x2_1 - x2_1 / x3_2 * x3_2))]) hx hb (dt uX7_greatestDivisor 19 rfl) hl (k := 3) rfl rfl (by decide) rfl (fun ls hl => ?_)
          refine lv_goto (tgt := 7) hx hb (dt uX7_greatestDivisor 20 rfl) (by decide) ?_
          exact ih7 x3_2 (x2_1 - x2_1 / x3_2 * x3_2) (x4_3 + 1) _ _ _ hf hP hD hS (lv_sub hl [2, 1, 0] rfl)
  exact hL7 N p2 p1 (0 : Int32) _ _ _ hf hP hD hS (lv_sub hl [2, 1, 0] rfl)
abbrev rX7_odds : Room := { frames := 4, cells := 0, slots := 0, locals := 97 }
abbrev wX7_odds : List Cond := Cond.code yX7_odds cX7_odds 8 (some .int) :: VT
set_option maxHeartbeats 4000000 in
set_option maxRecDepth 100000 in
theorem kX7_odds (ad0 : Nat) (ad_text : Nat) (ad_draft : Nat) (ad_told : Nat) (ad_told_a : Nat) (ad_told_b : Nat) (ad_now : Nat) (ad_history : Nat) (ad_firstImage : Nat) (ad_secondImage : Nat) (ad_seen : Nat) (ad_ways : Nat) (ad_ways_ranked : Nat) (ad_ways_tens : Nat) (v_traced : Int64) (v_told_size : Int32) (v_told_touches : Int32) (v_told_one : Int32) (a_told_a : Nat → Int32) (a_told_b : Nat → Int32) (v_now_forgotten : Int32) (v_now_touches : Int32) (v_now_trapped : Int32) (v_now_one : Int32) (v_now_date : Int32) (v_ways_size : Int32) (v_ways_trapped : Int32) (a_ways_ranked : Nat → Int32) (a_ways_tens : Nat → Int32) (p1 : Int32) (p2 : Int32) (p3 : Int32) (p4 : Int32) (N : Nat) (q0 : (Int32 × (Nat → Int32) × (Nat → Int32) × Int32 × Int32)) (hf : fX7_odds N a_told_a a_told_b v_told_size v_now_forgotten v_now_touches v_now_trapped v_now_one a_ways_ranked a_ways_tens v_ways_size v_ways_trapped p1 p2 p3 p4 = some q0) : Ki l yX7_odds wX7_odds rX7_odds (dC, dI) (vTy cI cJ cB cZ) [.ref ad0, .int p1, .int p2, .int p3, .int p4] [(ad0, oX7 ad_text ad_draft ad_told ad_now ad_history ad_firstImage ad_secondImage ad_seen ad_ways v_traced), (ad_told, oX0 ad_told_a ad_told_b v_told_size v_told_touches v_told_one), (ad_told_a, .inl (cI, 6, .inl a_told_a)), (ad_told_b, .inl (cI, 6, .inl a_told_b)), (ad_now, oX3 v_now_forgotten v_now_touches v_now_trapped v_now_one v_now_date), (ad_ways, oX6 ad_ways_ranked ad_ways_tens v_ways_size v_ways_trapped), (ad_ways_ranked, .inl (cI, 6, .inl a_ways_ranked)), (ad_ways_tens, .inl (cI, 6, .inl a_ways_tens))] [(ad0, oX7 ad_text ad_draft ad_told ad_now ad_history ad_firstImage ad_secondImage ad_seen ad_ways v_traced), (ad_told, oX0 ad_told_a ad_told_b v_told_size v_told_touches v_told_one), (ad_told_a, .inl (cI, 6, .inl a_told_a)), (ad_told_b, .inl (cI, 6, .inl a_told_b)), (ad_now, oX3 v_now_forgotten v_now_touches v_now_trapped v_now_one v_now_date), (ad_ways, oX6 ad_ways_ranked ad_ways_tens q0.2.2.2.1 q0.2.2.2.2), (ad_ways_ranked, .inl (cI, 6, .inl q0.2.1)), (ad_ways_tens, .inl (cI, 6, .inl q0.2.2.1))] q0.1 := by
  refine Ki.mk (cc := cX7_odds) (maxL := 8) (ret := some .int) (by decide) (Nat.le_of_ble_eq_true rfl) ?_
  intro p e s m args below meth c A Q H locs C hQ hP hD hS ls hl
  obtain ⟨hx, hb, -, hml, hts, hown, -, hK, hN, hA⟩ := id C
  have hown : s.vm.findClass RX7 = some m.cls := hown
  have hl : lv_has ls 8 [(0, .ref ad0), (1, .int p1), (2, .int p2), (3, .int p3), (4, .int p4)] := hl
  unfold fX7_odds at hf
  refine lv_iload_n hx hb (dt uX7_odds 0 rfl) rfl (lv_at hl 1 rfl) ?_
  refine lv_iconst (v := (0 : Int32)) hx hb (dt uX7_odds 1 rfl) (by decide) ?_
  refine lv_bipush (v := (10 : Int32)) hx hb (dt uX7_odds 2 rfl) (by decide) ?_
  refine vk_z0 [] (va_runS (As := [.int p1, .int (0 : Int32), .int (10 : Int32)]) (rest := []) ⟨hx, hb, hml, hown, hts⟩ (kX7_within p1 (0 : Int32) (10 : Int32) _ rfl H.size) (vcwS hts tw_106 tw_43 tw_41 tw_42 hd_X7_within rfl rfl ⟨Nat.le_of_ble_eq_true rfl, Nat.le_of_ble_eq_true rfl⟩) (vpreS hK hN hP hD [] rfl (by decide)) rfl rfl hl.1 rfl (lv_room (Nat.le_of_ble_eq_true rfl)) (dt uX7_odds 3 rfl) ⟨Nat.zero_le _, Nat.zero_le _⟩) hA hP hD hS rfl (by decide) (fun hz_1 H locs hP hD hS => ?_)
  refine lv_if_eq (tgt := 20) hx hb (dt uX7_odds 4 rfl) (by decide) (fun c_2 => ?_) (fun c_2 => ?_)
  · have hf := vif_t c_2 hf
    refine lv_iconst (v := (-1 : Int32)) hx hb (dt uX7_odds 10 rfl) (by decide) ?_
    have hf := Option.some.inj hf
    subst hf
    rw [hQ]
    exact vret_i C hP hD hS (dt uX7_odds 11 rfl)
  · have hf := vif_f c_2 hf
    refine lv_iload_n hx hb (dt uX7_odds 5 rfl) rfl (lv_at hl 2 rfl) ?_
    refine lv_iconst (v := (0 : Int32)) hx hb (dt uX7_odds 6 rfl) (by decide) ?_
    refine lv_bipush (v := (6 : Int32)) hx hb (dt uX7_odds 7 rfl) (by decide) ?_
    refine vk_z0 [] (va_runS (As := [.int p2, .int (0 : Int32), .int (6 : Int32)]) (rest := []) ⟨hx, hb, hml, hown, hts⟩ (kX7_within p2 (0 : Int32) (6 : Int32) _ rfl H.size) (vcwS hts tw_106 tw_43 tw_41 tw_42 hd_X7_within rfl rfl ⟨Nat.le_of_ble_eq_true rfl, Nat.le_of_ble_eq_true rfl⟩) (vpreS hK hN hP hD [] rfl (by decide)) rfl rfl hl.1 rfl (lv_room (Nat.le_of_ble_eq_true rfl)) (dt uX7_odds 8 rfl) ⟨Nat.zero_le _, Nat.zero_le _⟩) hA hP hD hS rfl (by decide) (fun hz_3 H locs hP hD hS => ?_)
    refine lv_if_ne (tgt := 22) hx hb (dt uX7_odds 9 rfl) (by decide) (fun c_4 => ?_) (fun c_4 => ?_)
    · have hf := vif_f c_4 hf
      refine lv_aload_n hx hb (dt uX7_odds 12 rfl) rfl (lv_at hl 0 rfl) ?_
      refine lv_iload_n hx hb (dt uX7_odds 13 rfl) rfl (lv_at hl 3 rfl) ?_
      refine vk_z0 [0, 1] (va_runV (As := [.int p3]) (rest := []) ⟨hx, hb, hml, hown, hts⟩ (kX7_isBook ad0 ad_text ad_draft ad_told ad_told_a ad_told_b ad_now ad_history ad_firstImage ad_secondImage ad_seen ad_ways v_traced v_told_size v_told_touches v_told_one p3 _ rfl H.size) (vcwV hts tw_142 tw_143 tw_144 tw_41 tw_141 hd_X7_isBook rfl rfl ⟨Nat.le_of_ble_eq_true rfl, Nat.le_of_ble_eq_true rfl⟩) (vpreV hK hN hP hD [0, 1] rfl (by decide) (ci := 7) (q0 := 0) rfl rfl) rfl rfl hl.1 rfl (lv_room (Nat.le_of_ble_eq_true rfl)) (dt uX7_odds 14 rfl) ⟨Nat.zero_le _, Nat.zero_le _⟩) hA hP hD hS rfl (by decide) (fun hz_5 H locs hP hD hS => ?_)
      refine lv_if_eq (tgt := 40) hx hb (dt uX7_odds 15 rfl) (by decide) (fun c_6 => ?_) (fun c_6 => ?_)
      · have hf := vif_t c_6 hf
        refine lv_iconst (v := (-1 : Int32)) hx hb (dt uX7_odds 21 rfl) (by decide) ?_
        have hf := Option.some.inj hf
        subst hf
        rw [hQ]
        exact vret_i C hP hD hS (dt uX7_odds 22 rfl)
      · have hf := vif_f c_6 hf
        refine lv_iload hx hb (dt uX7_odds 16 rfl) (lv_at hl 4 rfl) ?_
        refine lv_iconst (v := (0 : Int32)) hx hb (dt uX7_odds 17 rfl) (by decide) ?_
        refine lv_iconst (v := (1 : Int32)) hx hb (dt uX7_odds 18 rfl) (by decide) ?_
        refine vk_z0 [] (va_runS (As := [.int p4, .int (0 : Int32), .int (1 : Int32)]) (rest := []) ⟨hx, hb, hml, hown, hts⟩ (kX7_within p4 (0 : Int32) (1 : Int32) _ rfl H.size) (vcwS hts tw_106 tw_43 tw_41 tw_42 hd_X7_within rfl rfl ⟨Nat.le_of_ble_eq_true rfl, Nat.le_of_ble_eq_true rfl⟩) (vpreS hK hN hP hD [] rfl (by decide)) rfl rfl hl.1 rfl (lv_room (Nat.le_of_ble_eq_true rfl)) (dt uX7_odds 19 rfl) ⟨Nat.zero_le _, Nat.zero_le _⟩) hA hP hD hS rfl (by decide) (fun hz_7 H locs hP hD hS => ?_)
        refine lv_if_ne (tgt := 42) hx hb (dt uX7_odds 20 rfl) (by decide) (fun c_8 => ?_) (fun c_8 => ?_)
        · have hf := vif_f c_8 hf
          refine lv_aload_n hx hb (dt uX7_odds 23 rfl) rfl (lv_at hl 0 rfl) ?_
          refine vk_z0 [0, 1, 4] (va_runV (As := []) (rest := []) ⟨hx, hb, hml, hown, hts⟩ (kX7_isSomewhere ad0 ad_text ad_draft ad_told ad_told_a ad_told_b ad_now ad_history ad_firstImage ad_secondImage ad_seen ad_ways v_traced v_told_size v_told_touches v_told_one v_now_forgotten v_now_touches v_now_trapped v_now_one v_now_date _ rfl H.size) (vcwV hts tw_181 tw_182 tw_183 tw_41 tw_180 hd_X7_isSomewhere rfl rfl ⟨Nat.le_of_ble_eq_true rfl, Nat.le_of_ble_eq_true rfl⟩) (vpreV hK hN hP hD [0, 1, 4] rfl (by decide) (ci := 7) (q0 := 0) rfl rfl) rfl rfl hl.1 rfl (lv_room (Nat.le_of_ble_eq_true rfl)) (dt uX7_odds 24 rfl) ⟨Nat.zero_le _, Nat.zero_le _⟩) hA hP hD hS rfl (by decide) (fun hz_9 H locs hP hD hS => ?_)
          refine lv_if_ne (tgt := 52) hx hb (dt uX7_odds 25 rfl) (by decide) (fun c_10 => ?_) (fun c_10 => ?_)
          · have hf := vif_f c_10 hf
            refine lv_aload_n hx hb (dt uX7_odds 28 rfl) rfl (lv_at hl 0 rfl) ?_
            refine lv_iload_n hx hb (dt uX7_odds 29 rfl) rfl (lv_at hl 1 rfl) ?_
            refine lv_iload_n hx hb (dt uX7_odds 30 rfl) rfl (lv_at hl 2 rfl) ?_
            refine lv_iload_n hx hb (dt uX7_odds 31 rfl) rfl (lv_at hl 3 rfl) ?_
            obtain ⟨q_11, hq_12, hf⟩ := vbd hf
            refine vk_i [0, 1, 2, 3, 4, 5, 6, 7] (ws2 := [(ad0, oX7 ad_text ad_draft ad_told ad_now ad_history ad_firstImage ad_secondImage ad_seen ad_ways v_traced), (ad_told, oX0 ad_told_a ad_told_b v_told_size v_told_touches v_told_one), (ad_told_a, .inl (cI, 6, .inl a_told_a)), (ad_told_b, .inl (cI, 6, .inl a_told_b)), (ad_now, oX3 v_now_forgotten v_now_touches v_now_trapped v_now_one v_now_date), (ad_ways, oX6 ad_ways_ranked ad_ways_tens q_11.2.2.2.1 q_11.2.2.2.2), (ad_ways_ranked, .inl (cI, 6, .inl q_11.2.1)), (ad_ways_tens, .inl (cI, 6, .inl q_11.2.2.1))]) (va_runV (As := [.int p1, .int p2, .int p3]) (rest := []) ⟨hx, hb, hml, hown, hts⟩ (kX7_chancesOf ad0 ad_text ad_draft ad_told ad_told_a ad_told_b ad_now ad_history ad_firstImage ad_secondImage ad_seen ad_ways ad_ways_ranked ad_ways_tens v_traced v_told_size v_told_touches v_told_one a_told_a a_told_b v_now_forgotten v_now_touches v_now_trapped v_now_one v_now_date v_ways_size v_ways_trapped a_ways_ranked a_ways_tens p1 p2 p3 N q_11 hq_12 H.size) (vcwV hts tw_260 tw_261 tw_262 tw_41 tw_259 hd_X7_chancesOf rfl rfl ⟨Nat.le_of_ble_eq_true rfl, Nat.le_of_ble_eq_true rfl⟩) (vpreV hK hN hP hD [0, 1, 2, 3, 4, 5, 6, 7] rfl (by decide) (ci := 7) (q0 := 0) rfl rfl) rfl rfl hl.1 rfl (lv_room (Nat.le_of_ble_eq_true rfl)) (dt uX7_odds 32 rfl) ⟨Nat.zero_le _, Nat.zero_le _⟩) hA hP hD hS rfl (by decide) rfl rfl (fun H locs hP hD hS => ?_)
            refine lv_istore (lv' := [(5, .int q_11.1), (0, .ref ad0), (1, .int p1), (2, .int p2), (3, .int p3), (4, .int p4)]) hx hb (dt uX7_odds 33 rfl) hl (by decide) rfl (fun ls hl => ?_)
            refine lv_bipush (v := (10 : Int32)) hx hb (dt uX7_odds 34 rfl) (by decide) ?_
            refine lv_iload_n hx hb (dt uX7_odds 35 rfl) rfl (lv_at hl 3 rfl) ?_
            obtain ⟨q_13, hq_14, hf⟩ := vbd hf
            refine vk_i0 [] (va_runS (As := [.int (10 : Int32), .int p2]) (rest := []) ⟨hx, hb, hml, hown, hts⟩ (kX7_power (10 : Int32) p2 N q_13 hq_14 H.size) (vcwS hts tw_257 tw_258 tw_41 tw_256 hd_X7_power rfl rfl ⟨Nat.le_of_ble_eq_true rfl, Nat.le_of_ble_eq_true rfl⟩) (vpreS hK hN hP hD [] rfl (by decide)) rfl rfl hl.1 rfl (lv_room (Nat.le_of_ble_eq_true rfl)) (dt uX7_odds 36 rfl) ⟨Nat.zero_le _, Nat.zero_le _⟩) hA hP hD hS rfl (by decide) (fun H locs hP hD hS => ?_)
            refine lv_istore (lv' := [(6, .int q_13), (5, .int q_11.1), (0, .ref ad0), (1, .int p1), (2, .int p2), (3, .int p3), (4, .int p4)]) hx hb (dt uX7_odds 37 rfl) hl (by decide) rfl (fun ls hl => ?_)
            refine lv_iconst (v := (1 : Int32)) hx hb (dt uX7_odds 38 rfl) (by decide) ?_
            refine lv_iload hx hb (dt uX7_odds 39 rfl) (lv_at hl 1 rfl) ?_
            refine lv_iload hx hb (dt uX7_odds 40 rfl) (lv_at hl 0 rfl) ?_
            obtain ⟨q_15, hq_16, hf⟩ := vbd hf
            refine vk_i0 [] (va_runS (As := [.int q_11.1, .int q_13]) (rest := [.int (1 : Int32)]) ⟨hx, hb, hml, hown, hts⟩ (kX7_greatestDivisor q_11.1 q_13 N q_15 hq_16 H.size) (vcwS hts tw_264 tw_265 tw_41 tw_263 hd_X7_greatestDivisor rfl rfl ⟨Nat.le_of_ble_eq_true rfl, Nat.le_of_ble_eq_true rfl⟩) (vpreS hK hN hP hD [] rfl (by decide)) rfl rfl hl.1 rfl (lv_room (Nat.le_of_ble_eq_true rfl)) (dt uX7_odds 41 rfl) ⟨Nat.zero_le _, Nat.zero_le _⟩) hA hP hD hS rfl (by decide) (fun H locs hP hD hS => ?_)
            refine va_mmax hx hb (by rw [hml]; exact hl.1.symm) hown (hts _ tw_266) (hts _ tw_267) (hts _ tw_268) (hts _ tw_269) (Nat.le_of_ble_eq_true rfl) (Nat.le_of_ble_eq_true rfl) (Nat.zero_le _) (Nat.zero_le _) (dt uX7_odds 42 rfl) ?_
            refine lv_istore (lv' := [(7, .int (if (1 : Int32) < q_15 then q_15 else (1 : Int32))), (6, .int q_13), (5, .int q_11.1), (0, .ref ad0), (1, .int p1), (2, .int p2), (3, .int p3), (4, .int p4)]) hx hb (dt uX7_odds 43 rfl) hl (by decide) rfl (fun ls hl => ?_)
            refine lv_iload hx hb (dt uX7_odds 44 rfl) (lv_at hl 7 rfl) ?_
            have hJ94 : ∀ (y0_17 : Int32) (H : Heap) (locs : List Loc) (ls : Array Slot), fX7_odds_J94 q_11 q_15 y0_17 = some q0 → va_P (dC, dI) vwCl [(ad0, oX7 ad_text ad_draft ad_told ad_now ad_history ad_firstImage ad_secondImage ad_seen ad_ways v_traced), (ad_told, oX0 ad_told_a ad_told_b v_told_size v_told_touches v_told_one), (ad_told_a, .inl (cI, 6, .inl a_told_a)), (ad_told_b, .inl (cI, 6, .inl a_told_b)), (ad_now, oX3 v_now_forgotten v_now_touches v_now_trapped v_now_one v_now_date), (ad_ways, oX6 ad_ways_ranked ad_ways_tens q_11.2.2.2.1 q_11.2.2.2.2), (ad_ways_ranked, .inl (cI, 6, .inl q_11.2.1)), (ad_ways_tens, .inl (cI, 6, .inl q_11.2.2.1))] H → va_D A [(ad0, oX7 ad_text ad_draft ad_told ad_now ad_history ad_firstImage ad_secondImage ad_seen ad_ways v_traced), (ad_told, oX0 ad_told_a ad_told_b v_told_size v_told_touches v_told_one), (ad_told_a, .inl (cI, 6, .inl a_told_a)), (ad_told_b, .inl (cI, 6, .inl a_told_b)), (ad_now, oX3 v_now_forgotten v_now_touches v_now_trapped v_now_one v_now_date), (ad_ways, oX6 ad_ways_ranked ad_ways_tens q_11.2.2.2.1 q_11.2.2.2.2), (ad_ways_ranked, .inl (cI, 6, .inl q_11.2.1)), (ad_ways_tens, .inl (cI, 6, .inl q_11.2.2.1))] → va_S A s.heap H locs → lv_has ls 8 [(7, .int (if (1 : Int32) < q_15 then q_15 else (1 : Int32)))] → W p l e rX7_odds s m args below meth c H locs 0 0 Q (F0 m 94 ls [.int y0_17]) := by
              intro y0_17 H locs ls hf hP hD hS hl
              unfold fX7_odds_J94 at hf
              refine lv_iload hx hb (dt uX7_odds 49 rfl) (lv_at hl 0 rfl) ?_
              obtain ⟨hz_18, hf⟩ := vz_some hf
              refine lv_idiv hx hb (dt uX7_odds 50 rfl) hz_18 ?_
              have hf := Option.some.inj hf
              subst hf
              rw [hQ]
              exact vret_i C hP hD hS (dt uX7_odds 51 rfl)
            refine lv_if_ne (tgt := 92) hx hb (dt uX7_odds 45 rfl) (by decide) (fun c_19 => ?_) (fun c_19 => ?_)
            · have hf := vif_f c_19 hf
              refine lv_iload hx hb (dt uX7_odds 48 rfl) (lv_at hl 1 rfl) ?_
              exact hJ94 q_13 _ _ _ hf hP hD hS (lv_sub hl [0] rfl)
            · have hf := vif_t c_19 hf
              refine lv_iload hx hb (dt uX7_odds 46 rfl) (lv_at hl 2 rfl) ?_
              refine lv_goto (tgt := 94) hx hb (dt uX7_odds 47 rfl) (by decide) ?_
              exact hJ94 q_11.1 _ _ _ hf hP hD hS (lv_sub hl [0] rfl)
          · have hf := vif_t c_10 hf
            refine lv_bipush (v := (-2 : Int32)) hx hb (dt uX7_odds 26 rfl) (by decide) ?_
            have hf := Option.some.inj hf
            subst hf
            rw [hQ]
            exact vret_i C hP hD hS (dt uX7_odds 27 rfl)
        · have hf := vif_t c_8 hf
          refine lv_iconst (v := (-1 : Int32)) hx hb (dt uX7_odds 21 rfl) (by decide) ?_
          have hf := Option.some.inj hf
          subst hf
          rw [hQ]
          exact vret_i C hP hD hS (dt uX7_odds 22 rfl)
    · have hf := vif_t c_4 hf
      refine lv_iconst (v := (-1 : Int32)) hx hb (dt uX7_odds 10 rfl) (by decide) ?_
      have hf := Option.some.inj hf
      subst hf
      rw [hQ]
      exact vret_i C hP hD hS (dt uX7_odds 11 rfl)
abbrev rX7_saw : Room := { frames := 2, cells := 0, slots := 0, locals := 43 }
abbrev wX7_saw : List Cond := Cond.code yX7_saw cX7_saw 4 (some .int) :: VT
set_option maxHeartbeats 4000000 in
set_option maxRecDepth 100000 in
theorem kX7_saw (ad0 : Nat) (ad_text : Nat) (ad_draft : Nat) (ad_told : Nat) (ad_told_a : Nat) (ad_told_b : Nat) (ad_now : Nat) (ad_history : Nat) (ad_firstImage : Nat) (ad_secondImage : Nat) (ad_seen : Nat) (ad_seen_days : Nat) (ad_seen_books : Nat) (ad_seen_there : Nat) (ad_ways : Nat) (v_traced : Int64) (v_told_size : Int32) (v_told_touches : Int32) (v_told_one : Int32) (v_seen_size : Int32) (a_seen_days : Nat → Int32) (a_seen_books : Nat → Int32) (a_seen_there : Nat → Int32) (p1 : Int32) (p2 : Int32) (p3 : Int32) (q0 : (Int32 × (Nat → Int32) × (Nat → Int32) × (Nat → Int32) × Int32)) (hf : fX7_saw v_told_size a_seen_days a_seen_books a_seen_there v_seen_size p1 p2 p3 = some q0) : Ki l yX7_saw wX7_saw rX7_saw (dC, dI) (vTy cI cJ cB cZ) [.ref ad0, .int p1, .int p2, .int p3] [(ad0, oX7 ad_text ad_draft ad_told ad_now ad_history ad_firstImage ad_secondImage ad_seen ad_ways v_traced), (ad_told, oX0 ad_told_a ad_told_b v_told_size v_told_touches v_told_one), (ad_seen, oX4 ad_seen_days ad_seen_books ad_seen_there v_seen_size), (ad_seen_days, .inl (cI, 6, .inl a_seen_days)), (ad_seen_books, .inl (cI, 6, .inl a_seen_books)), (ad_seen_there, .inl (cZ, 6, .inl a_seen_there))] [(ad0, oX7 ad_text ad_draft ad_told ad_now ad_history ad_firstImage ad_secondImage ad_seen ad_ways v_traced), (ad_told, oX0 ad_told_a ad_told_b v_told_size v_told_touches v_told_one), (ad_seen, oX4 ad_seen_days ad_seen_books ad_seen_there q0.2.2.2.2), (ad_seen_days, .inl (cI, 6, .inl q0.2.1)), (ad_seen_books, .inl (cI, 6, .inl q0.2.2.1)), (ad_seen_there, .inl (cZ, 6, .inl q0.2.2.2.1))] q0.1 := by
  refine Ki.mk (cc := cX7_saw) (maxL := 4) (ret := some .int) (by decide) (Nat.le_of_ble_eq_true rfl) ?_
  intro p e s m args below meth c A Q H locs C hQ hP hD hS ls hl
  obtain ⟨hx, hb, -, hml, hts, hown, -, hK, hN, hA⟩ := id C
  have hown : s.vm.findClass RX7 = some m.cls := hown
  have hl : lv_has ls 4 [(0, .ref ad0), (1, .int p1), (2, .int p2), (3, .int p3)] := hl
  unfold fX7_saw at hf
  refine lv_iload_n hx hb (dt uX7_saw 0 rfl) rfl (lv_at hl 1 rfl) ?_
  refine lv_iconst (v := (0 : Int32)) hx hb (dt uX7_saw 1 rfl) (by decide) ?_
  refine lv_bipush (v := (20 : Int32)) hx hb (dt uX7_saw 2 rfl) (by decide) ?_
  refine vk_z0 [] (va_runS (As := [.int p1, .int (0 : Int32), .int (20 : Int32)]) (rest := []) ⟨hx, hb, hml, hown, hts⟩ (kX7_within p1 (0 : Int32) (20 : Int32) _ rfl H.size) (vcwS hts tw_106 tw_43 tw_41 tw_42 hd_X7_within rfl rfl ⟨Nat.le_of_ble_eq_true rfl, Nat.le_of_ble_eq_true rfl⟩) (vpreS hK hN hP hD [] rfl (by decide)) rfl rfl hl.1 rfl (lv_room (Nat.le_of_ble_eq_true rfl)) (dt uX7_saw 3 rfl) ⟨Nat.zero_le _, Nat.zero_le _⟩) hA hP hD hS rfl (by decide) (fun hz_1 H locs hP hD hS => ?_)
  refine lv_if_eq (tgt := 27) hx hb (dt uX7_saw 4 rfl) (by decide) (fun c_2 => ?_) (fun c_2 => ?_)
  · have hf := vif_t c_2 hf
    refine lv_iconst (v := (-1 : Int32)) hx hb (dt uX7_saw 14 rfl) (by decide) ?_
    have hf := Option.some.inj hf
    subst hf
    rw [hQ]
    exact vret_i C hP hD hS (dt uX7_saw 15 rfl)
  · have hf := vif_f c_2 hf
    refine lv_aload_n hx hb (dt uX7_saw 5 rfl) rfl (lv_at hl 0 rfl) ?_
    refine lv_iload_n hx hb (dt uX7_saw 6 rfl) rfl (lv_at hl 2 rfl) ?_
    refine vk_z0 [0, 1] (va_runV (As := [.int p2]) (rest := []) ⟨hx, hb, hml, hown, hts⟩ (kX7_isBook ad0 ad_text ad_draft ad_told ad_told_a ad_told_b ad_now ad_history ad_firstImage ad_secondImage ad_seen ad_ways v_traced v_told_size v_told_touches v_told_one p2 _ rfl H.size) (vcwV hts tw_142 tw_143 tw_144 tw_41 tw_141 hd_X7_isBook rfl rfl ⟨Nat.le_of_ble_eq_true rfl, Nat.le_of_ble_eq_true rfl⟩) (vpreV hK hN hP hD [0, 1] rfl (by decide) (ci := 7) (q0 := 0) rfl rfl) rfl rfl hl.1 rfl (lv_room (Nat.le_of_ble_eq_true rfl)) (dt uX7_saw 7 rfl) ⟨Nat.zero_le _, Nat.zero_le _⟩) hA hP hD hS rfl (by decide) (fun hz_3 H locs hP hD hS => ?_)
    refine lv_if_eq (tgt := 27) hx hb (dt uX7_saw 8 rfl) (by decide) (fun c_4 => ?_) (fun c_4 => ?_)
    · have hf := vif_t c_4 hf
      refine lv_iconst (v := (-1 : Int32)) hx hb (dt uX7_saw 14 rfl) (by decide) ?_
      have hf := Option.some.inj hf
      subst hf
      rw [hQ]
      exact vret_i C hP hD hS (dt uX7_saw 15 rfl)
    · have hf := vif_f c_4 hf
      refine lv_iload_n hx hb (dt uX7_saw 9 rfl) rfl (lv_at hl 3 rfl) ?_
      refine lv_iconst (v := (0 : Int32)) hx hb (dt uX7_saw 10 rfl) (by decide) ?_
      refine lv_iconst (v := (1 : Int32)) hx hb (dt uX7_saw 11 rfl) (by decide) ?_
      refine vk_z0 [] (va_runS (As := [.int p3, .int (0 : Int32), .int (1 : Int32)]) (rest := []) ⟨hx, hb, hml, hown, hts⟩ (kX7_within p3 (0 : Int32) (1 : Int32) _ rfl H.size) (vcwS hts tw_106 tw_43 tw_41 tw_42 hd_X7_within rfl rfl ⟨Nat.le_of_ble_eq_true rfl, Nat.le_of_ble_eq_true rfl⟩) (vpreS hK hN hP hD [] rfl (by decide)) rfl rfl hl.1 rfl (lv_room (Nat.le_of_ble_eq_true rfl)) (dt uX7_saw 12 rfl) ⟨Nat.zero_le _, Nat.zero_le _⟩) hA hP hD hS rfl (by decide) (fun hz_5 H locs hP hD hS => ?_)
      refine lv_if_ne (tgt := 29) hx hb (dt uX7_saw 13 rfl) (by decide) (fun c_6 => ?_) (fun c_6 => ?_)
      · have hf := vif_f c_6 hf
        refine lv_aload_n hx hb (dt uX7_saw 16 rfl) rfl (lv_at hl 0 rfl) ?_
        refine va_get (D := (dC, dI)) (ci := 7) (v := .ref ad_seen) (C := RX7) (T := TX7) (N := 10) hx hb hts inU7 hown hK hP 0 rfl rfl 7 (by decide) (hts _ tw_129) (fun _ h9 => h9) rfl (dt uX7_saw 17 rfl) ?_
        refine lv_iload_n hx hb (dt uX7_saw 18 rfl) rfl (lv_at hl 1 rfl) ?_
        refine lv_iload_n hx hb (dt uX7_saw 19 rfl) rfl (lv_at hl 2 rfl) ?_
        refine lv_iload_n hx hb (dt uX7_saw 20 rfl) rfl (lv_at hl 3 rfl) ?_
        refine lv_iconst (v := (1 : Int32)) hx hb (dt uX7_saw 21 rfl) (by decide) ?_
        have hJ45 : ∀ (y3_7 : Int32) (H : Heap) (locs : List Loc) (ls : Array Slot), fX7_saw_J45 a_seen_days a_seen_books a_seen_there v_seen_size p1 p2 y3_7 = some q0 → va_P (dC, dI) vwCl [(ad0, oX7 ad_text ad_draft ad_told ad_now ad_history ad_firstImage ad_secondImage ad_seen ad_ways v_traced), (ad_told, oX0 ad_told_a ad_told_b v_told_size v_told_touches v_told_one), (ad_seen, oX4 ad_seen_days ad_seen_books ad_seen_there v_seen_size), (ad_seen_days, .inl (cI, 6, .inl a_seen_days)), (ad_seen_books, .inl (cI, 6, .inl a_seen_books)), (ad_seen_there, .inl (cZ, 6, .inl a_seen_there))] H → va_D A [(ad0, oX7 ad_text ad_draft ad_told ad_now ad_history ad_firstImage ad_secondImage ad_seen ad_ways v_traced), (ad_told, oX0 ad_told_a ad_told_b v_told_size v_told_touches v_told_one), (ad_seen, oX4 ad_seen_days ad_seen_books ad_seen_there v_seen_size), (ad_seen_days, .inl (cI, 6, .inl a_seen_days)), (ad_seen_books, .inl (cI, 6, .inl a_seen_books)), (ad_seen_there, .inl (cZ, 6, .inl a_seen_there))] → va_S A s.heap H locs → lv_has ls 4 [(0, .ref ad0)] → W p l e rX7_saw s m args below meth c H locs 0 0 Q (F0 m 45 ls [.int y3_7, .int p2, .int p1, .ref ad_seen]) := by
          intro y3_7 H locs ls hf hP hD hS hl
          unfold fX7_saw_J45 at hf
          obtain ⟨q_8, hq_9, hf⟩ := vbd hf
          refine vk_z [2, 3, 4, 5] (ws2 := [(ad0, oX7 ad_text ad_draft ad_told ad_now ad_history ad_firstImage ad_secondImage ad_seen ad_ways v_traced), (ad_told, oX0 ad_told_a ad_told_b v_told_size v_told_touches v_told_one), (ad_seen, oX4 ad_seen_days ad_seen_books ad_seen_there q_8.2.2.2.2), (ad_seen_days, .inl (cI, 6, .inl q_8.2.1)), (ad_seen_books, .inl (cI, 6, .inl q_8.2.2.1)), (ad_seen_there, .inl (cZ, 6, .inl q_8.2.2.2.1))]) (va_runVN (As := [.int p1, .int p2, .int y3_7]) (rest := []) ⟨hx, hb, hml, hown, hts⟩ (kX4_append ad_seen ad_seen_days ad_seen_books ad_seen_there v_seen_size a_seen_days a_seen_books a_seen_there p1 p2 y3_7 q_8 hq_9 H.size) (vcwVN hts (nm_54 hN) tw_272 tw_273 tw_270 tw_271 hd_X4_append rfl rfl ⟨Nat.le_of_ble_eq_true rfl, Nat.le_of_ble_eq_true rfl⟩) (vpreV hK hN hP hD [2, 3, 4, 5] rfl (by decide) (ci := 4) (q0 := 2) rfl rfl) rfl rfl hl.1 rfl (lv_room (Nat.le_of_ble_eq_true rfl)) (dt uX7_saw 26 rfl) ⟨Nat.zero_le _, Nat.zero_le _⟩) hA hP hD hS rfl (by decide) rfl rfl (fun hz_10 H locs hP hD hS => ?_)
          refine lv_if_eq (tgt := 61) hx hb (dt uX7_saw 27 rfl) (by decide) (fun c_11 => ?_) (fun c_11 => ?_)
          · have hf := vif_t c_11 hf
            refine lv_bipush (v := (-3 : Int32)) hx hb (dt uX7_saw 32 rfl) (by decide) ?_
            have hf := Option.some.inj hf
            subst hf
            rw [hQ]
            exact vret_i C hP hD hS (dt uX7_saw 33 rfl)
          · have hf := vif_f c_11 hf
            refine lv_aload_n hx hb (dt uX7_saw 28 rfl) rfl (lv_at hl 0 rfl) ?_
            refine va_get (D := (dC, dI)) (ci := 7) (v := .ref ad_seen) (C := RX7) (T := TX7) (N := 10) hx hb hts inU7 hown hK hP 0 rfl rfl 7 (by decide) (hts _ tw_129) (fun _ h9 => h9) rfl (dt uX7_saw 29 rfl) ?_
            refine va_getN (D := (dC, dI)) (ci := 4) (v := .int q_8.2.2.2.2) (C := RX4) (T := TX4) (N := 4) hx hb hts inU4 hown hK hP 2 rfl rfl 3 (by decide) (nw_27 hN) (fun _ h9 => h9) rfl (dt uX7_saw 30 rfl) ?_
            refine lv_goto (tgt := 63) hx hb (dt uX7_saw 31 rfl) (by decide) ?_
            have hf := Option.some.inj hf
            subst hf
            rw [hQ]
            exact vret_i C hP hD hS (dt uX7_saw 33 rfl)
        refine lv_icmp_ne (tgt := 44) hx hb (dt uX7_saw 22 rfl) (by decide) (fun c_12 => ?_) (fun c_12 => ?_)
        · have hf := vif_f c_12 hf
          refine lv_iconst (v := (0 : Int32)) hx hb (dt uX7_saw 25 rfl) (by decide) ?_
          exact hJ45 (0 : Int32) _ _ _ hf hP hD hS (lv_sub hl [0] rfl)
        · have hf := vif_t c_12 hf
          refine lv_iconst (v := (1 : Int32)) hx hb (dt uX7_saw 23 rfl) (by decide) ?_
          refine lv_goto (tgt := 45) hx hb (dt uX7_saw 24 rfl) (by decide) ?_
          exact hJ45 (1 : Int32) _ _ _ hf hP hD hS (lv_sub hl [0] rfl)
      · have hf := vif_t c_6 hf
        refine lv_iconst (v := (-1 : Int32)) hx hb (dt uX7_saw 14 rfl) (by decide) ?_
        have hf := Option.some.inj hf
        subst hf
        rw [hQ]
        exact vret_i C hP hD hS (dt uX7_saw 15 rfl)
abbrev rX7_forget : Room := { frames := 0, cells := 0, slots := 0, locals := 0 }
abbrev wX7_forget : List Cond := Cond.code yX7_forget cX7_forget 2 (some .int) :: VT
set_option maxHeartbeats 4000000 in
set_option maxRecDepth 100000 in
theorem kX7_forget (ad0 : Nat) (ad_text : Nat) (ad_draft : Nat) (ad_told : Nat) (ad_now : Nat) (ad_history : Nat) (ad_firstImage : Nat) (ad_secondImage : Nat) (ad_seen : Nat) (ad_seen_days : Nat) (ad_seen_books : Nat) (ad_seen_there : Nat) (ad_ways : Nat) (v_traced : Int64) (v_seen_size : Int32) (q0 : (Int32 × Int32)) (hf : fX7_forget v_seen_size = q0) : Ki l yX7_forget wX7_forget rX7_forget (dC, dI) (vTy cI cJ cB cZ) [.ref ad0] [(ad0, oX7 ad_text ad_draft ad_told ad_now ad_history ad_firstImage ad_secondImage ad_seen ad_ways v_traced), (ad_seen, oX4 ad_seen_days ad_seen_books ad_seen_there v_seen_size)] [(ad0, oX7 ad_text ad_draft ad_told ad_now ad_history ad_firstImage ad_secondImage ad_seen ad_ways v_traced), (ad_seen, oX4 ad_seen_days ad_seen_books ad_seen_there q0.2)] q0.1 := by
  refine Ki.mk (cc := cX7_forget) (maxL := 2) (ret := some .int) (by decide) (Nat.le_of_ble_eq_true rfl) ?_
  intro p e s m args below meth c A Q H locs C hQ hP hD hS ls hl
  obtain ⟨hx, hb, -, hml, hts, hown, -, hK, hN, hA⟩ := id C
  have hown : s.vm.findClass RX7 = some m.cls := hown
  have hl : lv_has ls 2 [(0, .ref ad0)] := hl
  unfold fX7_forget at hf
  refine lv_aload_n hx hb (dt uX7_forget 0 rfl) rfl (lv_at hl 0 rfl) ?_
  refine va_get (D := (dC, dI)) (ci := 7) (v := .ref ad_seen) (C := RX7) (T := TX7) (N := 10) hx hb hts inU7 hown hK hP 0 rfl rfl 7 (by decide) (hts _ tw_129) (fun _ h9 => h9) rfl (dt uX7_forget 1 rfl) ?_
  refine va_getN (D := (dC, dI)) (ci := 4) (v := .int v_seen_size) (C := RX4) (T := TX4) (N := 4) hx hb hts inU4 hown hK hP 1 rfl rfl 3 (by decide) (nw_27 hN) (fun _ h9 => h9) rfl (dt uX7_forget 2 rfl) ?_
  refine lv_istore_n (lv' := [(1, .int v_seen_size), (0, .ref ad0)]) hx hb (dt uX7_forget 3 rfl) rfl hl (by decide) rfl (fun ls hl => ?_)
  refine lv_aload_n hx hb (dt uX7_forget 4 rfl) rfl (lv_at hl 1 rfl) ?_
  refine va_get (D := (dC, dI)) (ci := 7) (v := .ref ad_seen) (C := RX7) (T := TX7) (N := 10) hx hb hts inU7 hown hK hP 0 rfl rfl 7 (by decide) (hts _ tw_129) (fun _ h9 => h9) rfl (dt uX7_forget 5 rfl) ?_
  refine lv_iconst (v := (0 : Int32)) hx hb (dt uX7_forget 6 rfl) (by decide) ?_
  refine va_putN (D := (dC, dI)) (ci := 4) (v := .int (0 : Int32)) (ty := .int) (C := RX4) (T := TX4) (N := 4) hx hb hts inU4 tyX4 tyX4_ok nmX4 hown hK hP hD hS 1 rfl rfl 3 (by decide) (nw_27 hN) (fun _ h9 => h9) rfl (by decide +kernel) rfl rfl (Nat.le_of_ble_eq_true rfl) (dt uX7_forget 7 rfl) (fun H locs hP hD hS => ?_)
  have hP : va_P (dC, dI) vwCl [(ad0, oX7 ad_text ad_draft ad_told ad_now ad_history ad_firstImage ad_secondImage ad_seen ad_ways v_traced), (ad_seen, oX4 ad_seen_days ad_seen_books ad_seen_there (0 : Int32))] H := hP
  have hD : va_D A [(ad0, oX7 ad_text ad_draft ad_told ad_now ad_history ad_firstImage ad_secondImage ad_seen ad_ways v_traced), (ad_seen, oX4 ad_seen_days ad_seen_books ad_seen_there (0 : Int32))] := hD
  refine lv_iload_n hx hb (dt uX7_forget 8 rfl) rfl (lv_at hl 0 rfl) ?_
  subst hf
  rw [hQ]
  exact vret_i C hP hD hS (dt uX7_forget 9 rfl)
abbrev rX7_fitsFrom : Room := { frames := 3, cells := 0, slots := 0, locals := 72 }
abbrev wX7_fitsFrom : List Cond := Cond.code yX7_fitsFrom cX7_fitsFrom 4 (some .boolean) :: VT
set_option maxHeartbeats 4000000 in
set_option maxRecDepth 100000 in
theorem kX7_fitsFrom (ad0 : Nat) (ad_text : Nat) (ad_draft : Nat) (ad_told : Nat) (ad_now : Nat) (ad_history : Nat) (ad_firstImage : Nat) (ad_secondImage : Nat) (ad_seen : Nat) (ad_seen_days : Nat) (ad_seen_books : Nat) (ad_seen_there : Nat) (ad_ways : Nat) (ad_ways_ranked : Nat) (ad_ways_tens : Nat) (v_traced : Int64) (v_now_forgotten : Int32) (v_now_touches : Int32) (v_now_trapped : Int32) (v_now_one : Int32) (v_now_date : Int32) (v_seen_size : Int32) (a_seen_days : Nat → Int32) (a_seen_books : Nat → Int32) (a_seen_there : Nat → Int32) (v_ways_size : Int32) (v_ways_trapped : Int32) (a_ways_ranked : Nat → Int32) (p1 : Int32) (N : Nat) (q0 : Int32) (hf : fX7_fitsFrom N v_now_touches a_seen_days a_seen_books a_seen_there v_seen_size a_ways_ranked v_ways_size v_ways_trapped p1 = some q0) : Kz l yX7_fitsFrom wX7_fitsFrom rX7_fitsFrom (dC, dI) (vTy cI cJ cB cZ) [.ref ad0, .int p1] [(ad0, oX7 ad_text ad_draft ad_told ad_now ad_history ad_firstImage ad_secondImage ad_seen ad_ways v_traced), (ad_now, oX3 v_now_forgotten v_now_touches v_now_trapped v_now_one v_now_date), (ad_seen, oX4 ad_seen_days ad_seen_books ad_seen_there v_seen_size), (ad_seen_days, .inl (cI, 6, .inl a_seen_days)), (ad_seen_books, .inl (cI, 6, .inl a_seen_books)), (ad_seen_there, .inl (cZ, 6, .inl a_seen_there)), (ad_ways, oX6 ad_ways_ranked ad_ways_tens v_ways_size v_ways_trapped), (ad_ways_ranked, .inl (cI, 6, .inl a_ways_ranked))] [(ad0, oX7 ad_text ad_draft ad_told ad_now ad_history ad_firstImage ad_secondImage ad_seen ad_ways v_traced), (ad_now, oX3 v_now_forgotten v_now_touches v_now_trapped v_now_one v_now_date), (ad_seen, oX4 ad_seen_days ad_seen_books ad_seen_there v_seen_size), (ad_seen_days, .inl (cI, 6, .inl a_seen_days)), (ad_seen_books, .inl (cI, 6, .inl a_seen_books)), (ad_seen_there, .inl (cZ, 6, .inl a_seen_there)), (ad_ways, oX6 ad_ways_ranked ad_ways_tens v_ways_size v_ways_trapped), (ad_ways_ranked, .inl (cI, 6, .inl a_ways_ranked))] q0 := by
  refine Kz.mk (cc := cX7_fitsFrom) (maxL := 4) (ret := some .boolean) (by decide) (Nat.le_of_ble_eq_true rfl) ?_
  intro p e s m args below meth c A Q H locs C hQ hP hD hS ls hl
  obtain ⟨hx, hb, -, hml, hts, hown, -, hK, hN, hA⟩ := id C
  have hown : s.vm.findClass RX7 = some m.cls := hown
  have hl : lv_has ls 4 [(0, .ref ad0), (1, .int p1)] := hl
  unfold fX7_fitsFrom at hf
  refine lv_iconst (v := (0 : Int32)) hx hb (dt uX7_fitsFrom 0 rfl) (by decide) ?_
  refine lv_istore_n (lv' := [(2, .int (0 : Int32)), (0, .ref ad0), (1, .int p1)]) hx hb (dt uX7_fitsFrom 1 rfl) rfl hl (by decide) rfl (fun ls hl => ?_)
  have hL2 : ∀ (n2 : Nat), ∀ (x2_1 : Int32) (H : Heap) (locs : List Loc) (ls : Array Slot), fX7_fitsFrom_L2 N v_now_touches a_seen_days a_seen_books a_seen_there v_seen_size a_ways_ranked v_ways_size v_ways_trapped p1 n2 x2_1 = some q0 → va_P (dC, dI) vwCl [(ad0, oX7 ad_text ad_draft ad_told ad_now ad_history ad_firstImage ad_secondImage ad_seen ad_ways v_traced), (ad_now, oX3 v_now_forgotten v_now_touches v_now_trapped v_now_one v_now_date), (ad_seen, oX4 ad_seen_days ad_seen_books ad_seen_there v_seen_size), (ad_seen_days, .inl (cI, 6, .inl a_seen_days)), (ad_seen_books, .inl (cI, 6, .inl a_seen_books)), (ad_seen_there, .inl (cZ, 6, .inl a_seen_there)), (ad_ways, oX6 ad_ways_ranked ad_ways_tens v_ways_size v_ways_trapped), (ad_ways_ranked, .inl (cI, 6, .inl a_ways_ranked))] H → va_D A [(ad0, oX7 ad_text ad_draft ad_told ad_now ad_history ad_firstImage ad_secondImage ad_seen ad_ways v_traced), (ad_now, oX3 v_now_forgotten v_now_touches v_now_trapped v_now_one v_now_date), (ad_seen, oX4 ad_seen_days ad_seen_books ad_seen_there v_seen_size), (ad_seen_days, .inl (cI, 6, .inl a_seen_days)), (ad_seen_books, .inl (cI, 6, .inl a_seen_books)), (ad_seen_there, .inl (cZ, 6, .inl a_seen_there)), (ad_ways, oX6 ad_ways_ranked ad_ways_tens v_ways_size v_ways_trapped), (ad_ways_ranked, .inl (cI, 6, .inl a_ways_ranked))] → va_S A s.heap H locs → lv_has ls 4 [(0, .ref ad0), (1, .int p1), (2, .int x2_1)] → W p l e rX7_fitsFrom s m args below meth c H locs 0 0 Q (F0 m 2 ls []) := by
    intro n2
    induction n2 with
    | zero => intro x2_1 H locs ls hf hP hD hS hl; cases hf
    | succ n2 ih2 =>
      intro x2_1 H locs ls hf hP hD hS hl
      rw [fX7_fitsFrom_L2] at hf
      refine lv_iload_n hx hb (dt uX7_fitsFrom 2 rfl) rfl (lv_at hl 2 rfl) ?_
      refine lv_aload_n hx hb (dt uX7_fitsFrom 3 rfl) rfl (lv_at hl 0 rfl) ?_
      refine va_get (D := (dC, dI)) (ci := 7) (v := .ref ad_seen) (C := RX7) (T := TX7) (N := 10) hx hb hts inU7 hown hK hP 0 rfl rfl 7 (by decide) (hts _ tw_129) (fun _ h9 => h9) rfl (dt uX7_fitsFrom 4 rfl) ?_
      refine va_getN (D := (dC, dI)) (ci := 4) (v := .int v_seen_size) (C := RX4) (T := TX4) (N := 4) hx hb hts inU4 hown hK hP 2 rfl rfl 3 (by decide) (nw_27 hN) (fun _ h9 => h9) rfl (dt uX7_fitsFrom 5 rfl) ?_
      refine lv_icmp_ge (tgt := 76) hx hb (dt uX7_fitsFrom 6 rfl) (by decide) (fun c_2 => ?_) (fun c_2 => ?_)
      · have hf := vif_t c_2 hf
        refine lv_iconst (v := (1 : Int32)) hx hb (dt uX7_fitsFrom 40 rfl) (by decide) ?_
        have hf := Option.some.inj hf
        subst hf
        rw [hQ]
        exact vret_z C hP hD hS (dt uX7_fitsFrom 41 rfl) (Or.inr rfl)
      · have hf := vif_f c_2 hf
        refine lv_aload_n hx hb (dt uX7_fitsFrom 7 rfl) rfl (lv_at hl 0 rfl) ?_
        refine va_get (D := (dC, dI)) (ci := 7) (v := .ref ad_ways) (C := RX7) (T := TX7) (N := 10) hx hb hts inU7 hown hK hP 0 rfl rfl 8 (by decide) (hts _ tw_173) (fun _ h9 => h9) rfl (dt uX7_fitsFrom 8 rfl) ?_
        refine lv_iload_n hx hb (dt uX7_fitsFrom 9 rfl) rfl (lv_at hl 1 rfl) ?_
        refine lv_aload_n hx hb (dt uX7_fitsFrom 10 rfl) rfl (lv_at hl 0 rfl) ?_
        refine va_get (D := (dC, dI)) (ci := 7) (v := .ref ad_seen) (C := RX7) (T := TX7) (N := 10) hx hb hts inU7 hown hK hP 0 rfl rfl 7 (by decide) (hts _ tw_129) (fun _ h9 => h9) rfl (dt uX7_fitsFrom 11 rfl) ?_
        refine va_getN (D := (dC, dI)) (ci := 4) (v := .ref ad_seen_days) (C := RX4) (T := TX4) (N := 4) hx hb hts inU4 hown hK hP 2 rfl rfl 0 (by decide) (nw_24 hN) (fun _ h9 => h9) rfl (dt uX7_fitsFrom 12 rfl) ?_
        refine lv_iload_n hx hb (dt uX7_fitsFrom 13 rfl) rfl (lv_at hl 2 rfl) ?_
        obtain ⟨hi_3, hf⟩ := vg_some hf
        refine va_iald hx hb hK hP 3 0 rfl rfl hi_3 (dt uX7_fitsFrom 14 rfl) ?_
        refine lv_aload_n hx hb (dt uX7_fitsFrom 15 rfl) rfl (lv_at hl 0 rfl) ?_
        refine va_get (D := (dC, dI)) (ci := 7) (v := .ref ad_now) (C := RX7) (T := TX7) (N := 10) hx hb hts inU7 hown hK hP 0 rfl rfl 3 (by decide) (hts _ tw_122) (fun _ h9 => h9) rfl (dt uX7_fitsFrom 16 rfl) ?_
        refine va_getN (D := (dC, dI)) (ci := 3) (v := .int v_now_touches) (C := RX3) (T := TX3) (N := 5) hx hb hts inU3 hown hK hP 1 rfl rfl 1 (by decide) (nw_14 hN) (fun _ h9 => h9) rfl (dt uX7_fitsFrom 17 rfl) ?_
        obtain ⟨q_4, hq_5, hf⟩ := vbd hf
        refine vk_i0 [6, 7] (va_runVN (As := [.int p1, .int (a_seen_days x2_1.toNatClampNeg), .int v_now_touches]) (rest := []) ⟨hx, hb, hml, hown, hts⟩ (kX6_walk ad_ways ad_ways_ranked ad_ways_tens v_ways_size v_ways_trapped a_ways_ranked p1 (a_seen_days x2_1.toNatClampNeg) v_now_touches N q_4 hq_5 H.size) (vcwVN hts (nm_50 hN) tw_104 tw_105 tw_97 tw_102 hd_X6_walk rfl rfl ⟨Nat.le_of_ble_eq_true rfl, Nat.le_of_ble_eq_true rfl⟩) (vpreV hK hN hP hD [6, 7] rfl (by decide) (ci := 6) (q0 := 6) rfl rfl) rfl rfl hl.1 rfl (lv_room (Nat.le_of_ble_eq_true rfl)) (dt uX7_fitsFrom 18 rfl) ⟨Nat.zero_le _, Nat.zero_le _⟩) hA hP hD hS rfl (by decide) (fun H locs hP hD hS => ?_)
        refine lv_istore_n (lv' := [(3, .int q_4), (0, .ref ad0), (1, .int p1), (2, .int x2_1)]) hx hb (dt uX7_fitsFrom 19 rfl) rfl hl (by decide) rfl (fun ls hl => ?_)
        refine lv_iload_n hx hb (dt uX7_fitsFrom 20 rfl) rfl (lv_at hl 0 rfl) ?_
        refine lv_aload_n hx hb (dt uX7_fitsFrom 21 rfl) rfl (lv_at hl 1 rfl) ?_
        refine va_get (D := (dC, dI)) (ci := 7) (v := .ref ad_seen) (C := RX7) (T := TX7) (N := 10) hx hb hts inU7 hown hK hP 0 rfl rfl 7 (by decide) (hts _ tw_129) (fun _ h9 => h9) rfl (dt uX7_fitsFrom 22 rfl) ?_
        refine va_getN (D := (dC, dI)) (ci := 4) (v := .ref ad_seen_books) (C := RX4) (T := TX4) (N := 4) hx hb hts inU4 hown hK hP 2 rfl rfl 1 (by decide) (nw_25 hN) (fun _ h9 => h9) rfl (dt uX7_fitsFrom 23 rfl) ?_
        refine lv_iload_n hx hb (dt uX7_fitsFrom 24 rfl) rfl (lv_at hl 3 rfl) ?_
        obtain ⟨hi_6, hf⟩ := vg_some hf
        refine va_iald hx hb hK hP 4 0 rfl rfl hi_6 (dt uX7_fitsFrom 25 rfl) ?_
        have hJ56 : ∀ (y0_7 : Int32) (H : Heap) (locs : List Loc) (ls : Array Slot), fX7_fitsFrom_J56 a_seen_there x2_1 (fun z2_0 => fX7_fitsFrom_L2 N v_now_touches a_seen_days a_seen_books a_seen_there v_seen_size a_ways_ranked v_ways_size v_ways_trapped p1 n2 z2_0) y0_7 = some q0 → va_P (dC, dI) vwCl [(ad0, oX7 ad_text ad_draft ad_told ad_now ad_history ad_firstImage ad_secondImage ad_seen ad_ways v_traced), (ad_now, oX3 v_now_forgotten v_now_touches v_now_trapped v_now_one v_now_date), (ad_seen, oX4 ad_seen_days ad_seen_books ad_seen_there v_seen_size), (ad_seen_days, .inl (cI, 6, .inl a_seen_days)), (ad_seen_books, .inl (cI, 6, .inl a_seen_books)), (ad_seen_there, .inl (cZ, 6, .inl a_seen_there)), (ad_ways, oX6 ad_ways_ranked ad_ways_tens v_ways_size v_ways_trapped), (ad_ways_ranked, .inl (cI, 6, .inl a_ways_ranked))] H → va_D A [(ad0, oX7 ad_text ad_draft ad_told ad_now ad_history ad_firstImage ad_secondImage ad_seen ad_ways v_traced), (ad_now, oX3 v_now_forgotten v_now_touches v_now_trapped v_now_one v_now_date), (ad_seen, oX4 ad_seen_days ad_seen_books ad_seen_there v_seen_size), (ad_seen_days, .inl (cI, 6, .inl a_seen_days)), (ad_seen_books, .inl (cI, 6, .inl a_seen_books)), (ad_seen_there, .inl (cZ, 6, .inl a_seen_there)), (ad_ways, oX6 ad_ways_ranked ad_ways_tens v_ways_size v_ways_trapped), (ad_ways_ranked, .inl (cI, 6, .inl a_ways_ranked))] → va_S A s.heap H locs → lv_has ls 4 [(0, .ref ad0), (1, .int p1), (2, .int x2_1)] → W p l e rX7_fitsFrom s m args below meth c H locs 0 0 Q (F0 m 56 ls [.int y0_7]) := by
          intro y0_7 H locs ls hf hP hD hS hl
          unfold fX7_fitsFrom_J56 at hf
          refine lv_aload_n hx hb (dt uX7_fitsFrom 30 rfl) rfl (lv_at hl 0 rfl) ?_
          refine va_get (D := (dC, dI)) (ci := 7) (v := .ref ad_seen) (C := RX7) (T := TX7) (N := 10) hx hb hts inU7 hown hK hP 0 rfl rfl 7 (by decide) (hts _ tw_129) (fun _ h9 => h9) rfl (dt uX7_fitsFrom 31 rfl) ?_
          refine va_getN (D := (dC, dI)) (ci := 4) (v := .ref ad_seen_there) (C := RX4) (T := TX4) (N := 4) hx hb hts inU4 hown hK hP 2 rfl rfl 2 (by decide) (nw_26 hN) (fun _ h9 => h9) rfl (dt uX7_fitsFrom 32 rfl) ?_
          refine lv_iload_n hx hb (dt uX7_fitsFrom 33 rfl) rfl (lv_at hl 2 rfl) ?_
          obtain ⟨hi_8, hf⟩ := vg_some hf
          refine va_zald hx hb hK hP 5 3 rfl rfl hi_8 (dt uX7_fitsFrom 34 rfl) ?_
          refine lv_icmp_eq (tgt := 70) hx hb (dt uX7_fitsFrom 35 rfl) (by decide) (fun c_9 => ?_) (fun c_9 => ?_)
          · have hf := vif_t c_9 hf
            refine lv_iinc (v := x2_1 + 1) (lv' := [(2, .int (x2_1 + 1)), (0, .ref ad0), (1, .int p1)]) hx hb (dt uX7_fitsFrom 38 rfl) hl (k := 2) rfl rfl (by decide) rfl (fun ls hl => ?_)
            refine lv_goto (tgt := 2) hx hb (dt uX7_fitsFrom 39 rfl) (by decide) ?_
            exact ih2 (x2_1 + 1) _ _ _ hf hP hD hS (lv_sub hl [1, 2, 0] rfl)
          · have hf := vif_f c_9 hf
            refine lv_iconst (v := (0 : Int32)) hx hb (dt uX7_fitsFrom 36 rfl) (by decide) ?_
            have hf := Option.some.inj hf
            subst hf
            rw [hQ]
            exact vret_z C hP hD hS (dt uX7_fitsFrom 37 rfl) (Or.inl rfl)
        refine lv_icmp_ne (tgt := 55) hx hb (dt uX7_fitsFrom 26 rfl) (by decide) (fun c_10 => ?_) (fun c_10 => ?_)
        · have hf := vif_f c_10 hf
          refine lv_iconst (v := (0 : Int32)) hx hb (dt uX7_fitsFrom 29 rfl) (by decide) ?_
          exact hJ56 (0 : Int32) _ _ _ hf hP hD hS (lv_sub hl [1, 2, 3] rfl)
        · have hf := vif_t c_10 hf
          refine lv_iconst (v := (1 : Int32)) hx hb (dt uX7_fitsFrom 27 rfl) (by decide) ?_
          refine lv_goto (tgt := 56) hx hb (dt uX7_fitsFrom 28 rfl) (by decide) ?_
          exact hJ56 (1 : Int32) _ _ _ hf hP hD hS (lv_sub hl [1, 2, 3] rfl)
  exact hL2 N (0 : Int32) _ _ _ hf hP hD hS (lv_sub hl [1, 2, 0] rfl)
abbrev rX7_fits : Room := { frames := 4, cells := 0, slots := 0, locals := 95 }
abbrev wX7_fits : List Cond := Cond.code yX7_fits cX7_fits 3 (some .int) :: VT
set_option maxHeartbeats 4000000 in
set_option maxRecDepth 100000 in
theorem kX7_fits (ad0 : Nat) (ad_text : Nat) (ad_draft : Nat) (ad_told : Nat) (ad_told_a : Nat) (ad_told_b : Nat) (ad_now : Nat) (ad_history : Nat) (ad_firstImage : Nat) (ad_secondImage : Nat) (ad_seen : Nat) (ad_seen_days : Nat) (ad_seen_books : Nat) (ad_seen_there : Nat) (ad_ways : Nat) (ad_ways_ranked : Nat) (ad_ways_tens : Nat) (v_traced : Int64) (v_told_size : Int32) (v_told_touches : Int32) (v_told_one : Int32) (a_told_a : Nat → Int32) (a_told_b : Nat → Int32) (v_now_forgotten : Int32) (v_now_touches : Int32) (v_now_trapped : Int32) (v_now_one : Int32) (v_now_date : Int32) (v_seen_size : Int32) (a_seen_days : Nat → Int32) (a_seen_books : Nat → Int32) (a_seen_there : Nat → Int32) (v_ways_size : Int32) (v_ways_trapped : Int32) (a_ways_ranked : Nat → Int32) (a_ways_tens : Nat → Int32) (N : Nat) (q0 : (Int32 × (Nat → Int32) × (Nat → Int32) × Int32 × Int32)) (hf : fX7_fits N a_told_a a_told_b v_told_size v_now_forgotten v_now_touches v_now_trapped a_seen_days a_seen_books a_seen_there v_seen_size a_ways_ranked a_ways_tens v_ways_size v_ways_trapped = some q0) : Ki l yX7_fits wX7_fits rX7_fits (dC, dI) (vTy cI cJ cB cZ) [.ref ad0] [(ad0, oX7 ad_text ad_draft ad_told ad_now ad_history ad_firstImage ad_secondImage ad_seen ad_ways v_traced), (ad_told, oX0 ad_told_a ad_told_b v_told_size v_told_touches v_told_one), (ad_told_a, .inl (cI, 6, .inl a_told_a)), (ad_told_b, .inl (cI, 6, .inl a_told_b)), (ad_now, oX3 v_now_forgotten v_now_touches v_now_trapped v_now_one v_now_date), (ad_seen, oX4 ad_seen_days ad_seen_books ad_seen_there v_seen_size), (ad_seen_days, .inl (cI, 6, .inl a_seen_days)), (ad_seen_books, .inl (cI, 6, .inl a_seen_books)), (ad_seen_there, .inl (cZ, 6, .inl a_seen_there)), (ad_ways, oX6 ad_ways_ranked ad_ways_tens v_ways_size v_ways_trapped), (ad_ways_ranked, .inl (cI, 6, .inl a_ways_ranked)), (ad_ways_tens, .inl (cI, 6, .inl a_ways_tens))] [(ad0, oX7 ad_text ad_draft ad_told ad_now ad_history ad_firstImage ad_secondImage ad_seen ad_ways v_traced), (ad_told, oX0 ad_told_a ad_told_b v_told_size v_told_touches v_told_one), (ad_told_a, .inl (cI, 6, .inl a_told_a)), (ad_told_b, .inl (cI, 6, .inl a_told_b)), (ad_now, oX3 v_now_forgotten v_now_touches v_now_trapped v_now_one v_now_date), (ad_seen, oX4 ad_seen_days ad_seen_books ad_seen_there v_seen_size), (ad_seen_days, .inl (cI, 6, .inl a_seen_days)), (ad_seen_books, .inl (cI, 6, .inl a_seen_books)), (ad_seen_there, .inl (cZ, 6, .inl a_seen_there)), (ad_ways, oX6 ad_ways_ranked ad_ways_tens q0.2.2.2.1 q0.2.2.2.2), (ad_ways_ranked, .inl (cI, 6, .inl q0.2.1)), (ad_ways_tens, .inl (cI, 6, .inl q0.2.2.1))] q0.1 := by
  refine Ki.mk (cc := cX7_fits) (maxL := 3) (ret := some .int) (by decide) (Nat.le_of_ble_eq_true rfl) ?_
  intro p e s m args below meth c A Q H locs C hQ hP hD hS ls hl
  obtain ⟨hx, hb, -, hml, hts, hown, -, hK, hN, hA⟩ := id C
  have hown : s.vm.findClass RX7 = some m.cls := hown
  have hl : lv_has ls 3 [(0, .ref ad0)] := hl
  unfold fX7_fits at hf
  refine lv_aload_n hx hb (dt uX7_fits 0 rfl) rfl (lv_at hl 0 rfl) ?_
  obtain ⟨q_1, hq_2, hf⟩ := vbd hf
  refine vk_r [0, 1, 2, 3, 4, 9, 10, 11] (ws2 := [(ad0, oX7 ad_text ad_draft ad_told ad_now ad_history ad_firstImage ad_secondImage ad_seen ad_ways v_traced), (ad_told, oX0 ad_told_a ad_told_b v_told_size v_told_touches v_told_one), (ad_told_a, .inl (cI, 6, .inl a_told_a)), (ad_told_b, .inl (cI, 6, .inl a_told_b)), (ad_now, oX3 v_now_forgotten v_now_touches v_now_trapped v_now_one v_now_date), (ad_seen, oX4 ad_seen_days ad_seen_books ad_seen_there v_seen_size), (ad_seen_days, .inl (cI, 6, .inl a_seen_days)), (ad_seen_books, .inl (cI, 6, .inl a_seen_books)), (ad_seen_there, .inl (cZ, 6, .inl a_seen_there)), (ad_ways, oX6 ad_ways_ranked ad_ways_tens q_1.2.2.1 q_1.2.2.2), (ad_ways_ranked, .inl (cI, 6, .inl q_1.1)), (ad_ways_tens, .inl (cI, 6, .inl q_1.2.1))]) (va_runV (As := []) (rest := []) ⟨hx, hb, hml, hown, hts⟩ (kX7_waysNow ad0 ad_text ad_draft ad_told ad_told_a ad_told_b ad_now ad_history ad_firstImage ad_secondImage ad_seen ad_ways ad_ways_ranked ad_ways_tens v_traced v_told_size v_told_touches v_told_one a_told_a a_told_b v_now_forgotten v_now_touches v_now_trapped v_now_one v_now_date v_ways_size v_ways_trapped a_ways_ranked a_ways_tens N q_1 hq_2 H.size) (vcwV hts tw_185 tw_186 tw_187 tw_41 tw_184 hd_X7_waysNow rfl rfl ⟨Nat.le_of_ble_eq_true rfl, Nat.le_of_ble_eq_true rfl⟩) (vpreV hK hN hP hD [0, 1, 2, 3, 4, 9, 10, 11] rfl (by decide) (ci := 7) (q0 := 0) rfl rfl) rfl rfl hl.1 rfl (lv_room (Nat.le_of_ble_eq_true rfl)) (dt uX7_fits 1 rfl) ⟨Nat.zero_le _, Nat.zero_le _⟩) hA hP hD hS rfl (by decide) rfl rfl (fun H locs hP hD hS => ?_)
  refine lv_pop hx hb (dt uX7_fits 2 rfl) rfl ?_
  refine lv_iconst (v := (0 : Int32)) hx hb (dt uX7_fits 3 rfl) (by decide) ?_
  refine lv_istore_n (lv' := [(1, .int (0 : Int32)), (0, .ref ad0)]) hx hb (dt uX7_fits 4 rfl) rfl hl (by decide) rfl (fun ls hl => ?_)
  refine lv_iconst (v := (0 : Int32)) hx hb (dt uX7_fits 5 rfl) (by decide) ?_
  refine lv_istore_n (lv' := [(2, .int (0 : Int32)), (1, .int (0 : Int32)), (0, .ref ad0)]) hx hb (dt uX7_fits 6 rfl) rfl hl (by decide) rfl (fun ls hl => ?_)
  have hL9 : ∀ (n9 : Nat), ∀ (x1_3 : Int32) (x2_4 : Int32) (H : Heap) (locs : List Loc) (ls : Array Slot), fX7_fits_L9 N v_told_size v_now_touches a_seen_days a_seen_books a_seen_there v_seen_size q_1 n9 x1_3 x2_4 = some q0 → va_P (dC, dI) vwCl [(ad0, oX7 ad_text ad_draft ad_told ad_now ad_history ad_firstImage ad_secondImage ad_seen ad_ways v_traced), (ad_told, oX0 ad_told_a ad_told_b v_told_size v_told_touches v_told_one), (ad_told_a, .inl (cI, 6, .inl a_told_a)), (ad_told_b, .inl (cI, 6, .inl a_told_b)), (ad_now, oX3 v_now_forgotten v_now_touches v_now_trapped v_now_one v_now_date), (ad_seen, oX4 ad_seen_days ad_seen_books ad_seen_there v_seen_size), (ad_seen_days, .inl (cI, 6, .inl a_seen_days)), (ad_seen_books, .inl (cI, 6, .inl a_seen_books)), (ad_seen_there, .inl (cZ, 6, .inl a_seen_there)), (ad_ways, oX6 ad_ways_ranked ad_ways_tens q_1.2.2.1 q_1.2.2.2), (ad_ways_ranked, .inl (cI, 6, .inl q_1.1)), (ad_ways_tens, .inl (cI, 6, .inl q_1.2.1))] H → va_D A [(ad0, oX7 ad_text ad_draft ad_told ad_now ad_history ad_firstImage ad_secondImage ad_seen ad_ways v_traced), (ad_told, oX0 ad_told_a ad_told_b v_told_size v_told_touches v_told_one), (ad_told_a, .inl (cI, 6, .inl a_told_a)), (ad_told_b, .inl (cI, 6, .inl a_told_b)), (ad_now, oX3 v_now_forgotten v_now_touches v_now_trapped v_now_one v_now_date), (ad_seen, oX4 ad_seen_days ad_seen_books ad_seen_there v_seen_size), (ad_seen_days, .inl (cI, 6, .inl a_seen_days)), (ad_seen_books, .inl (cI, 6, .inl a_seen_books)), (ad_seen_there, .inl (cZ, 6, .inl a_seen_there)), (ad_ways, oX6 ad_ways_ranked ad_ways_tens q_1.2.2.1 q_1.2.2.2), (ad_ways_ranked, .inl (cI, 6, .inl q_1.1)), (ad_ways_tens, .inl (cI, 6, .inl q_1.2.1))] → va_S A s.heap H locs → lv_has ls 3 [(0, .ref ad0), (1, .int x1_3), (2, .int x2_4)] → W p l e rX7_fits s m args below meth c H locs 0 0 Q (F0 m 9 ls []) := by
    intro n9
    induction n9 with
    | zero => intro x1_3 x2_4 H locs ls hf hP hD hS hl; cases hf
    | succ n9 ih9 =>
      intro x1_3 x2_4 H locs ls hf hP hD hS hl
      rw [fX7_fits_L9] at hf
      refine lv_iload_n hx hb (dt uX7_fits 7 rfl) rfl (lv_at hl 2 rfl) ?_
      refine lv_aload_n hx hb (dt uX7_fits 8 rfl) rfl (lv_at hl 0 rfl) ?_
      refine va_get (D := (dC, dI)) (ci := 7) (v := .ref ad_told) (C := RX7) (T := TX7) (N := 10) hx hb hts inU7 hown hK hP 0 rfl rfl 2 (by decide) (hts _ tw_118) (fun _ h9 => h9) rfl (dt uX7_fits 9 rfl) ?_
      refine va_getN (D := (dC, dI)) (ci := 0) (v := .int v_told_size) (C := RX0) (T := TX0) (N := 5) hx hb hts inU0 hown hK hP 1 rfl rfl 2 (by decide) (nw_7 hN) (fun _ h9 => h9) rfl (dt uX7_fits 10 rfl) ?_
      refine lv_icmp_ge (tgt := 40) hx hb (dt uX7_fits 11 rfl) (by decide) (fun c_5 => ?_) (fun c_5 => ?_)
      · have hf := vif_t c_5 hf
        refine lv_iload_n hx hb (dt uX7_fits 24 rfl) rfl (lv_at hl 1 rfl) ?_
        have hf := Option.some.inj hf
        subst hf
        rw [hQ]
        exact vret_i C hP hD hS (dt uX7_fits 25 rfl)
      · have hf := vif_f c_5 hf
        refine lv_aload_n hx hb (dt uX7_fits 12 rfl) rfl (lv_at hl 0 rfl) ?_
        refine lv_iload_n hx hb (dt uX7_fits 13 rfl) rfl (lv_at hl 2 rfl) ?_
        obtain ⟨q_6, hq_7, hf⟩ := vbd hf
        refine vk_z0 [0, 4, 5, 6, 7, 8, 9, 10] (va_runV (As := [.int x2_4]) (rest := []) ⟨hx, hb, hml, hown, hts⟩ (kX7_fitsFrom ad0 ad_text ad_draft ad_told ad_now ad_history ad_firstImage ad_secondImage ad_seen ad_seen_days ad_seen_books ad_seen_there ad_ways ad_ways_ranked ad_ways_tens v_traced v_now_forgotten v_now_touches v_now_trapped v_now_one v_now_date v_seen_size a_seen_days a_seen_books a_seen_there q_1.2.2.1 q_1.2.2.2 q_1.1 x2_4 N q_6 hq_7 H.size) (vcwV hts tw_275 tw_276 tw_277 tw_41 tw_274 hd_X7_fitsFrom rfl rfl ⟨Nat.le_of_ble_eq_true rfl, Nat.le_of_ble_eq_true rfl⟩) (vpreV hK hN hP hD [0, 4, 5, 6, 7, 8, 9, 10] rfl (by decide) (ci := 7) (q0 := 0) rfl rfl) rfl rfl hl.1 rfl (lv_room (Nat.le_of_ble_eq_true rfl)) (dt uX7_fits 14 rfl) ⟨Nat.zero_le _, Nat.zero_le _⟩) hA hP hD hS rfl (by decide) (fun hz_8 H locs hP hD hS => ?_)
        refine lv_if_eq (tgt := 34) hx hb (dt uX7_fits 15 rfl) (by decide) (fun c_9 => ?_) (fun c_9 => ?_)
        · have hf := vif_t c_9 hf
          refine lv_iinc (v := x2_4 + 1) (lv' := [(2, .int (x2_4 + 1)), (0, .ref ad0), (1, .int x1_3)]) hx hb (dt uX7_fits 22 rfl) hl (k := 2) rfl rfl (by decide) rfl (fun ls hl => ?_)
          refine lv_goto (tgt := 9) hx hb (dt uX7_fits 23 rfl) (by decide) ?_
          exact ih9 x1_3 (x2_4 + 1) _ _ _ hf hP hD hS (lv_sub hl [1, 2, 0] rfl)
        · have hf := vif_f c_9 hf
          refine lv_iload_n hx hb (dt uX7_fits 16 rfl) rfl (lv_at hl 1 rfl) ?_
          refine lv_iconst (v := (1 : Int32)) hx hb (dt uX7_fits 17 rfl) (by decide) ?_
          refine lv_iload_n hx hb (dt uX7_fits 18 rfl) rfl (lv_at hl 2 rfl) ?_
          refine lv_ishl hx hb (dt uX7_fits 19 rfl) ?_
          refine lv_ior hx hb (dt uX7_fits 20 rfl) ?_
          refine lv_istore_n (lv' := [(1, .int (x1_3 ||| ((1 : Int32) <<< (x2_4 &&& 31)))), (0, .ref ad0), (2, .int x2_4)]) hx hb (dt uX7_fits 21 rfl) rfl hl (by decide) rfl (fun ls hl => ?_)
          refine lv_iinc (v := x2_4 + 1) (lv' := [(2, .int (x2_4 + 1)), (1, .int (x1_3 ||| ((1 : Int32) <<< (x2_4 &&& 31)))), (0, .ref ad0)]) hx hb (dt uX7_fits 22 rfl) hl (k := 2) rfl rfl (by decide) rfl (fun ls hl => ?_)
          refine lv_goto (tgt := 9) hx hb (dt uX7_fits 23 rfl) (by decide) ?_
          exact ih9 (x1_3 ||| ((1 : Int32) <<< (x2_4 &&& 31))) (x2_4 + 1) _ _ _ hf hP hD hS (lv_sub hl [2, 1, 0] rfl)
  exact hL9 N (0 : Int32) (0 : Int32) _ _ _ hf hP hD hS (lv_sub hl [2, 1, 0] rfl)
abbrev rX7_number : Room := { frames := 0, cells := 0, slots := 0, locals := 0 }
abbrev wX7_number : List Cond := Cond.code yX7_number cX7_number 3 (some .int) :: VT
set_option maxHeartbeats 4000000 in
set_option maxRecDepth 100000 in
theorem kX7_number (p1 : Int32) (p2 : Int32) (p3 : Int32) (q0 : Int32) (hf : fX7_number p1 p2 p3 = q0) : Ki l yX7_number wX7_number rX7_number (dC, dI) (vTy cI cJ cB cZ) [.int p1, .int p2, .int p3] [] [] q0 := by
  refine Ki.mk (cc := cX7_number) (maxL := 3) (ret := some .int) (by decide) (Nat.le_of_ble_eq_true rfl) ?_
  intro p e s m args below meth c A Q H locs C hQ hP hD hS ls hl
  obtain ⟨hx, hb, -, hml, hts, hown, -, hK, hN, hA⟩ := id C
  have hown : s.vm.findClass RX7 = some m.cls := hown
  have hl : lv_has ls 3 [(0, .int p1), (1, .int p2), (2, .int p3)] := hl
  unfold fX7_number at hf
  refine lv_bipush (v := (100 : Int32)) hx hb (dt uX7_number 0 rfl) (by decide) ?_
  refine lv_iload_n hx hb (dt uX7_number 1 rfl) rfl (lv_at hl 0 rfl) ?_
  refine lv_imul hx hb (dt uX7_number 2 rfl) ?_
  refine lv_bipush (v := (10 : Int32)) hx hb (dt uX7_number 3 rfl) (by decide) ?_
  refine lv_iload_n hx hb (dt uX7_number 4 rfl) rfl (lv_at hl 1 rfl) ?_
  refine lv_imul hx hb (dt uX7_number 5 rfl) ?_
  refine lv_iadd hx hb (dt uX7_number 6 rfl) ?_
  refine lv_iload_n hx hb (dt uX7_number 7 rfl) rfl (lv_at hl 2 rfl) ?_
  refine lv_iadd hx hb (dt uX7_number 8 rfl) ?_
  subst hf
  rw [hQ]
  exact vret_i C hP hD hS (dt uX7_number 9 rfl)
abbrev rX7_hiddenMisreading : Room := { frames := 1, cells := 0, slots := 0, locals := 21 }
abbrev wX7_hiddenMisreading : List Cond := Cond.code yX7_hiddenMisreading cX7_hiddenMisreading 3 (some .int) :: VT
set_option maxHeartbeats 4000000 in
set_option maxRecDepth 100000 in
theorem kX7_hiddenMisreading (p1 : Int32) (p2 : Int32) (p3 : Int32) (q0 : Int32) (hf : fX7_hiddenMisreading p1 p2 p3 = some q0) : Ki l yX7_hiddenMisreading wX7_hiddenMisreading rX7_hiddenMisreading (dC, dI) (vTy cI cJ cB cZ) [.int p1, .int p2, .int p3] [] [] q0 := by
  refine Ki.mk (cc := cX7_hiddenMisreading) (maxL := 3) (ret := some .int) (by decide) (Nat.le_of_ble_eq_true rfl) ?_
  intro p e s m args below meth c A Q H locs C hQ hP hD hS ls hl
  obtain ⟨hx, hb, -, hml, hts, hown, -, hK, hN, hA⟩ := id C
  have hown : s.vm.findClass RX7 = some m.cls := hown
  have hl : lv_has ls 3 [(0, .int p1), (1, .int p2), (2, .int p3)] := hl
  unfold fX7_hiddenMisreading at hf
  refine lv_iload_n hx hb (dt uX7_hiddenMisreading 0 rfl) rfl (lv_at hl 1 rfl) ?_
  refine lv_iload_n hx hb (dt uX7_hiddenMisreading 1 rfl) rfl (lv_at hl 0 rfl) ?_
  refine lv_icmp_eq (tgt := 19) hx hb (dt uX7_hiddenMisreading 2 rfl) (by decide) (fun c_1 => ?_) (fun c_1 => ?_)
  · have hf := vif_t c_1 hf
    refine lv_iconst (v := (0 : Int32)) hx hb (dt uX7_hiddenMisreading 11 rfl) (by decide) ?_
    have hf := Option.some.inj hf
    subst hf
    rw [hQ]
    exact vret_i C hP hD hS (dt uX7_hiddenMisreading 12 rfl)
  · have hf := vif_f c_1 hf
    refine lv_iload_n hx hb (dt uX7_hiddenMisreading 3 rfl) rfl (lv_at hl 2 rfl) ?_
    refine lv_iload_n hx hb (dt uX7_hiddenMisreading 4 rfl) rfl (lv_at hl 1 rfl) ?_
    refine lv_iload_n hx hb (dt uX7_hiddenMisreading 5 rfl) rfl (lv_at hl 0 rfl) ?_
    refine lv_isub hx hb (dt uX7_hiddenMisreading 6 rfl) ?_
    obtain ⟨q_2, hq_3, hf⟩ := vbd hf
    refine vk_z0 [] (va_runS (As := [.int p3, .int (p2 - p1)]) (rest := []) ⟨hx, hb, hml, hown, hts⟩ (kX7_divides p3 (p2 - p1) q_2 hq_3 H.size) (vcwS hts tw_192 tw_193 tw_41 tw_191 hd_X7_divides rfl rfl ⟨Nat.le_of_ble_eq_true rfl, Nat.le_of_ble_eq_true rfl⟩) (vpreS hK hN hP hD [] rfl (by decide)) rfl rfl hl.1 rfl (lv_room (Nat.le_of_ble_eq_true rfl)) (dt uX7_hiddenMisreading 7 rfl) ⟨Nat.zero_le _, Nat.zero_le _⟩) hA hP hD hS rfl (by decide) (fun hz_4 H locs hP hD hS => ?_)
    refine lv_if_eq (tgt := 19) hx hb (dt uX7_hiddenMisreading 8 rfl) (by decide) (fun c_5 => ?_) (fun c_5 => ?_)
    · have hf := vif_t c_5 hf
      refine lv_iconst (v := (0 : Int32)) hx hb (dt uX7_hiddenMisreading 11 rfl) (by decide) ?_
      have hf := Option.some.inj hf
      subst hf
      rw [hQ]
      exact vret_i C hP hD hS (dt uX7_hiddenMisreading 12 rfl)
    · have hf := vif_f c_5 hf
      refine lv_iconst (v := (1 : Int32)) hx hb (dt uX7_hiddenMisreading 9 rfl) (by decide) ?_
      refine lv_goto (tgt := 20) hx hb (dt uX7_hiddenMisreading 10 rfl) (by decide) ?_
      have hf := Option.some.inj hf
      subst hf
      rw [hQ]
      exact vret_i C hP hD hS (dt uX7_hiddenMisreading 12 rfl)
abbrev rX7_hiddenMisreadings : Room := { frames := 2, cells := 0, slots := 0, locals := 43 }
abbrev wX7_hiddenMisreadings : List Cond := Cond.code yX7_hiddenMisreadings cX7_hiddenMisreadings 5 (some .int) :: VT
set_option maxHeartbeats 4000000 in
set_option maxRecDepth 100000 in
theorem kX7_hiddenMisreadings (p1 : Int32) (p2 : Int32) (q0 : Int32) (hf : fX7_hiddenMisreadings p1 p2 = some q0) : Ki l yX7_hiddenMisreadings wX7_hiddenMisreadings rX7_hiddenMisreadings (dC, dI) (vTy cI cJ cB cZ) [.int p1, .int p2] [] [] q0 := by
  refine Ki.mk (cc := cX7_hiddenMisreadings) (maxL := 5) (ret := some .int) (by decide) (Nat.le_of_ble_eq_true rfl) ?_
  intro p e s m args below meth c A Q H locs C hQ hP hD hS ls hl
  obtain ⟨hx, hb, -, hml, hts, hown, -, hK, hN, hA⟩ := id C
  have hown : s.vm.findClass RX7 = some m.cls := hown
  have hl : lv_has ls 5 [(0, .int p1), (1, .int p2)] := hl
  unfold fX7_hiddenMisreadings at hf
  refine lv_iload_n hx hb (dt uX7_hiddenMisreadings 0 rfl) rfl (lv_at hl 0 rfl) ?_
  refine lv_bipush (v := (10 : Int32)) hx hb (dt uX7_hiddenMisreadings 1 rfl) (by decide) ?_
  refine lv_irem hx hb (dt uX7_hiddenMisreadings 2 rfl) (by decide) ?_
  refine lv_istore_n (lv' := [(2, .int (p1 - p1 / (10 : Int32) * (10 : Int32))), (0, .int p1), (1, .int p2)]) hx hb (dt uX7_hiddenMisreadings 3 rfl) rfl hl (by decide) rfl (fun ls hl => ?_)
  refine lv_iload_n hx hb (dt uX7_hiddenMisreadings 4 rfl) rfl (lv_at hl 1 rfl) ?_
  refine lv_bipush (v := (10 : Int32)) hx hb (dt uX7_hiddenMisreadings 5 rfl) (by decide) ?_
  refine lv_idiv hx hb (dt uX7_hiddenMisreadings 6 rfl) (by decide) ?_
  refine lv_bipush (v := (10 : Int32)) hx hb (dt uX7_hiddenMisreadings 7 rfl) (by decide) ?_
  refine lv_irem hx hb (dt uX7_hiddenMisreadings 8 rfl) (by decide) ?_
  refine lv_istore_n (lv' := [(3, .int ((p1 / (10 : Int32)) - (p1 / (10 : Int32)) / (10 : Int32) * (10 : Int32))), (2, .int (p1 - p1 / (10 : Int32) * (10 : Int32))), (0, .int p1), (1, .int p2)]) hx hb (dt uX7_hiddenMisreadings 9 rfl) rfl hl (by decide) rfl (fun ls hl => ?_)
  refine lv_iload_n hx hb (dt uX7_hiddenMisreadings 10 rfl) rfl (lv_at hl 2 rfl) ?_
  refine lv_bipush (v := (100 : Int32)) hx hb (dt uX7_hiddenMisreadings 11 rfl) (by decide) ?_
  refine lv_idiv hx hb (dt uX7_hiddenMisreadings 12 rfl) (by decide) ?_
  refine lv_istore (lv' := [(4, .int (p1 / (100 : Int32))), (3, .int ((p1 / (10 : Int32)) - (p1 / (10 : Int32)) / (10 : Int32) * (10 : Int32))), (2, .int (p1 - p1 / (10 : Int32) * (10 : Int32))), (0, .int p1), (1, .int p2)]) hx hb (dt uX7_hiddenMisreadings 13 rfl) hl (by decide) rfl (fun ls hl => ?_)
  refine lv_iload_n hx hb (dt uX7_hiddenMisreadings 14 rfl) rfl (lv_at hl 3 rfl) ?_
  refine lv_iload hx hb (dt uX7_hiddenMisreadings 15 rfl) (lv_at hl 0 rfl) ?_
  refine lv_iload_n hx hb (dt uX7_hiddenMisreadings 16 rfl) rfl (lv_at hl 2 rfl) ?_
  refine lv_iload_n hx hb (dt uX7_hiddenMisreadings 17 rfl) rfl (lv_at hl 1 rfl) ?_
  refine vk_i0 [] (va_runS (As := [.int (p1 / (100 : Int32)), .int (p1 - p1 / (10 : Int32) * (10 : Int32)), .int ((p1 / (10 : Int32)) - (p1 / (10 : Int32)) / (10 : Int32) * (10 : Int32))]) (rest := [.int p1]) ⟨hx, hb, hml, hown, hts⟩ (kX7_number (p1 / (100 : Int32)) (p1 - p1 / (10 : Int32) * (10 : Int32)) ((p1 / (10 : Int32)) - (p1 / (10 : Int32)) / (10 : Int32) * (10 : Int32)) _ rfl H.size) (vcwS hts tw_279 tw_280 tw_41 tw_278 hd_X7_number rfl rfl ⟨Nat.le_of_ble_eq_true rfl, Nat.le_of_ble_eq_true rfl⟩) (vpreS hK hN hP hD [] rfl (by decide)) rfl rfl hl.1 rfl (lv_room (Nat.le_of_ble_eq_true rfl)) (dt uX7_hiddenMisreadings 18 rfl) ⟨Nat.zero_le _, Nat.zero_le _⟩) hA hP hD hS rfl (by decide) (fun H locs hP hD hS => ?_)
  refine lv_iload_n hx hb (dt uX7_hiddenMisreadings 19 rfl) rfl (lv_at hl 4 rfl) ?_
  obtain ⟨q_1, hq_2, hf⟩ := vbd hf
  refine vk_i0 [] (va_runS (As := [.int p1, .int (fX7_number (p1 / (100 : Int32)) (p1 - p1 / (10 : Int32) * (10 : Int32)) ((p1 / (10 : Int32)) - (p1 / (10 : Int32)) / (10 : Int32) * (10 : Int32))), .int p2]) (rest := []) ⟨hx, hb, hml, hown, hts⟩ (kX7_hiddenMisreading p1 (fX7_number (p1 / (100 : Int32)) (p1 - p1 / (10 : Int32) * (10 : Int32)) ((p1 / (10 : Int32)) - (p1 / (10 : Int32)) / (10 : Int32) * (10 : Int32))) p2 q_1 hq_2 H.size) (vcwS hts tw_282 tw_283 tw_41 tw_281 hd_X7_hiddenMisreading rfl rfl ⟨Nat.le_of_ble_eq_true rfl, Nat.le_of_ble_eq_true rfl⟩) (vpreS hK hN hP hD [] rfl (by decide)) rfl rfl hl.1 rfl (lv_room (Nat.le_of_ble_eq_true rfl)) (dt uX7_hiddenMisreadings 20 rfl) ⟨Nat.zero_le _, Nat.zero_le _⟩) hA hP hD hS rfl (by decide) (fun H locs hP hD hS => ?_)
  refine lv_iload_n hx hb (dt uX7_hiddenMisreadings 21 rfl) rfl (lv_at hl 3 rfl) ?_
  refine lv_iload_n hx hb (dt uX7_hiddenMisreadings 22 rfl) rfl (lv_at hl 1 rfl) ?_
  refine lv_iload hx hb (dt uX7_hiddenMisreadings 23 rfl) (lv_at hl 0 rfl) ?_
  refine lv_iload_n hx hb (dt uX7_hiddenMisreadings 24 rfl) rfl (lv_at hl 2 rfl) ?_
  refine vk_i0 [] (va_runS (As := [.int ((p1 / (10 : Int32)) - (p1 / (10 : Int32)) / (10 : Int32) * (10 : Int32)), .int (p1 / (100 : Int32)), .int (p1 - p1 / (10 : Int32) * (10 : Int32))]) (rest := [.int p1, .int q_1]) ⟨hx, hb, hml, hown, hts⟩ (kX7_number ((p1 / (10 : Int32)) - (p1 / (10 : Int32)) / (10 : Int32) * (10 : Int32)) (p1 / (100 : Int32)) (p1 - p1 / (10 : Int32) * (10 : Int32)) _ rfl H.size) (vcwS hts tw_279 tw_280 tw_41 tw_278 hd_X7_number rfl rfl ⟨Nat.le_of_ble_eq_true rfl, Nat.le_of_ble_eq_true rfl⟩) (vpreS hK hN hP hD [] rfl (by decide)) rfl rfl hl.1 rfl (lv_room (Nat.le_of_ble_eq_true rfl)) (dt uX7_hiddenMisreadings 25 rfl) ⟨Nat.zero_le _, Nat.zero_le _⟩) hA hP hD hS rfl (by decide) (fun H locs hP hD hS => ?_)
  refine lv_iload_n hx hb (dt uX7_hiddenMisreadings 26 rfl) rfl (lv_at hl 4 rfl) ?_
  obtain ⟨q_3, hq_4, hf⟩ := vbd hf
  refine vk_i0 [] (va_runS (As := [.int p1, .int (fX7_number ((p1 / (10 : Int32)) - (p1 / (10 : Int32)) / (10 : Int32) * (10 : Int32)) (p1 / (100 : Int32)) (p1 - p1 / (10 : Int32) * (10 : Int32))), .int p2]) (rest := [.int q_1]) ⟨hx, hb, hml, hown, hts⟩ (kX7_hiddenMisreading p1 (fX7_number ((p1 / (10 : Int32)) - (p1 / (10 : Int32)) / (10 : Int32) * (10 : Int32)) (p1 / (100 : Int32)) (p1 - p1 / (10 : Int32) * (10 : Int32))) p2 q_3 hq_4 H.size) (vcwS hts tw_282 tw_283 tw_41 tw_281 hd_X7_hiddenMisreading rfl rfl ⟨Nat.le_of_ble_eq_true rfl, Nat.le_of_ble_eq_true rfl⟩) (vpreS hK hN hP hD [] rfl (by decide)) rfl rfl hl.1 rfl (lv_room (Nat.le_of_ble_eq_true rfl)) (dt uX7_hiddenMisreadings 27 rfl) ⟨Nat.zero_le _, Nat.zero_le _⟩) hA hP hD hS rfl (by decide) (fun H locs hP hD hS => ?_)
  refine lv_iadd hx hb (dt uX7_hiddenMisreadings 28 rfl) ?_
  refine lv_iload_n hx hb (dt uX7_hiddenMisreadings 29 rfl) rfl (lv_at hl 3 rfl) ?_
  refine lv_iload_n hx hb (dt uX7_hiddenMisreadings 30 rfl) rfl (lv_at hl 2 rfl) ?_
  refine lv_iload_n hx hb (dt uX7_hiddenMisreadings 31 rfl) rfl (lv_at hl 1 rfl) ?_
  refine lv_iload hx hb (dt uX7_hiddenMisreadings 32 rfl) (lv_at hl 0 rfl) ?_
  refine vk_i0 [] (va_runS (As := [.int (p1 - p1 / (10 : Int32) * (10 : Int32)), .int ((p1 / (10 : Int32)) - (p1 / (10 : Int32)) / (10 : Int32) * (10 : Int32)), .int (p1 / (100 : Int32))]) (rest := [.int p1, .int (q_1 + q_3)]) ⟨hx, hb, hml, hown, hts⟩ (kX7_number (p1 - p1 / (10 : Int32) * (10 : Int32)) ((p1 / (10 : Int32)) - (p1 / (10 : Int32)) / (10 : Int32) * (10 : Int32)) (p1 / (100 : Int32)) _ rfl H.size) (vcwS hts tw_279 tw_280 tw_41 tw_278 hd_X7_number rfl rfl ⟨Nat.le_of_ble_eq_true rfl, Nat.le_of_ble_eq_true rfl⟩) (vpreS hK hN hP hD [] rfl (by decide)) rfl rfl hl.1 rfl (lv_room (Nat.le_of_ble_eq_true rfl)) (dt uX7_hiddenMisreadings 33 rfl) ⟨Nat.zero_le _, Nat.zero_le _⟩) hA hP hD hS rfl (by decide) (fun H locs hP hD hS => ?_)
  refine lv_iload_n hx hb (dt uX7_hiddenMisreadings 34 rfl) rfl (lv_at hl 4 rfl) ?_
  obtain ⟨q_5, hq_6, hf⟩ := vbd hf
  refine vk_i0 [] (va_runS (As := [.int p1, .int (fX7_number (p1 - p1 / (10 : Int32) * (10 : Int32)) ((p1 / (10 : Int32)) - (p1 / (10 : Int32)) / (10 : Int32) * (10 : Int32)) (p1 / (100 : Int32))), .int p2]) (rest := [.int (q_1 + q_3)]) ⟨hx, hb, hml, hown, hts⟩ (kX7_hiddenMisreading p1 (fX7_number (p1 - p1 / (10 : Int32) * (10 : Int32)) ((p1 / (10 : Int32)) - (p1 / (10 : Int32)) / (10 : Int32) * (10 : Int32)) (p1 / (100 : Int32))) p2 q_5 hq_6 H.size) (vcwS hts tw_282 tw_283 tw_41 tw_281 hd_X7_hiddenMisreading rfl rfl ⟨Nat.le_of_ble_eq_true rfl, Nat.le_of_ble_eq_true rfl⟩) (vpreS hK hN hP hD [] rfl (by decide)) rfl rfl hl.1 rfl (lv_room (Nat.le_of_ble_eq_true rfl)) (dt uX7_hiddenMisreadings 35 rfl) ⟨Nat.zero_le _, Nat.zero_le _⟩) hA hP hD hS rfl (by decide) (fun H locs hP hD hS => ?_)
  refine lv_iadd hx hb (dt uX7_hiddenMisreadings 36 rfl) ?_
  have hf := Option.some.inj hf
  subst hf
  rw [hQ]
  exact vret_i C hP hD hS (dt uX7_hiddenMisreadings 37 rfl)
abbrev rX7_hidden : Room := { frames := 3, cells := 0, slots := 0, locals := 67 }
abbrev wX7_hidden : List Cond := Cond.code yX7_hidden cX7_hidden 3 (some .int) :: VT
set_option maxHeartbeats 4000000 in
set_option maxRecDepth 100000 in
theorem kX7_hidden (ad0 : Nat) (ad_text : Nat) (ad_draft : Nat) (ad_told : Nat) (ad_told_a : Nat) (ad_told_b : Nat) (ad_now : Nat) (ad_history : Nat) (ad_firstImage : Nat) (ad_secondImage : Nat) (ad_seen : Nat) (ad_ways : Nat) (v_traced : Int64) (v_told_size : Int32) (v_told_touches : Int32) (v_told_one : Int32) (a_told_a : Nat → Int32) (p1 : Int32) (p2 : Int32) (q0 : Int32) (hf : fX7_hidden a_told_a v_told_size p1 p2 = some q0) : Ki l yX7_hidden wX7_hidden rX7_hidden (dC, dI) (vTy cI cJ cB cZ) [.ref ad0, .int p1, .int p2] [(ad0, oX7 ad_text ad_draft ad_told ad_now ad_history ad_firstImage ad_secondImage ad_seen ad_ways v_traced), (ad_told, oX0 ad_told_a ad_told_b v_told_size v_told_touches v_told_one), (ad_told_a, .inl (cI, 6, .inl a_told_a))] [(ad0, oX7 ad_text ad_draft ad_told ad_now ad_history ad_firstImage ad_secondImage ad_seen ad_ways v_traced), (ad_told, oX0 ad_told_a ad_told_b v_told_size v_told_touches v_told_one), (ad_told_a, .inl (cI, 6, .inl a_told_a))] q0 := by
  refine Ki.mk (cc := cX7_hidden) (maxL := 3) (ret := some .int) (by decide) (Nat.le_of_ble_eq_true rfl) ?_
  intro p e s m args below meth c A Q H locs C hQ hP hD hS ls hl
  obtain ⟨hx, hb, -, hml, hts, hown, -, hK, hN, hA⟩ := id C
  have hown : s.vm.findClass RX7 = some m.cls := hown
  have hl : lv_has ls 3 [(0, .ref ad0), (1, .int p1), (2, .int p2)] := hl
  unfold fX7_hidden at hf
  refine lv_aload_n hx hb (dt uX7_hidden 0 rfl) rfl (lv_at hl 0 rfl) ?_
  refine lv_iload_n hx hb (dt uX7_hidden 1 rfl) rfl (lv_at hl 1 rfl) ?_
  refine vk_z0 [0, 1] (va_runV (As := [.int p1]) (rest := []) ⟨hx, hb, hml, hown, hts⟩ (kX7_isBook ad0 ad_text ad_draft ad_told ad_told_a ad_told_b ad_now ad_history ad_firstImage ad_secondImage ad_seen ad_ways v_traced v_told_size v_told_touches v_told_one p1 _ rfl H.size) (vcwV hts tw_142 tw_143 tw_144 tw_41 tw_141 hd_X7_isBook rfl rfl ⟨Nat.le_of_ble_eq_true rfl, Nat.le_of_ble_eq_true rfl⟩) (vpreV hK hN hP hD [0, 1] rfl (by decide) (ci := 7) (q0 := 0) rfl rfl) rfl rfl hl.1 rfl (lv_room (Nat.le_of_ble_eq_true rfl)) (dt uX7_hidden 2 rfl) ⟨Nat.zero_le _, Nat.zero_le _⟩) hA hP hD hS rfl (by decide) (fun hz_1 H locs hP hD hS => ?_)
  refine lv_if_eq (tgt := 20) hx hb (dt uX7_hidden 3 rfl) (by decide) (fun c_2 => ?_) (fun c_2 => ?_)
  · have hf := vif_t c_2 hf
    refine lv_iconst (v := (-1 : Int32)) hx hb (dt uX7_hidden 10 rfl) (by decide) ?_
    have hf := Option.some.inj hf
    subst hf
    rw [hQ]
    exact vret_i C hP hD hS (dt uX7_hidden 11 rfl)
  · have hf := vif_f c_2 hf
    refine lv_iload_n hx hb (dt uX7_hidden 4 rfl) rfl (lv_at hl 2 rfl) ?_
    refine lv_bipush (v := (9 : Int32)) hx hb (dt uX7_hidden 5 rfl) (by decide) ?_
    have hJ22 : ∀ (H : Heap) (locs : List Loc) (ls : Array Slot), fX7_hidden_J22 a_told_a p1 p2 = some q0 → va_P (dC, dI) vwCl [(ad0, oX7 ad_text ad_draft ad_told ad_now ad_history ad_firstImage ad_secondImage ad_seen ad_ways v_traced), (ad_told, oX0 ad_told_a ad_told_b v_told_size v_told_touches v_told_one), (ad_told_a, .inl (cI, 6, .inl a_told_a))] H → va_D A [(ad0, oX7 ad_text ad_draft ad_told ad_now ad_history ad_firstImage ad_secondImage ad_seen ad_ways v_traced), (ad_told, oX0 ad_told_a ad_told_b v_told_size v_told_touches v_told_one), (ad_told_a, .inl (cI, 6, .inl a_told_a))] → va_S A s.heap H locs → lv_has ls 3 [(0, .ref ad0), (1, .int p1), (2, .int p2)] → W p l e rX7_hidden s m args below meth c H locs 0 0 Q (F0 m 22 ls []) := by
      intro H locs ls hf hP hD hS hl
      unfold fX7_hidden_J22 at hf
      refine lv_aload_n hx hb (dt uX7_hidden 12 rfl) rfl (lv_at hl 0 rfl) ?_
      refine va_get (D := (dC, dI)) (ci := 7) (v := .ref ad_told) (C := RX7) (T := TX7) (N := 10) hx hb hts inU7 hown hK hP 0 rfl rfl 2 (by decide) (hts _ tw_118) (fun _ h9 => h9) rfl (dt uX7_hidden 13 rfl) ?_
      refine va_getN (D := (dC, dI)) (ci := 0) (v := .ref ad_told_a) (C := RX0) (T := TX0) (N := 5) hx hb hts inU0 hown hK hP 1 rfl rfl 0 (by decide) (nw_4 hN) (fun _ h9 => h9) rfl (dt uX7_hidden 14 rfl) ?_
      refine lv_iload_n hx hb (dt uX7_hidden 15 rfl) rfl (lv_at hl 1 rfl) ?_
      obtain ⟨hi_3, hf⟩ := vg_some hf
      refine va_iald hx hb hK hP 2 0 rfl rfl hi_3 (dt uX7_hidden 16 rfl) ?_
      refine lv_iload_n hx hb (dt uX7_hidden 17 rfl) rfl (lv_at hl 2 rfl) ?_
      obtain ⟨q_4, hq_5, hf⟩ := vbd hf
      refine vk_i0 [] (va_runS (As := [.int (a_told_a p1.toNatClampNeg), .int p2]) (rest := []) ⟨hx, hb, hml, hown, hts⟩ (kX7_hiddenMisreadings (a_told_a p1.toNatClampNeg) p2 q_4 hq_5 H.size) (vcwS hts tw_285 tw_286 tw_41 tw_284 hd_X7_hiddenMisreadings rfl rfl ⟨Nat.le_of_ble_eq_true rfl, Nat.le_of_ble_eq_true rfl⟩) (vpreS hK hN hP hD [] rfl (by decide)) rfl rfl hl.1 rfl (lv_room (Nat.le_of_ble_eq_true rfl)) (dt uX7_hidden 18 rfl) ⟨Nat.zero_le _, Nat.zero_le _⟩) hA hP hD hS rfl (by decide) (fun H locs hP hD hS => ?_)
      have hf := Option.some.inj hf
      subst hf
      rw [hQ]
      exact vret_i C hP hD hS (dt uX7_hidden 19 rfl)
    refine lv_icmp_eq (tgt := 22) hx hb (dt uX7_hidden 6 rfl) (by decide) (fun c_6 => ?_) (fun c_6 => ?_)
    · have hf := vif_t c_6 hf
      exact hJ22  _ _ _ hf hP hD hS (lv_sub hl [0, 1, 2] rfl)
    · have hf := vif_f c_6 hf
      refine lv_iload_n hx hb (dt uX7_hidden 7 rfl) rfl (lv_at hl 2 rfl) ?_
      refine lv_bipush (v := (11 : Int32)) hx hb (dt uX7_hidden 8 rfl) (by decide) ?_
      refine lv_icmp_eq (tgt := 22) hx hb (dt uX7_hidden 9 rfl) (by decide) (fun c_7 => ?_) (fun c_7 => ?_)
      · have hf := vif_t c_7 hf
        exact hJ22  _ _ _ hf hP hD hS (lv_sub hl [0, 1, 2] rfl)
      · have hf := vif_f c_7 hf
        refine lv_iconst (v := (-1 : Int32)) hx hb (dt uX7_hidden 10 rfl) (by decide) ?_
        have hf := Option.some.inj hf
        subst hf
        rw [hQ]
        exact vret_i C hP hD hS (dt uX7_hidden 11 rfl)
abbrev rX7_waysToLack : Room := { frames := 1, cells := 0, slots := 0, locals := 23 }
abbrev wX7_waysToLack : List Cond := Cond.code yX7_waysToLack cX7_waysToLack 3 (some .int) :: VT
set_option maxHeartbeats 4000000 in
set_option maxRecDepth 100000 in
theorem kX7_waysToLack (p1 : Int32) (p2 : Int32) (p3 : Int32) (N : Nat) (q0 : Int32) (hf : fX7_waysToLack N p1 p2 p3 = some q0) : Ki l yX7_waysToLack wX7_waysToLack rX7_waysToLack (dC, dI) (vTy cI cJ cB cZ) [.int p1, .int p2, .int p3] [] [] q0 := by
  refine Ki.mk (cc := cX7_waysToLack) (maxL := 3) (ret := some .int) (by decide) (Nat.le_of_ble_eq_true rfl) ?_
  intro p e s m args below meth c A Q H locs C hQ hP hD hS ls hl
  obtain ⟨hx, hb, -, hml, hts, hown, -, hK, hN, hA⟩ := id C
  have hown : s.vm.findClass RX7 = some m.cls := hown
  have hl : lv_has ls 3 [(0, .int p1), (1, .int p2), (2, .int p3)] := hl
  unfold fX7_waysToLack at hf
  refine lv_iload_n hx hb (dt uX7_waysToLack 0 rfl) rfl (lv_at hl 0 rfl) ?_
  refine lv_if_ge (tgt := 6) hx hb (dt uX7_waysToLack 1 rfl) (by decide) (fun c_1 => ?_) (fun c_1 => ?_)
  · have hf := vif_t c_1 hf
    refine lv_iload_n hx hb (dt uX7_waysToLack 4 rfl) rfl (lv_at hl 1 rfl) ?_
    refine lv_iload_n hx hb (dt uX7_waysToLack 5 rfl) rfl (lv_at hl 0 rfl) ?_
    refine lv_bipush (v := (10 : Int32)) hx hb (dt uX7_waysToLack 6 rfl) (by decide) ?_
    refine lv_idiv hx hb (dt uX7_waysToLack 7 rfl) (by decide) ?_
    refine lv_bipush (v := (10 : Int32)) hx hb (dt uX7_waysToLack 8 rfl) (by decide) ?_
    refine lv_irem hx hb (dt uX7_waysToLack 9 rfl) (by decide) ?_
    obtain ⟨q_2, hq_3, hf⟩ := vbd hf
    refine vk_i0 [] (va_runS (As := [.int p2, .int ((p1 / (10 : Int32)) - (p1 / (10 : Int32)) / (10 : Int32) * (10 : Int32))]) (rest := []) ⟨hx, hb, hml, hown, hts⟩ (kX7_choose p2 ((p1 / (10 : Int32)) - (p1 / (10 : Int32)) / (10 : Int32) * (10 : Int32)) N q_2 hq_3 H.size) (vcwS hts tw_254 tw_255 tw_41 tw_253 hd_X7_choose rfl rfl ⟨Nat.le_of_ble_eq_true rfl, Nat.le_of_ble_eq_true rfl⟩) (vpreS hK hN hP hD [] rfl (by decide)) rfl rfl hl.1 rfl (lv_room (Nat.le_of_ble_eq_true rfl)) (dt uX7_waysToLack 10 rfl) ⟨Nat.zero_le _, Nat.zero_le _⟩) hA hP hD hS rfl (by decide) (fun H locs hP hD hS => ?_)
    refine lv_iload_n hx hb (dt uX7_waysToLack 11 rfl) rfl (lv_at hl 2 rfl) ?_
    refine lv_iload_n hx hb (dt uX7_waysToLack 12 rfl) rfl (lv_at hl 0 rfl) ?_
    refine lv_bipush (v := (100 : Int32)) hx hb (dt uX7_waysToLack 13 rfl) (by decide) ?_
    refine lv_idiv hx hb (dt uX7_waysToLack 14 rfl) (by decide) ?_
    obtain ⟨q_4, hq_5, hf⟩ := vbd hf
    refine vk_i0 [] (va_runS (As := [.int p3, .int (p1 / (100 : Int32))]) (rest := [.int q_2]) ⟨hx, hb, hml, hown, hts⟩ (kX7_choose p3 (p1 / (100 : Int32)) N q_4 hq_5 H.size) (vcwS hts tw_254 tw_255 tw_41 tw_253 hd_X7_choose rfl rfl ⟨Nat.le_of_ble_eq_true rfl, Nat.le_of_ble_eq_true rfl⟩) (vpreS hK hN hP hD [] rfl (by decide)) rfl rfl hl.1 rfl (lv_room (Nat.le_of_ble_eq_true rfl)) (dt uX7_waysToLack 15 rfl) ⟨Nat.zero_le _, Nat.zero_le _⟩) hA hP hD hS rfl (by decide) (fun H locs hP hD hS => ?_)
    refine lv_imul hx hb (dt uX7_waysToLack 16 rfl) ?_
    have hf := Option.some.inj hf
    subst hf
    rw [hQ]
    exact vret_i C hP hD hS (dt uX7_waysToLack 17 rfl)
  · have hf := vif_f c_1 hf
    refine lv_iconst (v := (0 : Int32)) hx hb (dt uX7_waysToLack 2 rfl) (by decide) ?_
    have hf := Option.some.inj hf
    subst hf
    rw [hQ]
    exact vret_i C hP hD hS (dt uX7_waysToLack 3 rfl)
abbrev rX7_setsWithout : Room := { frames := 4, cells := 0, slots := 0, locals := 86 }
abbrev wX7_setsWithout : List Cond := Cond.code yX7_setsWithout cX7_setsWithout 6 (some .int) :: VT
set_option maxHeartbeats 4000000 in
set_option maxRecDepth 100000 in
theorem kX7_setsWithout (ad0 : Nat) (ad_text : Nat) (ad_draft : Nat) (ad_told : Nat) (ad_told_a : Nat) (ad_told_b : Nat) (ad_now : Nat) (ad_history : Nat) (ad_firstImage : Nat) (ad_secondImage : Nat) (ad_seen : Nat) (ad_ways : Nat) (v_traced : Int64) (v_told_size : Int32) (v_told_touches : Int32) (v_told_one : Int32) (a_told_a : Nat → Int32) (a_told_b : Nat → Int32) (v_now_forgotten : Int32) (v_now_touches : Int32) (v_now_trapped : Int32) (v_now_one : Int32) (v_now_date : Int32) (p1 : Int32) (N : Nat) (q0 : Int32) (hf : fX7_setsWithout N a_told_a a_told_b v_told_size v_now_forgotten v_now_one p1 = some q0) : Ki l yX7_setsWithout wX7_setsWithout rX7_setsWithout (dC, dI) (vTy cI cJ cB cZ) [.ref ad0, .int p1] [(ad0, oX7 ad_text ad_draft ad_told ad_now ad_history ad_firstImage ad_secondImage ad_seen ad_ways v_traced), (ad_told, oX0 ad_told_a ad_told_b v_told_size v_told_touches v_told_one), (ad_told_a, .inl (cI, 6, .inl a_told_a)), (ad_told_b, .inl (cI, 6, .inl a_told_b)), (ad_now, oX3 v_now_forgotten v_now_touches v_now_trapped v_now_one v_now_date)] [(ad0, oX7 ad_text ad_draft ad_told ad_now ad_history ad_firstImage ad_secondImage ad_seen ad_ways v_traced), (ad_told, oX0 ad_told_a ad_told_b v_told_size v_told_touches v_told_one), (ad_told_a, .inl (cI, 6, .inl a_told_a)), (ad_told_b, .inl (cI, 6, .inl a_told_b)), (ad_now, oX3 v_now_forgotten v_now_touches v_now_trapped v_now_one v_now_date)] q0 := by
  refine Ki.mk (cc := cX7_setsWithout) (maxL := 6) (ret := some .int) (by decide) (Nat.le_of_ble_eq_true rfl) ?_
  intro p e s m args below meth c A Q H locs C hQ hP hD hS ls hl
  obtain ⟨hx, hb, -, hml, hts, hown, -, hK, hN, hA⟩ := id C
  have hown : s.vm.findClass RX7 = some m.cls := hown
  have hl : lv_has ls 6 [(0, .ref ad0), (1, .int p1)] := hl
  unfold fX7_setsWithout at hf
  refine lv_iconst (v := (0 : Int32)) hx hb (dt uX7_setsWithout 0 rfl) (by decide) ?_
  refine lv_istore_n (lv' := [(2, .int (0 : Int32)), (0, .ref ad0), (1, .int p1)]) hx hb (dt uX7_setsWithout 1 rfl) rfl hl (by decide) rfl (fun ls hl => ?_)
  refine lv_iconst (v := (0 : Int32)) hx hb (dt uX7_setsWithout 2 rfl) (by decide) ?_
  refine lv_istore_n (lv' := [(3, .int (0 : Int32)), (2, .int (0 : Int32)), (0, .ref ad0), (1, .int p1)]) hx hb (dt uX7_setsWithout 3 rfl) rfl hl (by decide) rfl (fun ls hl => ?_)
  refine lv_iconst (v := (0 : Int32)) hx hb (dt uX7_setsWithout 4 rfl) (by decide) ?_
  refine lv_istore (lv' := [(4, .int (0 : Int32)), (3, .int (0 : Int32)), (2, .int (0 : Int32)), (0, .ref ad0), (1, .int p1)]) hx hb (dt uX7_setsWithout 5 rfl) hl (by decide) rfl (fun ls hl => ?_)
  refine lv_iconst (v := (0 : Int32)) hx hb (dt uX7_setsWithout 6 rfl) (by decide) ?_
  refine lv_istore (lv' := [(5, .int (0 : Int32)), (4, .int (0 : Int32)), (3, .int (0 : Int32)), (2, .int (0 : Int32)), (0, .ref ad0), (1, .int p1)]) hx hb (dt uX7_setsWithout 7 rfl) hl (by decide) rfl (fun ls hl => ?_)
  have hL10 : ∀ (n10 : Nat), ∀ (x2_1 : Int32) (x3_2 : Int32) (x4_3 : Int32) (x5_4 : Int32) (H : Heap) (locs : List Loc) (ls : Array Slot), fX7_setsWithout_L10 N a_told_a a_told_b v_told_size v_now_forgotten v_now_one p1 n10 x2_1 x3_2 x4_3 x5_4 = some q0 → va_P (dC, dI) vwCl [(ad0, oX7 ad_text ad_draft ad_told ad_now ad_history ad_firstImage ad_secondImage ad_seen ad_ways v_traced), (ad_told, oX0 ad_told_a ad_told_b v_told_size v_told_touches v_told_one), (ad_told_a, .inl (cI, 6, .inl a_told_a)), (ad_told_b, .inl (cI, 6, .inl a_told_b)), (ad_now, oX3 v_now_forgotten v_now_touches v_now_trapped v_now_one v_now_date)] H → va_D A [(ad0, oX7 ad_text ad_draft ad_told ad_now ad_history ad_firstImage ad_secondImage ad_seen ad_ways v_traced), (ad_told, oX0 ad_told_a ad_told_b v_told_size v_told_touches v_told_one), (ad_told_a, .inl (cI, 6, .inl a_told_a)), (ad_told_b, .inl (cI, 6, .inl a_told_b)), (ad_now, oX3 v_now_forgotten v_now_touches v_now_trapped v_now_one v_now_date)] → va_S A s.heap H locs → lv_has ls 6 [(0, .ref ad0), (1, .int p1), (2, .int x2_1), (3, .int x3_2), (4, .int x4_3), (5, .int x5_4)] → W p l e rX7_setsWithout s m args below meth c H locs 0 0 Q (F0 m 10 ls []) := by
    intro n10
    induction n10 with
    | zero => intro x2_1 x3_2 x4_3 x5_4 H locs ls hf hP hD hS hl; cases hf
    | succ n10 ih10 =>
      intro x2_1 x3_2 x4_3 x5_4 H locs ls hf hP hD hS hl
      rw [fX7_setsWithout_L10] at hf
      refine lv_iload hx hb (dt uX7_setsWithout 8 rfl) (lv_at hl 5 rfl) ?_
      refine lv_aload_n hx hb (dt uX7_setsWithout 9 rfl) rfl (lv_at hl 0 rfl) ?_
      refine va_get (D := (dC, dI)) (ci := 7) (v := .ref ad_told) (C := RX7) (T := TX7) (N := 10) hx hb hts inU7 hown hK hP 0 rfl rfl 2 (by decide) (hts _ tw_118) (fun _ h9 => h9) rfl (dt uX7_setsWithout 10 rfl) ?_
      refine va_getN (D := (dC, dI)) (ci := 0) (v := .int v_told_size) (C := RX0) (T := TX0) (N := 5) hx hb hts inU0 hown hK hP 1 rfl rfl 2 (by decide) (nw_7 hN) (fun _ h9 => h9) rfl (dt uX7_setsWithout 11 rfl) ?_
      refine lv_icmp_ge (tgt := 65) hx hb (dt uX7_setsWithout 12 rfl) (by decide) (fun c_5 => ?_) (fun c_5 => ?_)
      · have hf := vif_t c_5 hf
        refine lv_aload_n hx hb (dt uX7_setsWithout 37 rfl) rfl (lv_at hl 0 rfl) ?_
        obtain ⟨q_6, hq_7, hf⟩ := vbd hf
        refine vk_i0 [0, 1, 2, 3] (va_runV (As := []) (rest := []) ⟨hx, hb, hml, hown, hts⟩ (kX7_summedTogether ad0 ad_text ad_draft ad_told ad_told_a ad_told_b ad_now ad_history ad_firstImage ad_secondImage ad_seen ad_ways v_traced v_told_size v_told_touches v_told_one a_told_a a_told_b N q_6 hq_7 H.size) (vcwV hts tw_199 tw_200 tw_201 tw_41 tw_198 hd_X7_summedTogether rfl rfl ⟨Nat.le_of_ble_eq_true rfl, Nat.le_of_ble_eq_true rfl⟩) (vpreV hK hN hP hD [0, 1, 2, 3] rfl (by decide) (ci := 7) (q0 := 0) rfl rfl) rfl rfl hl.1 rfl (lv_room (Nat.le_of_ble_eq_true rfl)) (dt uX7_setsWithout 38 rfl) ⟨Nat.zero_le _, Nat.zero_le _⟩) hA hP hD hS rfl (by decide) (fun H locs hP hD hS => ?_)
        refine lv_aload_n hx hb (dt uX7_setsWithout 39 rfl) rfl (lv_at hl 0 rfl) ?_
        obtain ⟨q_8, hq_9, hf⟩ := vbd hf
        refine vk_i0 [0, 1, 2, 3, 4] (va_runV (As := []) (rest := [.int q_6]) ⟨hx, hb, hml, hown, hts⟩ (kX7_shownTogether ad0 ad_text ad_draft ad_told ad_told_a ad_told_b ad_now ad_history ad_firstImage ad_secondImage ad_seen ad_ways v_traced v_told_size v_told_touches v_told_one a_told_a a_told_b v_now_forgotten v_now_touches v_now_trapped v_now_one v_now_date N q_8 hq_9 H.size) (vcwV hts tw_195 tw_196 tw_197 tw_41 tw_194 hd_X7_shownTogether rfl rfl ⟨Nat.le_of_ble_eq_true rfl, Nat.le_of_ble_eq_true rfl⟩) (vpreV hK hN hP hD [0, 1, 2, 3, 4] rfl (by decide) (ci := 7) (q0 := 0) rfl rfl) rfl rfl hl.1 rfl (lv_room (Nat.le_of_ble_eq_true rfl)) (dt uX7_setsWithout 40 rfl) ⟨Nat.zero_le _, Nat.zero_le _⟩) hA hP hD hS rfl (by decide) (fun H locs hP hD hS => ?_)
        refine lv_isub hx hb (dt uX7_setsWithout 41 rfl) ?_
        refine lv_istore (lv' := [(5, .int (q_6 - q_8)), (0, .ref ad0), (1, .int p1), (2, .int x2_1), (3, .int x3_2), (4, .int x4_3)]) hx hb (dt uX7_setsWithout 42 rfl) hl (by decide) rfl (fun ls hl => ?_)
        refine lv_iload hx hb (dt uX7_setsWithout 43 rfl) (lv_at hl 0 rfl) ?_
        refine lv_iload_n hx hb (dt uX7_setsWithout 44 rfl) rfl (lv_at hl 3 rfl) ?_
        refine lv_iload_n hx hb (dt uX7_setsWithout 45 rfl) rfl (lv_at hl 4 rfl) ?_
        obtain ⟨q_10, hq_11, hf⟩ := vbd hf
        refine vk_i0 [] (va_runS (As := [.int (q_6 - q_8), .int x2_1, .int x3_2]) (rest := []) ⟨hx, hb, hml, hown, hts⟩ (kX7_waysToLack (q_6 - q_8) x2_1 x3_2 N q_10 hq_11 H.size) (vcwS hts tw_288 tw_289 tw_41 tw_287 hd_X7_waysToLack rfl rfl ⟨Nat.le_of_ble_eq_true rfl, Nat.le_of_ble_eq_true rfl⟩) (vpreS hK hN hP hD [] rfl (by decide)) rfl rfl hl.1 rfl (lv_room (Nat.le_of_ble_eq_true rfl)) (dt uX7_setsWithout 46 rfl) ⟨Nat.zero_le _, Nat.zero_le _⟩) hA hP hD hS rfl (by decide) (fun H locs hP hD hS => ?_)
        refine lv_iload hx hb (dt uX7_setsWithout 47 rfl) (lv_at hl 5 rfl) ?_
        refine lv_iload hx hb (dt uX7_setsWithout 48 rfl) (lv_at hl 0 rfl) ?_
        refine lv_bipush (v := (10 : Int32)) hx hb (dt uX7_setsWithout 49 rfl) (by decide) ?_
        refine lv_iadd hx hb (dt uX7_setsWithout 50 rfl) ?_
        refine lv_iload_n hx hb (dt uX7_setsWithout 51 rfl) rfl (lv_at hl 3 rfl) ?_
        refine lv_iload_n hx hb (dt uX7_setsWithout 52 rfl) rfl (lv_at hl 4 rfl) ?_
        obtain ⟨q_12, hq_13, hf⟩ := vbd hf
        refine vk_i0 [] (va_runS (As := [.int ((q_6 - q_8) + (10 : Int32)), .int x2_1, .int x3_2]) (rest := [.int x4_3, .int q_10]) ⟨hx, hb, hml, hown, hts⟩ (kX7_waysToLack ((q_6 - q_8) + (10 : Int32)) x2_1 x3_2 N q_12 hq_13 H.size) (vcwS hts tw_288 tw_289 tw_41 tw_287 hd_X7_waysToLack rfl rfl ⟨Nat.le_of_ble_eq_true rfl, Nat.le_of_ble_eq_true rfl⟩) (vpreS hK hN hP hD [] rfl (by decide)) rfl rfl hl.1 rfl (lv_room (Nat.le_of_ble_eq_true rfl)) (dt uX7_setsWithout 53 rfl) ⟨Nat.zero_le _, Nat.zero_le _⟩) hA hP hD hS rfl (by decide) (fun H locs hP hD hS => ?_)
        refine lv_imul hx hb (dt uX7_setsWithout 54 rfl) ?_
        refine lv_iadd hx hb (dt uX7_setsWithout 55 rfl) ?_
        have hf := Option.some.inj hf
        subst hf
        rw [hQ]
        exact vret_i C hP hD hS (dt uX7_setsWithout 56 rfl)
      · have hf := vif_f c_5 hf
        refine lv_iload hx hb (dt uX7_setsWithout 13 rfl) (lv_at hl 5 rfl) ?_
        refine lv_iload_n hx hb (dt uX7_setsWithout 14 rfl) rfl (lv_at hl 1 rfl) ?_
        refine lv_icmp_eq (tgt := 59) hx hb (dt uX7_setsWithout 15 rfl) (by decide) (fun c_14 => ?_) (fun c_14 => ?_)
        · have hf := vif_t c_14 hf
          refine lv_iinc (v := x5_4 + 1) (lv' := [(5, .int (x5_4 + 1)), (0, .ref ad0), (1, .int p1), (2, .int x2_1), (3, .int x3_2), (4, .int x4_3)]) hx hb (dt uX7_setsWithout 35 rfl) hl (k := 5) rfl rfl (by decide) rfl (fun ls hl => ?_)
          refine lv_goto (tgt := 10) hx hb (dt uX7_setsWithout 36 rfl) (by decide) ?_
          exact ih10 x2_1 x3_2 x4_3 (x5_4 + 1) _ _ _ hf hP hD hS (lv_sub hl [1, 2, 3, 4, 5, 0] rfl)
        · have hf := vif_f c_14 hf
          refine lv_iload_n hx hb (dt uX7_setsWithout 16 rfl) rfl (lv_at hl 2 rfl) ?_
          refine lv_aload_n hx hb (dt uX7_setsWithout 17 rfl) rfl (lv_at hl 0 rfl) ?_
          refine va_get (D := (dC, dI)) (ci := 7) (v := .ref ad_told) (C := RX7) (T := TX7) (N := 10) hx hb hts inU7 hown hK hP 0 rfl rfl 2 (by decide) (hts _ tw_118) (fun _ h9 => h9) rfl (dt uX7_setsWithout 18 rfl) ?_
          refine lv_iload hx hb (dt uX7_setsWithout 19 rfl) (lv_at hl 5 rfl) ?_
          obtain ⟨q_15, hq_16, hf⟩ := vbd hf
          refine vk_i0 [1, 2, 3] (va_runVN (As := [.int x5_4]) (rest := [.int x2_1]) ⟨hx, hb, hml, hown, hts⟩ (kX0_carries ad_told ad_told_a ad_told_b v_told_size v_told_touches v_told_one a_told_a a_told_b x5_4 q_15 hq_16 H.size) (vcwVN hts (nm_41 hN) tw_150 tw_151 tw_67 tw_149 hd_X0_carries rfl rfl ⟨Nat.le_of_ble_eq_true rfl, Nat.le_of_ble_eq_true rfl⟩) (vpreV hK hN hP hD [1, 2, 3] rfl (by decide) (ci := 0) (q0 := 1) rfl rfl) rfl rfl hl.1 rfl (lv_room (Nat.le_of_ble_eq_true rfl)) (dt uX7_setsWithout 20 rfl) ⟨Nat.zero_le _, Nat.zero_le _⟩) hA hP hD hS rfl (by decide) (fun H locs hP hD hS => ?_)
          refine lv_iconst (v := (1 : Int32)) hx hb (dt uX7_setsWithout 21 rfl) (by decide) ?_
          refine lv_iand hx hb (dt uX7_setsWithout 22 rfl) ?_
          refine lv_iadd hx hb (dt uX7_setsWithout 23 rfl) ?_
          refine lv_istore_n (lv' := [(2, .int (x2_1 + (q_15 &&& (1 : Int32)))), (0, .ref ad0), (1, .int p1), (3, .int x3_2), (4, .int x4_3), (5, .int x5_4)]) hx hb (dt uX7_setsWithout 24 rfl) rfl hl (by decide) rfl (fun ls hl => ?_)
          refine lv_iload_n hx hb (dt uX7_setsWithout 25 rfl) rfl (lv_at hl 3 rfl) ?_
          refine lv_aload_n hx hb (dt uX7_setsWithout 26 rfl) rfl (lv_at hl 1 rfl) ?_
          refine va_get (D := (dC, dI)) (ci := 7) (v := .ref ad_told) (C := RX7) (T := TX7) (N := 10) hx hb hts inU7 hown hK hP 0 rfl rfl 2 (by decide) (hts _ tw_118) (fun _ h9 => h9) rfl (dt uX7_setsWithout 27 rfl) ?_
          refine lv_iload hx hb (dt uX7_setsWithout 28 rfl) (lv_at hl 5 rfl) ?_
          obtain ⟨q_17, hq_18, hf⟩ := vbd hf
          refine vk_i0 [1, 2, 3] (va_runVN (As := [.int x5_4]) (rest := [.int x3_2]) ⟨hx, hb, hml, hown, hts⟩ (kX0_carries ad_told ad_told_a ad_told_b v_told_size v_told_touches v_told_one a_told_a a_told_b x5_4 q_17 hq_18 H.size) (vcwVN hts (nm_41 hN) tw_150 tw_151 tw_67 tw_149 hd_X0_carries rfl rfl ⟨Nat.le_of_ble_eq_true rfl, Nat.le_of_ble_eq_true rfl⟩) (vpreV hK hN hP hD [1, 2, 3] rfl (by decide) (ci := 0) (q0 := 1) rfl rfl) rfl rfl hl.1 rfl (lv_room (Nat.le_of_ble_eq_true rfl)) (dt uX7_setsWithout 29 rfl) ⟨Nat.zero_le _, Nat.zero_le _⟩) hA hP hD hS rfl (by decide) (fun H locs hP hD hS => ?_)
          refine lv_iconst (v := (1 : Int32)) hx hb (dt uX7_setsWithout 30 rfl) (by decide) ?_
          refine lv_ishr hx hb (dt uX7_setsWithout 31 rfl) ?_
          refine lv_iadd hx hb (dt uX7_setsWithout 32 rfl) ?_
          refine lv_istore_n (lv' := [(3, .int (x3_2 + (q_17 >>> ((1 : Int32) &&& 31)))), (2, .int (x2_1 + (q_15 &&& (1 : Int32)))), (0, .ref ad0), (1, .int p1), (4, .int x4_3), (5, .int x5_4)]) hx hb (dt uX7_setsWithout 33 rfl) rfl hl (by decide) rfl (fun ls hl => ?_)
          refine lv_iinc (v := x4_3 + 1) (lv' := [(4, .int (x4_3 + 1)), (3, .int (x3_2 + (q_17 >>> ((1 : Int32) &&& 31)))), (2, .int (x2_1 + (q_15 &&& (1 : Int32)))), (0, .ref ad0), (1, .int p1), (5, .int x5_4)]) hx hb (dt uX7_setsWithout 34 rfl) hl (k := 4) rfl rfl (by decide) rfl (fun ls hl => ?_)
          refine lv_iinc (v := x5_4 + 1) (lv' := [(5, .int (x5_4 + 1)), (4, .int (x4_3 + 1)), (3, .int (x3_2 + (q_17 >>> ((1 : Int32) &&& 31)))), (2, .int (x2_1 + (q_15 &&& (1 : Int32)))), (0, .ref ad0), (1, .int p1)]) hx hb (dt uX7_setsWithout 35 rfl) hl (k := 5) rfl rfl (by decide) rfl (fun ls hl => ?_)
          refine lv_goto (tgt := 10) hx hb (dt uX7_setsWithout 36 rfl) (by decide) ?_
          exact ih10 (x2_1 + (q_15 &&& (1 : Int32))) (x3_2 + (q_17 >>> ((1 : Int32) &&& 31))) (x4_3 + 1) (x5_4 + 1) _ _ _ hf hP hD hS (lv_sub hl [4, 5, 3, 2, 1, 0] rfl)
  exact hL10 N (0 : Int32) (0 : Int32) (0 : Int32) (0 : Int32) _ _ _ hf hP hD hS (lv_sub hl [4, 5, 3, 2, 1, 0] rfl)
abbrev rX7_booksInEachSet : Room := { frames := 5, cells := 0, slots := 0, locals := 111 }
abbrev wX7_booksInEachSet : List Cond := Cond.code yX7_booksInEachSet cX7_booksInEachSet 3 (some .int) :: VT
set_option maxHeartbeats 4000000 in
set_option maxRecDepth 100000 in
theorem kX7_booksInEachSet (ad0 : Nat) (ad_text : Nat) (ad_draft : Nat) (ad_told : Nat) (ad_told_a : Nat) (ad_told_b : Nat) (ad_now : Nat) (ad_history : Nat) (ad_firstImage : Nat) (ad_secondImage : Nat) (ad_seen : Nat) (ad_ways : Nat) (v_traced : Int64) (v_told_size : Int32) (v_told_touches : Int32) (v_told_one : Int32) (a_told_a : Nat → Int32) (a_told_b : Nat → Int32) (v_now_forgotten : Int32) (v_now_touches : Int32) (v_now_trapped : Int32) (v_now_one : Int32) (v_now_date : Int32) (N : Nat) (q0 : Int32) (hf : fX7_booksInEachSet N a_told_a a_told_b v_told_size v_now_forgotten v_now_one = some q0) : Ki l yX7_booksInEachSet wX7_booksInEachSet rX7_booksInEachSet (dC, dI) (vTy cI cJ cB cZ) [.ref ad0] [(ad0, oX7 ad_text ad_draft ad_told ad_now ad_history ad_firstImage ad_secondImage ad_seen ad_ways v_traced), (ad_told, oX0 ad_told_a ad_told_b v_told_size v_told_touches v_told_one), (ad_told_a, .inl (cI, 6, .inl a_told_a)), (ad_told_b, .inl (cI, 6, .inl a_told_b)), (ad_now, oX3 v_now_forgotten v_now_touches v_now_trapped v_now_one v_now_date)] [(ad0, oX7 ad_text ad_draft ad_told ad_now ad_history ad_firstImage ad_secondImage ad_seen ad_ways v_traced), (ad_told, oX0 ad_told_a ad_told_b v_told_size v_told_touches v_told_one), (ad_told_a, .inl (cI, 6, .inl a_told_a)), (ad_told_b, .inl (cI, 6, .inl a_told_b)), (ad_now, oX3 v_now_forgotten v_now_touches v_now_trapped v_now_one v_now_date)] q0 := by
  refine Ki.mk (cc := cX7_booksInEachSet) (maxL := 3) (ret := some .int) (by decide) (Nat.le_of_ble_eq_true rfl) ?_
  intro p e s m args below meth c A Q H locs C hQ hP hD hS ls hl
  obtain ⟨hx, hb, -, hml, hts, hown, -, hK, hN, hA⟩ := id C
  have hown : s.vm.findClass RX7 = some m.cls := hown
  have hl : lv_has ls 3 [(0, .ref ad0)] := hl
  unfold fX7_booksInEachSet at hf
  refine lv_iconst (v := (0 : Int32)) hx hb (dt uX7_booksInEachSet 0 rfl) (by decide) ?_
  refine lv_istore_n (lv' := [(1, .int (0 : Int32)), (0, .ref ad0)]) hx hb (dt uX7_booksInEachSet 1 rfl) rfl hl (by decide) rfl (fun ls hl => ?_)
  refine lv_iconst (v := (0 : Int32)) hx hb (dt uX7_booksInEachSet 2 rfl) (by decide) ?_
  refine lv_istore_n (lv' := [(2, .int (0 : Int32)), (1, .int (0 : Int32)), (0, .ref ad0)]) hx hb (dt uX7_booksInEachSet 3 rfl) rfl hl (by decide) rfl (fun ls hl => ?_)
  have hL4 : ∀ (n4 : Nat), ∀ (x1_1 : Int32) (x2_2 : Int32) (H : Heap) (locs : List Loc) (ls : Array Slot), fX7_booksInEachSet_L4 N a_told_a a_told_b v_told_size v_now_forgotten v_now_one n4 x1_1 x2_2 = some q0 → va_P (dC, dI) vwCl [(ad0, oX7 ad_text ad_draft ad_told ad_now ad_history ad_firstImage ad_secondImage ad_seen ad_ways v_traced), (ad_told, oX0 ad_told_a ad_told_b v_told_size v_told_touches v_told_one), (ad_told_a, .inl (cI, 6, .inl a_told_a)), (ad_told_b, .inl (cI, 6, .inl a_told_b)), (ad_now, oX3 v_now_forgotten v_now_touches v_now_trapped v_now_one v_now_date)] H → va_D A [(ad0, oX7 ad_text ad_draft ad_told ad_now ad_history ad_firstImage ad_secondImage ad_seen ad_ways v_traced), (ad_told, oX0 ad_told_a ad_told_b v_told_size v_told_touches v_told_one), (ad_told_a, .inl (cI, 6, .inl a_told_a)), (ad_told_b, .inl (cI, 6, .inl a_told_b)), (ad_now, oX3 v_now_forgotten v_now_touches v_now_trapped v_now_one v_now_date)] → va_S A s.heap H locs → lv_has ls 3 [(0, .ref ad0), (1, .int x1_1), (2, .int x2_2)] → W p l e rX7_booksInEachSet s m args below meth c H locs 0 0 Q (F0 m 4 ls []) := by
    intro n4
    induction n4 with
    | zero => intro x1_1 x2_2 H locs ls hf hP hD hS hl; cases hf
    | succ n4 ih4 =>
      intro x1_1 x2_2 H locs ls hf hP hD hS hl
      rw [fX7_booksInEachSet_L4] at hf
      refine lv_iload_n hx hb (dt uX7_booksInEachSet 4 rfl) rfl (lv_at hl 2 rfl) ?_
      refine lv_aload_n hx hb (dt uX7_booksInEachSet 5 rfl) rfl (lv_at hl 0 rfl) ?_
      refine va_get (D := (dC, dI)) (ci := 7) (v := .ref ad_told) (C := RX7) (T := TX7) (N := 10) hx hb hts inU7 hown hK hP 0 rfl rfl 2 (by decide) (hts _ tw_118) (fun _ h9 => h9) rfl (dt uX7_booksInEachSet 6 rfl) ?_
      refine va_getN (D := (dC, dI)) (ci := 0) (v := .int v_told_size) (C := RX0) (T := TX0) (N := 5) hx hb hts inU0 hown hK hP 1 rfl rfl 2 (by decide) (nw_7 hN) (fun _ h9 => h9) rfl (dt uX7_booksInEachSet 7 rfl) ?_
      refine lv_icmp_ge (tgt := 35) hx hb (dt uX7_booksInEachSet 8 rfl) (by decide) (fun c_3 => ?_) (fun c_3 => ?_)
      · have hf := vif_t c_3 hf
        refine lv_iload_n hx hb (dt uX7_booksInEachSet 21 rfl) rfl (lv_at hl 1 rfl) ?_
        have hf := Option.some.inj hf
        subst hf
        rw [hQ]
        exact vret_i C hP hD hS (dt uX7_booksInEachSet 22 rfl)
      · have hf := vif_f c_3 hf
        refine lv_aload_n hx hb (dt uX7_booksInEachSet 9 rfl) rfl (lv_at hl 0 rfl) ?_
        refine lv_iload_n hx hb (dt uX7_booksInEachSet 10 rfl) rfl (lv_at hl 2 rfl) ?_
        obtain ⟨q_4, hq_5, hf⟩ := vbd hf
        refine vk_i0 [0, 1, 2, 3, 4] (va_runV (As := [.int x2_2]) (rest := []) ⟨hx, hb, hml, hown, hts⟩ (kX7_setsWithout ad0 ad_text ad_draft ad_told ad_told_a ad_told_b ad_now ad_history ad_firstImage ad_secondImage ad_seen ad_ways v_traced v_told_size v_told_touches v_told_one a_told_a a_told_b v_now_forgotten v_now_touches v_now_trapped v_now_one v_now_date x2_2 N q_4 hq_5 H.size) (vcwV hts tw_291 tw_292 tw_293 tw_41 tw_290 hd_X7_setsWithout rfl rfl ⟨Nat.le_of_ble_eq_true rfl, Nat.le_of_ble_eq_true rfl⟩) (vpreV hK hN hP hD [0, 1, 2, 3, 4] rfl (by decide) (ci := 7) (q0 := 0) rfl rfl) rfl rfl hl.1 rfl (lv_room (Nat.le_of_ble_eq_true rfl)) (dt uX7_booksInEachSet 11 rfl) ⟨Nat.zero_le _, Nat.zero_le _⟩) hA hP hD hS rfl (by decide) (fun H locs hP hD hS => ?_)
        refine lv_if_ne (tgt := 29) hx hb (dt uX7_booksInEachSet 12 rfl) (by decide) (fun c_6 => ?_) (fun c_6 => ?_)
        · have hf := vif_f c_6 hf
          refine lv_iinc (v := x2_2 + 1) (lv' := [(2, .int (x2_2 + 1)), (0, .ref ad0), (1, .int x1_1)]) hx hb (dt uX7_booksInEachSet 19 rfl) hl (k := 2) rfl rfl (by decide) rfl (fun ls hl => ?_)
          refine lv_goto (tgt := 4) hx hb (dt uX7_booksInEachSet 20 rfl) (by decide) ?_
          exact ih4 x1_1 (x2_2 + 1) _ _ _ hf hP hD hS (lv_sub hl [1, 2, 0] rfl)
        · have hf := vif_t c_6 hf
          refine lv_iload_n hx hb (dt uX7_booksInEachSet 13 rfl) rfl (lv_at hl 1 rfl) ?_
          refine lv_iconst (v := (1 : Int32)) hx hb (dt uX7_booksInEachSet 14 rfl) (by decide) ?_
          refine lv_iload_n hx hb (dt uX7_booksInEachSet 15 rfl) rfl (lv_at hl 2 rfl) ?_
          refine lv_ishl hx hb (dt uX7_booksInEachSet 16 rfl) ?_
          refine lv_ior hx hb (dt uX7_booksInEachSet 17 rfl) ?_
          refine lv_istore_n (lv' := [(1, .int (x1_1 ||| ((1 : Int32) <<< (x2_2 &&& 31)))), (0, .ref ad0), (2, .int x2_2)]) hx hb (dt uX7_booksInEachSet 18 rfl) rfl hl (by decide) rfl (fun ls hl => ?_)
          refine lv_iinc (v := x2_2 + 1) (lv' := [(2, .int (x2_2 + 1)), (1, .int (x1_1 ||| ((1 : Int32) <<< (x2_2 &&& 31)))), (0, .ref ad0)]) hx hb (dt uX7_booksInEachSet 19 rfl) hl (k := 2) rfl rfl (by decide) rfl (fun ls hl => ?_)
          refine lv_goto (tgt := 4) hx hb (dt uX7_booksInEachSet 20 rfl) (by decide) ?_
          exact ih4 (x1_1 ||| ((1 : Int32) <<< (x2_2 &&& 31))) (x2_2 + 1) _ _ _ hf hP hD hS (lv_sub hl [2, 1, 0] rfl)
  exact hL4 N (0 : Int32) (0 : Int32) _ _ _ hf hP hD hS (lv_sub hl [2, 1, 0] rfl)
abbrev rX7_booksInSomeSet : Room := { frames := 5, cells := 0, slots := 0, locals := 111 }
abbrev wX7_booksInSomeSet : List Cond := Cond.code yX7_booksInSomeSet cX7_booksInSomeSet 4 (some .int) :: VT
set_option maxHeartbeats 4000000 in
set_option maxRecDepth 100000 in
theorem kX7_booksInSomeSet (ad0 : Nat) (ad_text : Nat) (ad_draft : Nat) (ad_told : Nat) (ad_told_a : Nat) (ad_told_b : Nat) (ad_now : Nat) (ad_history : Nat) (ad_firstImage : Nat) (ad_secondImage : Nat) (ad_seen : Nat) (ad_ways : Nat) (v_traced : Int64) (v_told_size : Int32) (v_told_touches : Int32) (v_told_one : Int32) (a_told_a : Nat → Int32) (a_told_b : Nat → Int32) (v_now_forgotten : Int32) (v_now_touches : Int32) (v_now_trapped : Int32) (v_now_one : Int32) (v_now_date : Int32) (N : Nat) (q0 : Int32) (hf : fX7_booksInSomeSet N a_told_a a_told_b v_told_size v_now_forgotten v_now_one = some q0) : Ki l yX7_booksInSomeSet wX7_booksInSomeSet rX7_booksInSomeSet (dC, dI) (vTy cI cJ cB cZ) [.ref ad0] [(ad0, oX7 ad_text ad_draft ad_told ad_now ad_history ad_firstImage ad_secondImage ad_seen ad_ways v_traced), (ad_told, oX0 ad_told_a ad_told_b v_told_size v_told_touches v_told_one), (ad_told_a, .inl (cI, 6, .inl a_told_a)), (ad_told_b, .inl (cI, 6, .inl a_told_b)), (ad_now, oX3 v_now_forgotten v_now_touches v_now_trapped v_now_one v_now_date)] [(ad0, oX7 ad_text ad_draft ad_told ad_now ad_history ad_firstImage ad_secondImage ad_seen ad_ways v_traced), (ad_told, oX0 ad_told_a ad_told_b v_told_size v_told_touches v_told_one), (ad_told_a, .inl (cI, 6, .inl a_told_a)), (ad_told_b, .inl (cI, 6, .inl a_told_b)), (ad_now, oX3 v_now_forgotten v_now_touches v_now_trapped v_now_one v_now_date)] q0 := by
  refine Ki.mk (cc := cX7_booksInSomeSet) (maxL := 4) (ret := some .int) (by decide) (Nat.le_of_ble_eq_true rfl) ?_
  intro p e s m args below meth c A Q H locs C hQ hP hD hS ls hl
  obtain ⟨hx, hb, -, hml, hts, hown, -, hK, hN, hA⟩ := id C
  have hown : s.vm.findClass RX7 = some m.cls := hown
  have hl : lv_has ls 4 [(0, .ref ad0)] := hl
  unfold fX7_booksInSomeSet at hf
  refine lv_aload_n hx hb (dt uX7_booksInSomeSet 0 rfl) rfl (lv_at hl 0 rfl) ?_
  refine lv_bipush (v := (-9 : Int32)) hx hb (dt uX7_booksInSomeSet 1 rfl) (by decide) ?_
  obtain ⟨q_1, hq_2, hf⟩ := vbd hf
  refine vk_i0 [0, 1, 2, 3, 4] (va_runV (As := [.int (-9 : Int32)]) (rest := []) ⟨hx, hb, hml, hown, hts⟩ (kX7_setsWithout ad0 ad_text ad_draft ad_told ad_told_a ad_told_b ad_now ad_history ad_firstImage ad_secondImage ad_seen ad_ways v_traced v_told_size v_told_touches v_told_one a_told_a a_told_b v_now_forgotten v_now_touches v_now_trapped v_now_one v_now_date (-9 : Int32) N q_1 hq_2 H.size) (vcwV hts tw_291 tw_292 tw_293 tw_41 tw_290 hd_X7_setsWithout rfl rfl ⟨Nat.le_of_ble_eq_true rfl, Nat.le_of_ble_eq_true rfl⟩) (vpreV hK hN hP hD [0, 1, 2, 3, 4] rfl (by decide) (ci := 7) (q0 := 0) rfl rfl) rfl rfl hl.1 rfl (lv_room (Nat.le_of_ble_eq_true rfl)) (dt uX7_booksInSomeSet 2 rfl) ⟨Nat.zero_le _, Nat.zero_le _⟩) hA hP hD hS rfl (by decide) (fun H locs hP hD hS => ?_)
  refine lv_istore_n (lv' := [(1, .int q_1), (0, .ref ad0)]) hx hb (dt uX7_booksInSomeSet 3 rfl) rfl hl (by decide) rfl (fun ls hl => ?_)
  refine lv_iconst (v := (0 : Int32)) hx hb (dt uX7_booksInSomeSet 4 rfl) (by decide) ?_
  refine lv_istore_n (lv' := [(2, .int (0 : Int32)), (1, .int q_1), (0, .ref ad0)]) hx hb (dt uX7_booksInSomeSet 5 rfl) rfl hl (by decide) rfl (fun ls hl => ?_)
  refine lv_iconst (v := (0 : Int32)) hx hb (dt uX7_booksInSomeSet 6 rfl) (by decide) ?_
  refine lv_istore_n (lv' := [(3, .int (0 : Int32)), (2, .int (0 : Int32)), (1, .int q_1), (0, .ref ad0)]) hx hb (dt uX7_booksInSomeSet 7 rfl) rfl hl (by decide) rfl (fun ls hl => ?_)
  have hL11 : ∀ (n11 : Nat), ∀ (x2_3 : Int32) (x3_4 : Int32) (H : Heap) (locs : List Loc) (ls : Array Slot), fX7_booksInSomeSet_L11 N a_told_a a_told_b v_told_size v_now_forgotten v_now_one q_1 n11 x2_3 x3_4 = some q0 → va_P (dC, dI) vwCl [(ad0, oX7 ad_text ad_draft ad_told ad_now ad_history ad_firstImage ad_secondImage ad_seen ad_ways v_traced), (ad_told, oX0 ad_told_a ad_told_b v_told_size v_told_touches v_told_one), (ad_told_a, .inl (cI, 6, .inl a_told_a)), (ad_told_b, .inl (cI, 6, .inl a_told_b)), (ad_now, oX3 v_now_forgotten v_now_touches v_now_trapped v_now_one v_now_date)] H → va_D A [(ad0, oX7 ad_text ad_draft ad_told ad_now ad_history ad_firstImage ad_secondImage ad_seen ad_ways v_traced), (ad_told, oX0 ad_told_a ad_told_b v_told_size v_told_touches v_told_one), (ad_told_a, .inl (cI, 6, .inl a_told_a)), (ad_told_b, .inl (cI, 6, .inl a_told_b)), (ad_now, oX3 v_now_forgotten v_now_touches v_now_trapped v_now_one v_now_date)] → va_S A s.heap H locs → lv_has ls 4 [(0, .ref ad0), (1, .int q_1), (2, .int x2_3), (3, .int x3_4)] → W p l e rX7_booksInSomeSet s m args below meth c H locs 0 0 Q (F0 m 11 ls []) := by
    intro n11
    induction n11 with
    | zero => intro x2_3 x3_4 H locs ls hf hP hD hS hl; cases hf
    | succ n11 ih11 =>
      intro x2_3 x3_4 H locs ls hf hP hD hS hl
      rw [fX7_booksInSomeSet_L11] at hf
      refine lv_iload_n hx hb (dt uX7_booksInSomeSet 8 rfl) rfl (lv_at hl 3 rfl) ?_
      refine lv_aload_n hx hb (dt uX7_booksInSomeSet 9 rfl) rfl (lv_at hl 0 rfl) ?_
      refine va_get (D := (dC, dI)) (ci := 7) (v := .ref ad_told) (C := RX7) (T := TX7) (N := 10) hx hb hts inU7 hown hK hP 0 rfl rfl 2 (by decide) (hts _ tw_118) (fun _ h9 => h9) rfl (dt uX7_booksInSomeSet 10 rfl) ?_
      refine va_getN (D := (dC, dI)) (ci := 0) (v := .int v_told_size) (C := RX0) (T := TX0) (N := 5) hx hb hts inU0 hown hK hP 1 rfl rfl 2 (by decide) (nw_7 hN) (fun _ h9 => h9) rfl (dt uX7_booksInSomeSet 11 rfl) ?_
      refine lv_icmp_ge (tgt := 43) hx hb (dt uX7_booksInSomeSet 12 rfl) (by decide) (fun c_5 => ?_) (fun c_5 => ?_)
      · have hf := vif_t c_5 hf
        refine lv_iload_n hx hb (dt uX7_booksInSomeSet 26 rfl) rfl (lv_at hl 2 rfl) ?_
        have hf := Option.some.inj hf
        subst hf
        rw [hQ]
        exact vret_i C hP hD hS (dt uX7_booksInSomeSet 27 rfl)
      · have hf := vif_f c_5 hf
        refine lv_aload_n hx hb (dt uX7_booksInSomeSet 13 rfl) rfl (lv_at hl 0 rfl) ?_
        refine lv_iload_n hx hb (dt uX7_booksInSomeSet 14 rfl) rfl (lv_at hl 3 rfl) ?_
        obtain ⟨q_6, hq_7, hf⟩ := vbd hf
        refine vk_i0 [0, 1, 2, 3, 4] (va_runV (As := [.int x3_4]) (rest := []) ⟨hx, hb, hml, hown, hts⟩ (kX7_setsWithout ad0 ad_text ad_draft ad_told ad_told_a ad_told_b ad_now ad_history ad_firstImage ad_secondImage ad_seen ad_ways v_traced v_told_size v_told_touches v_told_one a_told_a a_told_b v_now_forgotten v_now_touches v_now_trapped v_now_one v_now_date x3_4 N q_6 hq_7 H.size) (vcwV hts tw_291 tw_292 tw_293 tw_41 tw_290 hd_X7_setsWithout rfl rfl ⟨Nat.le_of_ble_eq_true rfl, Nat.le_of_ble_eq_true rfl⟩) (vpreV hK hN hP hD [0, 1, 2, 3, 4] rfl (by decide) (ci := 7) (q0 := 0) rfl rfl) rfl rfl hl.1 rfl (lv_room (Nat.le_of_ble_eq_true rfl)) (dt uX7_booksInSomeSet 15 rfl) ⟨Nat.zero_le _, Nat.zero_le _⟩) hA hP hD hS rfl (by decide) (fun H locs hP hD hS => ?_)
        refine lv_iload_n hx hb (dt uX7_booksInSomeSet 16 rfl) rfl (lv_at hl 1 rfl) ?_
        refine lv_icmp_ge (tgt := 37) hx hb (dt uX7_booksInSomeSet 17 rfl) (by decide) (fun c_8 => ?_) (fun c_8 => ?_)
        · have hf := vif_t c_8 hf
          refine lv_iinc (v := x3_4 + 1) (lv' := [(3, .int (x3_4 + 1)), (0, .ref ad0), (1, .int q_1), (2, .int x2_3)]) hx hb (dt uX7_booksInSomeSet 24 rfl) hl (k := 3) rfl rfl (by decide) rfl (fun ls hl => ?_)
          refine lv_goto (tgt := 11) hx hb (dt uX7_booksInSomeSet 25 rfl) (by decide) ?_
          exact ih11 x2_3 (x3_4 + 1) _ _ _ hf hP hD hS (lv_sub hl [1, 2, 3, 0] rfl)
        · have hf := vif_f c_8 hf
          refine lv_iload_n hx hb (dt uX7_booksInSomeSet 18 rfl) rfl (lv_at hl 2 rfl) ?_
          refine lv_iconst (v := (1 : Int32)) hx hb (dt uX7_booksInSomeSet 19 rfl) (by decide) ?_
          refine lv_iload_n hx hb (dt uX7_booksInSomeSet 20 rfl) rfl (lv_at hl 3 rfl) ?_
          refine lv_ishl hx hb (dt uX7_booksInSomeSet 21 rfl) ?_
          refine lv_ior hx hb (dt uX7_booksInSomeSet 22 rfl) ?_
          refine lv_istore_n (lv' := [(2, .int (x2_3 ||| ((1 : Int32) <<< (x3_4 &&& 31)))), (0, .ref ad0), (1, .int q_1), (3, .int x3_4)]) hx hb (dt uX7_booksInSomeSet 23 rfl) rfl hl (by decide) rfl (fun ls hl => ?_)
          refine lv_iinc (v := x3_4 + 1) (lv' := [(3, .int (x3_4 + 1)), (2, .int (x2_3 ||| ((1 : Int32) <<< (x3_4 &&& 31)))), (0, .ref ad0), (1, .int q_1)]) hx hb (dt uX7_booksInSomeSet 24 rfl) hl (k := 3) rfl rfl (by decide) rfl (fun ls hl => ?_)
          refine lv_goto (tgt := 11) hx hb (dt uX7_booksInSomeSet 25 rfl) (by decide) ?_
          exact ih11 (x2_3 ||| ((1 : Int32) <<< (x3_4 &&& 31))) (x3_4 + 1) _ _ _ hf hP hD hS (lv_sub hl [2, 3, 1, 0] rfl)
  exact hL11 N (0 : Int32) (0 : Int32) _ _ _ hf hP hD hS (lv_sub hl [3, 2, 1, 0] rfl)
abbrev rX7_why : Room := { frames := 6, cells := 0, slots := 0, locals := 134 }
abbrev wX7_why : List Cond := Cond.code yX7_why cX7_why 2 (some .int) :: VT
set_option maxHeartbeats 4000000 in
set_option maxRecDepth 100000 in
theorem kX7_why (ad0 : Nat) (ad_text : Nat) (ad_draft : Nat) (ad_told : Nat) (ad_told_a : Nat) (ad_told_b : Nat) (ad_now : Nat) (ad_history : Nat) (ad_firstImage : Nat) (ad_secondImage : Nat) (ad_seen : Nat) (ad_ways : Nat) (v_traced : Int64) (v_told_size : Int32) (v_told_touches : Int32) (v_told_one : Int32) (a_told_a : Nat → Int32) (a_told_b : Nat → Int32) (v_now_forgotten : Int32) (v_now_touches : Int32) (v_now_trapped : Int32) (v_now_one : Int32) (v_now_date : Int32) (p1 : Int32) (N : Nat) (q0 : Int32) (hf : fX7_why N a_told_a a_told_b v_told_size v_now_forgotten v_now_one p1 = some q0) : Ki l yX7_why wX7_why rX7_why (dC, dI) (vTy cI cJ cB cZ) [.ref ad0, .int p1] [(ad0, oX7 ad_text ad_draft ad_told ad_now ad_history ad_firstImage ad_secondImage ad_seen ad_ways v_traced), (ad_told, oX0 ad_told_a ad_told_b v_told_size v_told_touches v_told_one), (ad_told_a, .inl (cI, 6, .inl a_told_a)), (ad_told_b, .inl (cI, 6, .inl a_told_b)), (ad_now, oX3 v_now_forgotten v_now_touches v_now_trapped v_now_one v_now_date)] [(ad0, oX7 ad_text ad_draft ad_told ad_now ad_history ad_firstImage ad_secondImage ad_seen ad_ways v_traced), (ad_told, oX0 ad_told_a ad_told_b v_told_size v_told_touches v_told_one), (ad_told_a, .inl (cI, 6, .inl a_told_a)), (ad_told_b, .inl (cI, 6, .inl a_told_b)), (ad_now, oX3 v_now_forgotten v_now_touches v_now_trapped v_now_one v_now_date)] q0 := by
  refine Ki.mk (cc := cX7_why) (maxL := 2) (ret := some .int) (by decide) (Nat.le_of_ble_eq_true rfl) ?_
  intro p e s m args below meth c A Q H locs C hQ hP hD hS ls hl
  obtain ⟨hx, hb, -, hml, hts, hown, -, hK, hN, hA⟩ := id C
  have hown : s.vm.findClass RX7 = some m.cls := hown
  have hl : lv_has ls 2 [(0, .ref ad0), (1, .int p1)] := hl
  unfold fX7_why at hf
  refine lv_iload_n hx hb (dt uX7_why 0 rfl) rfl (lv_at hl 1 rfl) ?_
  by_cases c_1 : p1 = (0 : Int32)
  · have hf := vif_t c_1 hf
    refine lv_tableIn (off := 27) (tgt := 28) hx hb (dt uX7_why 1 rfl) (by rw [c_1]; decide) (by rw [c_1]; decide) (by rw [c_1]; rfl) (by decide) ?_
    refine lv_aload_n hx hb (dt uX7_why 2 rfl) rfl (lv_at hl 0 rfl) ?_
    refine lv_bipush (v := (-9 : Int32)) hx hb (dt uX7_why 3 rfl) (by decide) ?_
    obtain ⟨q_2, hq_3, hf⟩ := vbd hf
    refine vk_i0 [0, 1, 2, 3, 4] (va_runV (As := [.int (-9 : Int32)]) (rest := []) ⟨hx, hb, hml, hown, hts⟩ (kX7_setsWithout ad0 ad_text ad_draft ad_told ad_told_a ad_told_b ad_now ad_history ad_firstImage ad_secondImage ad_seen ad_ways v_traced v_told_size v_told_touches v_told_one a_told_a a_told_b v_now_forgotten v_now_touches v_now_trapped v_now_one v_now_date (-9 : Int32) N q_2 hq_3 H.size) (vcwV hts tw_291 tw_292 tw_293 tw_41 tw_290 hd_X7_setsWithout rfl rfl ⟨Nat.le_of_ble_eq_true rfl, Nat.le_of_ble_eq_true rfl⟩) (vpreV hK hN hP hD [0, 1, 2, 3, 4] rfl (by decide) (ci := 7) (q0 := 0) rfl rfl) rfl rfl hl.1 rfl (lv_room (Nat.le_of_ble_eq_true rfl)) (dt uX7_why 4 rfl) ⟨Nat.zero_le _, Nat.zero_le _⟩) hA hP hD hS rfl (by decide) (fun H locs hP hD hS => ?_)
    have hf := Option.some.inj hf
    subst hf
    rw [hQ]
    exact vret_i C hP hD hS (dt uX7_why 5 rfl)
  have hf := vif_f c_1 hf
  by_cases c_4 : p1 = (1 : Int32)
  · have hf := vif_t c_4 hf
    refine lv_tableIn (off := 34) (tgt := 35) hx hb (dt uX7_why 1 rfl) (by rw [c_4]; decide) (by rw [c_4]; decide) (by rw [c_4]; rfl) (by decide) ?_
    refine lv_aload_n hx hb (dt uX7_why 6 rfl) rfl (lv_at hl 0 rfl) ?_
    obtain ⟨q_5, hq_6, hf⟩ := vbd hf
    refine vk_i0 [0, 1, 2, 3, 4] (va_runV (As := []) (rest := []) ⟨hx, hb, hml, hown, hts⟩ (kX7_booksInEachSet ad0 ad_text ad_draft ad_told ad_told_a ad_told_b ad_now ad_history ad_firstImage ad_secondImage ad_seen ad_ways v_traced v_told_size v_told_touches v_told_one a_told_a a_told_b v_now_forgotten v_now_touches v_now_trapped v_now_one v_now_date N q_5 hq_6 H.size) (vcwV hts tw_295 tw_296 tw_297 tw_41 tw_294 hd_X7_booksInEachSet rfl rfl ⟨Nat.le_of_ble_eq_true rfl, Nat.le_of_ble_eq_true rfl⟩) (vpreV hK hN hP hD [0, 1, 2, 3, 4] rfl (by decide) (ci := 7) (q0 := 0) rfl rfl) rfl rfl hl.1 rfl (lv_room (Nat.le_of_ble_eq_true rfl)) (dt uX7_why 7 rfl) ⟨Nat.zero_le _, Nat.zero_le _⟩) hA hP hD hS rfl (by decide) (fun H locs hP hD hS => ?_)
    have hf := Option.some.inj hf
    subst hf
    rw [hQ]
    exact vret_i C hP hD hS (dt uX7_why 8 rfl)
  have hf := vif_f c_4 hf
  by_cases c_7 : p1 = (2 : Int32)
  · have hf := vif_t c_7 hf
    refine lv_tableIn (off := 39) (tgt := 40) hx hb (dt uX7_why 1 rfl) (by rw [c_7]; decide) (by rw [c_7]; decide) (by rw [c_7]; rfl) (by decide) ?_
    refine lv_aload_n hx hb (dt uX7_why 9 rfl) rfl (lv_at hl 0 rfl) ?_
    obtain ⟨q_8, hq_9, hf⟩ := vbd hf
    refine vk_i0 [0, 1, 2, 3, 4] (va_runV (As := []) (rest := []) ⟨hx, hb, hml, hown, hts⟩ (kX7_booksInSomeSet ad0 ad_text ad_draft ad_told ad_told_a ad_told_b ad_now ad_history ad_firstImage ad_secondImage ad_seen ad_ways v_traced v_told_size v_told_touches v_told_one a_told_a a_told_b v_now_forgotten v_now_touches v_now_trapped v_now_one v_now_date N q_8 hq_9 H.size) (vcwV hts tw_299 tw_300 tw_301 tw_41 tw_298 hd_X7_booksInSomeSet rfl rfl ⟨Nat.le_of_ble_eq_true rfl, Nat.le_of_ble_eq_true rfl⟩) (vpreV hK hN hP hD [0, 1, 2, 3, 4] rfl (by decide) (ci := 7) (q0 := 0) rfl rfl) rfl rfl hl.1 rfl (lv_room (Nat.le_of_ble_eq_true rfl)) (dt uX7_why 10 rfl) ⟨Nat.zero_le _, Nat.zero_le _⟩) hA hP hD hS rfl (by decide) (fun H locs hP hD hS => ?_)
    have hf := Option.some.inj hf
    subst hf
    rw [hQ]
    exact vret_i C hP hD hS (dt uX7_why 11 rfl)
  have hf := vif_f c_7 hf
  have e_10 : ∀ k : Int, (0 : Int) ≤ k → k ≤ 2 → (p1).toInt ≠ k := by
    intro k h1 h2
    have e : k = 0 ∨ k = 1 ∨ k = 2 := by omega
    rcases e with rfl | rfl | rfl
    · exact vne_toInt c_1
    · exact vne_toInt c_4
    · exact vne_toInt c_7
  refine lv_tableOut (tgt := 45) hx hb (dt uX7_why 1 rfl) (vtab_out e_10) (by decide) ?_
  refine lv_iconst (v := (-1 : Int32)) hx hb (dt uX7_why 12 rfl) (by decide) ?_
  have hf := Option.some.inj hf
  subst hf
  rw [hQ]
  exact vret_i C hP hD hS (dt uX7_why 13 rfl)
abbrev rJ6_numberOfLeadingZeros_0f7a4 : Room := { frames := 0, cells := 0, slots := 0, locals := 0 }
abbrev wJ6_numberOfLeadingZeros_0f7a4 : List Cond := Cond.code yJ6_numberOfLeadingZeros_0f7a4 cJ6_numberOfLeadingZeros_0f7a4 2 (some .int) :: VT
set_option maxHeartbeats 4000000 in
set_option maxRecDepth 100000 in
theorem kJ6_numberOfLeadingZeros_0f7a4 (p1 : Int32) (q0 : Int32) (hf : fJ6_numberOfLeadingZeros_0f7a4 p1 = q0) : Ki l yJ6_numberOfLeadingZeros_0f7a4 wJ6_numberOfLeadingZeros_0f7a4 rJ6_numberOfLeadingZeros_0f7a4 (dC, dI) (vTy cI cJ cB cZ) [.int p1] [] [] q0 := by
  refine Ki.mk (cc := cJ6_numberOfLeadingZeros_0f7a4) (maxL := 2) (ret := some .int) (by decide) (Nat.le_of_ble_eq_true rfl) ?_
  intro p e s m args below meth c A Q H locs C hQ hP hD hS ls hl
  obtain ⟨hx, hb, -, hml, hts, hown, -, hK, hN, hA⟩ := id C
  have hown : s.vm.findClass RJ6 = some m.cls := hown
  have hl : lv_has ls 2 [(0, .int p1)] := hl
  unfold fJ6_numberOfLeadingZeros_0f7a4 at hf
  refine lv_iload_n hx hb (dt uJ6_numberOfLeadingZeros_0f7a4 0 rfl) rfl (lv_at hl 0 rfl) ?_
  refine lv_if_gt (tgt := 15) hx hb (dt uJ6_numberOfLeadingZeros_0f7a4 1 rfl) (by decide) (fun c_1 => ?_) (fun c_1 => ?_)
  · have hf := vif_t c_1 hf
    refine lv_bipush (v := (31 : Int32)) hx hb (dt uJ6_numberOfLeadingZeros_0f7a4 8 rfl) (by decide) ?_
    refine lv_istore_n (lv' := [(1, .int (31 : Int32)), (0, .int p1)]) hx hb (dt uJ6_numberOfLeadingZeros_0f7a4 9 rfl) rfl hl (by decide) rfl (fun ls hl => ?_)
    refine lv_iload_n hx hb (dt uJ6_numberOfLeadingZeros_0f7a4 10 rfl) rfl (lv_at hl 1 rfl) ?_
    refine lv_ldcw (v := (65536 : Int32)) hx hb hown (hts _ tw_234) (dt uJ6_numberOfLeadingZeros_0f7a4 11 rfl) ?_
    have hJ33 : ∀ (x0_2 : Int32) (x1_3 : Int32) (H : Heap) (locs : List Loc) (ls : Array Slot), fJ6_numberOfLeadingZeros_0f7a4_J33 x0_2 x1_3 = q0 → va_P (dC, dI) vwCl [] H → va_D A [] → va_S A s.heap H locs → lv_has ls 2 [(0, .int x0_2), (1, .int x1_3)] → W p l e rJ6_numberOfLeadingZeros_0f7a4 s m args below meth c H locs 0 0 Q (F0 m 33 ls []) := by
      intro x0_2 x1_3 H locs ls hf hP hD hS hl
      unfold fJ6_numberOfLeadingZeros_0f7a4_J33 at hf
      refine lv_iload_n hx hb (dt uJ6_numberOfLeadingZeros_0f7a4 18 rfl) rfl (lv_at hl 0 rfl) ?_
      refine lv_sipush (v := (256 : Int32)) hx hb (dt uJ6_numberOfLeadingZeros_0f7a4 19 rfl) (by decide) ?_
      have hJ48 : ∀ (x0_4 : Int32) (x1_5 : Int32) (H : Heap) (locs : List Loc) (ls : Array Slot), fJ6_numberOfLeadingZeros_0f7a4_J48 x0_4 x1_5 = q0 → va_P (dC, dI) vwCl [] H → va_D A [] → va_S A s.heap H locs → lv_has ls 2 [(0, .int x0_4), (1, .int x1_5)] → W p l e rJ6_numberOfLeadingZeros_0f7a4 s m args below meth c H locs 0 0 Q (F0 m 48 ls []) := by
        intro x0_4 x1_5 H locs ls hf hP hD hS hl
        unfold fJ6_numberOfLeadingZeros_0f7a4_J48 at hf
        refine lv_iload_n hx hb (dt uJ6_numberOfLeadingZeros_0f7a4 26 rfl) rfl (lv_at hl 0 rfl) ?_
        refine lv_bipush (v := (16 : Int32)) hx hb (dt uJ6_numberOfLeadingZeros_0f7a4 27 rfl) (by decide) ?_
        have hJ61 : ∀ (x0_6 : Int32) (x1_7 : Int32) (H : Heap) (locs : List Loc) (ls : Array Slot), fJ6_numberOfLeadingZeros_0f7a4_J61 x0_6 x1_7 = q0 → va_P (dC, dI) vwCl [] H → va_D A [] → va_S A s.heap H locs → lv_has ls 2 [(0, .int x0_6), (1, .int x1_7)] → W p l e rJ6_numberOfLeadingZeros_0f7a4 s m args below meth c H locs 0 0 Q (F0 m 61 ls []) := by
          intro x0_6 x1_7 H locs ls hf hP hD hS hl
          unfold fJ6_numberOfLeadingZeros_0f7a4_J61 at hf
          refine lv_iload_n hx hb (dt uJ6_numberOfLeadingZeros_0f7a4 34 rfl) rfl (lv_at hl 0 rfl) ?_
          refine lv_iconst (v := (4 : Int32)) hx hb (dt uJ6_numberOfLeadingZeros_0f7a4 35 rfl) (by decide) ?_
          refine lv_icmp_lt (tgt := 73) hx hb (dt uJ6_numberOfLeadingZeros_0f7a4 36 rfl) (by decide) (fun c_8 => ?_) (fun c_8 => ?_)
          · have hf := vif_t c_8 hf
            refine lv_iload_n hx hb (dt uJ6_numberOfLeadingZeros_0f7a4 42 rfl) rfl (lv_at hl 1 rfl) ?_
            refine lv_iload_n hx hb (dt uJ6_numberOfLeadingZeros_0f7a4 43 rfl) rfl (lv_at hl 0 rfl) ?_
            refine lv_iconst (v := (1 : Int32)) hx hb (dt uJ6_numberOfLeadingZeros_0f7a4 44 rfl) (by decide) ?_
            refine lv_iushr (v := (x0_6.toUInt32 >>> ((1 : Int32).toUInt32 &&& Int32.toUInt32 31)).toInt32) hx hb (dt uJ6_numberOfLeadingZeros_0f7a4 45 rfl) rfl ?_
            refine lv_isub hx hb (dt uJ6_numberOfLeadingZeros_0f7a4 46 rfl) ?_
            subst hf
            rw [hQ]
            exact vret_i C hP hD hS (dt uJ6_numberOfLeadingZeros_0f7a4 47 rfl)
          · have hf := vif_f c_8 hf
            refine lv_iinc (v := x1_7 + (-2)) (lv' := [(1, .int (x1_7 + (-2))), (0, .int x0_6)]) hx hb (dt uJ6_numberOfLeadingZeros_0f7a4 37 rfl) hl (k := 1) rfl rfl (by decide) rfl (fun ls hl => ?_)
            refine lv_iload_n hx hb (dt uJ6_numberOfLeadingZeros_0f7a4 38 rfl) rfl (lv_at hl 1 rfl) ?_
            refine lv_iconst (v := (2 : Int32)) hx hb (dt uJ6_numberOfLeadingZeros_0f7a4 39 rfl) (by decide) ?_
            refine lv_iushr (v := (x0_6.toUInt32 >>> ((2 : Int32).toUInt32 &&& Int32.toUInt32 31)).toInt32) hx hb (dt uJ6_numberOfLeadingZeros_0f7a4 40 rfl) rfl ?_
            refine lv_istore_n (lv' := [(0, .int ((x0_6.toUInt32 >>> ((2 : Int32).toUInt32 &&& Int32.toUInt32 31)).toInt32)), (1, .int (x1_7 + (-2)))]) hx hb (dt uJ6_numberOfLeadingZeros_0f7a4 41 rfl) rfl hl (by decide) rfl (fun ls hl => ?_)
            refine lv_iload_n hx hb (dt uJ6_numberOfLeadingZeros_0f7a4 42 rfl) rfl (lv_at hl 1 rfl) ?_
            refine lv_iload_n hx hb (dt uJ6_numberOfLeadingZeros_0f7a4 43 rfl) rfl (lv_at hl 0 rfl) ?_
            refine lv_iconst (v := (1 : Int32)) hx hb (dt uJ6_numberOfLeadingZeros_0f7a4 44 rfl) (by decide) ?_
            refine lv_iushr (v := (((x0_6.toUInt32 >>> ((2 : Int32).toUInt32 &&& Int32.toUInt32 31)).toInt32).toUInt32 >>> ((1 : Int32).toUInt32 &&& Int32.toUInt32 31)).toInt32) hx hb (dt uJ6_numberOfLeadingZeros_0f7a4 45 rfl) rfl ?_
            refine lv_isub hx hb (dt uJ6_numberOfLeadingZeros_0f7a4 46 rfl) ?_
            subst hf
            rw [hQ]
            exact vret_i C hP hD hS (dt uJ6_numberOfLeadingZeros_0f7a4 47 rfl)
        refine lv_icmp_lt (tgt := 61) hx hb (dt uJ6_numberOfLeadingZeros_0f7a4 28 rfl) (by decide) (fun c_9 => ?_) (fun c_9 => ?_)
        · have hf := vif_t c_9 hf
          exact hJ61 x0_4 x1_5 _ _ _ hf hP hD hS (lv_sub hl [0, 1] rfl)
        · have hf := vif_f c_9 hf
          refine lv_iinc (v := x1_5 + (-4)) (lv' := [(1, .int (x1_5 + (-4))), (0, .int x0_4)]) hx hb (dt uJ6_numberOfLeadingZeros_0f7a4 29 rfl) hl (k := 1) rfl rfl (by decide) rfl (fun ls hl => ?_)
          refine lv_iload_n hx hb (dt uJ6_numberOfLeadingZeros_0f7a4 30 rfl) rfl (lv_at hl 1 rfl) ?_
          refine lv_iconst (v := (4 : Int32)) hx hb (dt uJ6_numberOfLeadingZeros_0f7a4 31 rfl) (by decide) ?_
          refine lv_iushr (v := (x0_4.toUInt32 >>> ((4 : Int32).toUInt32 &&& Int32.toUInt32 31)).toInt32) hx hb (dt uJ6_numberOfLeadingZeros_0f7a4 32 rfl) rfl ?_
          refine lv_istore_n (lv' := [(0, .int ((x0_4.toUInt32 >>> ((4 : Int32).toUInt32 &&& Int32.toUInt32 31)).toInt32)), (1, .int (x1_5 + (-4)))]) hx hb (dt uJ6_numberOfLeadingZeros_0f7a4 33 rfl) rfl hl (by decide) rfl (fun ls hl => ?_)
          exact hJ61 ((x0_4.toUInt32 >>> ((4 : Int32).toUInt32 &&& Int32.toUInt32 31)).toInt32) (x1_5 + (-4)) _ _ _ hf hP hD hS (lv_sub hl [0, 1] rfl)
      refine lv_icmp_lt (tgt := 48) hx hb (dt uJ6_numberOfLeadingZeros_0f7a4 20 rfl) (by decide) (fun c_10 => ?_) (fun c_10 => ?_)
      · have hf := vif_t c_10 hf
        exact hJ48 x0_2 x1_3 _ _ _ hf hP hD hS (lv_sub hl [0, 1] rfl)
      · have hf := vif_f c_10 hf
        refine lv_iinc (v := x1_3 + (-8)) (lv' := [(1, .int (x1_3 + (-8))), (0, .int x0_2)]) hx hb (dt uJ6_numberOfLeadingZeros_0f7a4 21 rfl) hl (k := 1) rfl rfl (by decide) rfl (fun ls hl => ?_)
        refine lv_iload_n hx hb (dt uJ6_numberOfLeadingZeros_0f7a4 22 rfl) rfl (lv_at hl 1 rfl) ?_
        refine lv_bipush (v := (8 : Int32)) hx hb (dt uJ6_numberOfLeadingZeros_0f7a4 23 rfl) (by decide) ?_
        refine lv_iushr (v := (x0_2.toUInt32 >>> ((8 : Int32).toUInt32 &&& Int32.toUInt32 31)).toInt32) hx hb (dt uJ6_numberOfLeadingZeros_0f7a4 24 rfl) rfl ?_
        refine lv_istore_n (lv' := [(0, .int ((x0_2.toUInt32 >>> ((8 : Int32).toUInt32 &&& Int32.toUInt32 31)).toInt32)), (1, .int (x1_3 + (-8)))]) hx hb (dt uJ6_numberOfLeadingZeros_0f7a4 25 rfl) rfl hl (by decide) rfl (fun ls hl => ?_)
        exact hJ48 ((x0_2.toUInt32 >>> ((8 : Int32).toUInt32 &&& Int32.toUInt32 31)).toInt32) (x1_3 + (-8)) _ _ _ hf hP hD hS (lv_sub hl [0, 1] rfl)
    refine lv_icmp_lt (tgt := 33) hx hb (dt uJ6_numberOfLeadingZeros_0f7a4 12 rfl) (by decide) (fun c_11 => ?_) (fun c_11 => ?_)
    · have hf := vif_t c_11 hf
      exact hJ33 p1 (31 : Int32) _ _ _ hf hP hD hS (lv_sub hl [1, 0] rfl)
    · have hf := vif_f c_11 hf
      refine lv_iinc (v := (31 : Int32) + (-16)) (lv' := [(1, .int ((31 : Int32) + (-16))), (0, .int p1)]) hx hb (dt uJ6_numberOfLeadingZeros_0f7a4 13 rfl) hl (k := 0) rfl rfl (by decide) rfl (fun ls hl => ?_)
      refine lv_iload_n hx hb (dt uJ6_numberOfLeadingZeros_0f7a4 14 rfl) rfl (lv_at hl 1 rfl) ?_
      refine lv_bipush (v := (16 : Int32)) hx hb (dt uJ6_numberOfLeadingZeros_0f7a4 15 rfl) (by decide) ?_
      refine lv_iushr (v := (p1.toUInt32 >>> ((16 : Int32).toUInt32 &&& Int32.toUInt32 31)).toInt32) hx hb (dt uJ6_numberOfLeadingZeros_0f7a4 16 rfl) rfl ?_
      refine lv_istore_n (lv' := [(0, .int ((p1.toUInt32 >>> ((16 : Int32).toUInt32 &&& Int32.toUInt32 31)).toInt32)), (1, .int ((31 : Int32) + (-16)))]) hx hb (dt uJ6_numberOfLeadingZeros_0f7a4 17 rfl) rfl hl (by decide) rfl (fun ls hl => ?_)
      exact hJ33 ((p1.toUInt32 >>> ((16 : Int32).toUInt32 &&& Int32.toUInt32 31)).toInt32) ((31 : Int32) + (-16)) _ _ _ hf hP hD hS (lv_sub hl [0, 1] rfl)
  · have hf := vif_f c_1 hf
    refine lv_iload_n hx hb (dt uJ6_numberOfLeadingZeros_0f7a4 2 rfl) rfl (lv_at hl 0 rfl) ?_
    refine lv_if_ne (tgt := 13) hx hb (dt uJ6_numberOfLeadingZeros_0f7a4 3 rfl) (by decide) (fun c_12 => ?_) (fun c_12 => ?_)
    · have hf := vif_f c_12 hf
      refine lv_iconst (v := (0 : Int32)) hx hb (dt uJ6_numberOfLeadingZeros_0f7a4 6 rfl) (by decide) ?_
      subst hf
      rw [hQ]
      exact vret_i C hP hD hS (dt uJ6_numberOfLeadingZeros_0f7a4 7 rfl)
    · have hf := vif_t c_12 hf
      refine lv_bipush (v := (32 : Int32)) hx hb (dt uJ6_numberOfLeadingZeros_0f7a4 4 rfl) (by decide) ?_
      refine lv_goto (tgt := 14) hx hb (dt uJ6_numberOfLeadingZeros_0f7a4 5 rfl) (by decide) ?_
      subst hf
      rw [hQ]
      exact vret_i C hP hD hS (dt uJ6_numberOfLeadingZeros_0f7a4 7 rfl)
abbrev rX7_proofs : Room := { frames := 1, cells := 0, slots := 0, locals := 22 }
abbrev wX7_proofs : List Cond := Cond.code yX7_proofs cX7_proofs 2 (some .int) :: VT
set_option maxHeartbeats 4000000 in
set_option maxRecDepth 100000 in
theorem kX7_proofs (ad0 : Nat) (p1 : Int32) (q0 : Int32) (hf : fX7_proofs p1 = q0) : Ki l yX7_proofs wX7_proofs rX7_proofs (dC, dI) (vTy cI cJ cB cZ) [.ref ad0, .int p1] [] [] q0 := by
  refine Ki.mk (cc := cX7_proofs) (maxL := 2) (ret := some .int) (by decide) (Nat.le_of_ble_eq_true rfl) ?_
  intro p e s m args below meth c A Q H locs C hQ hP hD hS ls hl
  obtain ⟨hx, hb, -, hml, hts, hown, -, hK, hN, hA⟩ := id C
  have hown : s.vm.findClass RX7 = some m.cls := hown
  have hl : lv_has ls 2 [(0, .ref ad0), (1, .int p1)] := hl
  unfold fX7_proofs at hf
  refine lv_iload_n hx hb (dt uX7_proofs 0 rfl) rfl (lv_at hl 1 rfl) ?_
  refine lv_iconst (v := (0 : Int32)) hx hb (dt uX7_proofs 1 rfl) (by decide) ?_
  refine lv_bipush (v := (99 : Int32)) hx hb (dt uX7_proofs 2 rfl) (by decide) ?_
  refine vk_z0 [] (va_runS (As := [.int p1, .int (0 : Int32), .int (99 : Int32)]) (rest := []) ⟨hx, hb, hml, hown, hts⟩ (kX7_within p1 (0 : Int32) (99 : Int32) _ rfl H.size) (vcwS hts tw_106 tw_43 tw_41 tw_42 hd_X7_within rfl rfl ⟨Nat.le_of_ble_eq_true rfl, Nat.le_of_ble_eq_true rfl⟩) (vpreS hK hN hP hD [] rfl (by decide)) rfl rfl hl.1 rfl (lv_room (Nat.le_of_ble_eq_true rfl)) (dt uX7_proofs 3 rfl) ⟨Nat.zero_le _, Nat.zero_le _⟩) hA hP hD hS rfl (by decide) (fun hz_1 H locs hP hD hS => ?_)
  refine lv_if_ne (tgt := 12) hx hb (dt uX7_proofs 4 rfl) (by decide) (fun c_2 => ?_) (fun c_2 => ?_)
  · have hf := vif_f c_2 hf
    refine lv_iload_n hx hb (dt uX7_proofs 7 rfl) rfl (lv_at hl 1 rfl) ?_
    refine lv_iconst (v := (2 : Int32)) hx hb (dt uX7_proofs 8 rfl) (by decide) ?_
    refine lv_icmp_ge (tgt := 21) hx hb (dt uX7_proofs 9 rfl) (by decide) (fun c_3 => ?_) (fun c_3 => ?_)
    · have hf := vif_t c_3 hf
      refine lv_bipush (v := (32 : Int32)) hx hb (dt uX7_proofs 12 rfl) (by decide) ?_
      refine lv_iload_n hx hb (dt uX7_proofs 13 rfl) rfl (lv_at hl 1 rfl) ?_
      refine lv_iconst (v := (1 : Int32)) hx hb (dt uX7_proofs 14 rfl) (by decide) ?_
      refine lv_isub hx hb (dt uX7_proofs 15 rfl) ?_
      refine vk_i0 [] (va_runS (As := [.int (p1 - (1 : Int32))]) (rest := [.int (32 : Int32)]) ⟨hx, hb, hml, hown, hts⟩ (kJ6_numberOfLeadingZeros_0f7a4 (p1 - (1 : Int32)) _ rfl H.size) (vcwS hts tw_303 tw_304 tw_169 tw_302 hd_J6_numberOfLeadingZeros_0f7a4 rfl rfl ⟨Nat.le_of_ble_eq_true rfl, Nat.le_of_ble_eq_true rfl⟩) (vpreS hK hN hP hD [] rfl (by decide)) rfl rfl hl.1 rfl (lv_room (Nat.le_of_ble_eq_true rfl)) (dt uX7_proofs 16 rfl) ⟨Nat.zero_le _, Nat.zero_le _⟩) hA hP hD hS rfl (by decide) (fun H locs hP hD hS => ?_)
      refine lv_isub hx hb (dt uX7_proofs 17 rfl) ?_
      subst hf
      rw [hQ]
      exact vret_i C hP hD hS (dt uX7_proofs 18 rfl)
    · have hf := vif_f c_3 hf
      refine lv_iconst (v := (0 : Int32)) hx hb (dt uX7_proofs 10 rfl) (by decide) ?_
      refine lv_goto (tgt := 30) hx hb (dt uX7_proofs 11 rfl) (by decide) ?_
      subst hf
      rw [hQ]
      exact vret_i C hP hD hS (dt uX7_proofs 18 rfl)
  · have hf := vif_t c_2 hf
    refine lv_iconst (v := (-1 : Int32)) hx hb (dt uX7_proofs 5 rfl) (by decide) ?_
    subst hf
    rw [hQ]
    exact vret_i C hP hD hS (dt uX7_proofs 6 rfl)
abbrev rX7_markOfBook : Room := { frames := 3, cells := 0, slots := 0, locals := 64 }
abbrev wX7_markOfBook : List Cond := Cond.code yX7_markOfBook cX7_markOfBook 2 (some .int) :: VT
set_option maxHeartbeats 4000000 in
set_option maxRecDepth 100000 in
theorem kX7_markOfBook (ad0 : Nat) (ad_text : Nat) (ad_draft : Nat) (ad_told : Nat) (ad_told_a : Nat) (ad_told_b : Nat) (ad_now : Nat) (ad_history : Nat) (ad_firstImage : Nat) (ad_secondImage : Nat) (ad_seen : Nat) (ad_ways : Nat) (v_traced : Int64) (v_told_size : Int32) (v_told_touches : Int32) (v_told_one : Int32) (a_told_a : Nat → Int32) (a_told_b : Nat → Int32) (v_now_forgotten : Int32) (v_now_touches : Int32) (v_now_trapped : Int32) (v_now_one : Int32) (v_now_date : Int32) (p1 : Int32) (q0 : (Int32 × Int64)) (hf : fX7_markOfBook a_told_a a_told_b v_now_forgotten v_now_one v_traced p1 = some q0) : Ki l yX7_markOfBook wX7_markOfBook rX7_markOfBook (dC, dI) (vTy cI cJ cB cZ) [.ref ad0, .int p1] [(ad0, oX7 ad_text ad_draft ad_told ad_now ad_history ad_firstImage ad_secondImage ad_seen ad_ways v_traced), (ad_told, oX0 ad_told_a ad_told_b v_told_size v_told_touches v_told_one), (ad_told_a, .inl (cI, 6, .inl a_told_a)), (ad_told_b, .inl (cI, 6, .inl a_told_b)), (ad_now, oX3 v_now_forgotten v_now_touches v_now_trapped v_now_one v_now_date)] [(ad0, oX7 ad_text ad_draft ad_told ad_now ad_history ad_firstImage ad_secondImage ad_seen ad_ways q0.2), (ad_told, oX0 ad_told_a ad_told_b v_told_size v_told_touches v_told_one), (ad_told_a, .inl (cI, 6, .inl a_told_a)), (ad_told_b, .inl (cI, 6, .inl a_told_b)), (ad_now, oX3 v_now_forgotten v_now_touches v_now_trapped v_now_one v_now_date)] q0.1 := by
  refine Ki.mk (cc := cX7_markOfBook) (maxL := 2) (ret := some .int) (by decide) (Nat.le_of_ble_eq_true rfl) ?_
  intro p e s m args below meth c A Q H locs C hQ hP hD hS ls hl
  obtain ⟨hx, hb, -, hml, hts, hown, -, hK, hN, hA⟩ := id C
  have hown : s.vm.findClass RX7 = some m.cls := hown
  have hl : lv_has ls 2 [(0, .ref ad0), (1, .int p1)] := hl
  unfold fX7_markOfBook at hf
  refine lv_aload_n hx hb (dt uX7_markOfBook 0 rfl) rfl (lv_at hl 0 rfl) ?_
  refine lv_dup hx hb (dt uX7_markOfBook 1 rfl) rfl ?_
  refine va_get (D := (dC, dI)) (ci := 7) (v := .long v_traced) (C := RX7) (T := TX7) (N := 10) hx hb hts inU7 hown hK hP 0 rfl rfl 9 (by decide) (hts _ tw_305) (fun _ h9 => h9) rfl (dt uX7_markOfBook 2 rfl) ?_
  refine lv_lconst (v := (1 : Int64)) hx hb (dt uX7_markOfBook 3 rfl) (by decide) ?_
  refine lv_ladd hx hb (dt uX7_markOfBook 4 rfl) ?_
  refine va_put (D := (dC, dI)) (ci := 7) (v := .long (v_traced + (1 : Int64))) (ty := .long) (C := RX7) (T := TX7) (N := 10) hx hb hts inU7 tyX7 tyX7_ok nmX7 hown hK hP hD hS 0 rfl rfl 9 (by decide) (hts _ tw_305) (fun _ h9 => h9) rfl (by decide +kernel) rfl rfl (Nat.le_of_ble_eq_true rfl) (dt uX7_markOfBook 5 rfl) (fun H locs hP hD hS => ?_)
  have hP : va_P (dC, dI) vwCl [(ad0, oX7 ad_text ad_draft ad_told ad_now ad_history ad_firstImage ad_secondImage ad_seen ad_ways (v_traced + (1 : Int64))), (ad_told, oX0 ad_told_a ad_told_b v_told_size v_told_touches v_told_one), (ad_told_a, .inl (cI, 6, .inl a_told_a)), (ad_told_b, .inl (cI, 6, .inl a_told_b)), (ad_now, oX3 v_now_forgotten v_now_touches v_now_trapped v_now_one v_now_date)] H := hP
  have hD : va_D A [(ad0, oX7 ad_text ad_draft ad_told ad_now ad_history ad_firstImage ad_secondImage ad_seen ad_ways (v_traced + (1 : Int64))), (ad_told, oX0 ad_told_a ad_told_b v_told_size v_told_touches v_told_one), (ad_told_a, .inl (cI, 6, .inl a_told_a)), (ad_told_b, .inl (cI, 6, .inl a_told_b)), (ad_now, oX3 v_now_forgotten v_now_touches v_now_trapped v_now_one v_now_date)] := hD
  refine lv_aload_n hx hb (dt uX7_markOfBook 6 rfl) rfl (lv_at hl 0 rfl) ?_
  refine lv_iload_n hx hb (dt uX7_markOfBook 7 rfl) rfl (lv_at hl 1 rfl) ?_
  obtain ⟨q_1, hq_2, hf⟩ := vbd hf
  refine vk_i0 [0, 1, 2, 3, 4] (va_runV (As := [.int p1]) (rest := []) ⟨hx, hb, hml, hown, hts⟩ (kX7_shown ad0 ad_text ad_draft ad_told ad_told_a ad_told_b ad_now ad_history ad_firstImage ad_secondImage ad_seen ad_ways (v_traced + (1 : Int64)) v_told_size v_told_touches v_told_one a_told_a a_told_b v_now_forgotten v_now_touches v_now_trapped v_now_one v_now_date p1 q_1 hq_2 H.size) (vcwV hts tw_146 tw_147 tw_148 tw_41 tw_145 hd_X7_shown rfl rfl ⟨Nat.le_of_ble_eq_true rfl, Nat.le_of_ble_eq_true rfl⟩) (vpreV hK hN hP hD [0, 1, 2, 3, 4] rfl (by decide) (ci := 7) (q0 := 0) rfl rfl) rfl rfl hl.1 rfl (lv_room (Nat.le_of_ble_eq_true rfl)) (dt uX7_markOfBook 8 rfl) ⟨Nat.zero_le _, Nat.zero_le _⟩) hA hP hD hS rfl (by decide) (fun H locs hP hD hS => ?_)
  have hf := Option.some.inj hf
  subst hf
  rw [hQ]
  exact vret_i C hP hD hS (dt uX7_markOfBook 9 rfl)
abbrev rX7_markOfRates : Room := { frames := 4, cells := 0, slots := 0, locals := 85 }
abbrev wX7_markOfRates : List Cond := Cond.code yX7_markOfRates cX7_markOfRates 2 (some .int) :: VT
set_option maxHeartbeats 4000000 in
set_option maxRecDepth 100000 in
theorem kX7_markOfRates (ad0 : Nat) (ad_text : Nat) (ad_draft : Nat) (ad_told : Nat) (ad_told_a : Nat) (ad_told_b : Nat) (ad_now : Nat) (ad_history : Nat) (ad_firstImage : Nat) (ad_secondImage : Nat) (ad_seen : Nat) (ad_ways : Nat) (v_traced : Int64) (v_told_size : Int32) (v_told_touches : Int32) (v_told_one : Int32) (a_told_a : Nat → Int32) (a_told_b : Nat → Int32) (v_now_forgotten : Int32) (v_now_touches : Int32) (v_now_trapped : Int32) (v_now_one : Int32) (v_now_date : Int32) (p1 : Int32) (q0 : (Int32 × Int64)) (hf : fX7_markOfRates a_told_a a_told_b v_now_forgotten v_now_one v_traced p1 = some q0) : Ki l yX7_markOfRates wX7_markOfRates rX7_markOfRates (dC, dI) (vTy cI cJ cB cZ) [.ref ad0, .int p1] [(ad0, oX7 ad_text ad_draft ad_told ad_now ad_history ad_firstImage ad_secondImage ad_seen ad_ways v_traced), (ad_told, oX0 ad_told_a ad_told_b v_told_size v_told_touches v_told_one), (ad_told_a, .inl (cI, 6, .inl a_told_a)), (ad_told_b, .inl (cI, 6, .inl a_told_b)), (ad_now, oX3 v_now_forgotten v_now_touches v_now_trapped v_now_one v_now_date)] [(ad0, oX7 ad_text ad_draft ad_told ad_now ad_history ad_firstImage ad_secondImage ad_seen ad_ways q0.2), (ad_told, oX0 ad_told_a ad_told_b v_told_size v_told_touches v_told_one), (ad_told_a, .inl (cI, 6, .inl a_told_a)), (ad_told_b, .inl (cI, 6, .inl a_told_b)), (ad_now, oX3 v_now_forgotten v_now_touches v_now_trapped v_now_one v_now_date)] q0.1 := by
  refine Ki.mk (cc := cX7_markOfRates) (maxL := 2) (ret := some .int) (by decide) (Nat.le_of_ble_eq_true rfl) ?_
  intro p e s m args below meth c A Q H locs C hQ hP hD hS ls hl
  obtain ⟨hx, hb, -, hml, hts, hown, -, hK, hN, hA⟩ := id C
  have hown : s.vm.findClass RX7 = some m.cls := hown
  have hl : lv_has ls 2 [(0, .ref ad0), (1, .int p1)] := hl
  unfold fX7_markOfRates at hf
  refine lv_aload_n hx hb (dt uX7_markOfRates 0 rfl) rfl (lv_at hl 0 rfl) ?_
  refine lv_dup hx hb (dt uX7_markOfRates 1 rfl) rfl ?_
  refine va_get (D := (dC, dI)) (ci := 7) (v := .long v_traced) (C := RX7) (T := TX7) (N := 10) hx hb hts inU7 hown hK hP 0 rfl rfl 9 (by decide) (hts _ tw_305) (fun _ h9 => h9) rfl (dt uX7_markOfRates 2 rfl) ?_
  refine lv_ldc2 (v := lc_10) hx hb hown (hts _ tw_306) (dt uX7_markOfRates 3 rfl) ?_
  refine lv_ladd hx hb (dt uX7_markOfRates 4 rfl) ?_
  obtain ⟨t_1, et_1, hf⟩ := vlet_ex hf
  rw [← et_1]
  refine va_put (D := (dC, dI)) (ci := 7) (v := .long t_1) (ty := .long) (C := RX7) (T := TX7) (N := 10) hx hb hts inU7 tyX7 tyX7_ok nmX7 hown hK hP hD hS 0 rfl rfl 9 (by decide) (hts _ tw_305) (fun _ h9 => h9) rfl (by decide +kernel) rfl rfl (Nat.le_of_ble_eq_true rfl) (dt uX7_markOfRates 5 rfl) (fun H locs hP hD hS => ?_)
  have hP : va_P (dC, dI) vwCl [(ad0, oX7 ad_text ad_draft ad_told ad_now ad_history ad_firstImage ad_secondImage ad_seen ad_ways t_1), (ad_told, oX0 ad_told_a ad_told_b v_told_size v_told_touches v_told_one), (ad_told_a, .inl (cI, 6, .inl a_told_a)), (ad_told_b, .inl (cI, 6, .inl a_told_b)), (ad_now, oX3 v_now_forgotten v_now_touches v_now_trapped v_now_one v_now_date)] H := hP
  have hD : va_D A [(ad0, oX7 ad_text ad_draft ad_told ad_now ad_history ad_firstImage ad_secondImage ad_seen ad_ways t_1), (ad_told, oX0 ad_told_a ad_told_b v_told_size v_told_touches v_told_one), (ad_told_a, .inl (cI, 6, .inl a_told_a)), (ad_told_b, .inl (cI, 6, .inl a_told_b)), (ad_now, oX3 v_now_forgotten v_now_touches v_now_trapped v_now_one v_now_date)] := hD
  refine lv_aload_n hx hb (dt uX7_markOfRates 6 rfl) rfl (lv_at hl 0 rfl) ?_
  refine lv_iload_n hx hb (dt uX7_markOfRates 7 rfl) rfl (lv_at hl 1 rfl) ?_
  obtain ⟨q_2, hq_3, hf⟩ := vbd hf
  refine vk_i [0, 1, 2, 3, 4] (ws2 := [(ad0, oX7 ad_text ad_draft ad_told ad_now ad_history ad_firstImage ad_secondImage ad_seen ad_ways q_2.2), (ad_told, oX0 ad_told_a ad_told_b v_told_size v_told_touches v_told_one), (ad_told_a, .inl (cI, 6, .inl a_told_a)), (ad_told_b, .inl (cI, 6, .inl a_told_b)), (ad_now, oX3 v_now_forgotten v_now_touches v_now_trapped v_now_one v_now_date)]) (va_runV (As := [.int p1]) (rest := []) ⟨hx, hb, hml, hown, hts⟩ (kX7_markOfBook ad0 ad_text ad_draft ad_told ad_told_a ad_told_b ad_now ad_history ad_firstImage ad_secondImage ad_seen ad_ways t_1 v_told_size v_told_touches v_told_one a_told_a a_told_b v_now_forgotten v_now_touches v_now_trapped v_now_one v_now_date p1 q_2 hq_3 H.size) (vcwV hts tw_308 tw_309 tw_310 tw_41 tw_307 hd_X7_markOfBook rfl rfl ⟨Nat.le_of_ble_eq_true rfl, Nat.le_of_ble_eq_true rfl⟩) (vpreV hK hN hP hD [0, 1, 2, 3, 4] rfl (by decide) (ci := 7) (q0 := 0) rfl rfl) rfl rfl hl.1 rfl (lv_room (Nat.le_of_ble_eq_true rfl)) (dt uX7_markOfRates 8 rfl) ⟨Nat.zero_le _, Nat.zero_le _⟩) hA hP hD hS rfl (by decide) rfl rfl (fun H locs hP hD hS => ?_)
  refine lv_aload_n hx hb (dt uX7_markOfRates 9 rfl) rfl (lv_at hl 0 rfl) ?_
  refine lv_iload_n hx hb (dt uX7_markOfRates 10 rfl) rfl (lv_at hl 1 rfl) ?_
  obtain ⟨q_4, hq_5, hf⟩ := vbd hf
  refine vk_i0 [0, 1, 2, 3, 4] (va_runV (As := [.int p1]) (rest := [.int q_2.1]) ⟨hx, hb, hml, hown, hts⟩ (kX7_shown ad0 ad_text ad_draft ad_told ad_told_a ad_told_b ad_now ad_history ad_firstImage ad_secondImage ad_seen ad_ways q_2.2 v_told_size v_told_touches v_told_one a_told_a a_told_b v_now_forgotten v_now_touches v_now_trapped v_now_one v_now_date p1 q_4 hq_5 H.size) (vcwV hts tw_146 tw_147 tw_148 tw_41 tw_145 hd_X7_shown rfl rfl ⟨Nat.le_of_ble_eq_true rfl, Nat.le_of_ble_eq_true rfl⟩) (vpreV hK hN hP hD [0, 1, 2, 3, 4] rfl (by decide) (ci := 7) (q0 := 0) rfl rfl) rfl rfl hl.1 rfl (lv_room (Nat.le_of_ble_eq_true rfl)) (dt uX7_markOfRates 11 rfl) ⟨Nat.zero_le _, Nat.zero_le _⟩) hA hP hD hS rfl (by decide) (fun H locs hP hD hS => ?_)
  refine vk_i0 [] (va_runS (As := [.int q_4]) (rest := [.int q_2.1]) ⟨hx, hb, hml, hown, hts⟩ (kX7_tensOf q_4 _ rfl H.size) (vcwS hts tw_175 tw_176 tw_41 tw_174 hd_X7_tensOf rfl rfl ⟨Nat.le_of_ble_eq_true rfl, Nat.le_of_ble_eq_true rfl⟩) (vpreS hK hN hP hD [] rfl (by decide)) rfl rfl hl.1 rfl (lv_room (Nat.le_of_ble_eq_true rfl)) (dt uX7_markOfRates 12 rfl) ⟨Nat.zero_le _, Nat.zero_le _⟩) hA hP hD hS rfl (by decide) (fun H locs hP hD hS => ?_)
  refine lv_iadd hx hb (dt uX7_markOfRates 13 rfl) ?_
  have hf := Option.some.inj hf
  subst hf
  rw [hQ]
  exact vret_i C hP hD hS (dt uX7_markOfRates 14 rfl)
abbrev rX7_markOfTrain : Room := { frames := 4, cells := 0, slots := 0, locals := 85 }
abbrev wX7_markOfTrain : List Cond := Cond.code yX7_markOfTrain cX7_markOfTrain 2 (some .int) :: VT
set_option maxHeartbeats 4000000 in
set_option maxRecDepth 100000 in
theorem kX7_markOfTrain (ad0 : Nat) (ad_text : Nat) (ad_draft : Nat) (ad_told : Nat) (ad_told_a : Nat) (ad_told_b : Nat) (ad_now : Nat) (ad_history : Nat) (ad_firstImage : Nat) (ad_secondImage : Nat) (ad_seen : Nat) (ad_ways : Nat) (v_traced : Int64) (v_told_size : Int32) (v_told_touches : Int32) (v_told_one : Int32) (a_told_a : Nat → Int32) (a_told_b : Nat → Int32) (v_now_forgotten : Int32) (v_now_touches : Int32) (v_now_trapped : Int32) (v_now_one : Int32) (v_now_date : Int32) (p1 : Int32) (q0 : (Int32 × Int64)) (hf : fX7_markOfTrain a_told_a a_told_b v_now_forgotten v_now_one v_traced p1 = some q0) : Ki l yX7_markOfTrain wX7_markOfTrain rX7_markOfTrain (dC, dI) (vTy cI cJ cB cZ) [.ref ad0, .int p1] [(ad0, oX7 ad_text ad_draft ad_told ad_now ad_history ad_firstImage ad_secondImage ad_seen ad_ways v_traced), (ad_told, oX0 ad_told_a ad_told_b v_told_size v_told_touches v_told_one), (ad_told_a, .inl (cI, 6, .inl a_told_a)), (ad_told_b, .inl (cI, 6, .inl a_told_b)), (ad_now, oX3 v_now_forgotten v_now_touches v_now_trapped v_now_one v_now_date)] [(ad0, oX7 ad_text ad_draft ad_told ad_now ad_history ad_firstImage ad_secondImage ad_seen ad_ways q0.2), (ad_told, oX0 ad_told_a ad_told_b v_told_size v_told_touches v_told_one), (ad_told_a, .inl (cI, 6, .inl a_told_a)), (ad_told_b, .inl (cI, 6, .inl a_told_b)), (ad_now, oX3 v_now_forgotten v_now_touches v_now_trapped v_now_one v_now_date)] q0.1 := by
  refine Ki.mk (cc := cX7_markOfTrain) (maxL := 2) (ret := some .int) (by decide) (Nat.le_of_ble_eq_true rfl) ?_
  intro p e s m args below meth c A Q H locs C hQ hP hD hS ls hl
  obtain ⟨hx, hb, -, hml, hts, hown, -, hK, hN, hA⟩ := id C
  have hown : s.vm.findClass RX7 = some m.cls := hown
  have hl : lv_has ls 2 [(0, .ref ad0), (1, .int p1)] := hl
  unfold fX7_markOfTrain at hf
  refine lv_aload_n hx hb (dt uX7_markOfTrain 0 rfl) rfl (lv_at hl 0 rfl) ?_
  refine lv_dup hx hb (dt uX7_markOfTrain 1 rfl) rfl ?_
  refine va_get (D := (dC, dI)) (ci := 7) (v := .long v_traced) (C := RX7) (T := TX7) (N := 10) hx hb hts inU7 hown hK hP 0 rfl rfl 9 (by decide) (hts _ tw_305) (fun _ h9 => h9) rfl (dt uX7_markOfTrain 2 rfl) ?_
  refine lv_ldc2 (v := lc_100) hx hb hown (hts _ tw_311) (dt uX7_markOfTrain 3 rfl) ?_
  refine lv_ladd hx hb (dt uX7_markOfTrain 4 rfl) ?_
  obtain ⟨t_1, et_1, hf⟩ := vlet_ex hf
  rw [← et_1]
  refine va_put (D := (dC, dI)) (ci := 7) (v := .long t_1) (ty := .long) (C := RX7) (T := TX7) (N := 10) hx hb hts inU7 tyX7 tyX7_ok nmX7 hown hK hP hD hS 0 rfl rfl 9 (by decide) (hts _ tw_305) (fun _ h9 => h9) rfl (by decide +kernel) rfl rfl (Nat.le_of_ble_eq_true rfl) (dt uX7_markOfTrain 5 rfl) (fun H locs hP hD hS => ?_)
  have hP : va_P (dC, dI) vwCl [(ad0, oX7 ad_text ad_draft ad_told ad_now ad_history ad_firstImage ad_secondImage ad_seen ad_ways t_1), (ad_told, oX0 ad_told_a ad_told_b v_told_size v_told_touches v_told_one), (ad_told_a, .inl (cI, 6, .inl a_told_a)), (ad_told_b, .inl (cI, 6, .inl a_told_b)), (ad_now, oX3 v_now_forgotten v_now_touches v_now_trapped v_now_one v_now_date)] H := hP
  have hD : va_D A [(ad0, oX7 ad_text ad_draft ad_told ad_now ad_history ad_firstImage ad_secondImage ad_seen ad_ways t_1), (ad_told, oX0 ad_told_a ad_told_b v_told_size v_told_touches v_told_one), (ad_told_a, .inl (cI, 6, .inl a_told_a)), (ad_told_b, .inl (cI, 6, .inl a_told_b)), (ad_now, oX3 v_now_forgotten v_now_touches v_now_trapped v_now_one v_now_date)] := hD
  refine lv_aload_n hx hb (dt uX7_markOfTrain 6 rfl) rfl (lv_at hl 0 rfl) ?_
  refine lv_iload_n hx hb (dt uX7_markOfTrain 7 rfl) rfl (lv_at hl 1 rfl) ?_
  obtain ⟨q_2, hq_3, hf⟩ := vbd hf
  refine vk_i [0, 1, 2, 3, 4] (ws2 := [(ad0, oX7 ad_text ad_draft ad_told ad_now ad_history ad_firstImage ad_secondImage ad_seen ad_ways q_2.2), (ad_told, oX0 ad_told_a ad_told_b v_told_size v_told_touches v_told_one), (ad_told_a, .inl (cI, 6, .inl a_told_a)), (ad_told_b, .inl (cI, 6, .inl a_told_b)), (ad_now, oX3 v_now_forgotten v_now_touches v_now_trapped v_now_one v_now_date)]) (va_runV (As := [.int p1]) (rest := []) ⟨hx, hb, hml, hown, hts⟩ (kX7_markOfBook ad0 ad_text ad_draft ad_told ad_told_a ad_told_b ad_now ad_history ad_firstImage ad_secondImage ad_seen ad_ways t_1 v_told_size v_told_touches v_told_one a_told_a a_told_b v_now_forgotten v_now_touches v_now_trapped v_now_one v_now_date p1 q_2 hq_3 H.size) (vcwV hts tw_308 tw_309 tw_310 tw_41 tw_307 hd_X7_markOfBook rfl rfl ⟨Nat.le_of_ble_eq_true rfl, Nat.le_of_ble_eq_true rfl⟩) (vpreV hK hN hP hD [0, 1, 2, 3, 4] rfl (by decide) (ci := 7) (q0 := 0) rfl rfl) rfl rfl hl.1 rfl (lv_room (Nat.le_of_ble_eq_true rfl)) (dt uX7_markOfTrain 8 rfl) ⟨Nat.zero_le _, Nat.zero_le _⟩) hA hP hD hS rfl (by decide) rfl rfl (fun H locs hP hD hS => ?_)
  refine lv_aload_n hx hb (dt uX7_markOfTrain 9 rfl) rfl (lv_at hl 0 rfl) ?_
  refine va_get (D := (dC, dI)) (ci := 7) (v := .ref ad_told) (C := RX7) (T := TX7) (N := 10) hx hb hts inU7 hown hK hP 0 rfl rfl 2 (by decide) (hts _ tw_118) (fun _ h9 => h9) rfl (dt uX7_markOfTrain 10 rfl) ?_
  refine lv_iload_n hx hb (dt uX7_markOfTrain 11 rfl) rfl (lv_at hl 1 rfl) ?_
  obtain ⟨q_4, hq_5, hf⟩ := vbd hf
  refine vk_i0 [1, 2, 3] (va_runVN (As := [.int p1]) (rest := [.int q_2.1]) ⟨hx, hb, hml, hown, hts⟩ (kX0_sum ad_told ad_told_a ad_told_b v_told_size v_told_touches v_told_one a_told_a a_told_b p1 q_4 hq_5 H.size) (vcwVN hts (nm_40 hN) tw_134 tw_135 tw_67 tw_133 hd_X0_sum rfl rfl ⟨Nat.le_of_ble_eq_true rfl, Nat.le_of_ble_eq_true rfl⟩) (vpreV hK hN hP hD [1, 2, 3] rfl (by decide) (ci := 0) (q0 := 1) rfl rfl) rfl rfl hl.1 rfl (lv_room (Nat.le_of_ble_eq_true rfl)) (dt uX7_markOfTrain 12 rfl) ⟨Nat.zero_le _, Nat.zero_le _⟩) hA hP hD hS rfl (by decide) (fun H locs hP hD hS => ?_)
  refine lv_isub hx hb (dt uX7_markOfTrain 13 rfl) ?_
  have hf := Option.some.inj hf
  subst hf
  rw [hQ]
  exact vret_i C hP hD hS (dt uX7_markOfTrain 14 rfl)
end WALKS
