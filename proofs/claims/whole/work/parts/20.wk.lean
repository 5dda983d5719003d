set_option maxHeartbeats 4000000 in
set_option maxRecDepth 100000 in
theorem c_X6_whose (l : Launch) (D : va_G) (cI : ClassId) (a_o a_o_s a_o_innerOf a_o_whoseOf a_o_nearOf a_o_fromOf a_o_refusals a_o_image a_o_tape a_o_read a_o_pieceOf a_o_kept a_o_claimOf a_o_row : Nat) (v_o_isImage : Int32) (v_o_taped : Int32) (v_o_pos : Int32) (v_o_readWide : Int32) (v_o_readHigh : Int32) (v_o_thirds : Int32) (v_o_rowed : Int32) (f_o_s : (Nat → Int32)) (f_o_innerOf : (Nat → Int32)) (f_o_whoseOf : (Nat → Int32)) (f_o_nearOf : (Nat → Int32)) (f_o_fromOf : (Nat → Int32)) (w1 : Int32) (n : Nat) (r : Int32) (r_v_o_thirds : Int32) (r_f_o_innerOf : (Nat → Int32)) (r_f_o_whoseOf : (Nat → Int32)) (r_f_o_nearOf : (Nat → Int32)) (r_f_o_fromOf : (Nat → Int32)) (h : f_X6_whose n v_o_thirds f_o_s f_o_innerOf f_o_whoseOf f_o_nearOf f_o_fromOf w1 = some (r, r_v_o_thirds, r_f_o_innerOf, r_f_o_whoseOf, r_f_o_nearOf, r_f_o_fromOf)) : cz_M l yX6_whose cX6_whose 2 (some .int) 5 117 D cI [.ref a_o, .int w1] [oX6 a_o a_o_refusals a_o_s a_o_image v_o_isImage a_o_tape a_o_read v_o_taped v_o_pos v_o_readWide v_o_readHigh a_o_innerOf a_o_whoseOf a_o_nearOf a_o_fromOf v_o_thirds a_o_pieceOf a_o_kept a_o_claimOf a_o_row v_o_rowed, aI cI a_o_s 151 f_o_s, aI cI a_o_innerOf 120 f_o_innerOf, aI cI a_o_whoseOf 120 f_o_whoseOf, aI cI a_o_nearOf 360 f_o_nearOf, aI cI a_o_fromOf 360 f_o_fromOf] (some (.int r)) [oX6 a_o a_o_refusals a_o_s a_o_image v_o_isImage a_o_tape a_o_read v_o_taped v_o_pos v_o_readWide v_o_readHigh a_o_innerOf a_o_whoseOf a_o_nearOf a_o_fromOf r_v_o_thirds a_o_pieceOf a_o_kept a_o_claimOf a_o_row v_o_rowed, aI cI a_o_s 151 f_o_s, aI cI a_o_innerOf 120 r_f_o_innerOf, aI cI a_o_whoseOf 120 r_f_o_whoseOf, aI cI a_o_nearOf 360 r_f_o_nearOf, aI cI a_o_fromOf 360 r_f_o_fromOf] := by
  refine cz_startI (by decide) (Nat.le_of_ble_eq_true rfl) ?_
  intro p e s m ag below meth c A Q hx hb hml hown hts hK hN hQ H locs hP hD hS ls hl
  replace hown : s.vm.findClass RX6 = some m.cls := hown
  replace hl : lv_has ls 2 [(0, .ref a_o), (1, .int w1)] := hl
  unfold f_X6_whose at h
  refine lv_aload_n hx hb dX6_whose_0 rfl (lv_at hl 0 rfl) ?_
  refine lv_iload_n hx hb dX6_whose_1 rfl (lv_at hl 1 rfl) ?_
  obtain ⟨x1, hc2, h⟩ := cz_e1 h
  refine cz_callV (As := [.int w1]) (rest := []) (is := [0, 1]) (isR := [2, 3, 4, 5]) (rs := [aI cI a_o_innerOf 120 f_o_innerOf, aI cI a_o_whoseOf 120 f_o_whoseOf, aI cI a_o_nearOf 360 f_o_nearOf, aI cI a_o_fromOf 360 f_o_fromOf]) (as := [a_o, a_o_s, a_o_innerOf, a_o_whoseOf, a_o_nearOf, a_o_fromOf]) (ws1 := [oX6 a_o a_o_refusals a_o_s a_o_image v_o_isImage a_o_tape a_o_read v_o_taped v_o_pos v_o_readWide v_o_readHigh a_o_innerOf a_o_whoseOf a_o_nearOf a_o_fromOf v_o_thirds a_o_pieceOf a_o_kept a_o_claimOf a_o_row v_o_rowed, aI cI a_o_s 151 f_o_s, aI cI a_o_innerOf 120 f_o_innerOf, aI cI a_o_whoseOf 120 f_o_whoseOf, aI cI a_o_nearOf 360 f_o_nearOf, aI cI a_o_fromOf 360 f_o_fromOf]) (q0 := 0) (ci := 6) ⟨hx, hb, hml, hown, hts⟩ (c_X6_isCell l D cI a_o a_o_s a_o_refusals a_o_image a_o_tape a_o_read a_o_innerOf a_o_whoseOf a_o_nearOf a_o_fromOf a_o_pieceOf a_o_kept a_o_claimOf a_o_row v_o_isImage v_o_taped v_o_pos v_o_readWide v_o_readHigh v_o_thirds v_o_rowed f_o_s w1 n x1 hc2) mw_4_35 mw_4_37 mw_p_13 mw_1_8 mw_4_38 hd_X6_isCell ⟨Nat.le_of_ble_eq_true rfl, Nat.le_of_ble_eq_true rfl⟩ hK hN hP hD hS rfl rfl rfl rfl rfl rfl rfl rfl rfl rfl rfl rfl hl.1 rfl (Nat.le_of_ble_eq_true rfl) dX6_whose_2 ⟨Nat.le_of_ble_eq_true rfl, Nat.le_of_ble_eq_true rfl⟩ (fun H locs hP hD hS => ?_)
  refine W.eq (g2 := F0 m 5 ls [.int x1]) rfl ?_
  refine lv_if_ne (tgt := 11) hx hb dX6_whose_5 (by decide) (fun c3 => ?_) (fun c3 => ?_)
  · replace h := cz_f c3 h
    refine lv_aload_n hx hb dX6_whose_11 rfl (lv_at hl 0 rfl) ?_
    obtain ⟨x4, g5, g6, g7, g8, hc9, h⟩ := cz_e5 h
    refine cz_callV (As := []) (rest := []) (is := [0, 1, 2, 3, 4, 5]) (isR := []) (rs := []) (as := [a_o, a_o_s, a_o_innerOf, a_o_whoseOf, a_o_nearOf, a_o_fromOf]) (ws1 := [oX6 a_o a_o_refusals a_o_s a_o_image v_o_isImage a_o_tape a_o_read v_o_taped v_o_pos v_o_readWide v_o_readHigh a_o_innerOf a_o_whoseOf a_o_nearOf a_o_fromOf x4 a_o_pieceOf a_o_kept a_o_claimOf a_o_row v_o_rowed, aI cI a_o_s 151 f_o_s, aI cI a_o_innerOf 120 g5, aI cI a_o_whoseOf 120 g6, aI cI a_o_nearOf 360 g7, aI cI a_o_fromOf 360 g8]) (q0 := 0) (ci := 6) ⟨hx, hb, hml, hown, hts⟩ (c_X6_find l D cI a_o a_o_s a_o_innerOf a_o_whoseOf a_o_nearOf a_o_fromOf a_o_refusals a_o_image a_o_tape a_o_read a_o_pieceOf a_o_kept a_o_claimOf a_o_row v_o_isImage v_o_taped v_o_pos v_o_readWide v_o_readHigh v_o_thirds v_o_rowed f_o_s f_o_innerOf f_o_whoseOf f_o_nearOf f_o_fromOf  n x4 g5 g6 g7 g8 hc9) mw_4_68 mw_4_70 mw_p_16 mw_1_8 mw_4_71 hd_X6_find ⟨Nat.le_of_ble_eq_true rfl, Nat.le_of_ble_eq_true rfl⟩ hK hN hP hD hS rfl rfl rfl rfl rfl rfl rfl rfl rfl rfl rfl rfl hl.1 rfl (Nat.le_of_ble_eq_true rfl) dX6_whose_12 ⟨Nat.le_of_ble_eq_true rfl, Nat.le_of_ble_eq_true rfl⟩ (fun H locs hP hD hS => ?_)
    refine W.eq (g2 := F0 m 15 ls []) rfl ?_
    refine lv_aload_n hx hb dX6_whose_15 rfl (lv_at hl 0 rfl) ?_
    refine va_get (D := D) (ci := 6) (v := .ref a_o_whoseOf) (C := RX6) (T := TX6) (N := 20) hx hb hts in_X6 hown hK hP 0 rfl rfl 11 (by decide) (hts _ mw_3_197) (fun _ h9 => h9) rfl dX6_whose_16 ?_
    refine lv_aload_n hx hb dX6_whose_19 rfl (lv_at hl 0 rfl) ?_
    refine lv_iload_n hx hb dX6_whose_20 rfl (lv_at hl 1 rfl) ?_
    obtain ⟨x10, hc11, h⟩ := cz_e1 h
    refine cz_callV (As := [.int w1]) (rest := [.ref a_o_whoseOf]) (is := [0, 1]) (isR := [2, 3, 4, 5]) (rs := [aI cI a_o_innerOf 120 g5, aI cI a_o_whoseOf 120 g6, aI cI a_o_nearOf 360 g7, aI cI a_o_fromOf 360 g8]) (as := [a_o, a_o_s, a_o_innerOf, a_o_whoseOf, a_o_nearOf, a_o_fromOf]) (ws1 := [oX6 a_o a_o_refusals a_o_s a_o_image v_o_isImage a_o_tape a_o_read v_o_taped v_o_pos v_o_readWide v_o_readHigh a_o_innerOf a_o_whoseOf a_o_nearOf a_o_fromOf x4 a_o_pieceOf a_o_kept a_o_claimOf a_o_row v_o_rowed, aI cI a_o_s 151 f_o_s, aI cI a_o_innerOf 120 g5, aI cI a_o_whoseOf 120 g6, aI cI a_o_nearOf 360 g7, aI cI a_o_fromOf 360 g8]) (q0 := 0) (ci := 6) ⟨hx, hb, hml, hown, hts⟩ (c_X6_of l D cI a_o a_o_s a_o_refusals a_o_image a_o_tape a_o_read a_o_innerOf a_o_whoseOf a_o_nearOf a_o_fromOf a_o_pieceOf a_o_kept a_o_claimOf a_o_row v_o_isImage v_o_taped v_o_pos v_o_readWide v_o_readHigh x4 v_o_rowed f_o_s w1 n x10 hc11) mw_4_39 mw_4_41 mw_p_14 mw_1_8 mw_4_42 hd_X6_of ⟨Nat.le_of_ble_eq_true rfl, Nat.le_of_ble_eq_true rfl⟩ hK hN hP hD hS rfl rfl rfl rfl rfl rfl rfl rfl rfl rfl rfl rfl hl.1 rfl (Nat.le_of_ble_eq_true rfl) dX6_whose_21 ⟨Nat.le_of_ble_eq_true rfl, Nat.le_of_ble_eq_true rfl⟩ (fun H locs hP hD hS => ?_)
    refine W.eq (g2 := F0 m 24 ls [.int x10, .ref a_o_whoseOf]) rfl ?_
    refine cz_iald hx hb hK hP 3 0 rfl rfl (cz_rdE h).1 dX6_whose_24 (fun x12 ex12 => ?_)
    replace h := cz_rdK ex12 h
    obtain ⟨rfl, rfl, rfl, rfl, rfl, rfl⟩ := cz_j6 (cz_i h)
    exact hQ _ _ _ _ hP hS dX6_whose_25
  · replace h := cz_t c3 h
    refine lv_bipush (v := (-10 : Int32)) hx hb dX6_whose_8 (by decide) ?_
    obtain ⟨rfl, rfl, rfl, rfl, rfl, rfl⟩ := cz_j6 (cz_i h)
    exact hQ _ _ _ _ hP hS dX6_whose_10
set_option maxHeartbeats 4000000 in
set_option maxRecDepth 100000 in
theorem c_X6_third (l : Launch) (D : va_G) (cI : ClassId) (a_o a_o_s a_o_innerOf a_o_whoseOf a_o_nearOf a_o_fromOf a_o_refusals a_o_image a_o_tape a_o_read a_o_pieceOf a_o_kept a_o_claimOf a_o_row : Nat) (v_o_isImage : Int32) (v_o_taped : Int32) (v_o_pos : Int32) (v_o_readWide : Int32) (v_o_readHigh : Int32) (v_o_thirds : Int32) (v_o_rowed : Int32) (f_o_s : (Nat → Int32)) (f_o_innerOf : (Nat → Int32)) (f_o_whoseOf : (Nat → Int32)) (f_o_nearOf : (Nat → Int32)) (f_o_fromOf : (Nat → Int32)) (n : Nat) (r : Int32) (r_v_o_thirds : Int32) (r_f_o_innerOf : (Nat → Int32)) (r_f_o_whoseOf : (Nat → Int32)) (r_f_o_nearOf : (Nat → Int32)) (r_f_o_fromOf : (Nat → Int32)) (h : f_X6_third n v_o_thirds f_o_s f_o_innerOf f_o_whoseOf f_o_nearOf f_o_fromOf = some (r, r_v_o_thirds, r_f_o_innerOf, r_f_o_whoseOf, r_f_o_nearOf, r_f_o_fromOf)) : cz_M l yX6_third cX6_third 1 (some .int) 5 117 D cI [.ref a_o] [oX6 a_o a_o_refusals a_o_s a_o_image v_o_isImage a_o_tape a_o_read v_o_taped v_o_pos v_o_readWide v_o_readHigh a_o_innerOf a_o_whoseOf a_o_nearOf a_o_fromOf v_o_thirds a_o_pieceOf a_o_kept a_o_claimOf a_o_row v_o_rowed, aI cI a_o_s 151 f_o_s, aI cI a_o_innerOf 120 f_o_innerOf, aI cI a_o_whoseOf 120 f_o_whoseOf, aI cI a_o_nearOf 360 f_o_nearOf, aI cI a_o_fromOf 360 f_o_fromOf] (some (.int r)) [oX6 a_o a_o_refusals a_o_s a_o_image v_o_isImage a_o_tape a_o_read v_o_taped v_o_pos v_o_readWide v_o_readHigh a_o_innerOf a_o_whoseOf a_o_nearOf a_o_fromOf r_v_o_thirds a_o_pieceOf a_o_kept a_o_claimOf a_o_row v_o_rowed, aI cI a_o_s 151 f_o_s, aI cI a_o_innerOf 120 r_f_o_innerOf, aI cI a_o_whoseOf 120 r_f_o_whoseOf, aI cI a_o_nearOf 360 r_f_o_nearOf, aI cI a_o_fromOf 360 r_f_o_fromOf] := by
  refine cz_startI (by decide) (Nat.le_of_ble_eq_true rfl) ?_
  intro p e s m ag below meth c A Q hx hb hml hown hts hK hN hQ H locs hP hD hS ls hl
  replace hown : s.vm.findClass RX6 = some m.cls := hown
  replace hl : lv_has ls 1 [(0, .ref a_o)] := hl
  unfold f_X6_third at h
  refine lv_aload_n hx hb dX6_third_0 rfl (lv_at hl 0 rfl) ?_
  obtain ⟨x1, g2, g3, g4, g5, hc6, h⟩ := cz_e5 h
  refine cz_callV (As := []) (rest := []) (is := [0, 1, 2, 3, 4, 5]) (isR := []) (rs := []) (as := [a_o, a_o_s, a_o_innerOf, a_o_whoseOf, a_o_nearOf, a_o_fromOf]) (ws1 := [oX6 a_o a_o_refusals a_o_s a_o_image v_o_isImage a_o_tape a_o_read v_o_taped v_o_pos v_o_readWide v_o_readHigh a_o_innerOf a_o_whoseOf a_o_nearOf a_o_fromOf x1 a_o_pieceOf a_o_kept a_o_claimOf a_o_row v_o_rowed, aI cI a_o_s 151 f_o_s, aI cI a_o_innerOf 120 g2, aI cI a_o_whoseOf 120 g3, aI cI a_o_nearOf 360 g4, aI cI a_o_fromOf 360 g5]) (q0 := 0) (ci := 6) ⟨hx, hb, hml, hown, hts⟩ (c_X6_find l D cI a_o a_o_s a_o_innerOf a_o_whoseOf a_o_nearOf a_o_fromOf a_o_refusals a_o_image a_o_tape a_o_read a_o_pieceOf a_o_kept a_o_claimOf a_o_row v_o_isImage v_o_taped v_o_pos v_o_readWide v_o_readHigh v_o_thirds v_o_rowed f_o_s f_o_innerOf f_o_whoseOf f_o_nearOf f_o_fromOf  n x1 g2 g3 g4 g5 hc6) mw_4_68 mw_4_70 mw_p_16 mw_1_8 mw_4_71 hd_X6_find ⟨Nat.le_of_ble_eq_true rfl, Nat.le_of_ble_eq_true rfl⟩ hK hN hP hD hS rfl rfl rfl rfl rfl rfl rfl rfl rfl rfl rfl rfl hl.1 rfl (Nat.le_of_ble_eq_true rfl) dX6_third_1 ⟨Nat.le_of_ble_eq_true rfl, Nat.le_of_ble_eq_true rfl⟩ (fun H locs hP hD hS => ?_)
  refine W.eq (g2 := F0 m 4 ls []) rfl ?_
  refine lv_aload_n hx hb dX6_third_4 rfl (lv_at hl 0 rfl) ?_
  refine va_get (D := D) (ci := 6) (v := .int x1) (C := RX6) (T := TX6) (N := 20) hx hb hts in_X6 hown hK hP 0 rfl rfl 14 (by decide) (hts _ mw_3_200) (fun _ h9 => h9) rfl dX6_third_5 ?_
  obtain ⟨rfl, rfl, rfl, rfl, rfl, rfl⟩ := cz_j6 (cz_i h)
  exact hQ _ _ _ _ hP hS dX6_third_8
set_option maxHeartbeats 4000000 in
set_option maxRecDepth 100000 in
theorem c_X6_areaOf (l : Launch) (D : va_G) (cI : ClassId) (a_o a_o_s a_o_whoseOf a_o_refusals a_o_image a_o_tape a_o_read a_o_innerOf a_o_nearOf a_o_fromOf a_o_pieceOf a_o_kept a_o_claimOf a_o_row : Nat) (v_o_isImage : Int32) (v_o_taped : Int32) (v_o_pos : Int32) (v_o_readWide : Int32) (v_o_readHigh : Int32) (v_o_thirds : Int32) (v_o_rowed : Int32) (f_o_s : (Nat → Int32)) (f_o_whoseOf : (Nat → Int32)) (w1 : Int32) (n : Nat) (r : Int32) (h : f_X6_areaOf n f_o_s f_o_whoseOf w1 = some r) : cz_M l yX6_areaOf cX6_areaOf 4 (some .int) 1 20 D cI [.ref a_o, .int w1] [oX6 a_o a_o_refusals a_o_s a_o_image v_o_isImage a_o_tape a_o_read v_o_taped v_o_pos v_o_readWide v_o_readHigh a_o_innerOf a_o_whoseOf a_o_nearOf a_o_fromOf v_o_thirds a_o_pieceOf a_o_kept a_o_claimOf a_o_row v_o_rowed, aI cI a_o_s 151 f_o_s, aI cI a_o_whoseOf 120 f_o_whoseOf] (some (.int r)) [oX6 a_o a_o_refusals a_o_s a_o_image v_o_isImage a_o_tape a_o_read v_o_taped v_o_pos v_o_readWide v_o_readHigh a_o_innerOf a_o_whoseOf a_o_nearOf a_o_fromOf v_o_thirds a_o_pieceOf a_o_kept a_o_claimOf a_o_row v_o_rowed, aI cI a_o_s 151 f_o_s, aI cI a_o_whoseOf 120 f_o_whoseOf] := by
  refine cz_startI (by decide) (Nat.le_of_ble_eq_true rfl) ?_
  intro p e s m ag below meth c A Q hx hb hml hown hts hK hN hQ H locs hP hD hS ls hl
  replace hown : s.vm.findClass RX6 = some m.cls := hown
  replace hl : lv_has ls 4 [(0, .ref a_o), (1, .int w1)] := hl
  unfold f_X6_areaOf at h
  refine lv_iconst (v := (0 : Int32)) hx hb dX6_areaOf_0 (by decide) ?_
  refine lv_istore_n (lv' := [(2, .int (0 : Int32)), (0, .ref a_o), (1, .int w1)]) hx hb dX6_areaOf_1 rfl hl (by decide) rfl (fun ls hl => ?_)
  refine lv_iconst (v := (0 : Int32)) hx hb dX6_areaOf_2 (by decide) ?_
  refine lv_istore_n (lv' := [(3, .int (0 : Int32)), (2, .int (0 : Int32)), (0, .ref a_o), (1, .int w1)]) hx hb dX6_areaOf_3 rfl hl (by decide) rfl (fun ls hl => ?_)
  obtain ⟨z3, hE4, hz5⟩ := cz_x2 h
  have hX6 : ∀ (y9 : Int32) (y10 : Int32) (H : Heap) (locs : List Loc) (ls : Array Slot), z3 = (y9, y10) → va_P D vwCl [oX6 a_o a_o_refusals a_o_s a_o_image v_o_isImage a_o_tape a_o_read v_o_taped v_o_pos v_o_readWide v_o_readHigh a_o_innerOf a_o_whoseOf a_o_nearOf a_o_fromOf v_o_thirds a_o_pieceOf a_o_kept a_o_claimOf a_o_row v_o_rowed, aI cI a_o_s 151 f_o_s, aI cI a_o_whoseOf 120 f_o_whoseOf] H → va_D A [oX6 a_o a_o_refusals a_o_s a_o_image v_o_isImage a_o_tape a_o_read v_o_taped v_o_pos v_o_readWide v_o_readHigh a_o_innerOf a_o_whoseOf a_o_nearOf a_o_fromOf v_o_thirds a_o_pieceOf a_o_kept a_o_claimOf a_o_row v_o_rowed, aI cI a_o_s 151 f_o_s, aI cI a_o_whoseOf 120 f_o_whoseOf] → va_S A s.heap H locs → lv_has ls 4 [(2, .int y9)] → W p l e (cz_rm 1 20) s m ag below meth c H locs 0 0 Q (F0 m 36 ls []) := by
    intro y9 y10 H locs ls h hP hD hS hl
    replace h := hz5 _ _ h
    refine lv_iload_n hx hb dX6_areaOf_36 rfl (lv_at hl 0 rfl) ?_
    obtain rfl := cz_i h
    exact hQ _ _ _ _ hP hS dX6_areaOf_37
  clear h
  have hL7 : ∀ (k : Nat) (x1 : Int32) (x2 : Int32) (H : Heap) (locs : List Loc) (ls : Array Slot), f_X6_areaOf_L4 n f_o_s f_o_whoseOf w1 k x1 x2 = some z3 → va_P D vwCl [oX6 a_o a_o_refusals a_o_s a_o_image v_o_isImage a_o_tape a_o_read v_o_taped v_o_pos v_o_readWide v_o_readHigh a_o_innerOf a_o_whoseOf a_o_nearOf a_o_fromOf v_o_thirds a_o_pieceOf a_o_kept a_o_claimOf a_o_row v_o_rowed, aI cI a_o_s 151 f_o_s, aI cI a_o_whoseOf 120 f_o_whoseOf] H → va_D A [oX6 a_o a_o_refusals a_o_s a_o_image v_o_isImage a_o_tape a_o_read v_o_taped v_o_pos v_o_readWide v_o_readHigh a_o_innerOf a_o_whoseOf a_o_nearOf a_o_fromOf v_o_thirds a_o_pieceOf a_o_kept a_o_claimOf a_o_row v_o_rowed, aI cI a_o_s 151 f_o_s, aI cI a_o_whoseOf 120 f_o_whoseOf] → va_S A s.heap H locs → lv_has ls 4 [(0, .ref a_o), (1, .int w1), (2, .int x1), (3, .int x2)] → W p l e (cz_rm 1 20) s m ag below meth c H locs 0 0 Q (F0 m 4 ls []) := by
    intro k
    induction k with
    | zero =>
      intro x1 x2 H locs ls h
      rw [f_X6_areaOf_L4] at h
      cases h
    | succ k ih11 =>
      intro x1 x2 H locs ls h hP hD hS hl
      rw [f_X6_areaOf_L4] at h
      refine lv_iload_n hx hb dX6_areaOf_4 rfl (lv_at hl 3 rfl) ?_
      refine lv_aload_n hx hb dX6_areaOf_5 rfl (lv_at hl 0 rfl) ?_
      obtain ⟨x12, hc13, h⟩ := cz_e1 h
      refine cz_callV (As := []) (rest := [.int x2]) (is := [0, 1]) (isR := [2]) (rs := [aI cI a_o_whoseOf 120 f_o_whoseOf]) (as := [a_o, a_o_s, a_o_whoseOf]) (ws1 := [oX6 a_o a_o_refusals a_o_s a_o_image v_o_isImage a_o_tape a_o_read v_o_taped v_o_pos v_o_readWide v_o_readHigh a_o_innerOf a_o_whoseOf a_o_nearOf a_o_fromOf v_o_thirds a_o_pieceOf a_o_kept a_o_claimOf a_o_row v_o_rowed, aI cI a_o_s 151 f_o_s, aI cI a_o_whoseOf 120 f_o_whoseOf]) (q0 := 0) (ci := 6) ⟨hx, hb, hml, hown, hts⟩ (c_X6_many l D cI a_o a_o_s a_o_refusals a_o_image a_o_tape a_o_read a_o_innerOf a_o_whoseOf a_o_nearOf a_o_fromOf a_o_pieceOf a_o_kept a_o_claimOf a_o_row v_o_isImage v_o_taped v_o_pos v_o_readWide v_o_readHigh v_o_thirds v_o_rowed f_o_s  n x12 hc13) mw_4_27 mw_4_29 mw_p_12 mw_1_8 mw_4_30 hd_X6_many ⟨Nat.le_of_ble_eq_true rfl, Nat.le_of_ble_eq_true rfl⟩ hK hN hP hD hS rfl rfl rfl rfl rfl rfl rfl rfl rfl rfl rfl rfl hl.1 rfl (Nat.le_of_ble_eq_true rfl) dX6_areaOf_6 ⟨Nat.le_of_ble_eq_true rfl, Nat.le_of_ble_eq_true rfl⟩ (fun H locs hP hD hS => ?_)
      refine W.eq (g2 := F0 m 9 ls [.int x12, .int x2]) rfl ?_
      refine lv_icmp_ge (tgt := 36) hx hb dX6_areaOf_9 (by decide) (fun c14 => ?_) (fun c14 => ?_)
      · replace h := cz_t c14 h
        exact hX6 _ _ _ _ _ (cz_i h).symm hP hD hS (lv_sub hl [2] rfl)
      · replace h := cz_f c14 h
        refine lv_iload_n hx hb dX6_areaOf_12 rfl (lv_at hl 2 rfl) ?_
        refine lv_aload_n hx hb dX6_areaOf_13 rfl (lv_at hl 0 rfl) ?_
        refine va_get (D := D) (ci := 6) (v := .ref a_o_whoseOf) (C := RX6) (T := TX6) (N := 20) hx hb hts in_X6 hown hK hP 0 rfl rfl 11 (by decide) (hts _ mw_3_197) (fun _ h9 => h9) rfl dX6_areaOf_14 ?_
        refine lv_iload_n hx hb dX6_areaOf_17 rfl (lv_at hl 3 rfl) ?_
        refine cz_iald hx hb hK hP 2 0 rfl rfl (cz_rdE h).1 dX6_areaOf_18 (fun x15 ex15 => ?_)
        replace h := cz_rdK ex15 h
        refine lv_iload_n hx hb dX6_areaOf_19 rfl (lv_at hl 1 rfl) ?_
        obtain ⟨z20, hE18, hz17⟩ := cz_ltV h
        have hJ19 : ∀ (x16 : Int32) (H : Heap) (locs : List Loc) (ls : Array Slot), z20 = x16 → va_P D vwCl [oX6 a_o a_o_refusals a_o_s a_o_image v_o_isImage a_o_tape a_o_read v_o_taped v_o_pos v_o_readWide v_o_readHigh a_o_innerOf a_o_whoseOf a_o_nearOf a_o_fromOf v_o_thirds a_o_pieceOf a_o_kept a_o_claimOf a_o_row v_o_rowed, aI cI a_o_s 151 f_o_s, aI cI a_o_whoseOf 120 f_o_whoseOf] H → va_D A [oX6 a_o a_o_refusals a_o_s a_o_image v_o_isImage a_o_tape a_o_read v_o_taped v_o_pos v_o_readWide v_o_readHigh a_o_innerOf a_o_whoseOf a_o_nearOf a_o_fromOf v_o_thirds a_o_pieceOf a_o_kept a_o_claimOf a_o_row v_o_rowed, aI cI a_o_s 151 f_o_s, aI cI a_o_whoseOf 120 f_o_whoseOf] → va_S A s.heap H locs → lv_has ls 4 [(0, .ref a_o), (1, .int w1), (3, .int x2)] → W p l e (cz_rm 1 20) s m ag below meth c H locs 0 0 Q (F0 m 28 ls [.int x16, .int x1]) := by
          intro x16 H locs ls h hP hD hS hl
          replace h := hz17 _ h
          refine lv_iadd hx hb dX6_areaOf_28 ?_
          refine lv_topi (fun x21 ex21 => ?_)
          replace h := cz_ltE ex21 h
          refine lv_istore_n (lv' := [(2, .int x21), (0, .ref a_o), (1, .int w1), (3, .int x2)]) hx hb dX6_areaOf_29 rfl hl (by decide) rfl (fun ls hl => ?_)
          obtain ⟨x22, ex22⟩ : ∃ z : Int32, z = x2 + (1 : Int32) := ⟨_, rfl⟩
          replace h := cz_ltE ex22 h
          refine lv_iinc (v := x22) (lv' := [(3, .int x22), (2, .int x21), (0, .ref a_o), (1, .int w1)]) hx hb dX6_areaOf_30 hl (k := 3) rfl (by rw [ex22]; rfl) (by decide) rfl (fun ls hl => ?_)
          refine lv_goto (tgt := 4) hx hb dX6_areaOf_33 (by decide) ?_
          exact ih11 _ _ _ _ _ h hP hD hS (lv_sub hl [2, 3, 1, 0] rfl)
        clear h
        have h := hE18
        refine lv_icmp_ne (tgt := 27) hx hb dX6_areaOf_20 (by decide) (fun c23 => ?_) (fun c23 => ?_)
        · replace h := cz_f c23 h
          refine lv_iconst (v := (0 : Int32)) hx hb dX6_areaOf_27 (by decide) ?_
          exact hJ19 _ _ _ _ h.symm hP hD hS (lv_sub hl [0, 1, 3] rfl)
        · replace h := cz_t c23 h
          refine lv_iconst (v := (1 : Int32)) hx hb dX6_areaOf_23 (by decide) ?_
          refine lv_goto (tgt := 28) hx hb dX6_areaOf_24 (by decide) ?_
          exact hJ19 _ _ _ _ h.symm hP hD hS (lv_sub hl [0, 1, 3] rfl)
  exact hL7 n _ _ _ _ _ hE4 hP hD hS (lv_sub hl [2, 3, 1, 0] rfl)
set_option maxHeartbeats 4000000 in
set_option maxRecDepth 100000 in
theorem c_X6_area (l : Launch) (D : va_G) (cI : ClassId) (a_o a_o_refusals a_o_s a_o_innerOf a_o_whoseOf a_o_nearOf a_o_fromOf a_o_image a_o_tape a_o_read a_o_pieceOf a_o_kept a_o_claimOf a_o_row : Nat) (v_o_isImage : Int32) (v_o_taped : Int32) (v_o_pos : Int32) (v_o_readWide : Int32) (v_o_readHigh : Int32) (v_o_thirds : Int32) (v_o_rowed : Int32) (f_o_refusals : (Nat → Int32)) (f_o_s : (Nat → Int32)) (f_o_innerOf : (Nat → Int32)) (f_o_whoseOf : (Nat → Int32)) (f_o_nearOf : (Nat → Int32)) (f_o_fromOf : (Nat → Int32)) (w1 : Int32) (n : Nat) (r : Int32) (r_v_o_thirds : Int32) (r_f_o_refusals : (Nat → Int32)) (r_f_o_innerOf : (Nat → Int32)) (r_f_o_whoseOf : (Nat → Int32)) (r_f_o_nearOf : (Nat → Int32)) (r_f_o_fromOf : (Nat → Int32)) (h : f_X6_area n v_o_thirds f_o_refusals f_o_s f_o_innerOf f_o_whoseOf f_o_nearOf f_o_fromOf w1 = some (r, r_v_o_thirds, r_f_o_refusals, r_f_o_innerOf, r_f_o_whoseOf, r_f_o_nearOf, r_f_o_fromOf)) : cz_M l yX6_area cX6_area 2 (some .int) 5 117 D cI [.ref a_o, .int w1] [oX6 a_o a_o_refusals a_o_s a_o_image v_o_isImage a_o_tape a_o_read v_o_taped v_o_pos v_o_readWide v_o_readHigh a_o_innerOf a_o_whoseOf a_o_nearOf a_o_fromOf v_o_thirds a_o_pieceOf a_o_kept a_o_claimOf a_o_row v_o_rowed, aI cI a_o_refusals 7 f_o_refusals, aI cI a_o_s 151 f_o_s, aI cI a_o_innerOf 120 f_o_innerOf, aI cI a_o_whoseOf 120 f_o_whoseOf, aI cI a_o_nearOf 360 f_o_nearOf, aI cI a_o_fromOf 360 f_o_fromOf] (some (.int r)) [oX6 a_o a_o_refusals a_o_s a_o_image v_o_isImage a_o_tape a_o_read v_o_taped v_o_pos v_o_readWide v_o_readHigh a_o_innerOf a_o_whoseOf a_o_nearOf a_o_fromOf r_v_o_thirds a_o_pieceOf a_o_kept a_o_claimOf a_o_row v_o_rowed, aI cI a_o_refusals 7 r_f_o_refusals, aI cI a_o_s 151 f_o_s, aI cI a_o_innerOf 120 r_f_o_innerOf, aI cI a_o_whoseOf 120 r_f_o_whoseOf, aI cI a_o_nearOf 360 r_f_o_nearOf, aI cI a_o_fromOf 360 r_f_o_fromOf] := by
  refine cz_startI (by decide) (Nat.le_of_ble_eq_true rfl) ?_
  intro p e s m ag below meth c A Q hx hb hml hown hts hK hN hQ H locs hP hD hS ls hl
  replace hown : s.vm.findClass RX6 = some m.cls := hown
  replace hl : lv_has ls 2 [(0, .ref a_o), (1, .int w1)] := hl
  unfold f_X6_area at h
  refine lv_iload_n hx hb dX6_area_0 rfl (lv_at hl 1 rfl) ?_
  refine lv_iconst (v := (3 : Int32)) hx hb dX6_area_1 (by decide) ?_
  obtain ⟨x1, hc2, h⟩ := cz_e1 h
  refine cz_callS (As := [.int w1, .int (3 : Int32)]) (rest := []) (is := []) (isR := [0, 1, 2, 3, 4, 5, 6]) (rs := [oX6 a_o a_o_refusals a_o_s a_o_image v_o_isImage a_o_tape a_o_read v_o_taped v_o_pos v_o_readWide v_o_readHigh a_o_innerOf a_o_whoseOf a_o_nearOf a_o_fromOf v_o_thirds a_o_pieceOf a_o_kept a_o_claimOf a_o_row v_o_rowed, aI cI a_o_refusals 7 f_o_refusals, aI cI a_o_s 151 f_o_s, aI cI a_o_innerOf 120 f_o_innerOf, aI cI a_o_whoseOf 120 f_o_whoseOf, aI cI a_o_nearOf 360 f_o_nearOf, aI cI a_o_fromOf 360 f_o_fromOf]) (as := [a_o, a_o_refusals, a_o_s, a_o_innerOf, a_o_whoseOf, a_o_nearOf, a_o_fromOf]) (ws1 := [oX6 a_o a_o_refusals a_o_s a_o_image v_o_isImage a_o_tape a_o_read v_o_taped v_o_pos v_o_readWide v_o_readHigh a_o_innerOf a_o_whoseOf a_o_nearOf a_o_fromOf v_o_thirds a_o_pieceOf a_o_kept a_o_claimOf a_o_row v_o_rowed, aI cI a_o_refusals 7 f_o_refusals, aI cI a_o_s 151 f_o_s, aI cI a_o_innerOf 120 f_o_innerOf, aI cI a_o_whoseOf 120 f_o_whoseOf, aI cI a_o_nearOf 360 f_o_nearOf, aI cI a_o_fromOf 360 f_o_fromOf]) ⟨hx, hb, hml, hown, hts⟩ (c_X6_isIn l D cI   w1 (3 : Int32) n x1 hc2) mw_4_51 mw_4_52 mw_1_8 mw_4_53 hd_X6_isIn ⟨Nat.le_of_ble_eq_true rfl, Nat.le_of_ble_eq_true rfl⟩ hK hN hP hD hS rfl rfl rfl rfl rfl rfl rfl rfl rfl hl.1 rfl (Nat.le_of_ble_eq_true rfl) dX6_area_2 ⟨Nat.le_of_ble_eq_true rfl, Nat.le_of_ble_eq_true rfl⟩ (fun H locs hP hD hS => ?_)
  refine W.eq (g2 := F0 m 5 ls [.int x1]) rfl ?_
  refine lv_if_ne (tgt := 26) hx hb dX6_area_5 (by decide) (fun c3 => ?_) (fun c3 => ?_)
  · replace h := cz_f c3 h
    refine lv_aload_n hx hb dX6_area_26 rfl (lv_at hl 0 rfl) ?_
    obtain ⟨x4, g5, g6, g7, g8, hc9, h⟩ := cz_e5 h
    refine cz_callV (As := []) (rest := []) (is := [0, 2, 3, 4, 5, 6]) (isR := [1]) (rs := [aI cI a_o_refusals 7 f_o_refusals]) (as := [a_o, a_o_refusals, a_o_s, a_o_innerOf, a_o_whoseOf, a_o_nearOf, a_o_fromOf]) (ws1 := [oX6 a_o a_o_refusals a_o_s a_o_image v_o_isImage a_o_tape a_o_read v_o_taped v_o_pos v_o_readWide v_o_readHigh a_o_innerOf a_o_whoseOf a_o_nearOf a_o_fromOf x4 a_o_pieceOf a_o_kept a_o_claimOf a_o_row v_o_rowed, aI cI a_o_refusals 7 f_o_refusals, aI cI a_o_s 151 f_o_s, aI cI a_o_innerOf 120 g5, aI cI a_o_whoseOf 120 g6, aI cI a_o_nearOf 360 g7, aI cI a_o_fromOf 360 g8]) (q0 := 0) (ci := 6) ⟨hx, hb, hml, hown, hts⟩ (c_X6_find l D cI a_o a_o_s a_o_innerOf a_o_whoseOf a_o_nearOf a_o_fromOf a_o_refusals a_o_image a_o_tape a_o_read a_o_pieceOf a_o_kept a_o_claimOf a_o_row v_o_isImage v_o_taped v_o_pos v_o_readWide v_o_readHigh v_o_thirds v_o_rowed f_o_s f_o_innerOf f_o_whoseOf f_o_nearOf f_o_fromOf  n x4 g5 g6 g7 g8 hc9) mw_4_68 mw_4_70 mw_p_16 mw_1_8 mw_4_71 hd_X6_find ⟨Nat.le_of_ble_eq_true rfl, Nat.le_of_ble_eq_true rfl⟩ hK hN hP hD hS rfl rfl rfl rfl rfl rfl rfl rfl rfl rfl rfl rfl hl.1 rfl (Nat.le_of_ble_eq_true rfl) dX6_area_27 ⟨Nat.le_of_ble_eq_true rfl, Nat.le_of_ble_eq_true rfl⟩ (fun H locs hP hD hS => ?_)
    refine W.eq (g2 := F0 m 30 ls []) rfl ?_
    refine lv_aload_n hx hb dX6_area_30 rfl (lv_at hl 0 rfl) ?_
    refine lv_iload_n hx hb dX6_area_31 rfl (lv_at hl 1 rfl) ?_
    obtain ⟨x10, hc11, h⟩ := cz_e1 h
    refine cz_callV (As := [.int w1]) (rest := []) (is := [0, 2, 4]) (isR := [1, 3, 5, 6]) (rs := [aI cI a_o_refusals 7 f_o_refusals, aI cI a_o_innerOf 120 g5, aI cI a_o_nearOf 360 g7, aI cI a_o_fromOf 360 g8]) (as := [a_o, a_o_refusals, a_o_s, a_o_innerOf, a_o_whoseOf, a_o_nearOf, a_o_fromOf]) (ws1 := [oX6 a_o a_o_refusals a_o_s a_o_image v_o_isImage a_o_tape a_o_read v_o_taped v_o_pos v_o_readWide v_o_readHigh a_o_innerOf a_o_whoseOf a_o_nearOf a_o_fromOf x4 a_o_pieceOf a_o_kept a_o_claimOf a_o_row v_o_rowed, aI cI a_o_refusals 7 f_o_refusals, aI cI a_o_s 151 f_o_s, aI cI a_o_innerOf 120 g5, aI cI a_o_whoseOf 120 g6, aI cI a_o_nearOf 360 g7, aI cI a_o_fromOf 360 g8]) (q0 := 0) (ci := 6) ⟨hx, hb, hml, hown, hts⟩ (c_X6_areaOf l D cI a_o a_o_s a_o_whoseOf a_o_refusals a_o_image a_o_tape a_o_read a_o_innerOf a_o_nearOf a_o_fromOf a_o_pieceOf a_o_kept a_o_claimOf a_o_row v_o_isImage v_o_taped v_o_pos v_o_readWide v_o_readHigh x4 v_o_rowed f_o_s g6 w1 n x10 hc11) mw_4_120 mw_4_122 mw_p_24 mw_1_8 mw_4_123 hd_X6_areaOf ⟨Nat.le_of_ble_eq_true rfl, Nat.le_of_ble_eq_true rfl⟩ hK hN hP hD hS rfl rfl rfl rfl rfl rfl rfl rfl rfl rfl rfl rfl hl.1 rfl (Nat.le_of_ble_eq_true rfl) dX6_area_32 ⟨Nat.le_of_ble_eq_true rfl, Nat.le_of_ble_eq_true rfl⟩ (fun H locs hP hD hS => ?_)
    refine W.eq (g2 := F0 m 35 ls [.int x10]) rfl ?_
    obtain ⟨rfl, rfl, rfl, rfl, rfl, rfl, rfl⟩ := cz_j7 (cz_i h)
    exact hQ _ _ _ _ hP hS dX6_area_35
  · replace h := cz_t c3 h
    refine lv_iload_n hx hb dX6_area_8 rfl (lv_at hl 1 rfl) ?_
    refine lv_bipush (v := (-2 : Int32)) hx hb dX6_area_9 (by decide) ?_
    refine lv_icmp_eq (tgt := 26) hx hb dX6_area_11 (by decide) (fun c12 => ?_) (fun c12 => ?_)
    · replace h := cz_t c12 h
      refine lv_aload_n hx hb dX6_area_26 rfl (lv_at hl 0 rfl) ?_
      obtain ⟨x13, g14, g15, g16, g17, hc18, h⟩ := cz_e5 h
      refine cz_callV (As := []) (rest := []) (is := [0, 2, 3, 4, 5, 6]) (isR := [1]) (rs := [aI cI a_o_refusals 7 f_o_refusals]) (as := [a_o, a_o_refusals, a_o_s, a_o_innerOf, a_o_whoseOf, a_o_nearOf, a_o_fromOf]) (ws1 := [oX6 a_o a_o_refusals a_o_s a_o_image v_o_isImage a_o_tape a_o_read v_o_taped v_o_pos v_o_readWide v_o_readHigh a_o_innerOf a_o_whoseOf a_o_nearOf a_o_fromOf x13 a_o_pieceOf a_o_kept a_o_claimOf a_o_row v_o_rowed, aI cI a_o_refusals 7 f_o_refusals, aI cI a_o_s 151 f_o_s, aI cI a_o_innerOf 120 g14, aI cI a_o_whoseOf 120 g15, aI cI a_o_nearOf 360 g16, aI cI a_o_fromOf 360 g17]) (q0 := 0) (ci := 6) ⟨hx, hb, hml, hown, hts⟩ (c_X6_find l D cI a_o a_o_s a_o_innerOf a_o_whoseOf a_o_nearOf a_o_fromOf a_o_refusals a_o_image a_o_tape a_o_read a_o_pieceOf a_o_kept a_o_claimOf a_o_row v_o_isImage v_o_taped v_o_pos v_o_readWide v_o_readHigh v_o_thirds v_o_rowed f_o_s f_o_innerOf f_o_whoseOf f_o_nearOf f_o_fromOf  n x13 g14 g15 g16 g17 hc18) mw_4_68 mw_4_70 mw_p_16 mw_1_8 mw_4_71 hd_X6_find ⟨Nat.le_of_ble_eq_true rfl, Nat.le_of_ble_eq_true rfl⟩ hK hN hP hD hS rfl rfl rfl rfl rfl rfl rfl rfl rfl rfl rfl rfl hl.1 rfl (Nat.le_of_ble_eq_true rfl) dX6_area_27 ⟨Nat.le_of_ble_eq_true rfl, Nat.le_of_ble_eq_true rfl⟩ (fun H locs hP hD hS => ?_)
      refine W.eq (g2 := F0 m 30 ls []) rfl ?_
      refine lv_aload_n hx hb dX6_area_30 rfl (lv_at hl 0 rfl) ?_
      refine lv_iload_n hx hb dX6_area_31 rfl (lv_at hl 1 rfl) ?_
      obtain ⟨x19, hc20, h⟩ := cz_e1 h
      refine cz_callV (As := [.int w1]) (rest := []) (is := [0, 2, 4]) (isR := [1, 3, 5, 6]) (rs := [aI cI a_o_refusals 7 f_o_refusals, aI cI a_o_innerOf 120 g14, aI cI a_o_nearOf 360 g16, aI cI a_o_fromOf 360 g17]) (as := [a_o, a_o_refusals, a_o_s, a_o_innerOf, a_o_whoseOf, a_o_nearOf, a_o_fromOf]) (ws1 := [oX6 a_o a_o_refusals a_o_s a_o_image v_o_isImage a_o_tape a_o_read v_o_taped v_o_pos v_o_readWide v_o_readHigh a_o_innerOf a_o_whoseOf a_o_nearOf a_o_fromOf x13 a_o_pieceOf a_o_kept a_o_claimOf a_o_row v_o_rowed, aI cI a_o_refusals 7 f_o_refusals, aI cI a_o_s 151 f_o_s, aI cI a_o_innerOf 120 g14, aI cI a_o_whoseOf 120 g15, aI cI a_o_nearOf 360 g16, aI cI a_o_fromOf 360 g17]) (q0 := 0) (ci := 6) ⟨hx, hb, hml, hown, hts⟩ (c_X6_areaOf l D cI a_o a_o_s a_o_whoseOf a_o_refusals a_o_image a_o_tape a_o_read a_o_innerOf a_o_nearOf a_o_fromOf a_o_pieceOf a_o_kept a_o_claimOf a_o_row v_o_isImage v_o_taped v_o_pos v_o_readWide v_o_readHigh x13 v_o_rowed f_o_s g15 w1 n x19 hc20) mw_4_120 mw_4_122 mw_p_24 mw_1_8 mw_4_123 hd_X6_areaOf ⟨Nat.le_of_ble_eq_true rfl, Nat.le_of_ble_eq_true rfl⟩ hK hN hP hD hS rfl rfl rfl rfl rfl rfl rfl rfl rfl rfl rfl rfl hl.1 rfl (Nat.le_of_ble_eq_true rfl) dX6_area_32 ⟨Nat.le_of_ble_eq_true rfl, Nat.le_of_ble_eq_true rfl⟩ (fun H locs hP hD hS => ?_)
      refine W.eq (g2 := F0 m 35 ls [.int x19]) rfl ?_
      obtain ⟨rfl, rfl, rfl, rfl, rfl, rfl, rfl⟩ := cz_j7 (cz_i h)
      exact hQ _ _ _ _ hP hS dX6_area_35
    · replace h := cz_f c12 h
      refine lv_iload_n hx hb dX6_area_14 rfl (lv_at hl 1 rfl) ?_
      refine lv_bipush (v := (-3 : Int32)) hx hb dX6_area_15 (by decide) ?_
      refine lv_icmp_eq (tgt := 26) hx hb dX6_area_17 (by decide) (fun c21 => ?_) (fun c21 => ?_)
      · replace h := cz_t c21 h
        refine lv_aload_n hx hb dX6_area_26 rfl (lv_at hl 0 rfl) ?_
        obtain ⟨x22, g23, g24, g25, g26, hc27, h⟩ := cz_e5 h
        refine cz_callV (As := []) (rest := []) (is := [0, 2, 3, 4, 5, 6]) (isR := [1]) (rs := [aI cI a_o_refusals 7 f_o_refusals]) (as := [a_o, a_o_refusals, a_o_s, a_o_innerOf, a_o_whoseOf, a_o_nearOf, a_o_fromOf]) (ws1 := [oX6 a_o a_o_refusals a_o_s a_o_image v_o_isImage a_o_tape a_o_read v_o_taped v_o_pos v_o_readWide v_o_readHigh a_o_innerOf a_o_whoseOf a_o_nearOf a_o_fromOf x22 a_o_pieceOf a_o_kept a_o_claimOf a_o_row v_o_rowed, aI cI a_o_refusals 7 f_o_refusals, aI cI a_o_s 151 f_o_s, aI cI a_o_innerOf 120 g23, aI cI a_o_whoseOf 120 g24, aI cI a_o_nearOf 360 g25, aI cI a_o_fromOf 360 g26]) (q0 := 0) (ci := 6) ⟨hx, hb, hml, hown, hts⟩ (c_X6_find l D cI a_o a_o_s a_o_innerOf a_o_whoseOf a_o_nearOf a_o_fromOf a_o_refusals a_o_image a_o_tape a_o_read a_o_pieceOf a_o_kept a_o_claimOf a_o_row v_o_isImage v_o_taped v_o_pos v_o_readWide v_o_readHigh v_o_thirds v_o_rowed f_o_s f_o_innerOf f_o_whoseOf f_o_nearOf f_o_fromOf  n x22 g23 g24 g25 g26 hc27) mw_4_68 mw_4_70 mw_p_16 mw_1_8 mw_4_71 hd_X6_find ⟨Nat.le_of_ble_eq_true rfl, Nat.le_of_ble_eq_true rfl⟩ hK hN hP hD hS rfl rfl rfl rfl rfl rfl rfl rfl rfl rfl rfl rfl hl.1 rfl (Nat.le_of_ble_eq_true rfl) dX6_area_27 ⟨Nat.le_of_ble_eq_true rfl, Nat.le_of_ble_eq_true rfl⟩ (fun H locs hP hD hS => ?_)
        refine W.eq (g2 := F0 m 30 ls []) rfl ?_
        refine lv_aload_n hx hb dX6_area_30 rfl (lv_at hl 0 rfl) ?_
        refine lv_iload_n hx hb dX6_area_31 rfl (lv_at hl 1 rfl) ?_
        obtain ⟨x28, hc29, h⟩ := cz_e1 h
        refine cz_callV (As := [.int w1]) (rest := []) (is := [0, 2, 4]) (isR := [1, 3, 5, 6]) (rs := [aI cI a_o_refusals 7 f_o_refusals, aI cI a_o_innerOf 120 g23, aI cI a_o_nearOf 360 g25, aI cI a_o_fromOf 360 g26]) (as := [a_o, a_o_refusals, a_o_s, a_o_innerOf, a_o_whoseOf, a_o_nearOf, a_o_fromOf]) (ws1 := [oX6 a_o a_o_refusals a_o_s a_o_image v_o_isImage a_o_tape a_o_read v_o_taped v_o_pos v_o_readWide v_o_readHigh a_o_innerOf a_o_whoseOf a_o_nearOf a_o_fromOf x22 a_o_pieceOf a_o_kept a_o_claimOf a_o_row v_o_rowed, aI cI a_o_refusals 7 f_o_refusals, aI cI a_o_s 151 f_o_s, aI cI a_o_innerOf 120 g23, aI cI a_o_whoseOf 120 g24, aI cI a_o_nearOf 360 g25, aI cI a_o_fromOf 360 g26]) (q0 := 0) (ci := 6) ⟨hx, hb, hml, hown, hts⟩ (c_X6_areaOf l D cI a_o a_o_s a_o_whoseOf a_o_refusals a_o_image a_o_tape a_o_read a_o_innerOf a_o_nearOf a_o_fromOf a_o_pieceOf a_o_kept a_o_claimOf a_o_row v_o_isImage v_o_taped v_o_pos v_o_readWide v_o_readHigh x22 v_o_rowed f_o_s g24 w1 n x28 hc29) mw_4_120 mw_4_122 mw_p_24 mw_1_8 mw_4_123 hd_X6_areaOf ⟨Nat.le_of_ble_eq_true rfl, Nat.le_of_ble_eq_true rfl⟩ hK hN hP hD hS rfl rfl rfl rfl rfl rfl rfl rfl rfl rfl rfl rfl hl.1 rfl (Nat.le_of_ble_eq_true rfl) dX6_area_32 ⟨Nat.le_of_ble_eq_true rfl, Nat.le_of_ble_eq_true rfl⟩ (fun H locs hP hD hS => ?_)
        refine W.eq (g2 := F0 m 35 ls [.int x28]) rfl ?_
        obtain ⟨rfl, rfl, rfl, rfl, rfl, rfl, rfl⟩ := cz_j7 (cz_i h)
        exact hQ _ _ _ _ hP hS dX6_area_35
      · replace h := cz_f c21 h
        refine lv_aload_n hx hb dX6_area_20 rfl (lv_at hl 0 rfl) ?_
        refine lv_iconst (v := (-1 : Int32)) hx hb dX6_area_21 (by decide) ?_
        obtain ⟨x30, g31, hc32, h⟩ := cz_e2 h
        refine cz_callV (As := [.int (-1 : Int32)]) (rest := []) (is := [0, 1]) (isR := [2, 3, 4, 5, 6]) (rs := [aI cI a_o_s 151 f_o_s, aI cI a_o_innerOf 120 f_o_innerOf, aI cI a_o_whoseOf 120 f_o_whoseOf, aI cI a_o_nearOf 360 f_o_nearOf, aI cI a_o_fromOf 360 f_o_fromOf]) (as := [a_o, a_o_refusals, a_o_s, a_o_innerOf, a_o_whoseOf, a_o_nearOf, a_o_fromOf]) (ws1 := [oX6 a_o a_o_refusals a_o_s a_o_image v_o_isImage a_o_tape a_o_read v_o_taped v_o_pos v_o_readWide v_o_readHigh a_o_innerOf a_o_whoseOf a_o_nearOf a_o_fromOf v_o_thirds a_o_pieceOf a_o_kept a_o_claimOf a_o_row v_o_rowed, aI cI a_o_refusals 7 g31, aI cI a_o_s 151 f_o_s, aI cI a_o_innerOf 120 f_o_innerOf, aI cI a_o_whoseOf 120 f_o_whoseOf, aI cI a_o_nearOf 360 f_o_nearOf, aI cI a_o_fromOf 360 f_o_fromOf]) (q0 := 0) (ci := 6) ⟨hx, hb, hml, hown, hts⟩ (c_X6_refuse l D cI a_o a_o_refusals a_o_s a_o_image a_o_tape a_o_read a_o_innerOf a_o_whoseOf a_o_nearOf a_o_fromOf a_o_pieceOf a_o_kept a_o_claimOf a_o_row v_o_isImage v_o_taped v_o_pos v_o_readWide v_o_readHigh v_o_thirds v_o_rowed f_o_refusals (-1 : Int32) n x30 g31 hc32) mw_4_11 mw_4_13 mw_p_10 mw_1_8 mw_4_14 hd_X6_refuse ⟨Nat.le_of_ble_eq_true rfl, Nat.le_of_ble_eq_true rfl⟩ hK hN hP hD hS rfl rfl rfl rfl rfl rfl rfl rfl rfl rfl rfl rfl hl.1 rfl (Nat.le_of_ble_eq_true rfl) dX6_area_22 ⟨Nat.le_of_ble_eq_true rfl, Nat.le_of_ble_eq_true rfl⟩ (fun H locs hP hD hS => ?_)
        refine W.eq (g2 := F0 m 25 ls [.int x30]) rfl ?_
        obtain ⟨rfl, rfl, rfl, rfl, rfl, rfl, rfl⟩ := cz_j7 (cz_i h)
        exact hQ _ _ _ _ hP hS dX6_area_25
set_option maxHeartbeats 4000000 in
set_option maxRecDepth 100000 in
theorem c_X6_isSea (l : Launch) (D : va_G) (cI : ClassId) (a_o a_o_s a_o_refusals a_o_image a_o_tape a_o_read a_o_innerOf a_o_whoseOf a_o_nearOf a_o_fromOf a_o_pieceOf a_o_kept a_o_claimOf a_o_row : Nat) (v_o_isImage : Int32) (v_o_taped : Int32) (v_o_pos : Int32) (v_o_readWide : Int32) (v_o_readHigh : Int32) (v_o_thirds : Int32) (v_o_rowed : Int32) (f_o_s : (Nat → Int32)) (w1 : Int32) (w2 : Int32) (n : Nat) (r : Int32) (h : f_X6_isSea n f_o_s w1 w2 = some r) : cz_M l yX6_isSea cX6_isSea 3 (some .boolean) 1 21 D cI [.ref a_o, .int w1, .int w2] [oX6 a_o a_o_refusals a_o_s a_o_image v_o_isImage a_o_tape a_o_read v_o_taped v_o_pos v_o_readWide v_o_readHigh a_o_innerOf a_o_whoseOf a_o_nearOf a_o_fromOf v_o_thirds a_o_pieceOf a_o_kept a_o_claimOf a_o_row v_o_rowed, aI cI a_o_s 151 f_o_s] (some (.int r)) [oX6 a_o a_o_refusals a_o_s a_o_image v_o_isImage a_o_tape a_o_read v_o_taped v_o_pos v_o_readWide v_o_readHigh a_o_innerOf a_o_whoseOf a_o_nearOf a_o_fromOf v_o_thirds a_o_pieceOf a_o_kept a_o_claimOf a_o_row v_o_rowed, aI cI a_o_s 151 f_o_s] := by
  refine cz_startZ (by decide) (Nat.le_of_ble_eq_true rfl) ?_
  intro p e s m ag below meth c A Q hx hb hml hown hts hK hN hQ H locs hP hD hS ls hl
  replace hown : s.vm.findClass RX6 = some m.cls := hown
  replace hl : lv_has ls 3 [(0, .ref a_o), (1, .int w1), (2, .int w2)] := hl
  unfold f_X6_isSea at h
  refine lv_iload_n hx hb dX6_isSea_0 rfl (lv_at hl 1 rfl) ?_
  refine lv_if_lt (tgt := 49) hx hb dX6_isSea_1 (by decide) (fun c1 => ?_) (fun c1 => ?_)
  · replace h := cz_t c1 h
    refine lv_iconst (v := (0 : Int32)) hx hb dX6_isSea_49 (by decide) ?_
    obtain rfl := cz_i h
    exact hQ _ _ _ _ (by decide) hP hS dX6_isSea_50
  · replace h := cz_f c1 h
    refine lv_iload_n hx hb dX6_isSea_4 rfl (lv_at hl 1 rfl) ?_
    refine lv_aload_n hx hb dX6_isSea_5 rfl (lv_at hl 0 rfl) ?_
    refine va_get (D := D) (ci := 6) (v := .ref a_o_s) (C := RX6) (T := TX6) (N := 20) hx hb hts in_X6 hown hK hP 0 rfl rfl 1 (by decide) (hts _ mw_3_187) (fun _ h9 => h9) rfl dX6_isSea_6 ?_
    refine lv_iconst (v := (0 : Int32)) hx hb dX6_isSea_9 (by decide) ?_
    refine cz_iald hx hb hK hP 1 0 rfl rfl (cz_rdE h).1 dX6_isSea_10 (fun x2 ex2 => ?_)
    replace h := cz_rdK ex2 h
    refine lv_icmp_ge (tgt := 49) hx hb dX6_isSea_11 (by decide) (fun c3 => ?_) (fun c3 => ?_)
    · replace h := cz_t c3 h
      refine lv_iconst (v := (0 : Int32)) hx hb dX6_isSea_49 (by decide) ?_
      obtain rfl := cz_i h
      exact hQ _ _ _ _ (by decide) hP hS dX6_isSea_50
    · replace h := cz_f c3 h
      refine lv_iload_n hx hb dX6_isSea_14 rfl (lv_at hl 2 rfl) ?_
      refine lv_if_lt (tgt := 49) hx hb dX6_isSea_15 (by decide) (fun c4 => ?_) (fun c4 => ?_)
      · replace h := cz_t c4 h
        refine lv_iconst (v := (0 : Int32)) hx hb dX6_isSea_49 (by decide) ?_
        obtain rfl := cz_i h
        exact hQ _ _ _ _ (by decide) hP hS dX6_isSea_50
      · replace h := cz_f c4 h
        refine lv_iload_n hx hb dX6_isSea_18 rfl (lv_at hl 2 rfl) ?_
        refine lv_aload_n hx hb dX6_isSea_19 rfl (lv_at hl 0 rfl) ?_
        refine va_get (D := D) (ci := 6) (v := .ref a_o_s) (C := RX6) (T := TX6) (N := 20) hx hb hts in_X6 hown hK hP 0 rfl rfl 1 (by decide) (hts _ mw_3_187) (fun _ h9 => h9) rfl dX6_isSea_20 ?_
        refine lv_iconst (v := (1 : Int32)) hx hb dX6_isSea_23 (by decide) ?_
        refine cz_iald hx hb hK hP 1 0 rfl rfl (cz_rdE h).1 dX6_isSea_24 (fun x5 ex5 => ?_)
        replace h := cz_rdK ex5 h
        refine lv_icmp_ge (tgt := 49) hx hb dX6_isSea_25 (by decide) (fun c6 => ?_) (fun c6 => ?_)
        · replace h := cz_t c6 h
          refine lv_iconst (v := (0 : Int32)) hx hb dX6_isSea_49 (by decide) ?_
          obtain rfl := cz_i h
          exact hQ _ _ _ _ (by decide) hP hS dX6_isSea_50
        · replace h := cz_f c6 h
          refine lv_aload_n hx hb dX6_isSea_28 rfl (lv_at hl 0 rfl) ?_
          refine lv_iload_n hx hb dX6_isSea_29 rfl (lv_at hl 2 rfl) ?_
          refine lv_aload_n hx hb dX6_isSea_30 rfl (lv_at hl 0 rfl) ?_
          refine va_get (D := D) (ci := 6) (v := .ref a_o_s) (C := RX6) (T := TX6) (N := 20) hx hb hts in_X6 hown hK hP 0 rfl rfl 1 (by decide) (hts _ mw_3_187) (fun _ h9 => h9) rfl dX6_isSea_31 ?_
          refine lv_iconst (v := (0 : Int32)) hx hb dX6_isSea_34 (by decide) ?_
          refine cz_iald hx hb hK hP 1 0 rfl rfl (cz_rdE h).1 dX6_isSea_35 (fun x7 ex7 => ?_)
          replace h := cz_rdK ex7 h
          refine lv_imul hx hb dX6_isSea_36 ?_
          refine lv_iload_n hx hb dX6_isSea_37 rfl (lv_at hl 1 rfl) ?_
          refine lv_iadd hx hb dX6_isSea_38 ?_
          obtain ⟨x8, hc9, h⟩ := cz_e1 h
          refine cz_callV (As := [.int ((w2 * x7) + w1)]) (rest := []) (is := [0, 1]) (isR := []) (rs := []) (as := [a_o, a_o_s]) (ws1 := [oX6 a_o a_o_refusals a_o_s a_o_image v_o_isImage a_o_tape a_o_read v_o_taped v_o_pos v_o_readWide v_o_readHigh a_o_innerOf a_o_whoseOf a_o_nearOf a_o_fromOf v_o_thirds a_o_pieceOf a_o_kept a_o_claimOf a_o_row v_o_rowed, aI cI a_o_s 151 f_o_s]) (q0 := 0) (ci := 6) ⟨hx, hb, hml, hown, hts⟩ (c_X6_at l D cI a_o a_o_s a_o_refusals a_o_image a_o_tape a_o_read a_o_innerOf a_o_whoseOf a_o_nearOf a_o_fromOf a_o_pieceOf a_o_kept a_o_claimOf a_o_row v_o_isImage v_o_taped v_o_pos v_o_readWide v_o_readHigh v_o_thirds v_o_rowed f_o_s ((w2 * x7) + w1) n x8 hc9) mw_4_43 mw_4_45 mw_p_15 mw_1_8 mw_4_46 hd_X6_at ⟨Nat.le_of_ble_eq_true rfl, Nat.le_of_ble_eq_true rfl⟩ hK hN hP hD hS rfl rfl rfl rfl rfl rfl rfl rfl rfl rfl rfl rfl hl.1 rfl (Nat.le_of_ble_eq_true rfl) dX6_isSea_39 ⟨Nat.le_of_ble_eq_true rfl, Nat.le_of_ble_eq_true rfl⟩ (fun H locs hP hD hS => ?_)
          refine W.eq (g2 := F0 m 42 ls [.int x8]) rfl ?_
          refine lv_if_ne (tgt := 49) hx hb dX6_isSea_42 (by decide) (fun c10 => ?_) (fun c10 => ?_)
          · replace h := cz_f c10 h
            refine lv_iconst (v := (0 : Int32)) hx hb dX6_isSea_49 (by decide) ?_
            obtain rfl := cz_i h
            exact hQ _ _ _ _ (by decide) hP hS dX6_isSea_50
          · replace h := cz_t c10 h
            refine lv_iconst (v := (1 : Int32)) hx hb dX6_isSea_45 (by decide) ?_
            refine lv_goto (tgt := 50) hx hb dX6_isSea_46 (by decide) ?_
            obtain rfl := cz_i h
            exact hQ _ _ _ _ (by decide) hP hS dX6_isSea_50
set_option maxHeartbeats 4000000 in
set_option maxRecDepth 100000 in
theorem c_X6_shoreOf (l : Launch) (D : va_G) (cI : ClassId) (a_o a_o_s a_o_refusals a_o_image a_o_tape a_o_read a_o_innerOf a_o_whoseOf a_o_nearOf a_o_fromOf a_o_pieceOf a_o_kept a_o_claimOf a_o_row : Nat) (v_o_isImage : Int32) (v_o_taped : Int32) (v_o_pos : Int32) (v_o_readWide : Int32) (v_o_readHigh : Int32) (v_o_thirds : Int32) (v_o_rowed : Int32) (f_o_s : (Nat → Int32)) (w1 : Int32) (n : Nat) (r : Int32) (h : f_X6_shoreOf n f_o_s w1 = some r) : cz_M l yX6_shoreOf cX6_shoreOf 6 (some .int) 2 43 D cI [.ref a_o, .int w1] [oX6 a_o a_o_refusals a_o_s a_o_image v_o_isImage a_o_tape a_o_read v_o_taped v_o_pos v_o_readWide v_o_readHigh a_o_innerOf a_o_whoseOf a_o_nearOf a_o_fromOf v_o_thirds a_o_pieceOf a_o_kept a_o_claimOf a_o_row v_o_rowed, aI cI a_o_s 151 f_o_s] (some (.int r)) [oX6 a_o a_o_refusals a_o_s a_o_image v_o_isImage a_o_tape a_o_read v_o_taped v_o_pos v_o_readWide v_o_readHigh a_o_innerOf a_o_whoseOf a_o_nearOf a_o_fromOf v_o_thirds a_o_pieceOf a_o_kept a_o_claimOf a_o_row v_o_rowed, aI cI a_o_s 151 f_o_s] := by
  refine cz_startI (by decide) (Nat.le_of_ble_eq_true rfl) ?_
  intro p e s m ag below meth c A Q hx hb hml hown hts hK hN hQ H locs hP hD hS ls hl
  replace hown : s.vm.findClass RX6 = some m.cls := hown
  replace hl : lv_has ls 6 [(0, .ref a_o), (1, .int w1)] := hl
  unfold f_X6_shoreOf at h
  refine lv_iconst (v := (0 : Int32)) hx hb dX6_shoreOf_0 (by decide) ?_
  refine lv_istore_n (lv' := [(2, .int (0 : Int32)), (0, .ref a_o), (1, .int w1)]) hx hb dX6_shoreOf_1 rfl hl (by decide) rfl (fun ls hl => ?_)
  refine lv_iconst (v := (0 : Int32)) hx hb dX6_shoreOf_2 (by decide) ?_
  refine lv_istore_n (lv' := [(3, .int (0 : Int32)), (2, .int (0 : Int32)), (0, .ref a_o), (1, .int w1)]) hx hb dX6_shoreOf_3 rfl hl (by decide) rfl (fun ls hl => ?_)
  obtain ⟨z3, hE4, hz5⟩ := cz_x2 h
  have hX6 : ∀ (y9 : Int32) (y10 : Int32) (H : Heap) (locs : List Loc) (ls : Array Slot), z3 = (y9, y10) → va_P D vwCl [oX6 a_o a_o_refusals a_o_s a_o_image v_o_isImage a_o_tape a_o_read v_o_taped v_o_pos v_o_readWide v_o_readHigh a_o_innerOf a_o_whoseOf a_o_nearOf a_o_fromOf v_o_thirds a_o_pieceOf a_o_kept a_o_claimOf a_o_row v_o_rowed, aI cI a_o_s 151 f_o_s] H → va_D A [oX6 a_o a_o_refusals a_o_s a_o_image v_o_isImage a_o_tape a_o_read v_o_taped v_o_pos v_o_readWide v_o_readHigh a_o_innerOf a_o_whoseOf a_o_nearOf a_o_fromOf v_o_thirds a_o_pieceOf a_o_kept a_o_claimOf a_o_row v_o_rowed, aI cI a_o_s 151 f_o_s] → va_S A s.heap H locs → lv_has ls 6 [(2, .int y9)] → W p l e (cz_rm 2 43) s m ag below meth c H locs 0 0 Q (F0 m 109 ls []) := by
    intro y9 y10 H locs ls h hP hD hS hl
    replace h := hz5 _ _ h
    refine lv_iload_n hx hb dX6_shoreOf_109 rfl (lv_at hl 0 rfl) ?_
    obtain rfl := cz_i h
    exact hQ _ _ _ _ hP hS dX6_shoreOf_110
  clear h
  have hL7 : ∀ (k : Nat) (x1 : Int32) (x2 : Int32) (H : Heap) (locs : List Loc) (ls : Array Slot), f_X6_shoreOf_L4 n f_o_s w1 k x1 x2 = some z3 → va_P D vwCl [oX6 a_o a_o_refusals a_o_s a_o_image v_o_isImage a_o_tape a_o_read v_o_taped v_o_pos v_o_readWide v_o_readHigh a_o_innerOf a_o_whoseOf a_o_nearOf a_o_fromOf v_o_thirds a_o_pieceOf a_o_kept a_o_claimOf a_o_row v_o_rowed, aI cI a_o_s 151 f_o_s] H → va_D A [oX6 a_o a_o_refusals a_o_s a_o_image v_o_isImage a_o_tape a_o_read v_o_taped v_o_pos v_o_readWide v_o_readHigh a_o_innerOf a_o_whoseOf a_o_nearOf a_o_fromOf v_o_thirds a_o_pieceOf a_o_kept a_o_claimOf a_o_row v_o_rowed, aI cI a_o_s 151 f_o_s] → va_S A s.heap H locs → lv_has ls 6 [(0, .ref a_o), (1, .int w1), (2, .int x1), (3, .int x2)] → W p l e (cz_rm 2 43) s m ag below meth c H locs 0 0 Q (F0 m 4 ls []) := by
    intro k
    induction k with
    | zero =>
      intro x1 x2 H locs ls h
      rw [f_X6_shoreOf_L4] at h
      cases h
    | succ k ih11 =>
      intro x1 x2 H locs ls h hP hD hS hl
      rw [f_X6_shoreOf_L4] at h
      refine lv_iload_n hx hb dX6_shoreOf_4 rfl (lv_at hl 3 rfl) ?_
      refine lv_aload_n hx hb dX6_shoreOf_5 rfl (lv_at hl 0 rfl) ?_
      obtain ⟨x12, hc13, h⟩ := cz_e1 h
      refine cz_callV (As := []) (rest := [.int x2]) (is := [0, 1]) (isR := []) (rs := []) (as := [a_o, a_o_s]) (ws1 := [oX6 a_o a_o_refusals a_o_s a_o_image v_o_isImage a_o_tape a_o_read v_o_taped v_o_pos v_o_readWide v_o_readHigh a_o_innerOf a_o_whoseOf a_o_nearOf a_o_fromOf v_o_thirds a_o_pieceOf a_o_kept a_o_claimOf a_o_row v_o_rowed, aI cI a_o_s 151 f_o_s]) (q0 := 0) (ci := 6) ⟨hx, hb, hml, hown, hts⟩ (c_X6_many l D cI a_o a_o_s a_o_refusals a_o_image a_o_tape a_o_read a_o_innerOf a_o_whoseOf a_o_nearOf a_o_fromOf a_o_pieceOf a_o_kept a_o_claimOf a_o_row v_o_isImage v_o_taped v_o_pos v_o_readWide v_o_readHigh v_o_thirds v_o_rowed f_o_s  n x12 hc13) mw_4_27 mw_4_29 mw_p_12 mw_1_8 mw_4_30 hd_X6_many ⟨Nat.le_of_ble_eq_true rfl, Nat.le_of_ble_eq_true rfl⟩ hK hN hP hD hS rfl rfl rfl rfl rfl rfl rfl rfl rfl rfl rfl rfl hl.1 rfl (Nat.le_of_ble_eq_true rfl) dX6_shoreOf_6 ⟨Nat.le_of_ble_eq_true rfl, Nat.le_of_ble_eq_true rfl⟩ (fun H locs hP hD hS => ?_)
      refine W.eq (g2 := F0 m 9 ls [.int x12, .int x2]) rfl ?_
      refine lv_icmp_ge (tgt := 109) hx hb dX6_shoreOf_9 (by decide) (fun c14 => ?_) (fun c14 => ?_)
      · replace h := cz_t c14 h
        exact hX6 _ _ _ _ _ (cz_i h).symm hP hD hS (lv_sub hl [2] rfl)
      · replace h := cz_f c14 h
        refine lv_iload_n hx hb dX6_shoreOf_12 rfl (lv_at hl 3 rfl) ?_
        refine lv_aload_n hx hb dX6_shoreOf_13 rfl (lv_at hl 0 rfl) ?_
        refine va_get (D := D) (ci := 6) (v := .ref a_o_s) (C := RX6) (T := TX6) (N := 20) hx hb hts in_X6 hown hK hP 0 rfl rfl 1 (by decide) (hts _ mw_3_187) (fun _ h9 => h9) rfl dX6_shoreOf_14 ?_
        refine lv_iconst (v := (0 : Int32)) hx hb dX6_shoreOf_17 (by decide) ?_
        refine cz_iald hx hb hK hP 1 0 rfl rfl (cz_rdE h).1 dX6_shoreOf_18 (fun x15 ex15 => ?_)
        replace h := cz_rdK ex15 h
        refine lv_irem hx hb dX6_shoreOf_19 (cz_nzE h).1 ?_
        replace h := (cz_nzE h).2
        refine lv_topi (fun x16 ex16 => ?_)
        replace h := cz_ltE ex16 h
        refine lv_istore (lv' := [(4, .int x16), (0, .ref a_o), (1, .int w1), (2, .int x1), (3, .int x2)]) hx hb dX6_shoreOf_20 hl (by decide) rfl (fun ls hl => ?_)
        refine lv_iload_n hx hb dX6_shoreOf_22 rfl (lv_at hl 4 rfl) ?_
        refine lv_aload_n hx hb dX6_shoreOf_23 rfl (lv_at hl 1 rfl) ?_
        refine va_get (D := D) (ci := 6) (v := .ref a_o_s) (C := RX6) (T := TX6) (N := 20) hx hb hts in_X6 hown hK hP 0 rfl rfl 1 (by decide) (hts _ mw_3_187) (fun _ h9 => h9) rfl dX6_shoreOf_24 ?_
        refine lv_iconst (v := (0 : Int32)) hx hb dX6_shoreOf_27 (by decide) ?_
        refine cz_iald hx hb hK hP 1 0 rfl rfl (cz_rdE h).1 dX6_shoreOf_28 (fun x17 ex17 => ?_)
        replace h := cz_rdK ex17 h
        refine lv_idiv hx hb dX6_shoreOf_29 (cz_nzE h).1 ?_
        replace h := (cz_nzE h).2
        refine lv_topi (fun x18 ex18 => ?_)
        replace h := cz_ltE ex18 h
        refine lv_istore (lv' := [(5, .int x18), (4, .int x16), (0, .ref a_o), (1, .int w1), (2, .int x1), (3, .int x2)]) hx hb dX6_shoreOf_30 hl (by decide) rfl (fun ls hl => ?_)
        refine lv_iload_n hx hb dX6_shoreOf_32 rfl (lv_at hl 4 rfl) ?_
        refine lv_aload_n hx hb dX6_shoreOf_33 rfl (lv_at hl 2 rfl) ?_
        refine lv_iload_n hx hb dX6_shoreOf_34 rfl (lv_at hl 5 rfl) ?_
        obtain ⟨x19, hc20, h⟩ := cz_e1 h
        refine cz_callV (As := [.int x2]) (rest := [.int x1]) (is := [0, 1]) (isR := []) (rs := []) (as := [a_o, a_o_s]) (ws1 := [oX6 a_o a_o_refusals a_o_s a_o_image v_o_isImage a_o_tape a_o_read v_o_taped v_o_pos v_o_readWide v_o_readHigh a_o_innerOf a_o_whoseOf a_o_nearOf a_o_fromOf v_o_thirds a_o_pieceOf a_o_kept a_o_claimOf a_o_row v_o_rowed, aI cI a_o_s 151 f_o_s]) (q0 := 0) (ci := 6) ⟨hx, hb, hml, hown, hts⟩ (c_X6_at l D cI a_o a_o_s a_o_refusals a_o_image a_o_tape a_o_read a_o_innerOf a_o_whoseOf a_o_nearOf a_o_fromOf a_o_pieceOf a_o_kept a_o_claimOf a_o_row v_o_isImage v_o_taped v_o_pos v_o_readWide v_o_readHigh v_o_thirds v_o_rowed f_o_s x2 n x19 hc20) mw_4_43 mw_4_45 mw_p_15 mw_1_8 mw_4_46 hd_X6_at ⟨Nat.le_of_ble_eq_true rfl, Nat.le_of_ble_eq_true rfl⟩ hK hN hP hD hS rfl rfl rfl rfl rfl rfl rfl rfl rfl rfl rfl rfl hl.1 rfl (Nat.le_of_ble_eq_true rfl) dX6_shoreOf_35 ⟨Nat.le_of_ble_eq_true rfl, Nat.le_of_ble_eq_true rfl⟩ (fun H locs hP hD hS => ?_)
        refine W.eq (g2 := F0 m 38 ls [.int x19, .int x1]) rfl ?_
        refine lv_iload_n hx hb dX6_shoreOf_38 rfl (lv_at hl 3 rfl) ?_
        refine lv_iconst (v := (1 : Int32)) hx hb dX6_shoreOf_39 (by decide) ?_
        refine lv_iadd hx hb dX6_shoreOf_40 ?_
        obtain ⟨z25, hE23, hz22⟩ := cz_x1 h
        have hJ24 : ∀ (x21 : Int32) (H : Heap) (locs : List Loc) (ls : Array Slot), z25 = x21 → va_P D vwCl [oX6 a_o a_o_refusals a_o_s a_o_image v_o_isImage a_o_tape a_o_read v_o_taped v_o_pos v_o_readWide v_o_readHigh a_o_innerOf a_o_whoseOf a_o_nearOf a_o_fromOf v_o_thirds a_o_pieceOf a_o_kept a_o_claimOf a_o_row v_o_rowed, aI cI a_o_s 151 f_o_s] H → va_D A [oX6 a_o a_o_refusals a_o_s a_o_image v_o_isImage a_o_tape a_o_read v_o_taped v_o_pos v_o_readWide v_o_readHigh a_o_innerOf a_o_whoseOf a_o_nearOf a_o_fromOf v_o_thirds a_o_pieceOf a_o_kept a_o_claimOf a_o_row v_o_rowed, aI cI a_o_s 151 f_o_s] → va_S A s.heap H locs → lv_has ls 6 [(0, .ref a_o), (1, .int w1), (3, .int x2)] → W p l e (cz_rm 2 43) s m ag below meth c H locs 0 0 Q (F0 m 101 ls [.int x21, .int x1]) := by
          intro x21 H locs ls h hP hD hS hl
          replace h := hz22 _ h
          refine lv_iadd hx hb dX6_shoreOf_101 ?_
          refine lv_topi (fun x26 ex26 => ?_)
          replace h := cz_ltE ex26 h
          refine lv_istore_n (lv' := [(2, .int x26), (0, .ref a_o), (1, .int w1), (3, .int x2)]) hx hb dX6_shoreOf_102 rfl hl (by decide) rfl (fun ls hl => ?_)
          obtain ⟨x27, ex27⟩ : ∃ z : Int32, z = x2 + (1 : Int32) := ⟨_, rfl⟩
          replace h := cz_ltE ex27 h
          refine lv_iinc (v := x27) (lv' := [(3, .int x27), (2, .int x26), (0, .ref a_o), (1, .int w1)]) hx hb dX6_shoreOf_103 hl (k := 3) rfl (by rw [ex27]; rfl) (by decide) rfl (fun ls hl => ?_)
          refine lv_goto (tgt := 4) hx hb dX6_shoreOf_106 (by decide) ?_
          exact ih11 _ _ _ _ _ h hP hD hS (lv_sub hl [2, 3, 1, 0] rfl)
        clear h
        have h := hE23
        refine lv_icmp_ne (tgt := 100) hx hb dX6_shoreOf_41 (by decide) (fun c28 => ?_) (fun c28 => ?_)
        · replace h := cz_f c28 h
          refine lv_iconst (v := (0 : Int32)) hx hb dX6_shoreOf_100 (by decide) ?_
          exact hJ24 _ _ _ _ (cz_i h).symm hP hD hS (lv_sub hl [2, 3, 5] rfl)
        · replace h := cz_t c28 h
          refine lv_aload_n hx hb dX6_shoreOf_44 rfl (lv_at hl 2 rfl) ?_
          refine lv_iload hx hb dX6_shoreOf_45 (lv_at hl 1 rfl) ?_
          refine lv_iconst (v := (1 : Int32)) hx hb dX6_shoreOf_47 (by decide) ?_
          refine lv_isub hx hb dX6_shoreOf_48 ?_
          refine lv_iload hx hb dX6_shoreOf_49 (lv_at hl 0 rfl) ?_
          obtain ⟨x29, hc30, h⟩ := cz_e1 h
          refine cz_callV (As := [.int (x16 - (1 : Int32)), .int x18]) (rest := [.int x1]) (is := [0, 1]) (isR := []) (rs := []) (as := [a_o, a_o_s]) (ws1 := [oX6 a_o a_o_refusals a_o_s a_o_image v_o_isImage a_o_tape a_o_read v_o_taped v_o_pos v_o_readWide v_o_readHigh a_o_innerOf a_o_whoseOf a_o_nearOf a_o_fromOf v_o_thirds a_o_pieceOf a_o_kept a_o_claimOf a_o_row v_o_rowed, aI cI a_o_s 151 f_o_s]) (q0 := 0) (ci := 6) ⟨hx, hb, hml, hown, hts⟩ (c_X6_isSea l D cI a_o a_o_s a_o_refusals a_o_image a_o_tape a_o_read a_o_innerOf a_o_whoseOf a_o_nearOf a_o_fromOf a_o_pieceOf a_o_kept a_o_claimOf a_o_row v_o_isImage v_o_taped v_o_pos v_o_readWide v_o_readHigh v_o_thirds v_o_rowed f_o_s (x16 - (1 : Int32)) x18 n x29 hc30) mw_4_132 mw_4_134 mw_p_26 mw_1_8 mw_4_135 hd_X6_isSea ⟨Nat.le_of_ble_eq_true rfl, Nat.le_of_ble_eq_true rfl⟩ hK hN hP hD hS rfl rfl rfl rfl rfl rfl rfl rfl rfl rfl rfl rfl hl.1 rfl (Nat.le_of_ble_eq_true rfl) dX6_shoreOf_51 ⟨Nat.le_of_ble_eq_true rfl, Nat.le_of_ble_eq_true rfl⟩ (fun H locs hP hD hS => ?_)
          refine W.eq (g2 := F0 m 54 ls [.int x29, .int x1]) rfl ?_
          refine lv_if_ne (tgt := 96) hx hb dX6_shoreOf_54 (by decide) (fun c31 => ?_) (fun c31 => ?_)
          · replace h := cz_f c31 h
            refine lv_iconst (v := (1 : Int32)) hx hb dX6_shoreOf_96 (by decide) ?_
            refine lv_goto (tgt := 101) hx hb dX6_shoreOf_97 (by decide) ?_
            exact hJ24 _ _ _ _ (cz_i h).symm hP hD hS (lv_sub hl [2, 3, 5] rfl)
          · replace h := cz_t c31 h
            refine lv_aload_n hx hb dX6_shoreOf_57 rfl (lv_at hl 2 rfl) ?_
            refine lv_iload hx hb dX6_shoreOf_58 (lv_at hl 1 rfl) ?_
            refine lv_iconst (v := (1 : Int32)) hx hb dX6_shoreOf_60 (by decide) ?_
            refine lv_iadd hx hb dX6_shoreOf_61 ?_
            refine lv_iload hx hb dX6_shoreOf_62 (lv_at hl 0 rfl) ?_
            obtain ⟨x32, hc33, h⟩ := cz_e1 h
            refine cz_callV (As := [.int (x16 + (1 : Int32)), .int x18]) (rest := [.int x1]) (is := [0, 1]) (isR := []) (rs := []) (as := [a_o, a_o_s]) (ws1 := [oX6 a_o a_o_refusals a_o_s a_o_image v_o_isImage a_o_tape a_o_read v_o_taped v_o_pos v_o_readWide v_o_readHigh a_o_innerOf a_o_whoseOf a_o_nearOf a_o_fromOf v_o_thirds a_o_pieceOf a_o_kept a_o_claimOf a_o_row v_o_rowed, aI cI a_o_s 151 f_o_s]) (q0 := 0) (ci := 6) ⟨hx, hb, hml, hown, hts⟩ (c_X6_isSea l D cI a_o a_o_s a_o_refusals a_o_image a_o_tape a_o_read a_o_innerOf a_o_whoseOf a_o_nearOf a_o_fromOf a_o_pieceOf a_o_kept a_o_claimOf a_o_row v_o_isImage v_o_taped v_o_pos v_o_readWide v_o_readHigh v_o_thirds v_o_rowed f_o_s (x16 + (1 : Int32)) x18 n x32 hc33) mw_4_132 mw_4_134 mw_p_26 mw_1_8 mw_4_135 hd_X6_isSea ⟨Nat.le_of_ble_eq_true rfl, Nat.le_of_ble_eq_true rfl⟩ hK hN hP hD hS rfl rfl rfl rfl rfl rfl rfl rfl rfl rfl rfl rfl hl.1 rfl (Nat.le_of_ble_eq_true rfl) dX6_shoreOf_64 ⟨Nat.le_of_ble_eq_true rfl, Nat.le_of_ble_eq_true rfl⟩ (fun H locs hP hD hS => ?_)
            refine W.eq (g2 := F0 m 67 ls [.int x32, .int x1]) rfl ?_
            refine lv_if_ne (tgt := 96) hx hb dX6_shoreOf_67 (by decide) (fun c34 => ?_) (fun c34 => ?_)
            · replace h := cz_f c34 h
              refine lv_iconst (v := (1 : Int32)) hx hb dX6_shoreOf_96 (by decide) ?_
              refine lv_goto (tgt := 101) hx hb dX6_shoreOf_97 (by decide) ?_
              exact hJ24 _ _ _ _ (cz_i h).symm hP hD hS (lv_sub hl [2, 3, 5] rfl)
            · replace h := cz_t c34 h
              refine lv_aload_n hx hb dX6_shoreOf_70 rfl (lv_at hl 2 rfl) ?_
              refine lv_iload hx hb dX6_shoreOf_71 (lv_at hl 1 rfl) ?_
              refine lv_iload hx hb dX6_shoreOf_73 (lv_at hl 0 rfl) ?_
              refine lv_iconst (v := (1 : Int32)) hx hb dX6_shoreOf_75 (by decide) ?_
              refine lv_isub hx hb dX6_shoreOf_76 ?_
              obtain ⟨x35, hc36, h⟩ := cz_e1 h
              refine cz_callV (As := [.int x16, .int (x18 - (1 : Int32))]) (rest := [.int x1]) (is := [0, 1]) (isR := []) (rs := []) (as := [a_o, a_o_s]) (ws1 := [oX6 a_o a_o_refusals a_o_s a_o_image v_o_isImage a_o_tape a_o_read v_o_taped v_o_pos v_o_readWide v_o_readHigh a_o_innerOf a_o_whoseOf a_o_nearOf a_o_fromOf v_o_thirds a_o_pieceOf a_o_kept a_o_claimOf a_o_row v_o_rowed, aI cI a_o_s 151 f_o_s]) (q0 := 0) (ci := 6) ⟨hx, hb, hml, hown, hts⟩ (c_X6_isSea l D cI a_o a_o_s a_o_refusals a_o_image a_o_tape a_o_read a_o_innerOf a_o_whoseOf a_o_nearOf a_o_fromOf a_o_pieceOf a_o_kept a_o_claimOf a_o_row v_o_isImage v_o_taped v_o_pos v_o_readWide v_o_readHigh v_o_thirds v_o_rowed f_o_s x16 (x18 - (1 : Int32)) n x35 hc36) mw_4_132 mw_4_134 mw_p_26 mw_1_8 mw_4_135 hd_X6_isSea ⟨Nat.le_of_ble_eq_true rfl, Nat.le_of_ble_eq_true rfl⟩ hK hN hP hD hS rfl rfl rfl rfl rfl rfl rfl rfl rfl rfl rfl rfl hl.1 rfl (Nat.le_of_ble_eq_true rfl) dX6_shoreOf_77 ⟨Nat.le_of_ble_eq_true rfl, Nat.le_of_ble_eq_true rfl⟩ (fun H locs hP hD hS => ?_)
              refine W.eq (g2 := F0 m 80 ls [.int x35, .int x1]) rfl ?_
              refine lv_if_ne (tgt := 96) hx hb dX6_shoreOf_80 (by decide) (fun c37 => ?_) (fun c37 => ?_)
              · replace h := cz_f c37 h
                refine lv_iconst (v := (1 : Int32)) hx hb dX6_shoreOf_96 (by decide) ?_
                refine lv_goto (tgt := 101) hx hb dX6_shoreOf_97 (by decide) ?_
                exact hJ24 _ _ _ _ (cz_i h).symm hP hD hS (lv_sub hl [2, 3, 5] rfl)
              · replace h := cz_t c37 h
                refine lv_aload_n hx hb dX6_shoreOf_83 rfl (lv_at hl 2 rfl) ?_
                refine lv_iload hx hb dX6_shoreOf_84 (lv_at hl 1 rfl) ?_
                refine lv_iload hx hb dX6_shoreOf_86 (lv_at hl 0 rfl) ?_
                refine lv_iconst (v := (1 : Int32)) hx hb dX6_shoreOf_88 (by decide) ?_
                refine lv_iadd hx hb dX6_shoreOf_89 ?_
                obtain ⟨x38, hc39, h⟩ := cz_e1 h
                refine cz_callV (As := [.int x16, .int (x18 + (1 : Int32))]) (rest := [.int x1]) (is := [0, 1]) (isR := []) (rs := []) (as := [a_o, a_o_s]) (ws1 := [oX6 a_o a_o_refusals a_o_s a_o_image v_o_isImage a_o_tape a_o_read v_o_taped v_o_pos v_o_readWide v_o_readHigh a_o_innerOf a_o_whoseOf a_o_nearOf a_o_fromOf v_o_thirds a_o_pieceOf a_o_kept a_o_claimOf a_o_row v_o_rowed, aI cI a_o_s 151 f_o_s]) (q0 := 0) (ci := 6) ⟨hx, hb, hml, hown, hts⟩ (c_X6_isSea l D cI a_o a_o_s a_o_refusals a_o_image a_o_tape a_o_read a_o_innerOf a_o_whoseOf a_o_nearOf a_o_fromOf a_o_pieceOf a_o_kept a_o_claimOf a_o_row v_o_isImage v_o_taped v_o_pos v_o_readWide v_o_readHigh v_o_thirds v_o_rowed f_o_s x16 (x18 + (1 : Int32)) n x38 hc39) mw_4_132 mw_4_134 mw_p_26 mw_1_8 mw_4_135 hd_X6_isSea ⟨Nat.le_of_ble_eq_true rfl, Nat.le_of_ble_eq_true rfl⟩ hK hN hP hD hS rfl rfl rfl rfl rfl rfl rfl rfl rfl rfl rfl rfl hl.1 rfl (Nat.le_of_ble_eq_true rfl) dX6_shoreOf_90 ⟨Nat.le_of_ble_eq_true rfl, Nat.le_of_ble_eq_true rfl⟩ (fun H locs hP hD hS => ?_)
                refine W.eq (g2 := F0 m 93 ls [.int x38, .int x1]) rfl ?_
                refine lv_if_eq (tgt := 100) hx hb dX6_shoreOf_93 (by decide) (fun c40 => ?_) (fun c40 => ?_)
                · replace h := cz_t c40 h
                  refine lv_iconst (v := (0 : Int32)) hx hb dX6_shoreOf_100 (by decide) ?_
                  exact hJ24 _ _ _ _ (cz_i h).symm hP hD hS (lv_sub hl [2, 3, 5] rfl)
                · replace h := cz_f c40 h
                  refine lv_iconst (v := (1 : Int32)) hx hb dX6_shoreOf_96 (by decide) ?_
                  refine lv_goto (tgt := 101) hx hb dX6_shoreOf_97 (by decide) ?_
                  exact hJ24 _ _ _ _ (cz_i h).symm hP hD hS (lv_sub hl [2, 3, 5] rfl)
  exact hL7 n _ _ _ _ _ hE4 hP hD hS (lv_sub hl [2, 3, 1, 0] rfl)
set_option maxHeartbeats 4000000 in
set_option maxRecDepth 100000 in
theorem c_X6_shore (l : Launch) (D : va_G) (cI : ClassId) (a_o a_o_refusals a_o_s a_o_image a_o_tape a_o_read a_o_innerOf a_o_whoseOf a_o_nearOf a_o_fromOf a_o_pieceOf a_o_kept a_o_claimOf a_o_row : Nat) (v_o_isImage : Int32) (v_o_taped : Int32) (v_o_pos : Int32) (v_o_readWide : Int32) (v_o_readHigh : Int32) (v_o_thirds : Int32) (v_o_rowed : Int32) (f_o_refusals : (Nat → Int32)) (f_o_s : (Nat → Int32)) (w1 : Int32) (n : Nat) (r : Int32) (r_f_o_refusals : (Nat → Int32)) (h : f_X6_shore n f_o_refusals f_o_s w1 = some (r, r_f_o_refusals)) : cz_M l yX6_shore cX6_shore 2 (some .int) 3 68 D cI [.ref a_o, .int w1] [oX6 a_o a_o_refusals a_o_s a_o_image v_o_isImage a_o_tape a_o_read v_o_taped v_o_pos v_o_readWide v_o_readHigh a_o_innerOf a_o_whoseOf a_o_nearOf a_o_fromOf v_o_thirds a_o_pieceOf a_o_kept a_o_claimOf a_o_row v_o_rowed, aI cI a_o_refusals 7 f_o_refusals, aI cI a_o_s 151 f_o_s] (some (.int r)) [oX6 a_o a_o_refusals a_o_s a_o_image v_o_isImage a_o_tape a_o_read v_o_taped v_o_pos v_o_readWide v_o_readHigh a_o_innerOf a_o_whoseOf a_o_nearOf a_o_fromOf v_o_thirds a_o_pieceOf a_o_kept a_o_claimOf a_o_row v_o_rowed, aI cI a_o_refusals 7 r_f_o_refusals, aI cI a_o_s 151 f_o_s] := by
  refine cz_startI (by decide) (Nat.le_of_ble_eq_true rfl) ?_
  intro p e s m ag below meth c A Q hx hb hml hown hts hK hN hQ H locs hP hD hS ls hl
  replace hown : s.vm.findClass RX6 = some m.cls := hown
  replace hl : lv_has ls 2 [(0, .ref a_o), (1, .int w1)] := hl
  unfold f_X6_shore at h
  refine lv_iload_n hx hb dX6_shore_0 rfl (lv_at hl 1 rfl) ?_
  refine lv_iconst (v := (3 : Int32)) hx hb dX6_shore_1 (by decide) ?_
  obtain ⟨x1, hc2, h⟩ := cz_e1 h
  refine cz_callS (As := [.int w1, .int (3 : Int32)]) (rest := []) (is := []) (isR := [0, 1, 2]) (rs := [oX6 a_o a_o_refusals a_o_s a_o_image v_o_isImage a_o_tape a_o_read v_o_taped v_o_pos v_o_readWide v_o_readHigh a_o_innerOf a_o_whoseOf a_o_nearOf a_o_fromOf v_o_thirds a_o_pieceOf a_o_kept a_o_claimOf a_o_row v_o_rowed, aI cI a_o_refusals 7 f_o_refusals, aI cI a_o_s 151 f_o_s]) (as := [a_o, a_o_refusals, a_o_s]) (ws1 := [oX6 a_o a_o_refusals a_o_s a_o_image v_o_isImage a_o_tape a_o_read v_o_taped v_o_pos v_o_readWide v_o_readHigh a_o_innerOf a_o_whoseOf a_o_nearOf a_o_fromOf v_o_thirds a_o_pieceOf a_o_kept a_o_claimOf a_o_row v_o_rowed, aI cI a_o_refusals 7 f_o_refusals, aI cI a_o_s 151 f_o_s]) ⟨hx, hb, hml, hown, hts⟩ (c_X6_isIn l D cI   w1 (3 : Int32) n x1 hc2) mw_4_51 mw_4_52 mw_1_8 mw_4_53 hd_X6_isIn ⟨Nat.le_of_ble_eq_true rfl, Nat.le_of_ble_eq_true rfl⟩ hK hN hP hD hS rfl rfl rfl rfl rfl rfl rfl rfl rfl hl.1 rfl (Nat.le_of_ble_eq_true rfl) dX6_shore_2 ⟨Nat.le_of_ble_eq_true rfl, Nat.le_of_ble_eq_true rfl⟩ (fun H locs hP hD hS => ?_)
  refine W.eq (g2 := F0 m 5 ls [.int x1]) rfl ?_
  refine lv_if_eq (tgt := 16) hx hb dX6_shore_5 (by decide) (fun c3 => ?_) (fun c3 => ?_)
  · replace h := cz_t c3 h
    refine lv_aload_n hx hb dX6_shore_16 rfl (lv_at hl 0 rfl) ?_
    refine lv_iconst (v := (-1 : Int32)) hx hb dX6_shore_17 (by decide) ?_
    obtain ⟨x4, g5, hc6, h⟩ := cz_e2 h
    refine cz_callV (As := [.int (-1 : Int32)]) (rest := []) (is := [0, 1]) (isR := [2]) (rs := [aI cI a_o_s 151 f_o_s]) (as := [a_o, a_o_refusals, a_o_s]) (ws1 := [oX6 a_o a_o_refusals a_o_s a_o_image v_o_isImage a_o_tape a_o_read v_o_taped v_o_pos v_o_readWide v_o_readHigh a_o_innerOf a_o_whoseOf a_o_nearOf a_o_fromOf v_o_thirds a_o_pieceOf a_o_kept a_o_claimOf a_o_row v_o_rowed, aI cI a_o_refusals 7 g5, aI cI a_o_s 151 f_o_s]) (q0 := 0) (ci := 6) ⟨hx, hb, hml, hown, hts⟩ (c_X6_refuse l D cI a_o a_o_refusals a_o_s a_o_image a_o_tape a_o_read a_o_innerOf a_o_whoseOf a_o_nearOf a_o_fromOf a_o_pieceOf a_o_kept a_o_claimOf a_o_row v_o_isImage v_o_taped v_o_pos v_o_readWide v_o_readHigh v_o_thirds v_o_rowed f_o_refusals (-1 : Int32) n x4 g5 hc6) mw_4_11 mw_4_13 mw_p_10 mw_1_8 mw_4_14 hd_X6_refuse ⟨Nat.le_of_ble_eq_true rfl, Nat.le_of_ble_eq_true rfl⟩ hK hN hP hD hS rfl rfl rfl rfl rfl rfl rfl rfl rfl rfl rfl rfl hl.1 rfl (Nat.le_of_ble_eq_true rfl) dX6_shore_18 ⟨Nat.le_of_ble_eq_true rfl, Nat.le_of_ble_eq_true rfl⟩ (fun H locs hP hD hS => ?_)
    refine W.eq (g2 := F0 m 21 ls [.int x4]) rfl ?_
    obtain ⟨rfl, rfl⟩ := cz_j2 (cz_i h)
    exact hQ _ _ _ _ hP hS dX6_shore_21
  · replace h := cz_f c3 h
    refine lv_aload_n hx hb dX6_shore_8 rfl (lv_at hl 0 rfl) ?_
    refine lv_iload_n hx hb dX6_shore_9 rfl (lv_at hl 1 rfl) ?_
    obtain ⟨x7, hc8, h⟩ := cz_e1 h
    refine cz_callV (As := [.int w1]) (rest := []) (is := [0, 2]) (isR := [1]) (rs := [aI cI a_o_refusals 7 f_o_refusals]) (as := [a_o, a_o_refusals, a_o_s]) (ws1 := [oX6 a_o a_o_refusals a_o_s a_o_image v_o_isImage a_o_tape a_o_read v_o_taped v_o_pos v_o_readWide v_o_readHigh a_o_innerOf a_o_whoseOf a_o_nearOf a_o_fromOf v_o_thirds a_o_pieceOf a_o_kept a_o_claimOf a_o_row v_o_rowed, aI cI a_o_refusals 7 f_o_refusals, aI cI a_o_s 151 f_o_s]) (q0 := 0) (ci := 6) ⟨hx, hb, hml, hown, hts⟩ (c_X6_shoreOf l D cI a_o a_o_s a_o_refusals a_o_image a_o_tape a_o_read a_o_innerOf a_o_whoseOf a_o_nearOf a_o_fromOf a_o_pieceOf a_o_kept a_o_claimOf a_o_row v_o_isImage v_o_taped v_o_pos v_o_readWide v_o_readHigh v_o_thirds v_o_rowed f_o_s w1 n x7 hc8) mw_4_128 mw_4_130 mw_p_25 mw_1_8 mw_4_131 hd_X6_shoreOf ⟨Nat.le_of_ble_eq_true rfl, Nat.le_of_ble_eq_true rfl⟩ hK hN hP hD hS rfl rfl rfl rfl rfl rfl rfl rfl rfl rfl rfl rfl hl.1 rfl (Nat.le_of_ble_eq_true rfl) dX6_shore_10 ⟨Nat.le_of_ble_eq_true rfl, Nat.le_of_ble_eq_true rfl⟩ (fun H locs hP hD hS => ?_)
    refine W.eq (g2 := F0 m 13 ls [.int x7]) rfl ?_
    refine lv_goto (tgt := 21) hx hb dX6_shore_13 (by decide) ?_
    obtain ⟨rfl, rfl⟩ := cz_j2 (cz_i h)
    exact hQ _ _ _ _ hP hS dX6_shore_21
set_option maxHeartbeats 4000000 in
set_option maxRecDepth 100000 in
theorem c_X6_fairNow (l : Launch) (D : va_G) (cI : ClassId) (a_o a_o_s a_o_innerOf a_o_whoseOf a_o_nearOf a_o_fromOf a_o_refusals a_o_image a_o_tape a_o_read a_o_pieceOf a_o_kept a_o_claimOf a_o_row : Nat) (v_o_isImage : Int32) (v_o_taped : Int32) (v_o_pos : Int32) (v_o_readWide : Int32) (v_o_readHigh : Int32) (v_o_thirds : Int32) (v_o_rowed : Int32) (f_o_s : (Nat → Int32)) (f_o_innerOf : (Nat → Int32)) (f_o_whoseOf : (Nat → Int32)) (f_o_nearOf : (Nat → Int32)) (f_o_fromOf : (Nat → Int32)) (n : Nat) (r : Int32) (r_v_o_thirds : Int32) (r_f_o_innerOf : (Nat → Int32)) (r_f_o_whoseOf : (Nat → Int32)) (r_f_o_nearOf : (Nat → Int32)) (r_f_o_fromOf : (Nat → Int32)) (h : f_X6_fairNow n v_o_thirds f_o_s f_o_innerOf f_o_whoseOf f_o_nearOf f_o_fromOf = some (r, r_v_o_thirds, r_f_o_innerOf, r_f_o_whoseOf, r_f_o_nearOf, r_f_o_fromOf)) : cz_M l yX6_fairNow cX6_fairNow 1 (some .int) 5 117 D cI [.ref a_o] [oX6 a_o a_o_refusals a_o_s a_o_image v_o_isImage a_o_tape a_o_read v_o_taped v_o_pos v_o_readWide v_o_readHigh a_o_innerOf a_o_whoseOf a_o_nearOf a_o_fromOf v_o_thirds a_o_pieceOf a_o_kept a_o_claimOf a_o_row v_o_rowed, aI cI a_o_s 151 f_o_s, aI cI a_o_innerOf 120 f_o_innerOf, aI cI a_o_whoseOf 120 f_o_whoseOf, aI cI a_o_nearOf 360 f_o_nearOf, aI cI a_o_fromOf 360 f_o_fromOf] (some (.int r)) [oX6 a_o a_o_refusals a_o_s a_o_image v_o_isImage a_o_tape a_o_read v_o_taped v_o_pos v_o_readWide v_o_readHigh a_o_innerOf a_o_whoseOf a_o_nearOf a_o_fromOf r_v_o_thirds a_o_pieceOf a_o_kept a_o_claimOf a_o_row v_o_rowed, aI cI a_o_s 151 f_o_s, aI cI a_o_innerOf 120 r_f_o_innerOf, aI cI a_o_whoseOf 120 r_f_o_whoseOf, aI cI a_o_nearOf 360 r_f_o_nearOf, aI cI a_o_fromOf 360 r_f_o_fromOf] := by
  refine cz_startI (by decide) (Nat.le_of_ble_eq_true rfl) ?_
  intro p e s m ag below meth c A Q hx hb hml hown hts hK hN hQ H locs hP hD hS ls hl
  replace hown : s.vm.findClass RX6 = some m.cls := hown
  replace hl : lv_has ls 1 [(0, .ref a_o)] := hl
  unfold f_X6_fairNow at h
  refine lv_aload_n hx hb dX6_fairNow_0 rfl (lv_at hl 0 rfl) ?_
  obtain ⟨x1, g2, g3, g4, g5, hc6, h⟩ := cz_e5 h
  refine cz_callV (As := []) (rest := []) (is := [0, 1, 2, 3, 4, 5]) (isR := []) (rs := []) (as := [a_o, a_o_s, a_o_innerOf, a_o_whoseOf, a_o_nearOf, a_o_fromOf]) (ws1 := [oX6 a_o a_o_refusals a_o_s a_o_image v_o_isImage a_o_tape a_o_read v_o_taped v_o_pos v_o_readWide v_o_readHigh a_o_innerOf a_o_whoseOf a_o_nearOf a_o_fromOf x1 a_o_pieceOf a_o_kept a_o_claimOf a_o_row v_o_rowed, aI cI a_o_s 151 f_o_s, aI cI a_o_innerOf 120 g2, aI cI a_o_whoseOf 120 g3, aI cI a_o_nearOf 360 g4, aI cI a_o_fromOf 360 g5]) (q0 := 0) (ci := 6) ⟨hx, hb, hml, hown, hts⟩ (c_X6_find l D cI a_o a_o_s a_o_innerOf a_o_whoseOf a_o_nearOf a_o_fromOf a_o_refusals a_o_image a_o_tape a_o_read a_o_pieceOf a_o_kept a_o_claimOf a_o_row v_o_isImage v_o_taped v_o_pos v_o_readWide v_o_readHigh v_o_thirds v_o_rowed f_o_s f_o_innerOf f_o_whoseOf f_o_nearOf f_o_fromOf  n x1 g2 g3 g4 g5 hc6) mw_4_68 mw_4_70 mw_p_16 mw_1_8 mw_4_71 hd_X6_find ⟨Nat.le_of_ble_eq_true rfl, Nat.le_of_ble_eq_true rfl⟩ hK hN hP hD hS rfl rfl rfl rfl rfl rfl rfl rfl rfl rfl rfl rfl hl.1 rfl (Nat.le_of_ble_eq_true rfl) dX6_fairNow_1 ⟨Nat.le_of_ble_eq_true rfl, Nat.le_of_ble_eq_true rfl⟩ (fun H locs hP hD hS => ?_)
  refine W.eq (g2 := F0 m 4 ls []) rfl ?_
  refine lv_aload_n hx hb dX6_fairNow_4 rfl (lv_at hl 0 rfl) ?_
  refine lv_iconst (v := (0 : Int32)) hx hb dX6_fairNow_5 (by decide) ?_
  obtain ⟨x7, hc8, h⟩ := cz_e1 h
  refine cz_callV (As := [.int (0 : Int32)]) (rest := []) (is := [0, 1, 3]) (isR := [2, 4, 5]) (rs := [aI cI a_o_innerOf 120 g2, aI cI a_o_nearOf 360 g4, aI cI a_o_fromOf 360 g5]) (as := [a_o, a_o_s, a_o_innerOf, a_o_whoseOf, a_o_nearOf, a_o_fromOf]) (ws1 := [oX6 a_o a_o_refusals a_o_s a_o_image v_o_isImage a_o_tape a_o_read v_o_taped v_o_pos v_o_readWide v_o_readHigh a_o_innerOf a_o_whoseOf a_o_nearOf a_o_fromOf x1 a_o_pieceOf a_o_kept a_o_claimOf a_o_row v_o_rowed, aI cI a_o_s 151 f_o_s, aI cI a_o_innerOf 120 g2, aI cI a_o_whoseOf 120 g3, aI cI a_o_nearOf 360 g4, aI cI a_o_fromOf 360 g5]) (q0 := 0) (ci := 6) ⟨hx, hb, hml, hown, hts⟩ (c_X6_areaOf l D cI a_o a_o_s a_o_whoseOf a_o_refusals a_o_image a_o_tape a_o_read a_o_innerOf a_o_nearOf a_o_fromOf a_o_pieceOf a_o_kept a_o_claimOf a_o_row v_o_isImage v_o_taped v_o_pos v_o_readWide v_o_readHigh x1 v_o_rowed f_o_s g3 (0 : Int32) n x7 hc8) mw_4_120 mw_4_122 mw_p_24 mw_1_8 mw_4_123 hd_X6_areaOf ⟨Nat.le_of_ble_eq_true rfl, Nat.le_of_ble_eq_true rfl⟩ hK hN hP hD hS rfl rfl rfl rfl rfl rfl rfl rfl rfl rfl rfl rfl hl.1 rfl (Nat.le_of_ble_eq_true rfl) dX6_fairNow_6 ⟨Nat.le_of_ble_eq_true rfl, Nat.le_of_ble_eq_true rfl⟩ (fun H locs hP hD hS => ?_)
  refine W.eq (g2 := F0 m 9 ls [.int x7]) rfl ?_
  refine lv_aload_n hx hb dX6_fairNow_9 rfl (lv_at hl 0 rfl) ?_
  refine lv_iconst (v := (1 : Int32)) hx hb dX6_fairNow_10 (by decide) ?_
  obtain ⟨x9, hc10, h⟩ := cz_e1 h
  refine cz_callV (As := [.int (1 : Int32)]) (rest := [.int x7]) (is := [0, 1]) (isR := [2, 3, 4, 5]) (rs := [aI cI a_o_innerOf 120 g2, aI cI a_o_whoseOf 120 g3, aI cI a_o_nearOf 360 g4, aI cI a_o_fromOf 360 g5]) (as := [a_o, a_o_s, a_o_innerOf, a_o_whoseOf, a_o_nearOf, a_o_fromOf]) (ws1 := [oX6 a_o a_o_refusals a_o_s a_o_image v_o_isImage a_o_tape a_o_read v_o_taped v_o_pos v_o_readWide v_o_readHigh a_o_innerOf a_o_whoseOf a_o_nearOf a_o_fromOf x1 a_o_pieceOf a_o_kept a_o_claimOf a_o_row v_o_rowed, aI cI a_o_s 151 f_o_s, aI cI a_o_innerOf 120 g2, aI cI a_o_whoseOf 120 g3, aI cI a_o_nearOf 360 g4, aI cI a_o_fromOf 360 g5]) (q0 := 0) (ci := 6) ⟨hx, hb, hml, hown, hts⟩ (c_X6_shoreOf l D cI a_o a_o_s a_o_refusals a_o_image a_o_tape a_o_read a_o_innerOf a_o_whoseOf a_o_nearOf a_o_fromOf a_o_pieceOf a_o_kept a_o_claimOf a_o_row v_o_isImage v_o_taped v_o_pos v_o_readWide v_o_readHigh x1 v_o_rowed f_o_s (1 : Int32) n x9 hc10) mw_4_128 mw_4_130 mw_p_25 mw_1_8 mw_4_131 hd_X6_shoreOf ⟨Nat.le_of_ble_eq_true rfl, Nat.le_of_ble_eq_true rfl⟩ hK hN hP hD hS rfl rfl rfl rfl rfl rfl rfl rfl rfl rfl rfl rfl hl.1 rfl (Nat.le_of_ble_eq_true rfl) dX6_fairNow_11 ⟨Nat.le_of_ble_eq_true rfl, Nat.le_of_ble_eq_true rfl⟩ (fun H locs hP hD hS => ?_)
  refine W.eq (g2 := F0 m 14 ls [.int x9, .int x7]) rfl ?_
  refine lv_imul hx hb dX6_fairNow_14 ?_
  refine lv_aload_n hx hb dX6_fairNow_15 rfl (lv_at hl 0 rfl) ?_
  refine lv_iconst (v := (1 : Int32)) hx hb dX6_fairNow_16 (by decide) ?_
  obtain ⟨x11, hc12, h⟩ := cz_e1 h
  refine cz_callV (As := [.int (1 : Int32)]) (rest := [.int (x7 * x9)]) (is := [0, 1, 3]) (isR := [2, 4, 5]) (rs := [aI cI a_o_innerOf 120 g2, aI cI a_o_nearOf 360 g4, aI cI a_o_fromOf 360 g5]) (as := [a_o, a_o_s, a_o_innerOf, a_o_whoseOf, a_o_nearOf, a_o_fromOf]) (ws1 := [oX6 a_o a_o_refusals a_o_s a_o_image v_o_isImage a_o_tape a_o_read v_o_taped v_o_pos v_o_readWide v_o_readHigh a_o_innerOf a_o_whoseOf a_o_nearOf a_o_fromOf x1 a_o_pieceOf a_o_kept a_o_claimOf a_o_row v_o_rowed, aI cI a_o_s 151 f_o_s, aI cI a_o_innerOf 120 g2, aI cI a_o_whoseOf 120 g3, aI cI a_o_nearOf 360 g4, aI cI a_o_fromOf 360 g5]) (q0 := 0) (ci := 6) ⟨hx, hb, hml, hown, hts⟩ (c_X6_areaOf l D cI a_o a_o_s a_o_whoseOf a_o_refusals a_o_image a_o_tape a_o_read a_o_innerOf a_o_nearOf a_o_fromOf a_o_pieceOf a_o_kept a_o_claimOf a_o_row v_o_isImage v_o_taped v_o_pos v_o_readWide v_o_readHigh x1 v_o_rowed f_o_s g3 (1 : Int32) n x11 hc12) mw_4_120 mw_4_122 mw_p_24 mw_1_8 mw_4_123 hd_X6_areaOf ⟨Nat.le_of_ble_eq_true rfl, Nat.le_of_ble_eq_true rfl⟩ hK hN hP hD hS rfl rfl rfl rfl rfl rfl rfl rfl rfl rfl rfl rfl hl.1 rfl (Nat.le_of_ble_eq_true rfl) dX6_fairNow_17 ⟨Nat.le_of_ble_eq_true rfl, Nat.le_of_ble_eq_true rfl⟩ (fun H locs hP hD hS => ?_)
  refine W.eq (g2 := F0 m 20 ls [.int x11, .int (x7 * x9)]) rfl ?_
  refine lv_aload_n hx hb dX6_fairNow_20 rfl (lv_at hl 0 rfl) ?_
  refine lv_iconst (v := (0 : Int32)) hx hb dX6_fairNow_21 (by decide) ?_
  obtain ⟨x13, hc14, h⟩ := cz_e1 h
  refine cz_callV (As := [.int (0 : Int32)]) (rest := [.int x11, .int (x7 * x9)]) (is := [0, 1]) (isR := [2, 3, 4, 5]) (rs := [aI cI a_o_innerOf 120 g2, aI cI a_o_whoseOf 120 g3, aI cI a_o_nearOf 360 g4, aI cI a_o_fromOf 360 g5]) (as := [a_o, a_o_s, a_o_innerOf, a_o_whoseOf, a_o_nearOf, a_o_fromOf]) (ws1 := [oX6 a_o a_o_refusals a_o_s a_o_image v_o_isImage a_o_tape a_o_read v_o_taped v_o_pos v_o_readWide v_o_readHigh a_o_innerOf a_o_whoseOf a_o_nearOf a_o_fromOf x1 a_o_pieceOf a_o_kept a_o_claimOf a_o_row v_o_rowed, aI cI a_o_s 151 f_o_s, aI cI a_o_innerOf 120 g2, aI cI a_o_whoseOf 120 g3, aI cI a_o_nearOf 360 g4, aI cI a_o_fromOf 360 g5]) (q0 := 0) (ci := 6) ⟨hx, hb, hml, hown, hts⟩ (c_X6_shoreOf l D cI a_o a_o_s a_o_refusals a_o_image a_o_tape a_o_read a_o_innerOf a_o_whoseOf a_o_nearOf a_o_fromOf a_o_pieceOf a_o_kept a_o_claimOf a_o_row v_o_isImage v_o_taped v_o_pos v_o_readWide v_o_readHigh x1 v_o_rowed f_o_s (0 : Int32) n x13 hc14) mw_4_128 mw_4_130 mw_p_25 mw_1_8 mw_4_131 hd_X6_shoreOf ⟨Nat.le_of_ble_eq_true rfl, Nat.le_of_ble_eq_true rfl⟩ hK hN hP hD hS rfl rfl rfl rfl rfl rfl rfl rfl rfl rfl rfl rfl hl.1 rfl (Nat.le_of_ble_eq_true rfl) dX6_fairNow_22 ⟨Nat.le_of_ble_eq_true rfl, Nat.le_of_ble_eq_true rfl⟩ (fun H locs hP hD hS => ?_)
  refine W.eq (g2 := F0 m 25 ls [.int x13, .int x11, .int (x7 * x9)]) rfl ?_
  refine lv_imul hx hb dX6_fairNow_25 ?_
  refine lv_isub hx hb dX6_fairNow_26 ?_
  obtain ⟨rfl, rfl, rfl, rfl, rfl, rfl⟩ := cz_j6 (cz_i h)
  exact hQ _ _ _ _ hP hS dX6_fairNow_27
set_option maxHeartbeats 4000000 in
set_option maxRecDepth 100000 in
theorem c_X6_fair (l : Launch) (D : va_G) (cI : ClassId) (a_o a_o_s a_o_innerOf a_o_whoseOf a_o_nearOf a_o_fromOf a_o_refusals a_o_image a_o_tape a_o_read a_o_pieceOf a_o_kept a_o_claimOf a_o_row : Nat) (v_o_isImage : Int32) (v_o_taped : Int32) (v_o_pos : Int32) (v_o_readWide : Int32) (v_o_readHigh : Int32) (v_o_thirds : Int32) (v_o_rowed : Int32) (f_o_s : (Nat → Int32)) (f_o_innerOf : (Nat → Int32)) (f_o_whoseOf : (Nat → Int32)) (f_o_nearOf : (Nat → Int32)) (f_o_fromOf : (Nat → Int32)) (n : Nat) (r : Int32) (r_v_o_thirds : Int32) (r_f_o_innerOf : (Nat → Int32)) (r_f_o_whoseOf : (Nat → Int32)) (r_f_o_nearOf : (Nat → Int32)) (r_f_o_fromOf : (Nat → Int32)) (h : f_X6_fair n v_o_thirds f_o_s f_o_innerOf f_o_whoseOf f_o_nearOf f_o_fromOf = some (r, r_v_o_thirds, r_f_o_innerOf, r_f_o_whoseOf, r_f_o_nearOf, r_f_o_fromOf)) : cz_M l yX6_fair cX6_fair 1 (some .int) 6 137 D cI [.ref a_o] [oX6 a_o a_o_refusals a_o_s a_o_image v_o_isImage a_o_tape a_o_read v_o_taped v_o_pos v_o_readWide v_o_readHigh a_o_innerOf a_o_whoseOf a_o_nearOf a_o_fromOf v_o_thirds a_o_pieceOf a_o_kept a_o_claimOf a_o_row v_o_rowed, aI cI a_o_s 151 f_o_s, aI cI a_o_innerOf 120 f_o_innerOf, aI cI a_o_whoseOf 120 f_o_whoseOf, aI cI a_o_nearOf 360 f_o_nearOf, aI cI a_o_fromOf 360 f_o_fromOf] (some (.int r)) [oX6 a_o a_o_refusals a_o_s a_o_image v_o_isImage a_o_tape a_o_read v_o_taped v_o_pos v_o_readWide v_o_readHigh a_o_innerOf a_o_whoseOf a_o_nearOf a_o_fromOf r_v_o_thirds a_o_pieceOf a_o_kept a_o_claimOf a_o_row v_o_rowed, aI cI a_o_s 151 f_o_s, aI cI a_o_innerOf 120 r_f_o_innerOf, aI cI a_o_whoseOf 120 r_f_o_whoseOf, aI cI a_o_nearOf 360 r_f_o_nearOf, aI cI a_o_fromOf 360 r_f_o_fromOf] := by
  refine cz_startI (by decide) (Nat.le_of_ble_eq_true rfl) ?_
  intro p e s m ag below meth c A Q hx hb hml hown hts hK hN hQ H locs hP hD hS ls hl
  replace hown : s.vm.findClass RX6 = some m.cls := hown
  replace hl : lv_has ls 1 [(0, .ref a_o)] := hl
  unfold f_X6_fair at h
  refine lv_aload_n hx hb dX6_fair_0 rfl (lv_at hl 0 rfl) ?_
  obtain ⟨x1, x2, g3, g4, g5, g6, hc7, h⟩ := cz_e6 h
  refine cz_callV (As := []) (rest := []) (is := [0, 1, 2, 3, 4, 5]) (isR := []) (rs := []) (as := [a_o, a_o_s, a_o_innerOf, a_o_whoseOf, a_o_nearOf, a_o_fromOf]) (ws1 := [oX6 a_o a_o_refusals a_o_s a_o_image v_o_isImage a_o_tape a_o_read v_o_taped v_o_pos v_o_readWide v_o_readHigh a_o_innerOf a_o_whoseOf a_o_nearOf a_o_fromOf x2 a_o_pieceOf a_o_kept a_o_claimOf a_o_row v_o_rowed, aI cI a_o_s 151 f_o_s, aI cI a_o_innerOf 120 g3, aI cI a_o_whoseOf 120 g4, aI cI a_o_nearOf 360 g5, aI cI a_o_fromOf 360 g6]) (q0 := 0) (ci := 6) ⟨hx, hb, hml, hown, hts⟩ (c_X6_fairNow l D cI a_o a_o_s a_o_innerOf a_o_whoseOf a_o_nearOf a_o_fromOf a_o_refusals a_o_image a_o_tape a_o_read a_o_pieceOf a_o_kept a_o_claimOf a_o_row v_o_isImage v_o_taped v_o_pos v_o_readWide v_o_readHigh v_o_thirds v_o_rowed f_o_s f_o_innerOf f_o_whoseOf f_o_nearOf f_o_fromOf  n x1 x2 g3 g4 g5 g6 hc7) mw_4_140 mw_4_142 mw_p_27 mw_1_8 mw_4_143 hd_X6_fairNow ⟨Nat.le_of_ble_eq_true rfl, Nat.le_of_ble_eq_true rfl⟩ hK hN hP hD hS rfl rfl rfl rfl rfl rfl rfl rfl rfl rfl rfl rfl hl.1 rfl (Nat.le_of_ble_eq_true rfl) dX6_fair_1 ⟨Nat.le_of_ble_eq_true rfl, Nat.le_of_ble_eq_true rfl⟩ (fun H locs hP hD hS => ?_)
  refine W.eq (g2 := F0 m 4 ls [.int x1]) rfl ?_
  obtain ⟨rfl, rfl, rfl, rfl, rfl, rfl⟩ := cz_j6 (cz_i h)
  exact hQ _ _ _ _ hP hS dX6_fair_4
set_option maxHeartbeats 4000000 in
set_option maxRecDepth 100000 in
theorem c_X6_bent (l : Launch) (D : va_G) (cI : ClassId) (a_o a_o_refusals a_o_s a_o_innerOf a_o_whoseOf a_o_nearOf a_o_fromOf a_o_image a_o_tape a_o_read a_o_pieceOf a_o_kept a_o_claimOf a_o_row : Nat) (v_o_isImage : Int32) (v_o_taped : Int32) (v_o_pos : Int32) (v_o_readWide : Int32) (v_o_readHigh : Int32) (v_o_thirds : Int32) (v_o_rowed : Int32) (f_o_refusals : (Nat → Int32)) (f_o_s : (Nat → Int32)) (f_o_innerOf : (Nat → Int32)) (f_o_whoseOf : (Nat → Int32)) (f_o_nearOf : (Nat → Int32)) (f_o_fromOf : (Nat → Int32)) (w1 : Int32) (n : Nat) (r : Int32) (r_v_o_thirds : Int32) (r_f_o_refusals : (Nat → Int32)) (r_f_o_s : (Nat → Int32)) (r_f_o_innerOf : (Nat → Int32)) (r_f_o_whoseOf : (Nat → Int32)) (r_f_o_nearOf : (Nat → Int32)) (r_f_o_fromOf : (Nat → Int32)) (h : f_X6_bent n v_o_thirds f_o_refusals f_o_s f_o_innerOf f_o_whoseOf f_o_nearOf f_o_fromOf w1 = some (r, r_v_o_thirds, r_f_o_refusals, r_f_o_s, r_f_o_innerOf, r_f_o_whoseOf, r_f_o_nearOf, r_f_o_fromOf)) : cz_M l yX6_bent cX6_bent 7 (some .int) 6 137 D cI [.ref a_o, .int w1] [oX6 a_o a_o_refusals a_o_s a_o_image v_o_isImage a_o_tape a_o_read v_o_taped v_o_pos v_o_readWide v_o_readHigh a_o_innerOf a_o_whoseOf a_o_nearOf a_o_fromOf v_o_thirds a_o_pieceOf a_o_kept a_o_claimOf a_o_row v_o_rowed, aI cI a_o_refusals 7 f_o_refusals, aI cI a_o_s 151 f_o_s, aI cI a_o_innerOf 120 f_o_innerOf, aI cI a_o_whoseOf 120 f_o_whoseOf, aI cI a_o_nearOf 360 f_o_nearOf, aI cI a_o_fromOf 360 f_o_fromOf] (some (.int r)) [oX6 a_o a_o_refusals a_o_s a_o_image v_o_isImage a_o_tape a_o_read v_o_taped v_o_pos v_o_readWide v_o_readHigh a_o_innerOf a_o_whoseOf a_o_nearOf a_o_fromOf r_v_o_thirds a_o_pieceOf a_o_kept a_o_claimOf a_o_row v_o_rowed, aI cI a_o_refusals 7 r_f_o_refusals, aI cI a_o_s 151 r_f_o_s, aI cI a_o_innerOf 120 r_f_o_innerOf, aI cI a_o_whoseOf 120 r_f_o_whoseOf, aI cI a_o_nearOf 360 r_f_o_nearOf, aI cI a_o_fromOf 360 r_f_o_fromOf] := by
  refine cz_startI (by decide) (Nat.le_of_ble_eq_true rfl) ?_
  intro p e s m ag below meth c A Q hx hb hml hown hts hK hN hQ H locs hP hD hS ls hl
  replace hown : s.vm.findClass RX6 = some m.cls := hown
  replace hl : lv_has ls 7 [(0, .ref a_o), (1, .int w1)] := hl
  unfold f_X6_bent at h
  refine lv_iload_n hx hb dX6_bent_0 rfl (lv_at hl 1 rfl) ?_
  refine lv_iconst (v := (0 : Int32)) hx hb dX6_bent_1 (by decide) ?_
  refine lv_ldc (v := (999999 : Int32)) hx hb hown (hts _ mw_4_148) dX6_bent_2 ?_
  obtain ⟨x1, hc2, h⟩ := cz_e1 h
  refine cz_callS (As := [.int w1, .int (0 : Int32), .int (999999 : Int32)]) (rest := []) (is := []) (isR := [0, 1, 2, 3, 4, 5, 6]) (rs := [oX6 a_o a_o_refusals a_o_s a_o_image v_o_isImage a_o_tape a_o_read v_o_taped v_o_pos v_o_readWide v_o_readHigh a_o_innerOf a_o_whoseOf a_o_nearOf a_o_fromOf v_o_thirds a_o_pieceOf a_o_kept a_o_claimOf a_o_row v_o_rowed, aI cI a_o_refusals 7 f_o_refusals, aI cI a_o_s 151 f_o_s, aI cI a_o_innerOf 120 f_o_innerOf, aI cI a_o_whoseOf 120 f_o_whoseOf, aI cI a_o_nearOf 360 f_o_nearOf, aI cI a_o_fromOf 360 f_o_fromOf]) (as := [a_o, a_o_refusals, a_o_s, a_o_innerOf, a_o_whoseOf, a_o_nearOf, a_o_fromOf]) (ws1 := [oX6 a_o a_o_refusals a_o_s a_o_image v_o_isImage a_o_tape a_o_read v_o_taped v_o_pos v_o_readWide v_o_readHigh a_o_innerOf a_o_whoseOf a_o_nearOf a_o_fromOf v_o_thirds a_o_pieceOf a_o_kept a_o_claimOf a_o_row v_o_rowed, aI cI a_o_refusals 7 f_o_refusals, aI cI a_o_s 151 f_o_s, aI cI a_o_innerOf 120 f_o_innerOf, aI cI a_o_whoseOf 120 f_o_whoseOf, aI cI a_o_nearOf 360 f_o_nearOf, aI cI a_o_fromOf 360 f_o_fromOf]) ⟨hx, hb, hml, hown, hts⟩ (c_X6_within l D cI   w1 (0 : Int32) (999999 : Int32) n x1 hc2) mw_4_60 mw_4_61 mw_1_8 mw_4_62 hd_X6_within ⟨Nat.le_of_ble_eq_true rfl, Nat.le_of_ble_eq_true rfl⟩ hK hN hP hD hS rfl rfl rfl rfl rfl rfl rfl rfl rfl hl.1 rfl (Nat.le_of_ble_eq_true rfl) dX6_bent_4 ⟨Nat.le_of_ble_eq_true rfl, Nat.le_of_ble_eq_true rfl⟩ (fun H locs hP hD hS => ?_)
  refine W.eq (g2 := F0 m 7 ls [.int x1]) rfl ?_
  refine lv_istore_n (lv' := [(2, .int x1), (0, .ref a_o), (1, .int w1)]) hx hb dX6_bent_7 rfl hl (by decide) rfl (fun ls hl => ?_)
  refine lv_iload_n hx hb dX6_bent_8 rfl (lv_at hl 0 rfl) ?_
  refine lv_if_eq (tgt := 18) hx hb dX6_bent_9 (by decide) (fun c3 => ?_) (fun c3 => ?_)
  · replace h := cz_t c3 h
    refine lv_aload_n hx hb dX6_bent_18 rfl (lv_at hl 1 rfl) ?_
    refine va_get (D := D) (ci := 6) (v := .ref a_o_s) (C := RX6) (T := TX6) (N := 20) hx hb hts in_X6 hown hK hP 0 rfl rfl 1 (by decide) (hts _ mw_3_187) (fun _ h9 => h9) rfl dX6_bent_19 ?_
    refine lv_iconst (v := (5 : Int32)) hx hb dX6_bent_22 (by decide) ?_
    refine cz_iald hx hb hK hP 2 0 rfl rfl (cz_rdE h).1 dX6_bent_23 (fun x4 ex4 => ?_)
    replace h := cz_rdK ex4 h
    refine lv_istore_n (lv' := [(3, .int x4), (2, .int x1), (0, .ref a_o), (1, .int w1)]) hx hb dX6_bent_24 rfl hl (by decide) rfl (fun ls hl => ?_)
    refine lv_bipush (v := (-100 : Int32)) hx hb dX6_bent_25 (by decide) ?_
    refine lv_istore (lv' := [(4, .int (-100 : Int32)), (3, .int x4), (2, .int x1), (0, .ref a_o), (1, .int w1)]) hx hb dX6_bent_27 hl (by decide) rfl (fun ls hl => ?_)
    refine lv_iconst (v := (0 : Int32)) hx hb dX6_bent_29 (by decide) ?_
    refine lv_istore (lv' := [(5, .int (0 : Int32)), (4, .int (-100 : Int32)), (3, .int x4), (2, .int x1), (0, .ref a_o), (1, .int w1)]) hx hb dX6_bent_30 hl (by decide) rfl (fun ls hl => ?_)
    obtain ⟨z13, hE14, hz15⟩ := cz_x8 h
    have hX16 : ∀ (y19 : Int32) (y20 : Int32) (y21 : Int32) (q22 : (Nat → Int32)) (q23 : (Nat → Int32)) (q24 : (Nat → Int32)) (q25 : (Nat → Int32)) (q26 : (Nat → Int32)) (H : Heap) (locs : List Loc) (ls : Array Slot), z13 = (y19, y20, y21, q22, q23, q24, q25, q26) → va_P D vwCl [oX6 a_o a_o_refusals a_o_s a_o_image v_o_isImage a_o_tape a_o_read v_o_taped v_o_pos v_o_readWide v_o_readHigh a_o_innerOf a_o_whoseOf a_o_nearOf a_o_fromOf y21 a_o_pieceOf a_o_kept a_o_claimOf a_o_row v_o_rowed, aI cI a_o_refusals 7 f_o_refusals, aI cI a_o_s 151 q22, aI cI a_o_innerOf 120 q23, aI cI a_o_whoseOf 120 q24, aI cI a_o_nearOf 360 q25, aI cI a_o_fromOf 360 q26] H → va_D A [oX6 a_o a_o_refusals a_o_s a_o_image v_o_isImage a_o_tape a_o_read v_o_taped v_o_pos v_o_readWide v_o_readHigh a_o_innerOf a_o_whoseOf a_o_nearOf a_o_fromOf y21 a_o_pieceOf a_o_kept a_o_claimOf a_o_row v_o_rowed, aI cI a_o_refusals 7 f_o_refusals, aI cI a_o_s 151 q22, aI cI a_o_innerOf 120 q23, aI cI a_o_whoseOf 120 q24, aI cI a_o_nearOf 360 q25, aI cI a_o_fromOf 360 q26] → va_S A s.heap H locs → lv_has ls 7 [(0, .ref a_o), (3, .int x4), (4, .int y19)] → W p l e (cz_rm 6 137) s m ag below meth c H locs 0 0 Q (F0 m 112 ls []) := by
      intro y19 y20 y21 q22 q23 q24 q25 q26 H locs ls h hP hD hS hl
      replace h := hz15 _ _ _ _ _ _ _ _ h
      refine lv_aload_n hx hb dX6_bent_112 rfl (lv_at hl 0 rfl) ?_
      refine va_get (D := D) (ci := 6) (v := .ref a_o_s) (C := RX6) (T := TX6) (N := 20) hx hb hts in_X6 hown hK hP 0 rfl rfl 1 (by decide) (hts _ mw_3_187) (fun _ h9 => h9) rfl dX6_bent_113 ?_
      refine lv_iconst (v := (5 : Int32)) hx hb dX6_bent_116 (by decide) ?_
      refine lv_iload_n hx hb dX6_bent_117 rfl (lv_at hl 1 rfl) ?_
      refine cz_iast hx hb hK hP hD hS 2 0 rfl rfl (cz_wrE h).1 dX6_bent_118 (fun g27 H locs eg27 hP hD hS => ?_)
      replace h := cz_wrK eg27 h
      replace hP : va_P D vwCl [oX6 a_o a_o_refusals a_o_s a_o_image v_o_isImage a_o_tape a_o_read v_o_taped v_o_pos v_o_readWide v_o_readHigh a_o_innerOf a_o_whoseOf a_o_nearOf a_o_fromOf y21 a_o_pieceOf a_o_kept a_o_claimOf a_o_row v_o_rowed, aI cI a_o_refusals 7 f_o_refusals, aI cI a_o_s 151 g27, aI cI a_o_innerOf 120 q23, aI cI a_o_whoseOf 120 q24, aI cI a_o_nearOf 360 q25, aI cI a_o_fromOf 360 q26] H := hP
      replace hD : va_D A [oX6 a_o a_o_refusals a_o_s a_o_image v_o_isImage a_o_tape a_o_read v_o_taped v_o_pos v_o_readWide v_o_readHigh a_o_innerOf a_o_whoseOf a_o_nearOf a_o_fromOf y21 a_o_pieceOf a_o_kept a_o_claimOf a_o_row v_o_rowed, aI cI a_o_refusals 7 f_o_refusals, aI cI a_o_s 151 g27, aI cI a_o_innerOf 120 q23, aI cI a_o_whoseOf 120 q24, aI cI a_o_nearOf 360 q25, aI cI a_o_fromOf 360 q26] := hD
      refine lv_iload hx hb dX6_bent_119 (lv_at hl 2 rfl) ?_
      obtain ⟨rfl, rfl, rfl, rfl, rfl, rfl, rfl, rfl⟩ := cz_j8 (cz_i h)
      exact hQ _ _ _ _ hP hS dX6_bent_121
    clear h
    have hL17 : ∀ (k : Nat) (x5 : Int32) (x6 : Int32) (x7 : Int32) (g8 : (Nat → Int32)) (g9 : (Nat → Int32)) (g10 : (Nat → Int32)) (g11 : (Nat → Int32)) (g12 : (Nat → Int32)) (H : Heap) (locs : List Loc) (ls : Array Slot), f_X6_bent_L32 n w1 k x5 x6 x7 g8 g9 g10 g11 g12 = some z13 → va_P D vwCl [oX6 a_o a_o_refusals a_o_s a_o_image v_o_isImage a_o_tape a_o_read v_o_taped v_o_pos v_o_readWide v_o_readHigh a_o_innerOf a_o_whoseOf a_o_nearOf a_o_fromOf x7 a_o_pieceOf a_o_kept a_o_claimOf a_o_row v_o_rowed, aI cI a_o_refusals 7 f_o_refusals, aI cI a_o_s 151 g8, aI cI a_o_innerOf 120 g9, aI cI a_o_whoseOf 120 g10, aI cI a_o_nearOf 360 g11, aI cI a_o_fromOf 360 g12] H → va_D A [oX6 a_o a_o_refusals a_o_s a_o_image v_o_isImage a_o_tape a_o_read v_o_taped v_o_pos v_o_readWide v_o_readHigh a_o_innerOf a_o_whoseOf a_o_nearOf a_o_fromOf x7 a_o_pieceOf a_o_kept a_o_claimOf a_o_row v_o_rowed, aI cI a_o_refusals 7 f_o_refusals, aI cI a_o_s 151 g8, aI cI a_o_innerOf 120 g9, aI cI a_o_whoseOf 120 g10, aI cI a_o_nearOf 360 g11, aI cI a_o_fromOf 360 g12] → va_S A s.heap H locs → lv_has ls 7 [(0, .ref a_o), (1, .int w1), (3, .int x4), (4, .int x5), (5, .int x6)] → W p l e (cz_rm 6 137) s m ag below meth c H locs 0 0 Q (F0 m 32 ls []) := by
      intro k
      induction k with
      | zero =>
        intro x5 x6 x7 g8 g9 g10 g11 g12 H locs ls h
        rw [f_X6_bent_L32] at h
        cases h
      | succ k ih28 =>
        intro x5 x6 x7 g8 g9 g10 g11 g12 H locs ls h hP hD hS hl
        rw [f_X6_bent_L32] at h
        refine lv_iload hx hb dX6_bent_32 (lv_at hl 4 rfl) ?_
        refine lv_bipush (v := (101 : Int32)) hx hb dX6_bent_34 (by decide) ?_
        refine lv_icmp_ge (tgt := 112) hx hb dX6_bent_36 (by decide) (fun c29 => ?_) (fun c29 => ?_)
        · replace h := cz_t c29 h
          exact hX16 _ _ _ _ _ _ _ _ _ _ _ (cz_i h).symm hP hD hS (lv_sub hl [0, 2, 3] rfl)
        · replace h := cz_f c29 h
          refine lv_iload hx hb dX6_bent_39 (lv_at hl 3 rfl) ?_
          refine lv_bipush (v := (-100 : Int32)) hx hb dX6_bent_41 (by decide) ?_
          refine lv_icmp_ne (tgt := 112) hx hb dX6_bent_43 (by decide) (fun c30 => ?_) (fun c30 => ?_)
          · replace h := cz_f c30 h
            exact hX16 _ _ _ _ _ _ _ _ _ _ _ (cz_i h).symm hP hD hS (lv_sub hl [0, 2, 3] rfl)
          · replace h := cz_t c30 h
            refine lv_aload_n hx hb dX6_bent_46 rfl (lv_at hl 0 rfl) ?_
            refine va_get (D := D) (ci := 6) (v := .ref a_o_s) (C := RX6) (T := TX6) (N := 20) hx hb hts in_X6 hown hK hP 0 rfl rfl 1 (by decide) (hts _ mw_3_187) (fun _ h9 => h9) rfl dX6_bent_47 ?_
            refine lv_iconst (v := (5 : Int32)) hx hb dX6_bent_50 (by decide) ?_
            refine lv_iload hx hb dX6_bent_51 (lv_at hl 4 rfl) ?_
            refine lv_iconst (v := (2 : Int32)) hx hb dX6_bent_53 (by decide) ?_
            refine lv_irem hx hb dX6_bent_54 (by decide) ?_
            refine lv_iconst (v := (1 : Int32)) hx hb dX6_bent_55 (by decide) ?_
            obtain ⟨z35, hE33, hz32⟩ := cz_x1 h
            have hJ34 : ∀ (x31 : Int32) (H : Heap) (locs : List Loc) (ls : Array Slot), z35 = x31 → va_P D vwCl [oX6 a_o a_o_refusals a_o_s a_o_image v_o_isImage a_o_tape a_o_read v_o_taped v_o_pos v_o_readWide v_o_readHigh a_o_innerOf a_o_whoseOf a_o_nearOf a_o_fromOf x7 a_o_pieceOf a_o_kept a_o_claimOf a_o_row v_o_rowed, aI cI a_o_refusals 7 f_o_refusals, aI cI a_o_s 151 g8, aI cI a_o_innerOf 120 g9, aI cI a_o_whoseOf 120 g10, aI cI a_o_nearOf 360 g11, aI cI a_o_fromOf 360 g12] H → va_D A [oX6 a_o a_o_refusals a_o_s a_o_image v_o_isImage a_o_tape a_o_read v_o_taped v_o_pos v_o_readWide v_o_readHigh a_o_innerOf a_o_whoseOf a_o_nearOf a_o_fromOf x7 a_o_pieceOf a_o_kept a_o_claimOf a_o_row v_o_rowed, aI cI a_o_refusals 7 f_o_refusals, aI cI a_o_s 151 g8, aI cI a_o_innerOf 120 g9, aI cI a_o_whoseOf 120 g10, aI cI a_o_nearOf 360 g11, aI cI a_o_fromOf 360 g12] → va_S A s.heap H locs → lv_has ls 7 [(0, .ref a_o), (1, .int w1), (3, .int x4), (5, .int x6)] → W p l e (cz_rm 6 137) s m ag below meth c H locs 0 0 Q (F0 m 73 ls [.int x31, .int (5 : Int32), .ref a_o_s]) := by
              intro x31 H locs ls h hP hD hS hl
              replace h := hz32 _ h
              refine cz_iast hx hb hK hP hD hS 2 0 rfl rfl (cz_wrE h).1 dX6_bent_73 (fun g36 H locs eg36 hP hD hS => ?_)
              replace h := cz_wrK eg36 h
              replace hP : va_P D vwCl [oX6 a_o a_o_refusals a_o_s a_o_image v_o_isImage a_o_tape a_o_read v_o_taped v_o_pos v_o_readWide v_o_readHigh a_o_innerOf a_o_whoseOf a_o_nearOf a_o_fromOf x7 a_o_pieceOf a_o_kept a_o_claimOf a_o_row v_o_rowed, aI cI a_o_refusals 7 f_o_refusals, aI cI a_o_s 151 g36, aI cI a_o_innerOf 120 g9, aI cI a_o_whoseOf 120 g10, aI cI a_o_nearOf 360 g11, aI cI a_o_fromOf 360 g12] H := hP
              replace hD : va_D A [oX6 a_o a_o_refusals a_o_s a_o_image v_o_isImage a_o_tape a_o_read v_o_taped v_o_pos v_o_readWide v_o_readHigh a_o_innerOf a_o_whoseOf a_o_nearOf a_o_fromOf x7 a_o_pieceOf a_o_kept a_o_claimOf a_o_row v_o_rowed, aI cI a_o_refusals 7 f_o_refusals, aI cI a_o_s 151 g36, aI cI a_o_innerOf 120 g9, aI cI a_o_whoseOf 120 g10, aI cI a_o_nearOf 360 g11, aI cI a_o_fromOf 360 g12] := hD
              refine lv_aload_n hx hb dX6_bent_74 rfl (lv_at hl 0 rfl) ?_
              obtain ⟨x37, x38, g39, g40, g41, g42, hc43, h⟩ := cz_e6 h
              refine cz_callV (As := []) (rest := []) (is := [0, 2, 3, 4, 5, 6]) (isR := [1]) (rs := [aI cI a_o_refusals 7 f_o_refusals]) (as := [a_o, a_o_refusals, a_o_s, a_o_innerOf, a_o_whoseOf, a_o_nearOf, a_o_fromOf]) (ws1 := [oX6 a_o a_o_refusals a_o_s a_o_image v_o_isImage a_o_tape a_o_read v_o_taped v_o_pos v_o_readWide v_o_readHigh a_o_innerOf a_o_whoseOf a_o_nearOf a_o_fromOf x38 a_o_pieceOf a_o_kept a_o_claimOf a_o_row v_o_rowed, aI cI a_o_refusals 7 f_o_refusals, aI cI a_o_s 151 g36, aI cI a_o_innerOf 120 g39, aI cI a_o_whoseOf 120 g40, aI cI a_o_nearOf 360 g41, aI cI a_o_fromOf 360 g42]) (q0 := 0) (ci := 6) ⟨hx, hb, hml, hown, hts⟩ (c_X6_fairNow l D cI a_o a_o_s a_o_innerOf a_o_whoseOf a_o_nearOf a_o_fromOf a_o_refusals a_o_image a_o_tape a_o_read a_o_pieceOf a_o_kept a_o_claimOf a_o_row v_o_isImage v_o_taped v_o_pos v_o_readWide v_o_readHigh x7 v_o_rowed g36 g9 g10 g11 g12  n x37 x38 g39 g40 g41 g42 hc43) mw_4_140 mw_4_142 mw_p_27 mw_1_8 mw_4_143 hd_X6_fairNow ⟨Nat.le_of_ble_eq_true rfl, Nat.le_of_ble_eq_true rfl⟩ hK hN hP hD hS rfl rfl rfl rfl rfl rfl rfl rfl rfl rfl rfl rfl hl.1 rfl (Nat.le_of_ble_eq_true rfl) dX6_bent_75 ⟨Nat.le_of_ble_eq_true rfl, Nat.le_of_ble_eq_true rfl⟩ (fun H locs hP hD hS => ?_)
              refine W.eq (g2 := F0 m 78 ls [.int x37]) rfl ?_
              refine lv_istore (lv' := [(6, .int x37), (0, .ref a_o), (1, .int w1), (3, .int x4), (5, .int x6)]) hx hb dX6_bent_78 hl (by decide) rfl (fun ls hl => ?_)
              refine lv_iload hx hb dX6_bent_80 (lv_at hl 0 rfl) ?_
              refine lv_iload_n hx hb dX6_bent_82 rfl (lv_at hl 2 rfl) ?_
              obtain ⟨z48, hE46, hz45⟩ := cz_x1 h
              have hJ47 : ∀ (x44 : Int32) (H : Heap) (locs : List Loc) (ls : Array Slot), z48 = x44 → va_P D vwCl [oX6 a_o a_o_refusals a_o_s a_o_image v_o_isImage a_o_tape a_o_read v_o_taped v_o_pos v_o_readWide v_o_readHigh a_o_innerOf a_o_whoseOf a_o_nearOf a_o_fromOf x38 a_o_pieceOf a_o_kept a_o_claimOf a_o_row v_o_rowed, aI cI a_o_refusals 7 f_o_refusals, aI cI a_o_s 151 g36, aI cI a_o_innerOf 120 g39, aI cI a_o_whoseOf 120 g40, aI cI a_o_nearOf 360 g41, aI cI a_o_fromOf 360 g42] H → va_D A [oX6 a_o a_o_refusals a_o_s a_o_image v_o_isImage a_o_tape a_o_read v_o_taped v_o_pos v_o_readWide v_o_readHigh a_o_innerOf a_o_whoseOf a_o_nearOf a_o_fromOf x38 a_o_pieceOf a_o_kept a_o_claimOf a_o_row v_o_rowed, aI cI a_o_refusals 7 f_o_refusals, aI cI a_o_s 151 g36, aI cI a_o_innerOf 120 g39, aI cI a_o_whoseOf 120 g40, aI cI a_o_nearOf 360 g41, aI cI a_o_fromOf 360 g42] → va_S A s.heap H locs → lv_has ls 7 [(0, .ref a_o), (1, .int w1), (3, .int x4), (5, .int x6)] → W p l e (cz_rm 6 137) s m ag below meth c H locs 0 0 Q (F0 m 104 ls [.int x44]) := by
                intro x44 H locs ls h hP hD hS hl
                replace h := hz45 _ h
                refine lv_istore (lv' := [(4, .int x44), (0, .ref a_o), (1, .int w1), (3, .int x4), (5, .int x6)]) hx hb dX6_bent_104 hl (by decide) rfl (fun ls hl => ?_)
                obtain ⟨x49, ex49⟩ : ∃ z : Int32, z = x6 + (1 : Int32) := ⟨_, rfl⟩
                replace h := cz_ltE ex49 h
                refine lv_iinc (v := x49) (lv' := [(5, .int x49), (4, .int x44), (0, .ref a_o), (1, .int w1), (3, .int x4)]) hx hb dX6_bent_106 hl (k := 4) rfl (by rw [ex49]; rfl) (by decide) rfl (fun ls hl => ?_)
                refine lv_goto (tgt := 32) hx hb dX6_bent_109 (by decide) ?_
                exact ih28 _ _ _ _ _ _ _ _ _ _ _ h hP hD hS (lv_sub hl [2, 3, 4, 1, 0] rfl)
              clear h
              have h := hE46
              refine lv_icmp_gt (tgt := 102) hx hb dX6_bent_83 (by decide) (fun c50 => ?_) (fun c50 => ?_)
              · replace h := cz_t c50 h
                refine lv_bipush (v := (-100 : Int32)) hx hb dX6_bent_102 (by decide) ?_
                exact hJ47 _ _ _ _ (cz_i h).symm hP hD hS (lv_sub hl [1, 2, 3, 4] rfl)
              · replace h := cz_f c50 h
                refine lv_iload hx hb dX6_bent_86 (lv_at hl 0 rfl) ?_
                refine lv_iload_n hx hb dX6_bent_88 rfl (lv_at hl 2 rfl) ?_
                refine lv_ineg hx hb dX6_bent_89 ?_
                refine lv_icmp_lt (tgt := 102) hx hb dX6_bent_90 (by decide) (fun c51 => ?_) (fun c51 => ?_)
                · replace h := cz_t c51 h
                  refine lv_bipush (v := (-100 : Int32)) hx hb dX6_bent_102 (by decide) ?_
                  exact hJ47 _ _ _ _ (cz_i h).symm hP hD hS (lv_sub hl [1, 2, 3, 4] rfl)
                · replace h := cz_f c51 h
                  refine lv_aload_n hx hb dX6_bent_93 rfl (lv_at hl 1 rfl) ?_
                  refine va_get (D := D) (ci := 6) (v := .ref a_o_s) (C := RX6) (T := TX6) (N := 20) hx hb hts in_X6 hown hK hP 0 rfl rfl 1 (by decide) (hts _ mw_3_187) (fun _ h9 => h9) rfl dX6_bent_94 ?_
                  refine lv_iconst (v := (5 : Int32)) hx hb dX6_bent_97 (by decide) ?_
                  refine cz_iald hx hb hK hP 2 0 rfl rfl (cz_rdE h).1 dX6_bent_98 (fun x52 ex52 => ?_)
                  replace h := cz_rdK ex52 h
                  refine lv_goto (tgt := 104) hx hb dX6_bent_99 (by decide) ?_
                  exact hJ47 _ _ _ _ (cz_i h).symm hP hD hS (lv_sub hl [1, 2, 3, 4] rfl)
            clear h
            have h := hE33
            refine lv_icmp_ne (tgt := 68) hx hb dX6_bent_56 (by decide) (fun c53 => ?_) (fun c53 => ?_)
            · replace h := cz_f c53 h
              refine lv_iload hx hb dX6_bent_68 (lv_at hl 4 rfl) ?_
              refine lv_ineg hx hb dX6_bent_70 ?_
              refine lv_iconst (v := (2 : Int32)) hx hb dX6_bent_71 (by decide) ?_
              refine lv_idiv hx hb dX6_bent_72 (by decide) ?_
              refine lv_topi (fun x54 ex54 => ?_)
              replace h := cz_ltE ex54 h
              exact hJ34 _ _ _ _ (cz_i h).symm hP hD hS (lv_sub hl [0, 1, 2, 4] rfl)
            · replace h := cz_t c53 h
              refine lv_iload hx hb dX6_bent_59 (lv_at hl 4 rfl) ?_
              refine lv_iconst (v := (1 : Int32)) hx hb dX6_bent_61 (by decide) ?_
              refine lv_iadd hx hb dX6_bent_62 ?_
              refine lv_iconst (v := (2 : Int32)) hx hb dX6_bent_63 (by decide) ?_
              refine lv_idiv hx hb dX6_bent_64 (by decide) ?_
              refine lv_topi (fun x55 ex55 => ?_)
              replace h := cz_ltE ex55 h
              refine lv_goto (tgt := 73) hx hb dX6_bent_65 (by decide) ?_
              exact hJ34 _ _ _ _ (cz_i h).symm hP hD hS (lv_sub hl [0, 1, 2, 4] rfl)
    exact hL17 n _ _ _ _ _ _ _ _ _ _ _ hE14 hP hD hS (lv_sub hl [4, 5, 2, 1, 0] rfl)
  · replace h := cz_f c3 h
    refine lv_aload_n hx hb dX6_bent_12 rfl (lv_at hl 1 rfl) ?_
    refine lv_iload_n hx hb dX6_bent_13 rfl (lv_at hl 0 rfl) ?_
    obtain ⟨x57, g58, hc59, h⟩ := cz_e2 h
    refine cz_callV (As := [.int x1]) (rest := []) (is := [0, 1]) (isR := [2, 3, 4, 5, 6]) (rs := [aI cI a_o_s 151 f_o_s, aI cI a_o_innerOf 120 f_o_innerOf, aI cI a_o_whoseOf 120 f_o_whoseOf, aI cI a_o_nearOf 360 f_o_nearOf, aI cI a_o_fromOf 360 f_o_fromOf]) (as := [a_o, a_o_refusals, a_o_s, a_o_innerOf, a_o_whoseOf, a_o_nearOf, a_o_fromOf]) (ws1 := [oX6 a_o a_o_refusals a_o_s a_o_image v_o_isImage a_o_tape a_o_read v_o_taped v_o_pos v_o_readWide v_o_readHigh a_o_innerOf a_o_whoseOf a_o_nearOf a_o_fromOf v_o_thirds a_o_pieceOf a_o_kept a_o_claimOf a_o_row v_o_rowed, aI cI a_o_refusals 7 g58, aI cI a_o_s 151 f_o_s, aI cI a_o_innerOf 120 f_o_innerOf, aI cI a_o_whoseOf 120 f_o_whoseOf, aI cI a_o_nearOf 360 f_o_nearOf, aI cI a_o_fromOf 360 f_o_fromOf]) (q0 := 0) (ci := 6) ⟨hx, hb, hml, hown, hts⟩ (c_X6_refuse l D cI a_o a_o_refusals a_o_s a_o_image a_o_tape a_o_read a_o_innerOf a_o_whoseOf a_o_nearOf a_o_fromOf a_o_pieceOf a_o_kept a_o_claimOf a_o_row v_o_isImage v_o_taped v_o_pos v_o_readWide v_o_readHigh v_o_thirds v_o_rowed f_o_refusals x1 n x57 g58 hc59) mw_4_11 mw_4_13 mw_p_10 mw_1_8 mw_4_14 hd_X6_refuse ⟨Nat.le_of_ble_eq_true rfl, Nat.le_of_ble_eq_true rfl⟩ hK hN hP hD hS rfl rfl rfl rfl rfl rfl rfl rfl rfl rfl rfl rfl hl.1 rfl (Nat.le_of_ble_eq_true rfl) dX6_bent_14 ⟨Nat.le_of_ble_eq_true rfl, Nat.le_of_ble_eq_true rfl⟩ (fun H locs hP hD hS => ?_)
    refine W.eq (g2 := F0 m 17 ls [.int x57]) rfl ?_
    obtain ⟨rfl, rfl, rfl, rfl, rfl, rfl, rfl, rfl⟩ := cz_j8 (cz_i h)
    exact hQ _ _ _ _ hP hS dX6_bent_17
set_option maxHeartbeats 4000000 in
set_option maxRecDepth 100000 in
theorem c_X6_isEven (l : Launch) (D : va_G) (cI : ClassId) (a_o a_o_s a_o_whoseOf a_o_refusals a_o_image a_o_tape a_o_read a_o_innerOf a_o_nearOf a_o_fromOf a_o_pieceOf a_o_kept a_o_claimOf a_o_row : Nat) (v_o_isImage : Int32) (v_o_taped : Int32) (v_o_pos : Int32) (v_o_readWide : Int32) (v_o_readHigh : Int32) (v_o_thirds : Int32) (v_o_rowed : Int32) (f_o_s : (Nat → Int32)) (f_o_whoseOf : (Nat → Int32)) (w1 : Int32) (w2 : Int32) (n : Nat) (r : Int32) (h : f_X6_isEven n f_o_s f_o_whoseOf w1 w2 = some r) : cz_M l yX6_isEven cX6_isEven 3 (some .boolean) 0 0 D cI [.ref a_o, .int w1, .int w2] [oX6 a_o a_o_refusals a_o_s a_o_image v_o_isImage a_o_tape a_o_read v_o_taped v_o_pos v_o_readWide v_o_readHigh a_o_innerOf a_o_whoseOf a_o_nearOf a_o_fromOf v_o_thirds a_o_pieceOf a_o_kept a_o_claimOf a_o_row v_o_rowed, aI cI a_o_s 151 f_o_s, aI cI a_o_whoseOf 120 f_o_whoseOf] (some (.int r)) [oX6 a_o a_o_refusals a_o_s a_o_image v_o_isImage a_o_tape a_o_read v_o_taped v_o_pos v_o_readWide v_o_readHigh a_o_innerOf a_o_whoseOf a_o_nearOf a_o_fromOf v_o_thirds a_o_pieceOf a_o_kept a_o_claimOf a_o_row v_o_rowed, aI cI a_o_s 151 f_o_s, aI cI a_o_whoseOf 120 f_o_whoseOf] := by
  refine cz_startZ (by decide) (Nat.le_of_ble_eq_true rfl) ?_
  intro p e s m ag below meth c A Q hx hb hml hown hts hK hN hQ H locs hP hD hS ls hl
  replace hown : s.vm.findClass RX6 = some m.cls := hown
  replace hl : lv_has ls 3 [(0, .ref a_o), (1, .int w1), (2, .int w2)] := hl
  unfold f_X6_isEven at h
  refine lv_iload_n hx hb dX6_isEven_0 rfl (lv_at hl 1 rfl) ?_
  refine lv_if_lt (tgt := 52) hx hb dX6_isEven_1 (by decide) (fun c1 => ?_) (fun c1 => ?_)
  · replace h := cz_t c1 h
    refine lv_iconst (v := (0 : Int32)) hx hb dX6_isEven_52 (by decide) ?_
    obtain rfl := cz_i h
    exact hQ _ _ _ _ (by decide) hP hS dX6_isEven_53
  · replace h := cz_f c1 h
    refine lv_iload_n hx hb dX6_isEven_4 rfl (lv_at hl 1 rfl) ?_
    refine lv_aload_n hx hb dX6_isEven_5 rfl (lv_at hl 0 rfl) ?_
    refine va_get (D := D) (ci := 6) (v := .ref a_o_s) (C := RX6) (T := TX6) (N := 20) hx hb hts in_X6 hown hK hP 0 rfl rfl 1 (by decide) (hts _ mw_3_187) (fun _ h9 => h9) rfl dX6_isEven_6 ?_
    refine lv_iconst (v := (0 : Int32)) hx hb dX6_isEven_9 (by decide) ?_
    refine cz_iald hx hb hK hP 1 0 rfl rfl (cz_rdE h).1 dX6_isEven_10 (fun x2 ex2 => ?_)
    replace h := cz_rdK ex2 h
    refine lv_icmp_ge (tgt := 52) hx hb dX6_isEven_11 (by decide) (fun c3 => ?_) (fun c3 => ?_)
    · replace h := cz_t c3 h
      refine lv_iconst (v := (0 : Int32)) hx hb dX6_isEven_52 (by decide) ?_
      obtain rfl := cz_i h
      exact hQ _ _ _ _ (by decide) hP hS dX6_isEven_53
    · replace h := cz_f c3 h
      refine lv_iload_n hx hb dX6_isEven_14 rfl (lv_at hl 2 rfl) ?_
      refine lv_if_lt (tgt := 52) hx hb dX6_isEven_15 (by decide) (fun c4 => ?_) (fun c4 => ?_)
      · replace h := cz_t c4 h
        refine lv_iconst (v := (0 : Int32)) hx hb dX6_isEven_52 (by decide) ?_
        obtain rfl := cz_i h
        exact hQ _ _ _ _ (by decide) hP hS dX6_isEven_53
      · replace h := cz_f c4 h
        refine lv_iload_n hx hb dX6_isEven_18 rfl (lv_at hl 2 rfl) ?_
        refine lv_aload_n hx hb dX6_isEven_19 rfl (lv_at hl 0 rfl) ?_
        refine va_get (D := D) (ci := 6) (v := .ref a_o_s) (C := RX6) (T := TX6) (N := 20) hx hb hts in_X6 hown hK hP 0 rfl rfl 1 (by decide) (hts _ mw_3_187) (fun _ h9 => h9) rfl dX6_isEven_20 ?_
        refine lv_iconst (v := (1 : Int32)) hx hb dX6_isEven_23 (by decide) ?_
        refine cz_iald hx hb hK hP 1 0 rfl rfl (cz_rdE h).1 dX6_isEven_24 (fun x5 ex5 => ?_)
        replace h := cz_rdK ex5 h
        refine lv_icmp_ge (tgt := 52) hx hb dX6_isEven_25 (by decide) (fun c6 => ?_) (fun c6 => ?_)
        · replace h := cz_t c6 h
          refine lv_iconst (v := (0 : Int32)) hx hb dX6_isEven_52 (by decide) ?_
          obtain rfl := cz_i h
          exact hQ _ _ _ _ (by decide) hP hS dX6_isEven_53
        · replace h := cz_f c6 h
          refine lv_aload_n hx hb dX6_isEven_28 rfl (lv_at hl 0 rfl) ?_
          refine va_get (D := D) (ci := 6) (v := .ref a_o_whoseOf) (C := RX6) (T := TX6) (N := 20) hx hb hts in_X6 hown hK hP 0 rfl rfl 11 (by decide) (hts _ mw_3_197) (fun _ h9 => h9) rfl dX6_isEven_29 ?_
          refine lv_iload_n hx hb dX6_isEven_32 rfl (lv_at hl 2 rfl) ?_
          refine lv_aload_n hx hb dX6_isEven_33 rfl (lv_at hl 0 rfl) ?_
          refine va_get (D := D) (ci := 6) (v := .ref a_o_s) (C := RX6) (T := TX6) (N := 20) hx hb hts in_X6 hown hK hP 0 rfl rfl 1 (by decide) (hts _ mw_3_187) (fun _ h9 => h9) rfl dX6_isEven_34 ?_
          refine lv_iconst (v := (0 : Int32)) hx hb dX6_isEven_37 (by decide) ?_
          refine cz_iald hx hb hK hP 1 0 rfl rfl (cz_rdE h).1 dX6_isEven_38 (fun x7 ex7 => ?_)
          replace h := cz_rdK ex7 h
          refine lv_imul hx hb dX6_isEven_39 ?_
          refine lv_iload_n hx hb dX6_isEven_40 rfl (lv_at hl 1 rfl) ?_
          refine lv_iadd hx hb dX6_isEven_41 ?_
          refine cz_iald hx hb hK hP 2 0 rfl rfl (cz_rdE h).1 dX6_isEven_42 (fun x8 ex8 => ?_)
          replace h := cz_rdK ex8 h
          refine lv_bipush (v := (-2 : Int32)) hx hb dX6_isEven_43 (by decide) ?_
          refine lv_icmp_ne (tgt := 52) hx hb dX6_isEven_45 (by decide) (fun c9 => ?_) (fun c9 => ?_)
          · replace h := cz_f c9 h
            refine lv_iconst (v := (0 : Int32)) hx hb dX6_isEven_52 (by decide) ?_
            obtain rfl := cz_i h
            exact hQ _ _ _ _ (by decide) hP hS dX6_isEven_53
          · replace h := cz_t c9 h
            refine lv_iconst (v := (1 : Int32)) hx hb dX6_isEven_48 (by decide) ?_
            refine lv_goto (tgt := 53) hx hb dX6_isEven_49 (by decide) ?_
            obtain rfl := cz_i h
            exact hQ _ _ _ _ (by decide) hP hS dX6_isEven_53
set_option maxHeartbeats 4000000 in
set_option maxRecDepth 100000 in
theorem c_X6_turnings (l : Launch) (D : va_G) (cI : ClassId) (a_o a_o_s a_o_innerOf a_o_whoseOf a_o_nearOf a_o_fromOf a_o_refusals a_o_image a_o_tape a_o_read a_o_pieceOf a_o_kept a_o_claimOf a_o_row : Nat) (v_o_isImage : Int32) (v_o_taped : Int32) (v_o_pos : Int32) (v_o_readWide : Int32) (v_o_readHigh : Int32) (v_o_thirds : Int32) (v_o_rowed : Int32) (f_o_s : (Nat → Int32)) (f_o_innerOf : (Nat → Int32)) (f_o_whoseOf : (Nat → Int32)) (f_o_nearOf : (Nat → Int32)) (f_o_fromOf : (Nat → Int32)) (n : Nat) (r : Int32) (r_v_o_thirds : Int32) (r_f_o_innerOf : (Nat → Int32)) (r_f_o_whoseOf : (Nat → Int32)) (r_f_o_nearOf : (Nat → Int32)) (r_f_o_fromOf : (Nat → Int32)) (h : f_X6_turnings n v_o_thirds f_o_s f_o_innerOf f_o_whoseOf f_o_nearOf f_o_fromOf = some (r, r_v_o_thirds, r_f_o_innerOf, r_f_o_whoseOf, r_f_o_nearOf, r_f_o_fromOf)) : cz_M l yX6_turnings cX6_turnings 5 (some .int) 5 117 D cI [.ref a_o] [oX6 a_o a_o_refusals a_o_s a_o_image v_o_isImage a_o_tape a_o_read v_o_taped v_o_pos v_o_readWide v_o_readHigh a_o_innerOf a_o_whoseOf a_o_nearOf a_o_fromOf v_o_thirds a_o_pieceOf a_o_kept a_o_claimOf a_o_row v_o_rowed, aI cI a_o_s 151 f_o_s, aI cI a_o_innerOf 120 f_o_innerOf, aI cI a_o_whoseOf 120 f_o_whoseOf, aI cI a_o_nearOf 360 f_o_nearOf, aI cI a_o_fromOf 360 f_o_fromOf] (some (.int r)) [oX6 a_o a_o_refusals a_o_s a_o_image v_o_isImage a_o_tape a_o_read v_o_taped v_o_pos v_o_readWide v_o_readHigh a_o_innerOf a_o_whoseOf a_o_nearOf a_o_fromOf r_v_o_thirds a_o_pieceOf a_o_kept a_o_claimOf a_o_row v_o_rowed, aI cI a_o_s 151 f_o_s, aI cI a_o_innerOf 120 r_f_o_innerOf, aI cI a_o_whoseOf 120 r_f_o_whoseOf, aI cI a_o_nearOf 360 r_f_o_nearOf, aI cI a_o_fromOf 360 r_f_o_fromOf] := by
  refine cz_startI (by decide) (Nat.le_of_ble_eq_true rfl) ?_
  intro p e s m ag below meth c A Q hx hb hml hown hts hK hN hQ H locs hP hD hS ls hl
  replace hown : s.vm.findClass RX6 = some m.cls := hown
  replace hl : lv_has ls 5 [(0, .ref a_o)] := hl
  unfold f_X6_turnings at h
  refine lv_aload_n hx hb dX6_turnings_0 rfl (lv_at hl 0 rfl) ?_
  obtain ⟨x1, g2, g3, g4, g5, hc6, h⟩ := cz_e5 h
  refine cz_callV (As := []) (rest := []) (is := [0, 1, 2, 3, 4, 5]) (isR := []) (rs := []) (as := [a_o, a_o_s, a_o_innerOf, a_o_whoseOf, a_o_nearOf, a_o_fromOf]) (ws1 := [oX6 a_o a_o_refusals a_o_s a_o_image v_o_isImage a_o_tape a_o_read v_o_taped v_o_pos v_o_readWide v_o_readHigh a_o_innerOf a_o_whoseOf a_o_nearOf a_o_fromOf x1 a_o_pieceOf a_o_kept a_o_claimOf a_o_row v_o_rowed, aI cI a_o_s 151 f_o_s, aI cI a_o_innerOf 120 g2, aI cI a_o_whoseOf 120 g3, aI cI a_o_nearOf 360 g4, aI cI a_o_fromOf 360 g5]) (q0 := 0) (ci := 6) ⟨hx, hb, hml, hown, hts⟩ (c_X6_find l D cI a_o a_o_s a_o_innerOf a_o_whoseOf a_o_nearOf a_o_fromOf a_o_refusals a_o_image a_o_tape a_o_read a_o_pieceOf a_o_kept a_o_claimOf a_o_row v_o_isImage v_o_taped v_o_pos v_o_readWide v_o_readHigh v_o_thirds v_o_rowed f_o_s f_o_innerOf f_o_whoseOf f_o_nearOf f_o_fromOf  n x1 g2 g3 g4 g5 hc6) mw_4_68 mw_4_70 mw_p_16 mw_1_8 mw_4_71 hd_X6_find ⟨Nat.le_of_ble_eq_true rfl, Nat.le_of_ble_eq_true rfl⟩ hK hN hP hD hS rfl rfl rfl rfl rfl rfl rfl rfl rfl rfl rfl rfl hl.1 rfl (Nat.le_of_ble_eq_true rfl) dX6_turnings_1 ⟨Nat.le_of_ble_eq_true rfl, Nat.le_of_ble_eq_true rfl⟩ (fun H locs hP hD hS => ?_)
  refine W.eq (g2 := F0 m 4 ls []) rfl ?_
  refine lv_iconst (v := (0 : Int32)) hx hb dX6_turnings_4 (by decide) ?_
  refine lv_istore_n (lv' := [(1, .int (0 : Int32)), (0, .ref a_o)]) hx hb dX6_turnings_5 rfl hl (by decide) rfl (fun ls hl => ?_)
  refine lv_iconst (v := (0 : Int32)) hx hb dX6_turnings_6 (by decide) ?_
  refine lv_istore_n (lv' := [(2, .int (0 : Int32)), (1, .int (0 : Int32)), (0, .ref a_o)]) hx hb dX6_turnings_7 rfl hl (by decide) rfl (fun ls hl => ?_)
  obtain ⟨z9, hE10, hz11⟩ := cz_x2 h
  have hX12 : ∀ (y15 : Int32) (y16 : Int32) (H : Heap) (locs : List Loc) (ls : Array Slot), z9 = (y15, y16) → va_P D vwCl [oX6 a_o a_o_refusals a_o_s a_o_image v_o_isImage a_o_tape a_o_read v_o_taped v_o_pos v_o_readWide v_o_readHigh a_o_innerOf a_o_whoseOf a_o_nearOf a_o_fromOf x1 a_o_pieceOf a_o_kept a_o_claimOf a_o_row v_o_rowed, aI cI a_o_s 151 f_o_s, aI cI a_o_innerOf 120 g2, aI cI a_o_whoseOf 120 g3, aI cI a_o_nearOf 360 g4, aI cI a_o_fromOf 360 g5] H → va_D A [oX6 a_o a_o_refusals a_o_s a_o_image v_o_isImage a_o_tape a_o_read v_o_taped v_o_pos v_o_readWide v_o_readHigh a_o_innerOf a_o_whoseOf a_o_nearOf a_o_fromOf x1 a_o_pieceOf a_o_kept a_o_claimOf a_o_row v_o_rowed, aI cI a_o_s 151 f_o_s, aI cI a_o_innerOf 120 g2, aI cI a_o_whoseOf 120 g3, aI cI a_o_nearOf 360 g4, aI cI a_o_fromOf 360 g5] → va_S A s.heap H locs → lv_has ls 5 [(1, .int y15)] → W p l e (cz_rm 5 117) s m ag below meth c H locs 0 0 Q (F0 m 107 ls []) := by
    intro y15 y16 H locs ls h hP hD hS hl
    replace h := hz11 _ _ h
    refine lv_iload_n hx hb dX6_turnings_107 rfl (lv_at hl 0 rfl) ?_
    obtain ⟨rfl, rfl, rfl, rfl, rfl, rfl⟩ := cz_j6 (cz_i h)
    exact hQ _ _ _ _ hP hS dX6_turnings_108
  clear h
  have hL13 : ∀ (k : Nat) (x7 : Int32) (x8 : Int32) (H : Heap) (locs : List Loc) (ls : Array Slot), f_X6_turnings_L8 n f_o_s g3 k x7 x8 = some z9 → va_P D vwCl [oX6 a_o a_o_refusals a_o_s a_o_image v_o_isImage a_o_tape a_o_read v_o_taped v_o_pos v_o_readWide v_o_readHigh a_o_innerOf a_o_whoseOf a_o_nearOf a_o_fromOf x1 a_o_pieceOf a_o_kept a_o_claimOf a_o_row v_o_rowed, aI cI a_o_s 151 f_o_s, aI cI a_o_innerOf 120 g2, aI cI a_o_whoseOf 120 g3, aI cI a_o_nearOf 360 g4, aI cI a_o_fromOf 360 g5] H → va_D A [oX6 a_o a_o_refusals a_o_s a_o_image v_o_isImage a_o_tape a_o_read v_o_taped v_o_pos v_o_readWide v_o_readHigh a_o_innerOf a_o_whoseOf a_o_nearOf a_o_fromOf x1 a_o_pieceOf a_o_kept a_o_claimOf a_o_row v_o_rowed, aI cI a_o_s 151 f_o_s, aI cI a_o_innerOf 120 g2, aI cI a_o_whoseOf 120 g3, aI cI a_o_nearOf 360 g4, aI cI a_o_fromOf 360 g5] → va_S A s.heap H locs → lv_has ls 5 [(0, .ref a_o), (1, .int x7), (2, .int x8)] → W p l e (cz_rm 5 117) s m ag below meth c H locs 0 0 Q (F0 m 8 ls []) := by
    intro k
    induction k with
    | zero =>
      intro x7 x8 H locs ls h
      rw [f_X6_turnings_L8] at h
      cases h
    | succ k ih17 =>
      intro x7 x8 H locs ls h hP hD hS hl
      rw [f_X6_turnings_L8] at h
      refine lv_iload_n hx hb dX6_turnings_8 rfl (lv_at hl 2 rfl) ?_
      refine lv_aload_n hx hb dX6_turnings_9 rfl (lv_at hl 0 rfl) ?_
      obtain ⟨x18, hc19, h⟩ := cz_e1 h
      refine cz_callV (As := []) (rest := [.int x8]) (is := [0, 1]) (isR := [2, 3, 4, 5]) (rs := [aI cI a_o_innerOf 120 g2, aI cI a_o_whoseOf 120 g3, aI cI a_o_nearOf 360 g4, aI cI a_o_fromOf 360 g5]) (as := [a_o, a_o_s, a_o_innerOf, a_o_whoseOf, a_o_nearOf, a_o_fromOf]) (ws1 := [oX6 a_o a_o_refusals a_o_s a_o_image v_o_isImage a_o_tape a_o_read v_o_taped v_o_pos v_o_readWide v_o_readHigh a_o_innerOf a_o_whoseOf a_o_nearOf a_o_fromOf x1 a_o_pieceOf a_o_kept a_o_claimOf a_o_row v_o_rowed, aI cI a_o_s 151 f_o_s, aI cI a_o_innerOf 120 g2, aI cI a_o_whoseOf 120 g3, aI cI a_o_nearOf 360 g4, aI cI a_o_fromOf 360 g5]) (q0 := 0) (ci := 6) ⟨hx, hb, hml, hown, hts⟩ (c_X6_many l D cI a_o a_o_s a_o_refusals a_o_image a_o_tape a_o_read a_o_innerOf a_o_whoseOf a_o_nearOf a_o_fromOf a_o_pieceOf a_o_kept a_o_claimOf a_o_row v_o_isImage v_o_taped v_o_pos v_o_readWide v_o_readHigh x1 v_o_rowed f_o_s  n x18 hc19) mw_4_27 mw_4_29 mw_p_12 mw_1_8 mw_4_30 hd_X6_many ⟨Nat.le_of_ble_eq_true rfl, Nat.le_of_ble_eq_true rfl⟩ hK hN hP hD hS rfl rfl rfl rfl rfl rfl rfl rfl rfl rfl rfl rfl hl.1 rfl (Nat.le_of_ble_eq_true rfl) dX6_turnings_10 ⟨Nat.le_of_ble_eq_true rfl, Nat.le_of_ble_eq_true rfl⟩ (fun H locs hP hD hS => ?_)
      refine W.eq (g2 := F0 m 13 ls [.int x18, .int x8]) rfl ?_
      refine lv_icmp_ge (tgt := 107) hx hb dX6_turnings_13 (by decide) (fun c20 => ?_) (fun c20 => ?_)
      · replace h := cz_t c20 h
        exact hX12 _ _ _ _ _ (cz_i h).symm hP hD hS (lv_sub hl [1] rfl)
      · replace h := cz_f c20 h
        refine lv_iload_n hx hb dX6_turnings_16 rfl (lv_at hl 2 rfl) ?_
        refine lv_aload_n hx hb dX6_turnings_17 rfl (lv_at hl 0 rfl) ?_
        refine va_get (D := D) (ci := 6) (v := .ref a_o_s) (C := RX6) (T := TX6) (N := 20) hx hb hts in_X6 hown hK hP 0 rfl rfl 1 (by decide) (hts _ mw_3_187) (fun _ h9 => h9) rfl dX6_turnings_18 ?_
        refine lv_iconst (v := (0 : Int32)) hx hb dX6_turnings_21 (by decide) ?_
        refine cz_iald hx hb hK hP 1 0 rfl rfl (cz_rdE h).1 dX6_turnings_22 (fun x21 ex21 => ?_)
        replace h := cz_rdK ex21 h
        refine lv_irem hx hb dX6_turnings_23 (cz_nzE h).1 ?_
        replace h := (cz_nzE h).2
        refine lv_topi (fun x22 ex22 => ?_)
        replace h := cz_ltE ex22 h
        refine lv_istore_n (lv' := [(3, .int x22), (0, .ref a_o), (1, .int x7), (2, .int x8)]) hx hb dX6_turnings_24 rfl hl (by decide) rfl (fun ls hl => ?_)
        refine lv_iload_n hx hb dX6_turnings_25 rfl (lv_at hl 3 rfl) ?_
        refine lv_aload_n hx hb dX6_turnings_26 rfl (lv_at hl 1 rfl) ?_
        refine va_get (D := D) (ci := 6) (v := .ref a_o_s) (C := RX6) (T := TX6) (N := 20) hx hb hts in_X6 hown hK hP 0 rfl rfl 1 (by decide) (hts _ mw_3_187) (fun _ h9 => h9) rfl dX6_turnings_27 ?_
        refine lv_iconst (v := (0 : Int32)) hx hb dX6_turnings_30 (by decide) ?_
        refine cz_iald hx hb hK hP 1 0 rfl rfl (cz_rdE h).1 dX6_turnings_31 (fun x23 ex23 => ?_)
        replace h := cz_rdK ex23 h
        refine lv_idiv hx hb dX6_turnings_32 (cz_nzE h).1 ?_
        replace h := (cz_nzE h).2
        refine lv_topi (fun x24 ex24 => ?_)
        replace h := cz_ltE ex24 h
        refine lv_istore (lv' := [(4, .int x24), (3, .int x22), (0, .ref a_o), (1, .int x7), (2, .int x8)]) hx hb dX6_turnings_33 hl (by decide) rfl (fun ls hl => ?_)
        refine lv_iload_n hx hb dX6_turnings_35 rfl (lv_at hl 3 rfl) ?_
        refine lv_aload_n hx hb dX6_turnings_36 rfl (lv_at hl 2 rfl) ?_
        refine lv_iload_n hx hb dX6_turnings_37 rfl (lv_at hl 1 rfl) ?_
        refine lv_iload hx hb dX6_turnings_38 (lv_at hl 0 rfl) ?_
        obtain ⟨x25, hc26, h⟩ := cz_e1 h
        refine cz_callV (As := [.int x22, .int x24]) (rest := [.int x7]) (is := [0, 1, 3]) (isR := [2, 4, 5]) (rs := [aI cI a_o_innerOf 120 g2, aI cI a_o_nearOf 360 g4, aI cI a_o_fromOf 360 g5]) (as := [a_o, a_o_s, a_o_innerOf, a_o_whoseOf, a_o_nearOf, a_o_fromOf]) (ws1 := [oX6 a_o a_o_refusals a_o_s a_o_image v_o_isImage a_o_tape a_o_read v_o_taped v_o_pos v_o_readWide v_o_readHigh a_o_innerOf a_o_whoseOf a_o_nearOf a_o_fromOf x1 a_o_pieceOf a_o_kept a_o_claimOf a_o_row v_o_rowed, aI cI a_o_s 151 f_o_s, aI cI a_o_innerOf 120 g2, aI cI a_o_whoseOf 120 g3, aI cI a_o_nearOf 360 g4, aI cI a_o_fromOf 360 g5]) (q0 := 0) (ci := 6) ⟨hx, hb, hml, hown, hts⟩ (c_X6_isEven l D cI a_o a_o_s a_o_whoseOf a_o_refusals a_o_image a_o_tape a_o_read a_o_innerOf a_o_nearOf a_o_fromOf a_o_pieceOf a_o_kept a_o_claimOf a_o_row v_o_isImage v_o_taped v_o_pos v_o_readWide v_o_readHigh x1 v_o_rowed f_o_s g3 x22 x24 n x25 hc26) mw_4_157 mw_4_159 mw_p_29 mw_1_8 mw_4_160 hd_X6_isEven ⟨Nat.le_of_ble_eq_true rfl, Nat.le_of_ble_eq_true rfl⟩ hK hN hP hD hS rfl rfl rfl rfl rfl rfl rfl rfl rfl rfl rfl rfl hl.1 rfl (Nat.le_of_ble_eq_true rfl) dX6_turnings_40 ⟨Nat.le_of_ble_eq_true rfl, Nat.le_of_ble_eq_true rfl⟩ (fun H locs hP hD hS => ?_)
        refine W.eq (g2 := F0 m 43 ls [.int x25, .int x7]) rfl ?_
        obtain ⟨z31, hE29, hz28⟩ := cz_x1 h
        have hJ30 : ∀ (x27 : Int32) (H : Heap) (locs : List Loc) (ls : Array Slot), z31 = x27 → va_P D vwCl [oX6 a_o a_o_refusals a_o_s a_o_image v_o_isImage a_o_tape a_o_read v_o_taped v_o_pos v_o_readWide v_o_readHigh a_o_innerOf a_o_whoseOf a_o_nearOf a_o_fromOf x1 a_o_pieceOf a_o_kept a_o_claimOf a_o_row v_o_rowed, aI cI a_o_s 151 f_o_s, aI cI a_o_innerOf 120 g2, aI cI a_o_whoseOf 120 g3, aI cI a_o_nearOf 360 g4, aI cI a_o_fromOf 360 g5] H → va_D A [oX6 a_o a_o_refusals a_o_s a_o_image v_o_isImage a_o_tape a_o_read v_o_taped v_o_pos v_o_readWide v_o_readHigh a_o_innerOf a_o_whoseOf a_o_nearOf a_o_fromOf x1 a_o_pieceOf a_o_kept a_o_claimOf a_o_row v_o_rowed, aI cI a_o_s 151 f_o_s, aI cI a_o_innerOf 120 g2, aI cI a_o_whoseOf 120 g3, aI cI a_o_nearOf 360 g4, aI cI a_o_fromOf 360 g5] → va_S A s.heap H locs → lv_has ls 5 [(0, .ref a_o), (2, .int x8)] → W p l e (cz_rm 5 117) s m ag below meth c H locs 0 0 Q (F0 m 99 ls [.int x27, .int x7]) := by
          intro x27 H locs ls h hP hD hS hl
          replace h := hz28 _ h
          refine lv_iadd hx hb dX6_turnings_99 ?_
          refine lv_topi (fun x32 ex32 => ?_)
          replace h := cz_ltE ex32 h
          refine lv_istore_n (lv' := [(1, .int x32), (0, .ref a_o), (2, .int x8)]) hx hb dX6_turnings_100 rfl hl (by decide) rfl (fun ls hl => ?_)
          obtain ⟨x33, ex33⟩ : ∃ z : Int32, z = x8 + (1 : Int32) := ⟨_, rfl⟩
          replace h := cz_ltE ex33 h
          refine lv_iinc (v := x33) (lv' := [(2, .int x33), (1, .int x32), (0, .ref a_o)]) hx hb dX6_turnings_101 hl (k := 2) rfl (by rw [ex33]; rfl) (by decide) rfl (fun ls hl => ?_)
          refine lv_goto (tgt := 8) hx hb dX6_turnings_104 (by decide) ?_
          exact ih17 _ _ _ _ _ h hP hD hS (lv_sub hl [2, 1, 0] rfl)
        clear h
        have h := hE29
        refine lv_if_eq (tgt := 98) hx hb dX6_turnings_43 (by decide) (fun c34 => ?_) (fun c34 => ?_)
        · replace h := cz_t c34 h
          refine lv_iconst (v := (0 : Int32)) hx hb dX6_turnings_98 (by decide) ?_
          exact hJ30 _ _ _ _ (cz_i h).symm hP hD hS (lv_sub hl [2, 4] rfl)
        · replace h := cz_f c34 h
          refine lv_aload_n hx hb dX6_turnings_46 rfl (lv_at hl 2 rfl) ?_
          refine lv_iload_n hx hb dX6_turnings_47 rfl (lv_at hl 1 rfl) ?_
          refine lv_iconst (v := (1 : Int32)) hx hb dX6_turnings_48 (by decide) ?_
          refine lv_isub hx hb dX6_turnings_49 ?_
          refine lv_iload hx hb dX6_turnings_50 (lv_at hl 0 rfl) ?_
          obtain ⟨x35, hc36, h⟩ := cz_e1 h
          refine cz_callV (As := [.int (x22 - (1 : Int32)), .int x24]) (rest := [.int x7]) (is := [0, 1, 3]) (isR := [2, 4, 5]) (rs := [aI cI a_o_innerOf 120 g2, aI cI a_o_nearOf 360 g4, aI cI a_o_fromOf 360 g5]) (as := [a_o, a_o_s, a_o_innerOf, a_o_whoseOf, a_o_nearOf, a_o_fromOf]) (ws1 := [oX6 a_o a_o_refusals a_o_s a_o_image v_o_isImage a_o_tape a_o_read v_o_taped v_o_pos v_o_readWide v_o_readHigh a_o_innerOf a_o_whoseOf a_o_nearOf a_o_fromOf x1 a_o_pieceOf a_o_kept a_o_claimOf a_o_row v_o_rowed, aI cI a_o_s 151 f_o_s, aI cI a_o_innerOf 120 g2, aI cI a_o_whoseOf 120 g3, aI cI a_o_nearOf 360 g4, aI cI a_o_fromOf 360 g5]) (q0 := 0) (ci := 6) ⟨hx, hb, hml, hown, hts⟩ (c_X6_isEven l D cI a_o a_o_s a_o_whoseOf a_o_refusals a_o_image a_o_tape a_o_read a_o_innerOf a_o_nearOf a_o_fromOf a_o_pieceOf a_o_kept a_o_claimOf a_o_row v_o_isImage v_o_taped v_o_pos v_o_readWide v_o_readHigh x1 v_o_rowed f_o_s g3 (x22 - (1 : Int32)) x24 n x35 hc36) mw_4_157 mw_4_159 mw_p_29 mw_1_8 mw_4_160 hd_X6_isEven ⟨Nat.le_of_ble_eq_true rfl, Nat.le_of_ble_eq_true rfl⟩ hK hN hP hD hS rfl rfl rfl rfl rfl rfl rfl rfl rfl rfl rfl rfl hl.1 rfl (Nat.le_of_ble_eq_true rfl) dX6_turnings_52 ⟨Nat.le_of_ble_eq_true rfl, Nat.le_of_ble_eq_true rfl⟩ (fun H locs hP hD hS => ?_)
          refine W.eq (g2 := F0 m 55 ls [.int x35, .int x7]) rfl ?_
          refine lv_if_ne (tgt := 70) hx hb dX6_turnings_55 (by decide) (fun c37 => ?_) (fun c37 => ?_)
          · replace h := cz_f c37 h
            refine lv_aload_n hx hb dX6_turnings_70 rfl (lv_at hl 2 rfl) ?_
            refine lv_iload_n hx hb dX6_turnings_71 rfl (lv_at hl 1 rfl) ?_
            refine lv_iload hx hb dX6_turnings_72 (lv_at hl 0 rfl) ?_
            refine lv_iconst (v := (1 : Int32)) hx hb dX6_turnings_74 (by decide) ?_
            refine lv_isub hx hb dX6_turnings_75 ?_
            obtain ⟨x38, hc39, h⟩ := cz_e1 h
            refine cz_callV (As := [.int x22, .int (x24 - (1 : Int32))]) (rest := [.int x7]) (is := [0, 1, 3]) (isR := [2, 4, 5]) (rs := [aI cI a_o_innerOf 120 g2, aI cI a_o_nearOf 360 g4, aI cI a_o_fromOf 360 g5]) (as := [a_o, a_o_s, a_o_innerOf, a_o_whoseOf, a_o_nearOf, a_o_fromOf]) (ws1 := [oX6 a_o a_o_refusals a_o_s a_o_image v_o_isImage a_o_tape a_o_read v_o_taped v_o_pos v_o_readWide v_o_readHigh a_o_innerOf a_o_whoseOf a_o_nearOf a_o_fromOf x1 a_o_pieceOf a_o_kept a_o_claimOf a_o_row v_o_rowed, aI cI a_o_s 151 f_o_s, aI cI a_o_innerOf 120 g2, aI cI a_o_whoseOf 120 g3, aI cI a_o_nearOf 360 g4, aI cI a_o_fromOf 360 g5]) (q0 := 0) (ci := 6) ⟨hx, hb, hml, hown, hts⟩ (c_X6_isEven l D cI a_o a_o_s a_o_whoseOf a_o_refusals a_o_image a_o_tape a_o_read a_o_innerOf a_o_nearOf a_o_fromOf a_o_pieceOf a_o_kept a_o_claimOf a_o_row v_o_isImage v_o_taped v_o_pos v_o_readWide v_o_readHigh x1 v_o_rowed f_o_s g3 x22 (x24 - (1 : Int32)) n x38 hc39) mw_4_157 mw_4_159 mw_p_29 mw_1_8 mw_4_160 hd_X6_isEven ⟨Nat.le_of_ble_eq_true rfl, Nat.le_of_ble_eq_true rfl⟩ hK hN hP hD hS rfl rfl rfl rfl rfl rfl rfl rfl rfl rfl rfl rfl hl.1 rfl (Nat.le_of_ble_eq_true rfl) dX6_turnings_76 ⟨Nat.le_of_ble_eq_true rfl, Nat.le_of_ble_eq_true rfl⟩ (fun H locs hP hD hS => ?_)
            refine W.eq (g2 := F0 m 79 ls [.int x38, .int x7]) rfl ?_
            refine lv_if_ne (tgt := 94) hx hb dX6_turnings_79 (by decide) (fun c40 => ?_) (fun c40 => ?_)
            · replace h := cz_f c40 h
              refine lv_iconst (v := (1 : Int32)) hx hb dX6_turnings_94 (by decide) ?_
              refine lv_goto (tgt := 99) hx hb dX6_turnings_95 (by decide) ?_
              exact hJ30 _ _ _ _ (cz_i h).symm hP hD hS (lv_sub hl [2, 4] rfl)
            · replace h := cz_t c40 h
              refine lv_aload_n hx hb dX6_turnings_82 rfl (lv_at hl 2 rfl) ?_
              refine lv_iload_n hx hb dX6_turnings_83 rfl (lv_at hl 1 rfl) ?_
              refine lv_iload hx hb dX6_turnings_84 (lv_at hl 0 rfl) ?_
              refine lv_iconst (v := (1 : Int32)) hx hb dX6_turnings_86 (by decide) ?_
              refine lv_iadd hx hb dX6_turnings_87 ?_
              obtain ⟨x41, hc42, h⟩ := cz_e1 h
              refine cz_callV (As := [.int x22, .int (x24 + (1 : Int32))]) (rest := [.int x7]) (is := [0, 1, 3]) (isR := [2, 4, 5]) (rs := [aI cI a_o_innerOf 120 g2, aI cI a_o_nearOf 360 g4, aI cI a_o_fromOf 360 g5]) (as := [a_o, a_o_s, a_o_innerOf, a_o_whoseOf, a_o_nearOf, a_o_fromOf]) (ws1 := [oX6 a_o a_o_refusals a_o_s a_o_image v_o_isImage a_o_tape a_o_read v_o_taped v_o_pos v_o_readWide v_o_readHigh a_o_innerOf a_o_whoseOf a_o_nearOf a_o_fromOf x1 a_o_pieceOf a_o_kept a_o_claimOf a_o_row v_o_rowed, aI cI a_o_s 151 f_o_s, aI cI a_o_innerOf 120 g2, aI cI a_o_whoseOf 120 g3, aI cI a_o_nearOf 360 g4, aI cI a_o_fromOf 360 g5]) (q0 := 0) (ci := 6) ⟨hx, hb, hml, hown, hts⟩ (c_X6_isEven l D cI a_o a_o_s a_o_whoseOf a_o_refusals a_o_image a_o_tape a_o_read a_o_innerOf a_o_nearOf a_o_fromOf a_o_pieceOf a_o_kept a_o_claimOf a_o_row v_o_isImage v_o_taped v_o_pos v_o_readWide v_o_readHigh x1 v_o_rowed f_o_s g3 x22 (x24 + (1 : Int32)) n x41 hc42) mw_4_157 mw_4_159 mw_p_29 mw_1_8 mw_4_160 hd_X6_isEven ⟨Nat.le_of_ble_eq_true rfl, Nat.le_of_ble_eq_true rfl⟩ hK hN hP hD hS rfl rfl rfl rfl rfl rfl rfl rfl rfl rfl rfl rfl hl.1 rfl (Nat.le_of_ble_eq_true rfl) dX6_turnings_88 ⟨Nat.le_of_ble_eq_true rfl, Nat.le_of_ble_eq_true rfl⟩ (fun H locs hP hD hS => ?_)
              refine W.eq (g2 := F0 m 91 ls [.int x41, .int x7]) rfl ?_
              refine lv_if_eq (tgt := 98) hx hb dX6_turnings_91 (by decide) (fun c43 => ?_) (fun c43 => ?_)
              · replace h := cz_t c43 h
                refine lv_iconst (v := (0 : Int32)) hx hb dX6_turnings_98 (by decide) ?_
                exact hJ30 _ _ _ _ (cz_i h).symm hP hD hS (lv_sub hl [2, 4] rfl)
              · replace h := cz_f c43 h
                refine lv_iconst (v := (1 : Int32)) hx hb dX6_turnings_94 (by decide) ?_
                refine lv_goto (tgt := 99) hx hb dX6_turnings_95 (by decide) ?_
                exact hJ30 _ _ _ _ (cz_i h).symm hP hD hS (lv_sub hl [2, 4] rfl)
          · replace h := cz_t c37 h
            refine lv_aload_n hx hb dX6_turnings_58 rfl (lv_at hl 2 rfl) ?_
            refine lv_iload_n hx hb dX6_turnings_59 rfl (lv_at hl 1 rfl) ?_
            refine lv_iconst (v := (1 : Int32)) hx hb dX6_turnings_60 (by decide) ?_
            refine lv_iadd hx hb dX6_turnings_61 ?_
            refine lv_iload hx hb dX6_turnings_62 (lv_at hl 0 rfl) ?_
            obtain ⟨x44, hc45, h⟩ := cz_e1 h
            refine cz_callV (As := [.int (x22 + (1 : Int32)), .int x24]) (rest := [.int x7]) (is := [0, 1, 3]) (isR := [2, 4, 5]) (rs := [aI cI a_o_innerOf 120 g2, aI cI a_o_nearOf 360 g4, aI cI a_o_fromOf 360 g5]) (as := [a_o, a_o_s, a_o_innerOf, a_o_whoseOf, a_o_nearOf, a_o_fromOf]) (ws1 := [oX6 a_o a_o_refusals a_o_s a_o_image v_o_isImage a_o_tape a_o_read v_o_taped v_o_pos v_o_readWide v_o_readHigh a_o_innerOf a_o_whoseOf a_o_nearOf a_o_fromOf x1 a_o_pieceOf a_o_kept a_o_claimOf a_o_row v_o_rowed, aI cI a_o_s 151 f_o_s, aI cI a_o_innerOf 120 g2, aI cI a_o_whoseOf 120 g3, aI cI a_o_nearOf 360 g4, aI cI a_o_fromOf 360 g5]) (q0 := 0) (ci := 6) ⟨hx, hb, hml, hown, hts⟩ (c_X6_isEven l D cI a_o a_o_s a_o_whoseOf a_o_refusals a_o_image a_o_tape a_o_read a_o_innerOf a_o_nearOf a_o_fromOf a_o_pieceOf a_o_kept a_o_claimOf a_o_row v_o_isImage v_o_taped v_o_pos v_o_readWide v_o_readHigh x1 v_o_rowed f_o_s g3 (x22 + (1 : Int32)) x24 n x44 hc45) mw_4_157 mw_4_159 mw_p_29 mw_1_8 mw_4_160 hd_X6_isEven ⟨Nat.le_of_ble_eq_true rfl, Nat.le_of_ble_eq_true rfl⟩ hK hN hP hD hS rfl rfl rfl rfl rfl rfl rfl rfl rfl rfl rfl rfl hl.1 rfl (Nat.le_of_ble_eq_true rfl) dX6_turnings_64 ⟨Nat.le_of_ble_eq_true rfl, Nat.le_of_ble_eq_true rfl⟩ (fun H locs hP hD hS => ?_)
            refine W.eq (g2 := F0 m 67 ls [.int x44, .int x7]) rfl ?_
            refine lv_if_eq (tgt := 98) hx hb dX6_turnings_67 (by decide) (fun c46 => ?_) (fun c46 => ?_)
            · replace h := cz_t c46 h
              refine lv_iconst (v := (0 : Int32)) hx hb dX6_turnings_98 (by decide) ?_
              exact hJ30 _ _ _ _ (cz_i h).symm hP hD hS (lv_sub hl [2, 4] rfl)
            · replace h := cz_f c46 h
              refine lv_aload_n hx hb dX6_turnings_70 rfl (lv_at hl 2 rfl) ?_
              refine lv_iload_n hx hb dX6_turnings_71 rfl (lv_at hl 1 rfl) ?_
              refine lv_iload hx hb dX6_turnings_72 (lv_at hl 0 rfl) ?_
              refine lv_iconst (v := (1 : Int32)) hx hb dX6_turnings_74 (by decide) ?_
              refine lv_isub hx hb dX6_turnings_75 ?_
              obtain ⟨x47, hc48, h⟩ := cz_e1 h
              refine cz_callV (As := [.int x22, .int (x24 - (1 : Int32))]) (rest := [.int x7]) (is := [0, 1, 3]) (isR := [2, 4, 5]) (rs := [aI cI a_o_innerOf 120 g2, aI cI a_o_nearOf 360 g4, aI cI a_o_fromOf 360 g5]) (as := [a_o, a_o_s, a_o_innerOf, a_o_whoseOf, a_o_nearOf, a_o_fromOf]) (ws1 := [oX6 a_o a_o_refusals a_o_s a_o_image v_o_isImage a_o_tape a_o_read v_o_taped v_o_pos v_o_readWide v_o_readHigh a_o_innerOf a_o_whoseOf a_o_nearOf a_o_fromOf x1 a_o_pieceOf a_o_kept a_o_claimOf a_o_row v_o_rowed, aI cI a_o_s 151 f_o_s, aI cI a_o_innerOf 120 g2, aI cI a_o_whoseOf 120 g3, aI cI a_o_nearOf 360 g4, aI cI a_o_fromOf 360 g5]) (q0 := 0) (ci := 6) ⟨hx, hb, hml, hown, hts⟩ (c_X6_isEven l D cI a_o a_o_s a_o_whoseOf a_o_refusals a_o_image a_o_tape a_o_read a_o_innerOf a_o_nearOf a_o_fromOf a_o_pieceOf a_o_kept a_o_claimOf a_o_row v_o_isImage v_o_taped v_o_pos v_o_readWide v_o_readHigh x1 v_o_rowed f_o_s g3 x22 (x24 - (1 : Int32)) n x47 hc48) mw_4_157 mw_4_159 mw_p_29 mw_1_8 mw_4_160 hd_X6_isEven ⟨Nat.le_of_ble_eq_true rfl, Nat.le_of_ble_eq_true rfl⟩ hK hN hP hD hS rfl rfl rfl rfl rfl rfl rfl rfl rfl rfl rfl rfl hl.1 rfl (Nat.le_of_ble_eq_true rfl) dX6_turnings_76 ⟨Nat.le_of_ble_eq_true rfl, Nat.le_of_ble_eq_true rfl⟩ (fun H locs hP hD hS => ?_)
              refine W.eq (g2 := F0 m 79 ls [.int x47, .int x7]) rfl ?_
              refine lv_if_ne (tgt := 94) hx hb dX6_turnings_79 (by decide) (fun c49 => ?_) (fun c49 => ?_)
              · replace h := cz_f c49 h
                refine lv_iconst (v := (1 : Int32)) hx hb dX6_turnings_94 (by decide) ?_
                refine lv_goto (tgt := 99) hx hb dX6_turnings_95 (by decide) ?_
                exact hJ30 _ _ _ _ (cz_i h).symm hP hD hS (lv_sub hl [2, 4] rfl)
              · replace h := cz_t c49 h
                refine lv_aload_n hx hb dX6_turnings_82 rfl (lv_at hl 2 rfl) ?_
                refine lv_iload_n hx hb dX6_turnings_83 rfl (lv_at hl 1 rfl) ?_
                refine lv_iload hx hb dX6_turnings_84 (lv_at hl 0 rfl) ?_
                refine lv_iconst (v := (1 : Int32)) hx hb dX6_turnings_86 (by decide) ?_
                refine lv_iadd hx hb dX6_turnings_87 ?_
                obtain ⟨x50, hc51, h⟩ := cz_e1 h
                refine cz_callV (As := [.int x22, .int (x24 + (1 : Int32))]) (rest := [.int x7]) (is := [0, 1, 3]) (isR := [2, 4, 5]) (rs := [aI cI a_o_innerOf 120 g2, aI cI a_o_nearOf 360 g4, aI cI a_o_fromOf 360 g5]) (as := [a_o, a_o_s, a_o_innerOf, a_o_whoseOf, a_o_nearOf, a_o_fromOf]) (ws1 := [oX6 a_o a_o_refusals a_o_s a_o_image v_o_isImage a_o_tape a_o_read v_o_taped v_o_pos v_o_readWide v_o_readHigh a_o_innerOf a_o_whoseOf a_o_nearOf a_o_fromOf x1 a_o_pieceOf a_o_kept a_o_claimOf a_o_row v_o_rowed, aI cI a_o_s 151 f_o_s, aI cI a_o_innerOf 120 g2, aI cI a_o_whoseOf 120 g3, aI cI a_o_nearOf 360 g4, aI cI a_o_fromOf 360 g5]) (q0 := 0) (ci := 6) ⟨hx, hb, hml, hown, hts⟩ (c_X6_isEven l D cI a_o a_o_s a_o_whoseOf a_o_refusals a_o_image a_o_tape a_o_read a_o_innerOf a_o_nearOf a_o_fromOf a_o_pieceOf a_o_kept a_o_claimOf a_o_row v_o_isImage v_o_taped v_o_pos v_o_readWide v_o_readHigh x1 v_o_rowed f_o_s g3 x22 (x24 + (1 : Int32)) n x50 hc51) mw_4_157 mw_4_159 mw_p_29 mw_1_8 mw_4_160 hd_X6_isEven ⟨Nat.le_of_ble_eq_true rfl, Nat.le_of_ble_eq_true rfl⟩ hK hN hP hD hS rfl rfl rfl rfl rfl rfl rfl rfl rfl rfl rfl rfl hl.1 rfl (Nat.le_of_ble_eq_true rfl) dX6_turnings_88 ⟨Nat.le_of_ble_eq_true rfl, Nat.le_of_ble_eq_true rfl⟩ (fun H locs hP hD hS => ?_)
                refine W.eq (g2 := F0 m 91 ls [.int x50, .int x7]) rfl ?_
                refine lv_if_eq (tgt := 98) hx hb dX6_turnings_91 (by decide) (fun c52 => ?_) (fun c52 => ?_)
                · replace h := cz_t c52 h
                  refine lv_iconst (v := (0 : Int32)) hx hb dX6_turnings_98 (by decide) ?_
                  exact hJ30 _ _ _ _ (cz_i h).symm hP hD hS (lv_sub hl [2, 4] rfl)
                · replace h := cz_f c52 h
                  refine lv_iconst (v := (1 : Int32)) hx hb dX6_turnings_94 (by decide) ?_
                  refine lv_goto (tgt := 99) hx hb dX6_turnings_95 (by decide) ?_
                  exact hJ30 _ _ _ _ (cz_i h).symm hP hD hS (lv_sub hl [2, 4] rfl)
  exact hL13 n _ _ _ _ _ hE10 hP hD hS (lv_sub hl [2, 1, 0] rfl)
