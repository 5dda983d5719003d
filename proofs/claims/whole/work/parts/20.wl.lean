set_option maxHeartbeats 4000000 in
set_option maxRecDepth 100000 in
theorem c_X6_movesOf (l : Launch) (D : va_G) (cI : ClassId) (a_o a_o_s a_o_innerOf a_o_whoseOf a_o_nearOf a_o_fromOf a_o_kept a_o_refusals a_o_image a_o_tape a_o_read a_o_pieceOf a_o_claimOf a_o_row : Nat) (v_o_isImage : Int32) (v_o_taped : Int32) (v_o_pos : Int32) (v_o_readWide : Int32) (v_o_readHigh : Int32) (v_o_thirds : Int32) (v_o_rowed : Int32) (f_o_s : (Nat → Int32)) (f_o_innerOf : (Nat → Int32)) (f_o_whoseOf : (Nat → Int32)) (f_o_nearOf : (Nat → Int32)) (f_o_fromOf : (Nat → Int32)) (f_o_kept : (Nat → Int32)) (w1 : Int32) (n : Nat) (r : Int32) (r_v_o_thirds : Int32) (r_f_o_s : (Nat → Int32)) (r_f_o_innerOf : (Nat → Int32)) (r_f_o_whoseOf : (Nat → Int32)) (r_f_o_nearOf : (Nat → Int32)) (r_f_o_fromOf : (Nat → Int32)) (h : f_X6_movesOf n v_o_thirds f_o_s f_o_innerOf f_o_whoseOf f_o_nearOf f_o_fromOf f_o_kept w1 = some (r, r_v_o_thirds, r_f_o_s, r_f_o_innerOf, r_f_o_whoseOf, r_f_o_nearOf, r_f_o_fromOf)) : cz_M l yX6_movesOf cX6_movesOf 5 (some .int) 5 117 D cI [.ref a_o, .int w1] [oX6 a_o a_o_refusals a_o_s a_o_image v_o_isImage a_o_tape a_o_read v_o_taped v_o_pos v_o_readWide v_o_readHigh a_o_innerOf a_o_whoseOf a_o_nearOf a_o_fromOf v_o_thirds a_o_pieceOf a_o_kept a_o_claimOf a_o_row v_o_rowed, aI cI a_o_s 151 f_o_s, aI cI a_o_innerOf 120 f_o_innerOf, aI cI a_o_whoseOf 120 f_o_whoseOf, aI cI a_o_nearOf 360 f_o_nearOf, aI cI a_o_fromOf 360 f_o_fromOf, aI cI a_o_kept 120 f_o_kept] (some (.int r)) [oX6 a_o a_o_refusals a_o_s a_o_image v_o_isImage a_o_tape a_o_read v_o_taped v_o_pos v_o_readWide v_o_readHigh a_o_innerOf a_o_whoseOf a_o_nearOf a_o_fromOf r_v_o_thirds a_o_pieceOf a_o_kept a_o_claimOf a_o_row v_o_rowed, aI cI a_o_s 151 r_f_o_s, aI cI a_o_innerOf 120 r_f_o_innerOf, aI cI a_o_whoseOf 120 r_f_o_whoseOf, aI cI a_o_nearOf 360 r_f_o_nearOf, aI cI a_o_fromOf 360 r_f_o_fromOf, aI cI a_o_kept 120 f_o_kept] := by
  refine cz_startI (by decide) (Nat.le_of_ble_eq_true rfl) ?_
  intro p e s m ag below meth c A Q hx hb hml hown hts hK hN hQ H locs hP hD hS ls hl
  replace hown : s.vm.findClass RX6 = some m.cls := hown
  replace hl : lv_has ls 5 [(0, .ref a_o), (1, .int w1)] := hl
  unfold f_X6_movesOf at h
  refine lv_aload_n hx hb dX6_movesOf_0 rfl (lv_at hl 0 rfl) ?_
  refine lv_iload_n hx hb dX6_movesOf_1 rfl (lv_at hl 1 rfl) ?_
  obtain ⟨x1, hc2, h⟩ := cz_e1 h
  refine cz_callV (As := [.int w1]) (rest := []) (is := [0, 1]) (isR := [2, 3, 4, 5, 6]) (rs := [aI cI a_o_innerOf 120 f_o_innerOf, aI cI a_o_whoseOf 120 f_o_whoseOf, aI cI a_o_nearOf 360 f_o_nearOf, aI cI a_o_fromOf 360 f_o_fromOf, aI cI a_o_kept 120 f_o_kept]) (as := [a_o, a_o_s, a_o_innerOf, a_o_whoseOf, a_o_nearOf, a_o_fromOf, a_o_kept]) (ws1 := [oX6 a_o a_o_refusals a_o_s a_o_image v_o_isImage a_o_tape a_o_read v_o_taped v_o_pos v_o_readWide v_o_readHigh a_o_innerOf a_o_whoseOf a_o_nearOf a_o_fromOf v_o_thirds a_o_pieceOf a_o_kept a_o_claimOf a_o_row v_o_rowed, aI cI a_o_s 151 f_o_s, aI cI a_o_innerOf 120 f_o_innerOf, aI cI a_o_whoseOf 120 f_o_whoseOf, aI cI a_o_nearOf 360 f_o_nearOf, aI cI a_o_fromOf 360 f_o_fromOf, aI cI a_o_kept 120 f_o_kept]) (q0 := 0) (ci := 6) ⟨hx, hb, hml, hown, hts⟩ (c_X6_at l D cI a_o a_o_s a_o_refusals a_o_image a_o_tape a_o_read a_o_innerOf a_o_whoseOf a_o_nearOf a_o_fromOf a_o_pieceOf a_o_kept a_o_claimOf a_o_row v_o_isImage v_o_taped v_o_pos v_o_readWide v_o_readHigh v_o_thirds v_o_rowed f_o_s w1 n x1 hc2) mw_4_43 mw_4_45 mw_p_15 mw_1_8 mw_4_46 hd_X6_at ⟨Nat.le_of_ble_eq_true rfl, Nat.le_of_ble_eq_true rfl⟩ hK hN hP hD hS rfl rfl rfl rfl rfl rfl rfl rfl rfl rfl rfl rfl hl.1 rfl (Nat.le_of_ble_eq_true rfl) dX6_movesOf_2 ⟨Nat.le_of_ble_eq_true rfl, Nat.le_of_ble_eq_true rfl⟩ (fun H locs hP hD hS => ?_)
  refine W.eq (g2 := F0 m 5 ls [.int x1]) rfl ?_
  refine lv_istore_n (lv' := [(2, .int x1), (0, .ref a_o), (1, .int w1)]) hx hb dX6_movesOf_5 rfl hl (by decide) rfl (fun ls hl => ?_)
  refine lv_aload_n hx hb dX6_movesOf_6 rfl (lv_at hl 1 rfl) ?_
  refine va_get (D := D) (ci := 6) (v := .ref a_o_s) (C := RX6) (T := TX6) (N := 20) hx hb hts in_X6 hown hK hP 0 rfl rfl 1 (by decide) (hts _ mw_3_187) (fun _ h9 => h9) rfl dX6_movesOf_7 ?_
  refine lv_bipush (v := (7 : Int32)) hx hb dX6_movesOf_10 (by decide) ?_
  refine lv_iload_n hx hb dX6_movesOf_12 rfl (lv_at hl 2 rfl) ?_
  refine lv_iadd hx hb dX6_movesOf_13 ?_
  refine lv_iconst (v := (0 : Int32)) hx hb dX6_movesOf_14 (by decide) ?_
  refine cz_iast hx hb hK hP hD hS 1 0 rfl rfl (cz_wrE h).1 dX6_movesOf_15 (fun g3 H locs eg3 hP hD hS => ?_)
  replace h := cz_wrK eg3 h
  replace hP : va_P D vwCl [oX6 a_o a_o_refusals a_o_s a_o_image v_o_isImage a_o_tape a_o_read v_o_taped v_o_pos v_o_readWide v_o_readHigh a_o_innerOf a_o_whoseOf a_o_nearOf a_o_fromOf v_o_thirds a_o_pieceOf a_o_kept a_o_claimOf a_o_row v_o_rowed, aI cI a_o_s 151 g3, aI cI a_o_innerOf 120 f_o_innerOf, aI cI a_o_whoseOf 120 f_o_whoseOf, aI cI a_o_nearOf 360 f_o_nearOf, aI cI a_o_fromOf 360 f_o_fromOf, aI cI a_o_kept 120 f_o_kept] H := hP
  replace hD : va_D A [oX6 a_o a_o_refusals a_o_s a_o_image v_o_isImage a_o_tape a_o_read v_o_taped v_o_pos v_o_readWide v_o_readHigh a_o_innerOf a_o_whoseOf a_o_nearOf a_o_fromOf v_o_thirds a_o_pieceOf a_o_kept a_o_claimOf a_o_row v_o_rowed, aI cI a_o_s 151 g3, aI cI a_o_innerOf 120 f_o_innerOf, aI cI a_o_whoseOf 120 f_o_whoseOf, aI cI a_o_nearOf 360 f_o_nearOf, aI cI a_o_fromOf 360 f_o_fromOf, aI cI a_o_kept 120 f_o_kept] := hD
  refine lv_aload_n hx hb dX6_movesOf_16 rfl (lv_at hl 1 rfl) ?_
  obtain ⟨x4, g5, g6, g7, g8, hc9, h⟩ := cz_e5 h
  refine cz_callV (As := []) (rest := []) (is := [0, 1, 2, 3, 4, 5]) (isR := [6]) (rs := [aI cI a_o_kept 120 f_o_kept]) (as := [a_o, a_o_s, a_o_innerOf, a_o_whoseOf, a_o_nearOf, a_o_fromOf, a_o_kept]) (ws1 := [oX6 a_o a_o_refusals a_o_s a_o_image v_o_isImage a_o_tape a_o_read v_o_taped v_o_pos v_o_readWide v_o_readHigh a_o_innerOf a_o_whoseOf a_o_nearOf a_o_fromOf x4 a_o_pieceOf a_o_kept a_o_claimOf a_o_row v_o_rowed, aI cI a_o_s 151 g3, aI cI a_o_innerOf 120 g5, aI cI a_o_whoseOf 120 g6, aI cI a_o_nearOf 360 g7, aI cI a_o_fromOf 360 g8, aI cI a_o_kept 120 f_o_kept]) (q0 := 0) (ci := 6) ⟨hx, hb, hml, hown, hts⟩ (c_X6_find l D cI a_o a_o_s a_o_innerOf a_o_whoseOf a_o_nearOf a_o_fromOf a_o_refusals a_o_image a_o_tape a_o_read a_o_pieceOf a_o_kept a_o_claimOf a_o_row v_o_isImage v_o_taped v_o_pos v_o_readWide v_o_readHigh v_o_thirds v_o_rowed g3 f_o_innerOf f_o_whoseOf f_o_nearOf f_o_fromOf  n x4 g5 g6 g7 g8 hc9) mw_4_68 mw_4_70 mw_p_16 mw_1_8 mw_4_71 hd_X6_find ⟨Nat.le_of_ble_eq_true rfl, Nat.le_of_ble_eq_true rfl⟩ hK hN hP hD hS rfl rfl rfl rfl rfl rfl rfl rfl rfl rfl rfl rfl hl.1 rfl (Nat.le_of_ble_eq_true rfl) dX6_movesOf_17 ⟨Nat.le_of_ble_eq_true rfl, Nat.le_of_ble_eq_true rfl⟩ (fun H locs hP hD hS => ?_)
  refine W.eq (g2 := F0 m 20 ls []) rfl ?_
  refine lv_aload_n hx hb dX6_movesOf_20 rfl (lv_at hl 1 rfl) ?_
  refine va_get (D := D) (ci := 6) (v := .ref a_o_s) (C := RX6) (T := TX6) (N := 20) hx hb hts in_X6 hown hK hP 0 rfl rfl 1 (by decide) (hts _ mw_3_187) (fun _ h9 => h9) rfl dX6_movesOf_21 ?_
  refine lv_bipush (v := (7 : Int32)) hx hb dX6_movesOf_24 (by decide) ?_
  refine lv_iload_n hx hb dX6_movesOf_26 rfl (lv_at hl 2 rfl) ?_
  refine lv_iadd hx hb dX6_movesOf_27 ?_
  refine lv_iload_n hx hb dX6_movesOf_28 rfl (lv_at hl 0 rfl) ?_
  refine cz_iast hx hb hK hP hD hS 1 0 rfl rfl (cz_wrE h).1 dX6_movesOf_29 (fun g10 H locs eg10 hP hD hS => ?_)
  replace h := cz_wrK eg10 h
  replace hP : va_P D vwCl [oX6 a_o a_o_refusals a_o_s a_o_image v_o_isImage a_o_tape a_o_read v_o_taped v_o_pos v_o_readWide v_o_readHigh a_o_innerOf a_o_whoseOf a_o_nearOf a_o_fromOf x4 a_o_pieceOf a_o_kept a_o_claimOf a_o_row v_o_rowed, aI cI a_o_s 151 g10, aI cI a_o_innerOf 120 g5, aI cI a_o_whoseOf 120 g6, aI cI a_o_nearOf 360 g7, aI cI a_o_fromOf 360 g8, aI cI a_o_kept 120 f_o_kept] H := hP
  replace hD : va_D A [oX6 a_o a_o_refusals a_o_s a_o_image v_o_isImage a_o_tape a_o_read v_o_taped v_o_pos v_o_readWide v_o_readHigh a_o_innerOf a_o_whoseOf a_o_nearOf a_o_fromOf x4 a_o_pieceOf a_o_kept a_o_claimOf a_o_row v_o_rowed, aI cI a_o_s 151 g10, aI cI a_o_innerOf 120 g5, aI cI a_o_whoseOf 120 g6, aI cI a_o_nearOf 360 g7, aI cI a_o_fromOf 360 g8, aI cI a_o_kept 120 f_o_kept] := hD
  refine lv_iconst (v := (0 : Int32)) hx hb dX6_movesOf_30 (by decide) ?_
  refine lv_istore_n (lv' := [(3, .int (0 : Int32)), (2, .int x1), (0, .ref a_o), (1, .int w1)]) hx hb dX6_movesOf_31 rfl hl (by decide) rfl (fun ls hl => ?_)
  refine lv_iconst (v := (0 : Int32)) hx hb dX6_movesOf_32 (by decide) ?_
  refine lv_istore (lv' := [(4, .int (0 : Int32)), (3, .int (0 : Int32)), (2, .int x1), (0, .ref a_o), (1, .int w1)]) hx hb dX6_movesOf_33 hl (by decide) rfl (fun ls hl => ?_)
  obtain ⟨z13, hE14, hz15⟩ := cz_x2 h
  have hX16 : ∀ (y19 : Int32) (y20 : Int32) (H : Heap) (locs : List Loc) (ls : Array Slot), z13 = (y19, y20) → va_P D vwCl [oX6 a_o a_o_refusals a_o_s a_o_image v_o_isImage a_o_tape a_o_read v_o_taped v_o_pos v_o_readWide v_o_readHigh a_o_innerOf a_o_whoseOf a_o_nearOf a_o_fromOf x4 a_o_pieceOf a_o_kept a_o_claimOf a_o_row v_o_rowed, aI cI a_o_s 151 g10, aI cI a_o_innerOf 120 g5, aI cI a_o_whoseOf 120 g6, aI cI a_o_nearOf 360 g7, aI cI a_o_fromOf 360 g8, aI cI a_o_kept 120 f_o_kept] H → va_D A [oX6 a_o a_o_refusals a_o_s a_o_image v_o_isImage a_o_tape a_o_read v_o_taped v_o_pos v_o_readWide v_o_readHigh a_o_innerOf a_o_whoseOf a_o_nearOf a_o_fromOf x4 a_o_pieceOf a_o_kept a_o_claimOf a_o_row v_o_rowed, aI cI a_o_s 151 g10, aI cI a_o_innerOf 120 g5, aI cI a_o_whoseOf 120 g6, aI cI a_o_nearOf 360 g7, aI cI a_o_fromOf 360 g8, aI cI a_o_kept 120 f_o_kept] → va_S A s.heap H locs → lv_has ls 5 [(3, .int y19)] → W p l e (cz_rm 5 117) s m ag below meth c H locs 0 0 Q (F0 m 81 ls []) := by
    intro y19 y20 H locs ls h hP hD hS hl
    replace h := hz15 _ _ h
    refine lv_iload_n hx hb dX6_movesOf_81 rfl (lv_at hl 0 rfl) ?_
    obtain ⟨rfl, rfl, rfl, rfl, rfl, rfl, rfl⟩ := cz_j7 (cz_i h)
    exact hQ _ _ _ _ hP hS dX6_movesOf_82
  clear h
  have hL17 : ∀ (k : Nat) (x11 : Int32) (x12 : Int32) (H : Heap) (locs : List Loc) (ls : Array Slot), f_X6_movesOf_L35 n g10 g6 f_o_kept w1 k x11 x12 = some z13 → va_P D vwCl [oX6 a_o a_o_refusals a_o_s a_o_image v_o_isImage a_o_tape a_o_read v_o_taped v_o_pos v_o_readWide v_o_readHigh a_o_innerOf a_o_whoseOf a_o_nearOf a_o_fromOf x4 a_o_pieceOf a_o_kept a_o_claimOf a_o_row v_o_rowed, aI cI a_o_s 151 g10, aI cI a_o_innerOf 120 g5, aI cI a_o_whoseOf 120 g6, aI cI a_o_nearOf 360 g7, aI cI a_o_fromOf 360 g8, aI cI a_o_kept 120 f_o_kept] H → va_D A [oX6 a_o a_o_refusals a_o_s a_o_image v_o_isImage a_o_tape a_o_read v_o_taped v_o_pos v_o_readWide v_o_readHigh a_o_innerOf a_o_whoseOf a_o_nearOf a_o_fromOf x4 a_o_pieceOf a_o_kept a_o_claimOf a_o_row v_o_rowed, aI cI a_o_s 151 g10, aI cI a_o_innerOf 120 g5, aI cI a_o_whoseOf 120 g6, aI cI a_o_nearOf 360 g7, aI cI a_o_fromOf 360 g8, aI cI a_o_kept 120 f_o_kept] → va_S A s.heap H locs → lv_has ls 5 [(0, .ref a_o), (1, .int w1), (3, .int x11), (4, .int x12)] → W p l e (cz_rm 5 117) s m ag below meth c H locs 0 0 Q (F0 m 35 ls []) := by
    intro k
    induction k with
    | zero =>
      intro x11 x12 H locs ls h
      rw [f_X6_movesOf_L35] at h
      cases h
    | succ k ih21 =>
      intro x11 x12 H locs ls h hP hD hS hl
      rw [f_X6_movesOf_L35] at h
      refine lv_iload hx hb dX6_movesOf_35 (lv_at hl 3 rfl) ?_
      refine lv_aload_n hx hb dX6_movesOf_37 rfl (lv_at hl 0 rfl) ?_
      obtain ⟨x22, hc23, h⟩ := cz_e1 h
      refine cz_callV (As := []) (rest := [.int x12]) (is := [0, 1]) (isR := [2, 3, 4, 5, 6]) (rs := [aI cI a_o_innerOf 120 g5, aI cI a_o_whoseOf 120 g6, aI cI a_o_nearOf 360 g7, aI cI a_o_fromOf 360 g8, aI cI a_o_kept 120 f_o_kept]) (as := [a_o, a_o_s, a_o_innerOf, a_o_whoseOf, a_o_nearOf, a_o_fromOf, a_o_kept]) (ws1 := [oX6 a_o a_o_refusals a_o_s a_o_image v_o_isImage a_o_tape a_o_read v_o_taped v_o_pos v_o_readWide v_o_readHigh a_o_innerOf a_o_whoseOf a_o_nearOf a_o_fromOf x4 a_o_pieceOf a_o_kept a_o_claimOf a_o_row v_o_rowed, aI cI a_o_s 151 g10, aI cI a_o_innerOf 120 g5, aI cI a_o_whoseOf 120 g6, aI cI a_o_nearOf 360 g7, aI cI a_o_fromOf 360 g8, aI cI a_o_kept 120 f_o_kept]) (q0 := 0) (ci := 6) ⟨hx, hb, hml, hown, hts⟩ (c_X6_many l D cI a_o a_o_s a_o_refusals a_o_image a_o_tape a_o_read a_o_innerOf a_o_whoseOf a_o_nearOf a_o_fromOf a_o_pieceOf a_o_kept a_o_claimOf a_o_row v_o_isImage v_o_taped v_o_pos v_o_readWide v_o_readHigh x4 v_o_rowed g10  n x22 hc23) mw_4_27 mw_4_29 mw_p_12 mw_1_8 mw_4_30 hd_X6_many ⟨Nat.le_of_ble_eq_true rfl, Nat.le_of_ble_eq_true rfl⟩ hK hN hP hD hS rfl rfl rfl rfl rfl rfl rfl rfl rfl rfl rfl rfl hl.1 rfl (Nat.le_of_ble_eq_true rfl) dX6_movesOf_38 ⟨Nat.le_of_ble_eq_true rfl, Nat.le_of_ble_eq_true rfl⟩ (fun H locs hP hD hS => ?_)
      refine W.eq (g2 := F0 m 41 ls [.int x22, .int x12]) rfl ?_
      refine lv_icmp_ge (tgt := 81) hx hb dX6_movesOf_41 (by decide) (fun c24 => ?_) (fun c24 => ?_)
      · replace h := cz_t c24 h
        exact hX16 _ _ _ _ _ (cz_i h).symm hP hD hS (lv_sub hl [2] rfl)
      · replace h := cz_f c24 h
        refine lv_iload_n hx hb dX6_movesOf_44 rfl (lv_at hl 2 rfl) ?_
        refine lv_iload hx hb dX6_movesOf_45 (lv_at hl 3 rfl) ?_
        refine lv_iload_n hx hb dX6_movesOf_47 rfl (lv_at hl 1 rfl) ?_
        obtain ⟨z29, hE27, hz26⟩ := cz_x1 h
        have hJ28 : ∀ (x25 : Int32) (H : Heap) (locs : List Loc) (ls : Array Slot), z29 = x25 → va_P D vwCl [oX6 a_o a_o_refusals a_o_s a_o_image v_o_isImage a_o_tape a_o_read v_o_taped v_o_pos v_o_readWide v_o_readHigh a_o_innerOf a_o_whoseOf a_o_nearOf a_o_fromOf x4 a_o_pieceOf a_o_kept a_o_claimOf a_o_row v_o_rowed, aI cI a_o_s 151 g10, aI cI a_o_innerOf 120 g5, aI cI a_o_whoseOf 120 g6, aI cI a_o_nearOf 360 g7, aI cI a_o_fromOf 360 g8, aI cI a_o_kept 120 f_o_kept] H → va_D A [oX6 a_o a_o_refusals a_o_s a_o_image v_o_isImage a_o_tape a_o_read v_o_taped v_o_pos v_o_readWide v_o_readHigh a_o_innerOf a_o_whoseOf a_o_nearOf a_o_fromOf x4 a_o_pieceOf a_o_kept a_o_claimOf a_o_row v_o_rowed, aI cI a_o_s 151 g10, aI cI a_o_innerOf 120 g5, aI cI a_o_whoseOf 120 g6, aI cI a_o_nearOf 360 g7, aI cI a_o_fromOf 360 g8, aI cI a_o_kept 120 f_o_kept] → va_S A s.heap H locs → lv_has ls 5 [(0, .ref a_o), (1, .int w1), (4, .int x12)] → W p l e (cz_rm 5 117) s m ag below meth c H locs 0 0 Q (F0 m 73 ls [.int x25, .int x11]) := by
          intro x25 H locs ls h hP hD hS hl
          replace h := hz26 _ h
          refine lv_iadd hx hb dX6_movesOf_73 ?_
          refine lv_topi (fun x30 ex30 => ?_)
          replace h := cz_ltE ex30 h
          refine lv_istore_n (lv' := [(3, .int x30), (0, .ref a_o), (1, .int w1), (4, .int x12)]) hx hb dX6_movesOf_74 rfl hl (by decide) rfl (fun ls hl => ?_)
          obtain ⟨x31, ex31⟩ : ∃ z : Int32, z = x12 + (1 : Int32) := ⟨_, rfl⟩
          replace h := cz_ltE ex31 h
          refine lv_iinc (v := x31) (lv' := [(4, .int x31), (3, .int x30), (0, .ref a_o), (1, .int w1)]) hx hb dX6_movesOf_75 hl (k := 3) rfl (by rw [ex31]; rfl) (by decide) rfl (fun ls hl => ?_)
          refine lv_goto (tgt := 35) hx hb dX6_movesOf_78 (by decide) ?_
          exact ih21 _ _ _ _ _ h hP hD hS (lv_sub hl [2, 3, 1, 0] rfl)
        clear h
        have h := hE27
        refine lv_icmp_eq (tgt := 72) hx hb dX6_movesOf_48 (by decide) (fun c32 => ?_) (fun c32 => ?_)
        · replace h := cz_t c32 h
          refine lv_iconst (v := (0 : Int32)) hx hb dX6_movesOf_72 (by decide) ?_
          exact hJ28 _ _ _ _ (cz_i h).symm hP hD hS (lv_sub hl [0, 1, 3] rfl)
        · replace h := cz_f c32 h
          refine lv_aload_n hx hb dX6_movesOf_51 rfl (lv_at hl 0 rfl) ?_
          refine va_get (D := D) (ci := 6) (v := .ref a_o_whoseOf) (C := RX6) (T := TX6) (N := 20) hx hb hts in_X6 hown hK hP 0 rfl rfl 11 (by decide) (hts _ mw_3_197) (fun _ h9 => h9) rfl dX6_movesOf_52 ?_
          refine lv_iload hx hb dX6_movesOf_55 (lv_at hl 3 rfl) ?_
          refine cz_iald hx hb hK hP 3 0 rfl rfl (cz_rdE h).1 dX6_movesOf_57 (fun x33 ex33 => ?_)
          replace h := cz_rdK ex33 h
          refine lv_aload_n hx hb dX6_movesOf_58 rfl (lv_at hl 0 rfl) ?_
          refine va_get (D := D) (ci := 6) (v := .ref a_o_kept) (C := RX6) (T := TX6) (N := 20) hx hb hts in_X6 hown hK hP 0 rfl rfl 16 (by decide) (hts _ mw_3_202) (fun _ h9 => h9) rfl dX6_movesOf_59 ?_
          refine lv_iload hx hb dX6_movesOf_62 (lv_at hl 3 rfl) ?_
          refine cz_iald hx hb hK hP 6 0 rfl rfl (cz_rdE h).1 dX6_movesOf_64 (fun x34 ex34 => ?_)
          replace h := cz_rdK ex34 h
          refine lv_icmp_eq (tgt := 72) hx hb dX6_movesOf_65 (by decide) (fun c35 => ?_) (fun c35 => ?_)
          · replace h := cz_t c35 h
            refine lv_iconst (v := (0 : Int32)) hx hb dX6_movesOf_72 (by decide) ?_
            exact hJ28 _ _ _ _ (cz_i h).symm hP hD hS (lv_sub hl [0, 1, 3] rfl)
          · replace h := cz_f c35 h
            refine lv_iconst (v := (1 : Int32)) hx hb dX6_movesOf_68 (by decide) ?_
            refine lv_goto (tgt := 73) hx hb dX6_movesOf_69 (by decide) ?_
            exact hJ28 _ _ _ _ (cz_i h).symm hP hD hS (lv_sub hl [0, 1, 3] rfl)
  exact hL17 n _ _ _ _ _ hE14 hP hD hS (lv_sub hl [3, 4, 1, 0] rfl)
set_option maxHeartbeats 4000000 in
set_option maxRecDepth 100000 in
theorem c_X6_keeps (l : Launch) (D : va_G) (cI : ClassId) (a_o a_o_s a_o_innerOf a_o_whoseOf a_o_nearOf a_o_fromOf a_o_kept a_o_refusals a_o_image a_o_tape a_o_read a_o_pieceOf a_o_claimOf a_o_row : Nat) (v_o_isImage : Int32) (v_o_taped : Int32) (v_o_pos : Int32) (v_o_readWide : Int32) (v_o_readHigh : Int32) (v_o_thirds : Int32) (v_o_rowed : Int32) (f_o_s : (Nat → Int32)) (f_o_innerOf : (Nat → Int32)) (f_o_whoseOf : (Nat → Int32)) (f_o_nearOf : (Nat → Int32)) (f_o_fromOf : (Nat → Int32)) (f_o_kept : (Nat → Int32)) (n : Nat) (r_v_o_thirds : Int32) (r_f_o_innerOf : (Nat → Int32)) (r_f_o_whoseOf : (Nat → Int32)) (r_f_o_nearOf : (Nat → Int32)) (r_f_o_fromOf : (Nat → Int32)) (r_f_o_kept : (Nat → Int32)) (h : f_X6_keeps n v_o_thirds f_o_s f_o_innerOf f_o_whoseOf f_o_nearOf f_o_fromOf f_o_kept = some (r_v_o_thirds, r_f_o_innerOf, r_f_o_whoseOf, r_f_o_nearOf, r_f_o_fromOf, r_f_o_kept)) : cz_M l yX6_keeps cX6_keeps 2 none 5 117 D cI [.ref a_o] [oX6 a_o a_o_refusals a_o_s a_o_image v_o_isImage a_o_tape a_o_read v_o_taped v_o_pos v_o_readWide v_o_readHigh a_o_innerOf a_o_whoseOf a_o_nearOf a_o_fromOf v_o_thirds a_o_pieceOf a_o_kept a_o_claimOf a_o_row v_o_rowed, aI cI a_o_s 151 f_o_s, aI cI a_o_innerOf 120 f_o_innerOf, aI cI a_o_whoseOf 120 f_o_whoseOf, aI cI a_o_nearOf 360 f_o_nearOf, aI cI a_o_fromOf 360 f_o_fromOf, aI cI a_o_kept 120 f_o_kept] none [oX6 a_o a_o_refusals a_o_s a_o_image v_o_isImage a_o_tape a_o_read v_o_taped v_o_pos v_o_readWide v_o_readHigh a_o_innerOf a_o_whoseOf a_o_nearOf a_o_fromOf r_v_o_thirds a_o_pieceOf a_o_kept a_o_claimOf a_o_row v_o_rowed, aI cI a_o_s 151 f_o_s, aI cI a_o_innerOf 120 r_f_o_innerOf, aI cI a_o_whoseOf 120 r_f_o_whoseOf, aI cI a_o_nearOf 360 r_f_o_nearOf, aI cI a_o_fromOf 360 r_f_o_fromOf, aI cI a_o_kept 120 r_f_o_kept] := by
  refine cz_startV (by decide) (Nat.le_of_ble_eq_true rfl) ?_
  intro p e s m ag below meth c A Q hx hb hml hown hts hK hN hQ H locs hP hD hS ls hl
  replace hown : s.vm.findClass RX6 = some m.cls := hown
  replace hl : lv_has ls 2 [(0, .ref a_o)] := hl
  unfold f_X6_keeps at h
  refine lv_aload_n hx hb dX6_keeps_0 rfl (lv_at hl 0 rfl) ?_
  obtain ⟨x1, g2, g3, g4, g5, hc6, h⟩ := cz_e5 h
  refine cz_callV (As := []) (rest := []) (is := [0, 1, 2, 3, 4, 5]) (isR := [6]) (rs := [aI cI a_o_kept 120 f_o_kept]) (as := [a_o, a_o_s, a_o_innerOf, a_o_whoseOf, a_o_nearOf, a_o_fromOf, a_o_kept]) (ws1 := [oX6 a_o a_o_refusals a_o_s a_o_image v_o_isImage a_o_tape a_o_read v_o_taped v_o_pos v_o_readWide v_o_readHigh a_o_innerOf a_o_whoseOf a_o_nearOf a_o_fromOf x1 a_o_pieceOf a_o_kept a_o_claimOf a_o_row v_o_rowed, aI cI a_o_s 151 f_o_s, aI cI a_o_innerOf 120 g2, aI cI a_o_whoseOf 120 g3, aI cI a_o_nearOf 360 g4, aI cI a_o_fromOf 360 g5, aI cI a_o_kept 120 f_o_kept]) (q0 := 0) (ci := 6) ⟨hx, hb, hml, hown, hts⟩ (c_X6_find l D cI a_o a_o_s a_o_innerOf a_o_whoseOf a_o_nearOf a_o_fromOf a_o_refusals a_o_image a_o_tape a_o_read a_o_pieceOf a_o_kept a_o_claimOf a_o_row v_o_isImage v_o_taped v_o_pos v_o_readWide v_o_readHigh v_o_thirds v_o_rowed f_o_s f_o_innerOf f_o_whoseOf f_o_nearOf f_o_fromOf  n x1 g2 g3 g4 g5 hc6) mw_4_68 mw_4_70 mw_p_16 mw_1_8 mw_4_71 hd_X6_find ⟨Nat.le_of_ble_eq_true rfl, Nat.le_of_ble_eq_true rfl⟩ hK hN hP hD hS rfl rfl rfl rfl rfl rfl rfl rfl rfl rfl rfl rfl hl.1 rfl (Nat.le_of_ble_eq_true rfl) dX6_keeps_1 ⟨Nat.le_of_ble_eq_true rfl, Nat.le_of_ble_eq_true rfl⟩ (fun H locs hP hD hS => ?_)
  refine W.eq (g2 := F0 m 4 ls []) rfl ?_
  refine lv_iconst (v := (0 : Int32)) hx hb dX6_keeps_4 (by decide) ?_
  refine lv_istore_n (lv' := [(1, .int (0 : Int32)), (0, .ref a_o)]) hx hb dX6_keeps_5 rfl hl (by decide) rfl (fun ls hl => ?_)
  obtain ⟨z9, hE10, hz11⟩ := cz_x2 h
  have hX12 : ∀ (y15 : Int32) (q16 : (Nat → Int32)) (H : Heap) (locs : List Loc) (ls : Array Slot), z9 = (y15, q16) → va_P D vwCl [oX6 a_o a_o_refusals a_o_s a_o_image v_o_isImage a_o_tape a_o_read v_o_taped v_o_pos v_o_readWide v_o_readHigh a_o_innerOf a_o_whoseOf a_o_nearOf a_o_fromOf x1 a_o_pieceOf a_o_kept a_o_claimOf a_o_row v_o_rowed, aI cI a_o_s 151 f_o_s, aI cI a_o_innerOf 120 g2, aI cI a_o_whoseOf 120 g3, aI cI a_o_nearOf 360 g4, aI cI a_o_fromOf 360 g5, aI cI a_o_kept 120 q16] H → va_D A [oX6 a_o a_o_refusals a_o_s a_o_image v_o_isImage a_o_tape a_o_read v_o_taped v_o_pos v_o_readWide v_o_readHigh a_o_innerOf a_o_whoseOf a_o_nearOf a_o_fromOf x1 a_o_pieceOf a_o_kept a_o_claimOf a_o_row v_o_rowed, aI cI a_o_s 151 f_o_s, aI cI a_o_innerOf 120 g2, aI cI a_o_whoseOf 120 g3, aI cI a_o_nearOf 360 g4, aI cI a_o_fromOf 360 g5, aI cI a_o_kept 120 q16] → va_S A s.heap H locs → lv_has ls 2 [] → W p l e (cz_rm 5 117) s m ag below meth c H locs 0 0 Q (F0 m 32 ls []) := by
    intro y15 q16 H locs ls h hP hD hS hl
    replace h := hz11 _ _ h
    obtain ⟨rfl, rfl, rfl, rfl, rfl, rfl⟩ := cz_j6 (cz_i h)
    exact hQ _ _ _ _ hP hS dX6_keeps_32
  clear h
  have hL13 : ∀ (k : Nat) (x7 : Int32) (g8 : (Nat → Int32)) (H : Heap) (locs : List Loc) (ls : Array Slot), f_X6_keeps_L6 n f_o_s g3 k x7 g8 = some z9 → va_P D vwCl [oX6 a_o a_o_refusals a_o_s a_o_image v_o_isImage a_o_tape a_o_read v_o_taped v_o_pos v_o_readWide v_o_readHigh a_o_innerOf a_o_whoseOf a_o_nearOf a_o_fromOf x1 a_o_pieceOf a_o_kept a_o_claimOf a_o_row v_o_rowed, aI cI a_o_s 151 f_o_s, aI cI a_o_innerOf 120 g2, aI cI a_o_whoseOf 120 g3, aI cI a_o_nearOf 360 g4, aI cI a_o_fromOf 360 g5, aI cI a_o_kept 120 g8] H → va_D A [oX6 a_o a_o_refusals a_o_s a_o_image v_o_isImage a_o_tape a_o_read v_o_taped v_o_pos v_o_readWide v_o_readHigh a_o_innerOf a_o_whoseOf a_o_nearOf a_o_fromOf x1 a_o_pieceOf a_o_kept a_o_claimOf a_o_row v_o_rowed, aI cI a_o_s 151 f_o_s, aI cI a_o_innerOf 120 g2, aI cI a_o_whoseOf 120 g3, aI cI a_o_nearOf 360 g4, aI cI a_o_fromOf 360 g5, aI cI a_o_kept 120 g8] → va_S A s.heap H locs → lv_has ls 2 [(0, .ref a_o), (1, .int x7)] → W p l e (cz_rm 5 117) s m ag below meth c H locs 0 0 Q (F0 m 6 ls []) := by
    intro k
    induction k with
    | zero =>
      intro x7 g8 H locs ls h
      rw [f_X6_keeps_L6] at h
      cases h
    | succ k ih17 =>
      intro x7 g8 H locs ls h hP hD hS hl
      rw [f_X6_keeps_L6] at h
      refine lv_iload_n hx hb dX6_keeps_6 rfl (lv_at hl 1 rfl) ?_
      refine lv_aload_n hx hb dX6_keeps_7 rfl (lv_at hl 0 rfl) ?_
      obtain ⟨x18, hc19, h⟩ := cz_e1 h
      refine cz_callV (As := []) (rest := [.int x7]) (is := [0, 1]) (isR := [2, 3, 4, 5, 6]) (rs := [aI cI a_o_innerOf 120 g2, aI cI a_o_whoseOf 120 g3, aI cI a_o_nearOf 360 g4, aI cI a_o_fromOf 360 g5, aI cI a_o_kept 120 g8]) (as := [a_o, a_o_s, a_o_innerOf, a_o_whoseOf, a_o_nearOf, a_o_fromOf, a_o_kept]) (ws1 := [oX6 a_o a_o_refusals a_o_s a_o_image v_o_isImage a_o_tape a_o_read v_o_taped v_o_pos v_o_readWide v_o_readHigh a_o_innerOf a_o_whoseOf a_o_nearOf a_o_fromOf x1 a_o_pieceOf a_o_kept a_o_claimOf a_o_row v_o_rowed, aI cI a_o_s 151 f_o_s, aI cI a_o_innerOf 120 g2, aI cI a_o_whoseOf 120 g3, aI cI a_o_nearOf 360 g4, aI cI a_o_fromOf 360 g5, aI cI a_o_kept 120 g8]) (q0 := 0) (ci := 6) ⟨hx, hb, hml, hown, hts⟩ (c_X6_many l D cI a_o a_o_s a_o_refusals a_o_image a_o_tape a_o_read a_o_innerOf a_o_whoseOf a_o_nearOf a_o_fromOf a_o_pieceOf a_o_kept a_o_claimOf a_o_row v_o_isImage v_o_taped v_o_pos v_o_readWide v_o_readHigh x1 v_o_rowed f_o_s  n x18 hc19) mw_4_27 mw_4_29 mw_p_12 mw_1_8 mw_4_30 hd_X6_many ⟨Nat.le_of_ble_eq_true rfl, Nat.le_of_ble_eq_true rfl⟩ hK hN hP hD hS rfl rfl rfl rfl rfl rfl rfl rfl rfl rfl rfl rfl hl.1 rfl (Nat.le_of_ble_eq_true rfl) dX6_keeps_8 ⟨Nat.le_of_ble_eq_true rfl, Nat.le_of_ble_eq_true rfl⟩ (fun H locs hP hD hS => ?_)
      refine W.eq (g2 := F0 m 11 ls [.int x18, .int x7]) rfl ?_
      refine lv_icmp_ge (tgt := 32) hx hb dX6_keeps_11 (by decide) (fun c20 => ?_) (fun c20 => ?_)
      · replace h := cz_t c20 h
        exact hX12 _ _ _ _ _ (cz_i h).symm hP hD hS (lv_sub hl [] rfl)
      · replace h := cz_f c20 h
        refine lv_aload_n hx hb dX6_keeps_14 rfl (lv_at hl 0 rfl) ?_
        refine va_get (D := D) (ci := 6) (v := .ref a_o_kept) (C := RX6) (T := TX6) (N := 20) hx hb hts in_X6 hown hK hP 0 rfl rfl 16 (by decide) (hts _ mw_3_202) (fun _ h9 => h9) rfl dX6_keeps_15 ?_
        refine lv_iload_n hx hb dX6_keeps_18 rfl (lv_at hl 1 rfl) ?_
        refine lv_aload_n hx hb dX6_keeps_19 rfl (lv_at hl 0 rfl) ?_
        refine va_get (D := D) (ci := 6) (v := .ref a_o_whoseOf) (C := RX6) (T := TX6) (N := 20) hx hb hts in_X6 hown hK hP 0 rfl rfl 11 (by decide) (hts _ mw_3_197) (fun _ h9 => h9) rfl dX6_keeps_20 ?_
        refine lv_iload_n hx hb dX6_keeps_23 rfl (lv_at hl 1 rfl) ?_
        refine cz_iald hx hb hK hP 3 0 rfl rfl (cz_rdE h).1 dX6_keeps_24 (fun x21 ex21 => ?_)
        replace h := cz_rdK ex21 h
        refine cz_iast hx hb hK hP hD hS 6 0 rfl rfl (cz_wrE h).1 dX6_keeps_25 (fun g22 H locs eg22 hP hD hS => ?_)
        replace h := cz_wrK eg22 h
        replace hP : va_P D vwCl [oX6 a_o a_o_refusals a_o_s a_o_image v_o_isImage a_o_tape a_o_read v_o_taped v_o_pos v_o_readWide v_o_readHigh a_o_innerOf a_o_whoseOf a_o_nearOf a_o_fromOf x1 a_o_pieceOf a_o_kept a_o_claimOf a_o_row v_o_rowed, aI cI a_o_s 151 f_o_s, aI cI a_o_innerOf 120 g2, aI cI a_o_whoseOf 120 g3, aI cI a_o_nearOf 360 g4, aI cI a_o_fromOf 360 g5, aI cI a_o_kept 120 g22] H := hP
        replace hD : va_D A [oX6 a_o a_o_refusals a_o_s a_o_image v_o_isImage a_o_tape a_o_read v_o_taped v_o_pos v_o_readWide v_o_readHigh a_o_innerOf a_o_whoseOf a_o_nearOf a_o_fromOf x1 a_o_pieceOf a_o_kept a_o_claimOf a_o_row v_o_rowed, aI cI a_o_s 151 f_o_s, aI cI a_o_innerOf 120 g2, aI cI a_o_whoseOf 120 g3, aI cI a_o_nearOf 360 g4, aI cI a_o_fromOf 360 g5, aI cI a_o_kept 120 g22] := hD
        obtain ⟨x23, ex23⟩ : ∃ z : Int32, z = x7 + (1 : Int32) := ⟨_, rfl⟩
        replace h := cz_ltE ex23 h
        refine lv_iinc (v := x23) (lv' := [(1, .int x23), (0, .ref a_o)]) hx hb dX6_keeps_26 hl (k := 1) rfl (by rw [ex23]; rfl) (by decide) rfl (fun ls hl => ?_)
        refine lv_goto (tgt := 6) hx hb dX6_keeps_29 (by decide) ?_
        exact ih17 _ _ _ _ _ h hP hD hS (lv_sub hl [1, 0] rfl)
  exact hL13 n _ _ _ _ _ hE10 hP hD hS (lv_sub hl [1, 0] rfl)
set_option maxHeartbeats 4000000 in
set_option maxRecDepth 100000 in
theorem c_X6_moves (l : Launch) (D : va_G) (cI : ClassId) (a_o a_o_refusals a_o_s a_o_innerOf a_o_whoseOf a_o_nearOf a_o_fromOf a_o_kept a_o_image a_o_tape a_o_read a_o_pieceOf a_o_claimOf a_o_row : Nat) (v_o_isImage : Int32) (v_o_taped : Int32) (v_o_pos : Int32) (v_o_readWide : Int32) (v_o_readHigh : Int32) (v_o_thirds : Int32) (v_o_rowed : Int32) (f_o_refusals : (Nat → Int32)) (f_o_s : (Nat → Int32)) (f_o_innerOf : (Nat → Int32)) (f_o_whoseOf : (Nat → Int32)) (f_o_nearOf : (Nat → Int32)) (f_o_fromOf : (Nat → Int32)) (f_o_kept : (Nat → Int32)) (w1 : Int32) (n : Nat) (r : Int32) (r_v_o_thirds : Int32) (r_f_o_refusals : (Nat → Int32)) (r_f_o_s : (Nat → Int32)) (r_f_o_innerOf : (Nat → Int32)) (r_f_o_whoseOf : (Nat → Int32)) (r_f_o_nearOf : (Nat → Int32)) (r_f_o_fromOf : (Nat → Int32)) (r_f_o_kept : (Nat → Int32)) (h : f_X6_moves n v_o_thirds f_o_refusals f_o_s f_o_innerOf f_o_whoseOf f_o_nearOf f_o_fromOf f_o_kept w1 = some (r, r_v_o_thirds, r_f_o_refusals, r_f_o_s, r_f_o_innerOf, r_f_o_whoseOf, r_f_o_nearOf, r_f_o_fromOf, r_f_o_kept)) : cz_M l yX6_moves cX6_moves 2 (some .int) 6 141 D cI [.ref a_o, .int w1] [oX6 a_o a_o_refusals a_o_s a_o_image v_o_isImage a_o_tape a_o_read v_o_taped v_o_pos v_o_readWide v_o_readHigh a_o_innerOf a_o_whoseOf a_o_nearOf a_o_fromOf v_o_thirds a_o_pieceOf a_o_kept a_o_claimOf a_o_row v_o_rowed, aI cI a_o_refusals 7 f_o_refusals, aI cI a_o_s 151 f_o_s, aI cI a_o_innerOf 120 f_o_innerOf, aI cI a_o_whoseOf 120 f_o_whoseOf, aI cI a_o_nearOf 360 f_o_nearOf, aI cI a_o_fromOf 360 f_o_fromOf, aI cI a_o_kept 120 f_o_kept] (some (.int r)) [oX6 a_o a_o_refusals a_o_s a_o_image v_o_isImage a_o_tape a_o_read v_o_taped v_o_pos v_o_readWide v_o_readHigh a_o_innerOf a_o_whoseOf a_o_nearOf a_o_fromOf r_v_o_thirds a_o_pieceOf a_o_kept a_o_claimOf a_o_row v_o_rowed, aI cI a_o_refusals 7 r_f_o_refusals, aI cI a_o_s 151 r_f_o_s, aI cI a_o_innerOf 120 r_f_o_innerOf, aI cI a_o_whoseOf 120 r_f_o_whoseOf, aI cI a_o_nearOf 360 r_f_o_nearOf, aI cI a_o_fromOf 360 r_f_o_fromOf, aI cI a_o_kept 120 r_f_o_kept] := by
  refine cz_startI (by decide) (Nat.le_of_ble_eq_true rfl) ?_
  intro p e s m ag below meth c A Q hx hb hml hown hts hK hN hQ H locs hP hD hS ls hl
  replace hown : s.vm.findClass RX6 = some m.cls := hown
  replace hl : lv_has ls 2 [(0, .ref a_o), (1, .int w1)] := hl
  unfold f_X6_moves at h
  refine lv_aload_n hx hb dX6_moves_0 rfl (lv_at hl 0 rfl) ?_
  refine lv_iload_n hx hb dX6_moves_1 rfl (lv_at hl 1 rfl) ?_
  obtain ⟨x1, hc2, h⟩ := cz_e1 h
  refine cz_callV (As := [.int w1]) (rest := []) (is := [0, 2]) (isR := [1, 3, 4, 5, 6, 7]) (rs := [aI cI a_o_refusals 7 f_o_refusals, aI cI a_o_innerOf 120 f_o_innerOf, aI cI a_o_whoseOf 120 f_o_whoseOf, aI cI a_o_nearOf 360 f_o_nearOf, aI cI a_o_fromOf 360 f_o_fromOf, aI cI a_o_kept 120 f_o_kept]) (as := [a_o, a_o_refusals, a_o_s, a_o_innerOf, a_o_whoseOf, a_o_nearOf, a_o_fromOf, a_o_kept]) (ws1 := [oX6 a_o a_o_refusals a_o_s a_o_image v_o_isImage a_o_tape a_o_read v_o_taped v_o_pos v_o_readWide v_o_readHigh a_o_innerOf a_o_whoseOf a_o_nearOf a_o_fromOf v_o_thirds a_o_pieceOf a_o_kept a_o_claimOf a_o_row v_o_rowed, aI cI a_o_refusals 7 f_o_refusals, aI cI a_o_s 151 f_o_s, aI cI a_o_innerOf 120 f_o_innerOf, aI cI a_o_whoseOf 120 f_o_whoseOf, aI cI a_o_nearOf 360 f_o_nearOf, aI cI a_o_fromOf 360 f_o_fromOf, aI cI a_o_kept 120 f_o_kept]) (q0 := 0) (ci := 6) ⟨hx, hb, hml, hown, hts⟩ (c_X6_isCell l D cI a_o a_o_s a_o_refusals a_o_image a_o_tape a_o_read a_o_innerOf a_o_whoseOf a_o_nearOf a_o_fromOf a_o_pieceOf a_o_kept a_o_claimOf a_o_row v_o_isImage v_o_taped v_o_pos v_o_readWide v_o_readHigh v_o_thirds v_o_rowed f_o_s w1 n x1 hc2) mw_4_35 mw_4_37 mw_p_13 mw_1_8 mw_4_38 hd_X6_isCell ⟨Nat.le_of_ble_eq_true rfl, Nat.le_of_ble_eq_true rfl⟩ hK hN hP hD hS rfl rfl rfl rfl rfl rfl rfl rfl rfl rfl rfl rfl hl.1 rfl (Nat.le_of_ble_eq_true rfl) dX6_moves_2 ⟨Nat.le_of_ble_eq_true rfl, Nat.le_of_ble_eq_true rfl⟩ (fun H locs hP hD hS => ?_)
  refine W.eq (g2 := F0 m 5 ls [.int x1]) rfl ?_
  refine lv_if_ne (tgt := 14) hx hb dX6_moves_5 (by decide) (fun c3 => ?_) (fun c3 => ?_)
  · replace h := cz_f c3 h
    refine lv_aload_n hx hb dX6_moves_14 rfl (lv_at hl 0 rfl) ?_
    refine lv_aload_n hx hb dX6_moves_15 rfl (lv_at hl 0 rfl) ?_
    refine lv_iload_n hx hb dX6_moves_16 rfl (lv_at hl 1 rfl) ?_
    obtain ⟨x4, hc5, h⟩ := cz_e1 h
    refine cz_callV (As := [.int w1]) (rest := [.ref a_o]) (is := [0, 2]) (isR := [1, 3, 4, 5, 6, 7]) (rs := [aI cI a_o_refusals 7 f_o_refusals, aI cI a_o_innerOf 120 f_o_innerOf, aI cI a_o_whoseOf 120 f_o_whoseOf, aI cI a_o_nearOf 360 f_o_nearOf, aI cI a_o_fromOf 360 f_o_fromOf, aI cI a_o_kept 120 f_o_kept]) (as := [a_o, a_o_refusals, a_o_s, a_o_innerOf, a_o_whoseOf, a_o_nearOf, a_o_fromOf, a_o_kept]) (ws1 := [oX6 a_o a_o_refusals a_o_s a_o_image v_o_isImage a_o_tape a_o_read v_o_taped v_o_pos v_o_readWide v_o_readHigh a_o_innerOf a_o_whoseOf a_o_nearOf a_o_fromOf v_o_thirds a_o_pieceOf a_o_kept a_o_claimOf a_o_row v_o_rowed, aI cI a_o_refusals 7 f_o_refusals, aI cI a_o_s 151 f_o_s, aI cI a_o_innerOf 120 f_o_innerOf, aI cI a_o_whoseOf 120 f_o_whoseOf, aI cI a_o_nearOf 360 f_o_nearOf, aI cI a_o_fromOf 360 f_o_fromOf, aI cI a_o_kept 120 f_o_kept]) (q0 := 0) (ci := 6) ⟨hx, hb, hml, hown, hts⟩ (c_X6_of l D cI a_o a_o_s a_o_refusals a_o_image a_o_tape a_o_read a_o_innerOf a_o_whoseOf a_o_nearOf a_o_fromOf a_o_pieceOf a_o_kept a_o_claimOf a_o_row v_o_isImage v_o_taped v_o_pos v_o_readWide v_o_readHigh v_o_thirds v_o_rowed f_o_s w1 n x4 hc5) mw_4_39 mw_4_41 mw_p_14 mw_1_8 mw_4_42 hd_X6_of ⟨Nat.le_of_ble_eq_true rfl, Nat.le_of_ble_eq_true rfl⟩ hK hN hP hD hS rfl rfl rfl rfl rfl rfl rfl rfl rfl rfl rfl rfl hl.1 rfl (Nat.le_of_ble_eq_true rfl) dX6_moves_17 ⟨Nat.le_of_ble_eq_true rfl, Nat.le_of_ble_eq_true rfl⟩ (fun H locs hP hD hS => ?_)
    refine W.eq (g2 := F0 m 20 ls [.int x4, .ref a_o]) rfl ?_
    obtain ⟨x6, hc7, h⟩ := cz_e1 h
    refine cz_callV (As := [.int x4]) (rest := []) (is := [0, 2]) (isR := [1, 3, 4, 5, 6, 7]) (rs := [aI cI a_o_refusals 7 f_o_refusals, aI cI a_o_innerOf 120 f_o_innerOf, aI cI a_o_whoseOf 120 f_o_whoseOf, aI cI a_o_nearOf 360 f_o_nearOf, aI cI a_o_fromOf 360 f_o_fromOf, aI cI a_o_kept 120 f_o_kept]) (as := [a_o, a_o_refusals, a_o_s, a_o_innerOf, a_o_whoseOf, a_o_nearOf, a_o_fromOf, a_o_kept]) (ws1 := [oX6 a_o a_o_refusals a_o_s a_o_image v_o_isImage a_o_tape a_o_read v_o_taped v_o_pos v_o_readWide v_o_readHigh a_o_innerOf a_o_whoseOf a_o_nearOf a_o_fromOf v_o_thirds a_o_pieceOf a_o_kept a_o_claimOf a_o_row v_o_rowed, aI cI a_o_refusals 7 f_o_refusals, aI cI a_o_s 151 f_o_s, aI cI a_o_innerOf 120 f_o_innerOf, aI cI a_o_whoseOf 120 f_o_whoseOf, aI cI a_o_nearOf 360 f_o_nearOf, aI cI a_o_fromOf 360 f_o_fromOf, aI cI a_o_kept 120 f_o_kept]) (q0 := 0) (ci := 6) ⟨hx, hb, hml, hown, hts⟩ (c_X6_at l D cI a_o a_o_s a_o_refusals a_o_image a_o_tape a_o_read a_o_innerOf a_o_whoseOf a_o_nearOf a_o_fromOf a_o_pieceOf a_o_kept a_o_claimOf a_o_row v_o_isImage v_o_taped v_o_pos v_o_readWide v_o_readHigh v_o_thirds v_o_rowed f_o_s x4 n x6 hc7) mw_4_43 mw_4_45 mw_p_15 mw_1_8 mw_4_46 hd_X6_at ⟨Nat.le_of_ble_eq_true rfl, Nat.le_of_ble_eq_true rfl⟩ hK hN hP hD hS rfl rfl rfl rfl rfl rfl rfl rfl rfl rfl rfl rfl hl.1 rfl (Nat.le_of_ble_eq_true rfl) dX6_moves_20 ⟨Nat.le_of_ble_eq_true rfl, Nat.le_of_ble_eq_true rfl⟩ (fun H locs hP hD hS => ?_)
    refine W.eq (g2 := F0 m 23 ls [.int x6]) rfl ?_
    refine lv_if_eq (tgt := 40) hx hb dX6_moves_23 (by decide) (fun c8 => ?_) (fun c8 => ?_)
    · replace h := cz_t c8 h
      refine lv_aload_n hx hb dX6_moves_40 rfl (lv_at hl 0 rfl) ?_
      refine lv_bipush (v := (-3 : Int32)) hx hb dX6_moves_41 (by decide) ?_
      obtain ⟨x9, g10, hc11, h⟩ := cz_e2 h
      refine cz_callV (As := [.int (-3 : Int32)]) (rest := []) (is := [0, 1]) (isR := [2, 3, 4, 5, 6, 7]) (rs := [aI cI a_o_s 151 f_o_s, aI cI a_o_innerOf 120 f_o_innerOf, aI cI a_o_whoseOf 120 f_o_whoseOf, aI cI a_o_nearOf 360 f_o_nearOf, aI cI a_o_fromOf 360 f_o_fromOf, aI cI a_o_kept 120 f_o_kept]) (as := [a_o, a_o_refusals, a_o_s, a_o_innerOf, a_o_whoseOf, a_o_nearOf, a_o_fromOf, a_o_kept]) (ws1 := [oX6 a_o a_o_refusals a_o_s a_o_image v_o_isImage a_o_tape a_o_read v_o_taped v_o_pos v_o_readWide v_o_readHigh a_o_innerOf a_o_whoseOf a_o_nearOf a_o_fromOf v_o_thirds a_o_pieceOf a_o_kept a_o_claimOf a_o_row v_o_rowed, aI cI a_o_refusals 7 g10, aI cI a_o_s 151 f_o_s, aI cI a_o_innerOf 120 f_o_innerOf, aI cI a_o_whoseOf 120 f_o_whoseOf, aI cI a_o_nearOf 360 f_o_nearOf, aI cI a_o_fromOf 360 f_o_fromOf, aI cI a_o_kept 120 f_o_kept]) (q0 := 0) (ci := 6) ⟨hx, hb, hml, hown, hts⟩ (c_X6_refuse l D cI a_o a_o_refusals a_o_s a_o_image a_o_tape a_o_read a_o_innerOf a_o_whoseOf a_o_nearOf a_o_fromOf a_o_pieceOf a_o_kept a_o_claimOf a_o_row v_o_isImage v_o_taped v_o_pos v_o_readWide v_o_readHigh v_o_thirds v_o_rowed f_o_refusals (-3 : Int32) n x9 g10 hc11) mw_4_11 mw_4_13 mw_p_10 mw_1_8 mw_4_14 hd_X6_refuse ⟨Nat.le_of_ble_eq_true rfl, Nat.le_of_ble_eq_true rfl⟩ hK hN hP hD hS rfl rfl rfl rfl rfl rfl rfl rfl rfl rfl rfl rfl hl.1 rfl (Nat.le_of_ble_eq_true rfl) dX6_moves_43 ⟨Nat.le_of_ble_eq_true rfl, Nat.le_of_ble_eq_true rfl⟩ (fun H locs hP hD hS => ?_)
      refine W.eq (g2 := F0 m 46 ls [.int x9]) rfl ?_
      obtain ⟨rfl, rfl, rfl, rfl, rfl, rfl, rfl, rfl, rfl⟩ := cz_j9 (cz_i h)
      exact hQ _ _ _ _ hP hS dX6_moves_46
    · replace h := cz_f c8 h
      refine lv_aload_n hx hb dX6_moves_26 rfl (lv_at hl 0 rfl) ?_
      refine lv_aload_n hx hb dX6_moves_27 rfl (lv_at hl 0 rfl) ?_
      refine lv_iload_n hx hb dX6_moves_28 rfl (lv_at hl 1 rfl) ?_
      obtain ⟨x12, hc13, h⟩ := cz_e1 h
      refine cz_callV (As := [.int w1]) (rest := [.ref a_o]) (is := [0, 2]) (isR := [1, 3, 4, 5, 6, 7]) (rs := [aI cI a_o_refusals 7 f_o_refusals, aI cI a_o_innerOf 120 f_o_innerOf, aI cI a_o_whoseOf 120 f_o_whoseOf, aI cI a_o_nearOf 360 f_o_nearOf, aI cI a_o_fromOf 360 f_o_fromOf, aI cI a_o_kept 120 f_o_kept]) (as := [a_o, a_o_refusals, a_o_s, a_o_innerOf, a_o_whoseOf, a_o_nearOf, a_o_fromOf, a_o_kept]) (ws1 := [oX6 a_o a_o_refusals a_o_s a_o_image v_o_isImage a_o_tape a_o_read v_o_taped v_o_pos v_o_readWide v_o_readHigh a_o_innerOf a_o_whoseOf a_o_nearOf a_o_fromOf v_o_thirds a_o_pieceOf a_o_kept a_o_claimOf a_o_row v_o_rowed, aI cI a_o_refusals 7 f_o_refusals, aI cI a_o_s 151 f_o_s, aI cI a_o_innerOf 120 f_o_innerOf, aI cI a_o_whoseOf 120 f_o_whoseOf, aI cI a_o_nearOf 360 f_o_nearOf, aI cI a_o_fromOf 360 f_o_fromOf, aI cI a_o_kept 120 f_o_kept]) (q0 := 0) (ci := 6) ⟨hx, hb, hml, hown, hts⟩ (c_X6_of l D cI a_o a_o_s a_o_refusals a_o_image a_o_tape a_o_read a_o_innerOf a_o_whoseOf a_o_nearOf a_o_fromOf a_o_pieceOf a_o_kept a_o_claimOf a_o_row v_o_isImage v_o_taped v_o_pos v_o_readWide v_o_readHigh v_o_thirds v_o_rowed f_o_s w1 n x12 hc13) mw_4_39 mw_4_41 mw_p_14 mw_1_8 mw_4_42 hd_X6_of ⟨Nat.le_of_ble_eq_true rfl, Nat.le_of_ble_eq_true rfl⟩ hK hN hP hD hS rfl rfl rfl rfl rfl rfl rfl rfl rfl rfl rfl rfl hl.1 rfl (Nat.le_of_ble_eq_true rfl) dX6_moves_29 ⟨Nat.le_of_ble_eq_true rfl, Nat.le_of_ble_eq_true rfl⟩ (fun H locs hP hD hS => ?_)
      refine W.eq (g2 := F0 m 32 ls [.int x12, .ref a_o]) rfl ?_
      obtain ⟨x14, hc15, h⟩ := cz_e1 h
      refine cz_callV (As := [.int x12]) (rest := []) (is := [0, 2]) (isR := [1, 3, 4, 5, 6, 7]) (rs := [aI cI a_o_refusals 7 f_o_refusals, aI cI a_o_innerOf 120 f_o_innerOf, aI cI a_o_whoseOf 120 f_o_whoseOf, aI cI a_o_nearOf 360 f_o_nearOf, aI cI a_o_fromOf 360 f_o_fromOf, aI cI a_o_kept 120 f_o_kept]) (as := [a_o, a_o_refusals, a_o_s, a_o_innerOf, a_o_whoseOf, a_o_nearOf, a_o_fromOf, a_o_kept]) (ws1 := [oX6 a_o a_o_refusals a_o_s a_o_image v_o_isImage a_o_tape a_o_read v_o_taped v_o_pos v_o_readWide v_o_readHigh a_o_innerOf a_o_whoseOf a_o_nearOf a_o_fromOf v_o_thirds a_o_pieceOf a_o_kept a_o_claimOf a_o_row v_o_rowed, aI cI a_o_refusals 7 f_o_refusals, aI cI a_o_s 151 f_o_s, aI cI a_o_innerOf 120 f_o_innerOf, aI cI a_o_whoseOf 120 f_o_whoseOf, aI cI a_o_nearOf 360 f_o_nearOf, aI cI a_o_fromOf 360 f_o_fromOf, aI cI a_o_kept 120 f_o_kept]) (q0 := 0) (ci := 6) ⟨hx, hb, hml, hown, hts⟩ (c_X6_at l D cI a_o a_o_s a_o_refusals a_o_image a_o_tape a_o_read a_o_innerOf a_o_whoseOf a_o_nearOf a_o_fromOf a_o_pieceOf a_o_kept a_o_claimOf a_o_row v_o_isImage v_o_taped v_o_pos v_o_readWide v_o_readHigh v_o_thirds v_o_rowed f_o_s x12 n x14 hc15) mw_4_43 mw_4_45 mw_p_15 mw_1_8 mw_4_46 hd_X6_at ⟨Nat.le_of_ble_eq_true rfl, Nat.le_of_ble_eq_true rfl⟩ hK hN hP hD hS rfl rfl rfl rfl rfl rfl rfl rfl rfl rfl rfl rfl hl.1 rfl (Nat.le_of_ble_eq_true rfl) dX6_moves_32 ⟨Nat.le_of_ble_eq_true rfl, Nat.le_of_ble_eq_true rfl⟩ (fun H locs hP hD hS => ?_)
      refine W.eq (g2 := F0 m 35 ls [.int x14]) rfl ?_
      refine lv_bipush (v := (7 : Int32)) hx hb dX6_moves_35 (by decide) ?_
      refine lv_icmp_ne (tgt := 47) hx hb dX6_moves_37 (by decide) (fun c16 => ?_) (fun c16 => ?_)
      · replace h := cz_f c16 h
        refine lv_aload_n hx hb dX6_moves_47 rfl (lv_at hl 0 rfl) ?_
        obtain ⟨x17, g18, g19, g20, g21, g22, hc23, h⟩ := cz_e6 h
        refine cz_callV (As := []) (rest := []) (is := [0, 2, 3, 4, 5, 6, 7]) (isR := [1]) (rs := [aI cI a_o_refusals 7 f_o_refusals]) (as := [a_o, a_o_refusals, a_o_s, a_o_innerOf, a_o_whoseOf, a_o_nearOf, a_o_fromOf, a_o_kept]) (ws1 := [oX6 a_o a_o_refusals a_o_s a_o_image v_o_isImage a_o_tape a_o_read v_o_taped v_o_pos v_o_readWide v_o_readHigh a_o_innerOf a_o_whoseOf a_o_nearOf a_o_fromOf x17 a_o_pieceOf a_o_kept a_o_claimOf a_o_row v_o_rowed, aI cI a_o_refusals 7 f_o_refusals, aI cI a_o_s 151 f_o_s, aI cI a_o_innerOf 120 g18, aI cI a_o_whoseOf 120 g19, aI cI a_o_nearOf 360 g20, aI cI a_o_fromOf 360 g21, aI cI a_o_kept 120 g22]) (q0 := 0) (ci := 6) ⟨hx, hb, hml, hown, hts⟩ (c_X6_keeps l D cI a_o a_o_s a_o_innerOf a_o_whoseOf a_o_nearOf a_o_fromOf a_o_kept a_o_refusals a_o_image a_o_tape a_o_read a_o_pieceOf a_o_claimOf a_o_row v_o_isImage v_o_taped v_o_pos v_o_readWide v_o_readHigh v_o_thirds v_o_rowed f_o_s f_o_innerOf f_o_whoseOf f_o_nearOf f_o_fromOf f_o_kept  n x17 g18 g19 g20 g21 g22 hc23) mw_4_169 mw_4_171 mw_p_30 mw_1_8 mw_4_172 hd_X6_keeps ⟨Nat.le_of_ble_eq_true rfl, Nat.le_of_ble_eq_true rfl⟩ hK hN hP hD hS rfl rfl rfl rfl rfl rfl rfl rfl rfl rfl rfl rfl hl.1 rfl (Nat.le_of_ble_eq_true rfl) dX6_moves_48 ⟨Nat.le_of_ble_eq_true rfl, Nat.le_of_ble_eq_true rfl⟩ (fun H locs hP hD hS => ?_)
        refine W.eq (g2 := F0 m 51 ls []) rfl ?_
        refine lv_aload_n hx hb dX6_moves_51 rfl (lv_at hl 0 rfl) ?_
        refine lv_aload_n hx hb dX6_moves_52 rfl (lv_at hl 0 rfl) ?_
        refine lv_iload_n hx hb dX6_moves_53 rfl (lv_at hl 1 rfl) ?_
        obtain ⟨x24, hc25, h⟩ := cz_e1 h
        refine cz_callV (As := [.int w1]) (rest := [.ref a_o]) (is := [0, 2]) (isR := [1, 3, 4, 5, 6, 7]) (rs := [aI cI a_o_refusals 7 f_o_refusals, aI cI a_o_innerOf 120 g18, aI cI a_o_whoseOf 120 g19, aI cI a_o_nearOf 360 g20, aI cI a_o_fromOf 360 g21, aI cI a_o_kept 120 g22]) (as := [a_o, a_o_refusals, a_o_s, a_o_innerOf, a_o_whoseOf, a_o_nearOf, a_o_fromOf, a_o_kept]) (ws1 := [oX6 a_o a_o_refusals a_o_s a_o_image v_o_isImage a_o_tape a_o_read v_o_taped v_o_pos v_o_readWide v_o_readHigh a_o_innerOf a_o_whoseOf a_o_nearOf a_o_fromOf x17 a_o_pieceOf a_o_kept a_o_claimOf a_o_row v_o_rowed, aI cI a_o_refusals 7 f_o_refusals, aI cI a_o_s 151 f_o_s, aI cI a_o_innerOf 120 g18, aI cI a_o_whoseOf 120 g19, aI cI a_o_nearOf 360 g20, aI cI a_o_fromOf 360 g21, aI cI a_o_kept 120 g22]) (q0 := 0) (ci := 6) ⟨hx, hb, hml, hown, hts⟩ (c_X6_of l D cI a_o a_o_s a_o_refusals a_o_image a_o_tape a_o_read a_o_innerOf a_o_whoseOf a_o_nearOf a_o_fromOf a_o_pieceOf a_o_kept a_o_claimOf a_o_row v_o_isImage v_o_taped v_o_pos v_o_readWide v_o_readHigh x17 v_o_rowed f_o_s w1 n x24 hc25) mw_4_39 mw_4_41 mw_p_14 mw_1_8 mw_4_42 hd_X6_of ⟨Nat.le_of_ble_eq_true rfl, Nat.le_of_ble_eq_true rfl⟩ hK hN hP hD hS rfl rfl rfl rfl rfl rfl rfl rfl rfl rfl rfl rfl hl.1 rfl (Nat.le_of_ble_eq_true rfl) dX6_moves_54 ⟨Nat.le_of_ble_eq_true rfl, Nat.le_of_ble_eq_true rfl⟩ (fun H locs hP hD hS => ?_)
        refine W.eq (g2 := F0 m 57 ls [.int x24, .ref a_o]) rfl ?_
        obtain ⟨x26, x27, g28, g29, g30, g31, g32, hc33, h⟩ := cz_e7 h
        refine cz_callV (As := [.int x24]) (rest := []) (is := [0, 2, 3, 4, 5, 6, 7]) (isR := [1]) (rs := [aI cI a_o_refusals 7 f_o_refusals]) (as := [a_o, a_o_refusals, a_o_s, a_o_innerOf, a_o_whoseOf, a_o_nearOf, a_o_fromOf, a_o_kept]) (ws1 := [oX6 a_o a_o_refusals a_o_s a_o_image v_o_isImage a_o_tape a_o_read v_o_taped v_o_pos v_o_readWide v_o_readHigh a_o_innerOf a_o_whoseOf a_o_nearOf a_o_fromOf x27 a_o_pieceOf a_o_kept a_o_claimOf a_o_row v_o_rowed, aI cI a_o_refusals 7 f_o_refusals, aI cI a_o_s 151 g28, aI cI a_o_innerOf 120 g29, aI cI a_o_whoseOf 120 g30, aI cI a_o_nearOf 360 g31, aI cI a_o_fromOf 360 g32, aI cI a_o_kept 120 g22]) (q0 := 0) (ci := 6) ⟨hx, hb, hml, hown, hts⟩ (c_X6_movesOf l D cI a_o a_o_s a_o_innerOf a_o_whoseOf a_o_nearOf a_o_fromOf a_o_kept a_o_refusals a_o_image a_o_tape a_o_read a_o_pieceOf a_o_claimOf a_o_row v_o_isImage v_o_taped v_o_pos v_o_readWide v_o_readHigh x17 v_o_rowed f_o_s g18 g19 g20 g21 g22 x24 n x26 x27 g28 g29 g30 g31 g32 hc33) mw_4_173 mw_4_175 mw_p_31 mw_1_8 mw_4_176 hd_X6_movesOf ⟨Nat.le_of_ble_eq_true rfl, Nat.le_of_ble_eq_true rfl⟩ hK hN hP hD hS rfl rfl rfl rfl rfl rfl rfl rfl rfl rfl rfl rfl hl.1 rfl (Nat.le_of_ble_eq_true rfl) dX6_moves_57 ⟨Nat.le_of_ble_eq_true rfl, Nat.le_of_ble_eq_true rfl⟩ (fun H locs hP hD hS => ?_)
        refine W.eq (g2 := F0 m 60 ls [.int x26]) rfl ?_
        obtain ⟨rfl, rfl, rfl, rfl, rfl, rfl, rfl, rfl, rfl⟩ := cz_j9 (cz_i h)
        exact hQ _ _ _ _ hP hS dX6_moves_60
      · replace h := cz_t c16 h
        refine lv_aload_n hx hb dX6_moves_40 rfl (lv_at hl 0 rfl) ?_
        refine lv_bipush (v := (-3 : Int32)) hx hb dX6_moves_41 (by decide) ?_
        obtain ⟨x34, g35, hc36, h⟩ := cz_e2 h
        refine cz_callV (As := [.int (-3 : Int32)]) (rest := []) (is := [0, 1]) (isR := [2, 3, 4, 5, 6, 7]) (rs := [aI cI a_o_s 151 f_o_s, aI cI a_o_innerOf 120 f_o_innerOf, aI cI a_o_whoseOf 120 f_o_whoseOf, aI cI a_o_nearOf 360 f_o_nearOf, aI cI a_o_fromOf 360 f_o_fromOf, aI cI a_o_kept 120 f_o_kept]) (as := [a_o, a_o_refusals, a_o_s, a_o_innerOf, a_o_whoseOf, a_o_nearOf, a_o_fromOf, a_o_kept]) (ws1 := [oX6 a_o a_o_refusals a_o_s a_o_image v_o_isImage a_o_tape a_o_read v_o_taped v_o_pos v_o_readWide v_o_readHigh a_o_innerOf a_o_whoseOf a_o_nearOf a_o_fromOf v_o_thirds a_o_pieceOf a_o_kept a_o_claimOf a_o_row v_o_rowed, aI cI a_o_refusals 7 g35, aI cI a_o_s 151 f_o_s, aI cI a_o_innerOf 120 f_o_innerOf, aI cI a_o_whoseOf 120 f_o_whoseOf, aI cI a_o_nearOf 360 f_o_nearOf, aI cI a_o_fromOf 360 f_o_fromOf, aI cI a_o_kept 120 f_o_kept]) (q0 := 0) (ci := 6) ⟨hx, hb, hml, hown, hts⟩ (c_X6_refuse l D cI a_o a_o_refusals a_o_s a_o_image a_o_tape a_o_read a_o_innerOf a_o_whoseOf a_o_nearOf a_o_fromOf a_o_pieceOf a_o_kept a_o_claimOf a_o_row v_o_isImage v_o_taped v_o_pos v_o_readWide v_o_readHigh v_o_thirds v_o_rowed f_o_refusals (-3 : Int32) n x34 g35 hc36) mw_4_11 mw_4_13 mw_p_10 mw_1_8 mw_4_14 hd_X6_refuse ⟨Nat.le_of_ble_eq_true rfl, Nat.le_of_ble_eq_true rfl⟩ hK hN hP hD hS rfl rfl rfl rfl rfl rfl rfl rfl rfl rfl rfl rfl hl.1 rfl (Nat.le_of_ble_eq_true rfl) dX6_moves_43 ⟨Nat.le_of_ble_eq_true rfl, Nat.le_of_ble_eq_true rfl⟩ (fun H locs hP hD hS => ?_)
        refine W.eq (g2 := F0 m 46 ls [.int x34]) rfl ?_
        obtain ⟨rfl, rfl, rfl, rfl, rfl, rfl, rfl, rfl, rfl⟩ := cz_j9 (cz_i h)
        exact hQ _ _ _ _ hP hS dX6_moves_46
  · replace h := cz_t c3 h
    refine lv_aload_n hx hb dX6_moves_8 rfl (lv_at hl 0 rfl) ?_
    refine lv_iconst (v := (-1 : Int32)) hx hb dX6_moves_9 (by decide) ?_
    obtain ⟨x37, g38, hc39, h⟩ := cz_e2 h
    refine cz_callV (As := [.int (-1 : Int32)]) (rest := []) (is := [0, 1]) (isR := [2, 3, 4, 5, 6, 7]) (rs := [aI cI a_o_s 151 f_o_s, aI cI a_o_innerOf 120 f_o_innerOf, aI cI a_o_whoseOf 120 f_o_whoseOf, aI cI a_o_nearOf 360 f_o_nearOf, aI cI a_o_fromOf 360 f_o_fromOf, aI cI a_o_kept 120 f_o_kept]) (as := [a_o, a_o_refusals, a_o_s, a_o_innerOf, a_o_whoseOf, a_o_nearOf, a_o_fromOf, a_o_kept]) (ws1 := [oX6 a_o a_o_refusals a_o_s a_o_image v_o_isImage a_o_tape a_o_read v_o_taped v_o_pos v_o_readWide v_o_readHigh a_o_innerOf a_o_whoseOf a_o_nearOf a_o_fromOf v_o_thirds a_o_pieceOf a_o_kept a_o_claimOf a_o_row v_o_rowed, aI cI a_o_refusals 7 g38, aI cI a_o_s 151 f_o_s, aI cI a_o_innerOf 120 f_o_innerOf, aI cI a_o_whoseOf 120 f_o_whoseOf, aI cI a_o_nearOf 360 f_o_nearOf, aI cI a_o_fromOf 360 f_o_fromOf, aI cI a_o_kept 120 f_o_kept]) (q0 := 0) (ci := 6) ⟨hx, hb, hml, hown, hts⟩ (c_X6_refuse l D cI a_o a_o_refusals a_o_s a_o_image a_o_tape a_o_read a_o_innerOf a_o_whoseOf a_o_nearOf a_o_fromOf a_o_pieceOf a_o_kept a_o_claimOf a_o_row v_o_isImage v_o_taped v_o_pos v_o_readWide v_o_readHigh v_o_thirds v_o_rowed f_o_refusals (-1 : Int32) n x37 g38 hc39) mw_4_11 mw_4_13 mw_p_10 mw_1_8 mw_4_14 hd_X6_refuse ⟨Nat.le_of_ble_eq_true rfl, Nat.le_of_ble_eq_true rfl⟩ hK hN hP hD hS rfl rfl rfl rfl rfl rfl rfl rfl rfl rfl rfl rfl hl.1 rfl (Nat.le_of_ble_eq_true rfl) dX6_moves_10 ⟨Nat.le_of_ble_eq_true rfl, Nat.le_of_ble_eq_true rfl⟩ (fun H locs hP hD hS => ?_)
    refine W.eq (g2 := F0 m 13 ls [.int x37]) rfl ?_
    obtain ⟨rfl, rfl, rfl, rfl, rfl, rfl, rfl, rfl, rfl⟩ := cz_j9 (cz_i h)
    exact hQ _ _ _ _ hP hS dX6_moves_13
set_option maxHeartbeats 4000000 in
set_option maxRecDepth 100000 in
theorem c_X6_most_ (l : Launch) (D : va_G) (cI : ClassId) (a_o a_o_s a_o_innerOf a_o_whoseOf a_o_nearOf a_o_fromOf a_o_kept a_o_refusals a_o_image a_o_tape a_o_read a_o_pieceOf a_o_claimOf a_o_row : Nat) (v_o_isImage : Int32) (v_o_taped : Int32) (v_o_pos : Int32) (v_o_readWide : Int32) (v_o_readHigh : Int32) (v_o_thirds : Int32) (v_o_rowed : Int32) (f_o_s : (Nat → Int32)) (f_o_innerOf : (Nat → Int32)) (f_o_whoseOf : (Nat → Int32)) (f_o_nearOf : (Nat → Int32)) (f_o_fromOf : (Nat → Int32)) (f_o_kept : (Nat → Int32)) (n : Nat) (r : Int32) (r_v_o_thirds : Int32) (r_f_o_s : (Nat → Int32)) (r_f_o_innerOf : (Nat → Int32)) (r_f_o_whoseOf : (Nat → Int32)) (r_f_o_nearOf : (Nat → Int32)) (r_f_o_fromOf : (Nat → Int32)) (r_f_o_kept : (Nat → Int32)) (h : f_X6_most_ n v_o_thirds f_o_s f_o_innerOf f_o_whoseOf f_o_nearOf f_o_fromOf f_o_kept = some (r, r_v_o_thirds, r_f_o_s, r_f_o_innerOf, r_f_o_whoseOf, r_f_o_nearOf, r_f_o_fromOf, r_f_o_kept)) : cz_M l yX6_most_ cX6_most_ 5 (some .int) 6 141 D cI [.ref a_o] [oX6 a_o a_o_refusals a_o_s a_o_image v_o_isImage a_o_tape a_o_read v_o_taped v_o_pos v_o_readWide v_o_readHigh a_o_innerOf a_o_whoseOf a_o_nearOf a_o_fromOf v_o_thirds a_o_pieceOf a_o_kept a_o_claimOf a_o_row v_o_rowed, aI cI a_o_s 151 f_o_s, aI cI a_o_innerOf 120 f_o_innerOf, aI cI a_o_whoseOf 120 f_o_whoseOf, aI cI a_o_nearOf 360 f_o_nearOf, aI cI a_o_fromOf 360 f_o_fromOf, aI cI a_o_kept 120 f_o_kept] (some (.int r)) [oX6 a_o a_o_refusals a_o_s a_o_image v_o_isImage a_o_tape a_o_read v_o_taped v_o_pos v_o_readWide v_o_readHigh a_o_innerOf a_o_whoseOf a_o_nearOf a_o_fromOf r_v_o_thirds a_o_pieceOf a_o_kept a_o_claimOf a_o_row v_o_rowed, aI cI a_o_s 151 r_f_o_s, aI cI a_o_innerOf 120 r_f_o_innerOf, aI cI a_o_whoseOf 120 r_f_o_whoseOf, aI cI a_o_nearOf 360 r_f_o_nearOf, aI cI a_o_fromOf 360 r_f_o_fromOf, aI cI a_o_kept 120 r_f_o_kept] := by
  refine cz_startI (by decide) (Nat.le_of_ble_eq_true rfl) ?_
  intro p e s m ag below meth c A Q hx hb hml hown hts hK hN hQ H locs hP hD hS ls hl
  replace hown : s.vm.findClass RX6 = some m.cls := hown
  replace hl : lv_has ls 5 [(0, .ref a_o)] := hl
  unfold f_X6_most_ at h
  refine lv_aload_n hx hb dX6_most__0 rfl (lv_at hl 0 rfl) ?_
  obtain ⟨x1, g2, g3, g4, g5, g6, hc7, h⟩ := cz_e6 h
  refine cz_callV (As := []) (rest := []) (is := [0, 1, 2, 3, 4, 5, 6]) (isR := []) (rs := []) (as := [a_o, a_o_s, a_o_innerOf, a_o_whoseOf, a_o_nearOf, a_o_fromOf, a_o_kept]) (ws1 := [oX6 a_o a_o_refusals a_o_s a_o_image v_o_isImage a_o_tape a_o_read v_o_taped v_o_pos v_o_readWide v_o_readHigh a_o_innerOf a_o_whoseOf a_o_nearOf a_o_fromOf x1 a_o_pieceOf a_o_kept a_o_claimOf a_o_row v_o_rowed, aI cI a_o_s 151 f_o_s, aI cI a_o_innerOf 120 g2, aI cI a_o_whoseOf 120 g3, aI cI a_o_nearOf 360 g4, aI cI a_o_fromOf 360 g5, aI cI a_o_kept 120 g6]) (q0 := 0) (ci := 6) ⟨hx, hb, hml, hown, hts⟩ (c_X6_keeps l D cI a_o a_o_s a_o_innerOf a_o_whoseOf a_o_nearOf a_o_fromOf a_o_kept a_o_refusals a_o_image a_o_tape a_o_read a_o_pieceOf a_o_claimOf a_o_row v_o_isImage v_o_taped v_o_pos v_o_readWide v_o_readHigh v_o_thirds v_o_rowed f_o_s f_o_innerOf f_o_whoseOf f_o_nearOf f_o_fromOf f_o_kept  n x1 g2 g3 g4 g5 g6 hc7) mw_4_169 mw_4_171 mw_p_30 mw_1_8 mw_4_172 hd_X6_keeps ⟨Nat.le_of_ble_eq_true rfl, Nat.le_of_ble_eq_true rfl⟩ hK hN hP hD hS rfl rfl rfl rfl rfl rfl rfl rfl rfl rfl rfl rfl hl.1 rfl (Nat.le_of_ble_eq_true rfl) dX6_most__1 ⟨Nat.le_of_ble_eq_true rfl, Nat.le_of_ble_eq_true rfl⟩ (fun H locs hP hD hS => ?_)
  refine W.eq (g2 := F0 m 4 ls []) rfl ?_
  refine lv_bipush (v := (-9 : Int32)) hx hb dX6_most__4 (by decide) ?_
  refine lv_istore_n (lv' := [(1, .int (-9 : Int32)), (0, .ref a_o)]) hx hb dX6_most__6 rfl hl (by decide) rfl (fun ls hl => ?_)
  refine lv_iconst (v := (0 : Int32)) hx hb dX6_most__7 (by decide) ?_
  refine lv_istore_n (lv' := [(2, .int (0 : Int32)), (1, .int (-9 : Int32)), (0, .ref a_o)]) hx hb dX6_most__8 rfl hl (by decide) rfl (fun ls hl => ?_)
  refine lv_iconst (v := (0 : Int32)) hx hb dX6_most__9 (by decide) ?_
  refine lv_istore_n (lv' := [(3, .int (0 : Int32)), (2, .int (0 : Int32)), (1, .int (-9 : Int32)), (0, .ref a_o)]) hx hb dX6_most__10 rfl hl (by decide) rfl (fun ls hl => ?_)
  obtain ⟨z17, hE18, hz19⟩ := cz_x9 h
  have hX20 : ∀ (y23 : Int32) (y24 : Int32) (y25 : Int32) (y26 : Int32) (q27 : (Nat → Int32)) (q28 : (Nat → Int32)) (q29 : (Nat → Int32)) (q30 : (Nat → Int32)) (q31 : (Nat → Int32)) (H : Heap) (locs : List Loc) (ls : Array Slot), z17 = (y23, y24, y25, y26, q27, q28, q29, q30, q31) → va_P D vwCl [oX6 a_o a_o_refusals a_o_s a_o_image v_o_isImage a_o_tape a_o_read v_o_taped v_o_pos v_o_readWide v_o_readHigh a_o_innerOf a_o_whoseOf a_o_nearOf a_o_fromOf y26 a_o_pieceOf a_o_kept a_o_claimOf a_o_row v_o_rowed, aI cI a_o_s 151 q27, aI cI a_o_innerOf 120 q28, aI cI a_o_whoseOf 120 q29, aI cI a_o_nearOf 360 q30, aI cI a_o_fromOf 360 q31, aI cI a_o_kept 120 g6] H → va_D A [oX6 a_o a_o_refusals a_o_s a_o_image v_o_isImage a_o_tape a_o_read v_o_taped v_o_pos v_o_readWide v_o_readHigh a_o_innerOf a_o_whoseOf a_o_nearOf a_o_fromOf y26 a_o_pieceOf a_o_kept a_o_claimOf a_o_row v_o_rowed, aI cI a_o_s 151 q27, aI cI a_o_innerOf 120 q28, aI cI a_o_whoseOf 120 q29, aI cI a_o_nearOf 360 q30, aI cI a_o_fromOf 360 q31, aI cI a_o_kept 120 g6] → va_S A s.heap H locs → lv_has ls 5 [(0, .ref a_o), (1, .int y23)] → W p l e (cz_rm 6 141) s m ag below meth c H locs 0 0 Q (F0 m 71 ls []) := by
    intro y23 y24 y25 y26 q27 q28 q29 q30 q31 H locs ls h hP hD hS hl
    replace h := hz19 _ _ _ _ _ _ _ _ _ h
    refine lv_iload_n hx hb dX6_most__71 rfl (lv_at hl 1 rfl) ?_
    refine lv_if_ge (tgt := 80) hx hb dX6_most__72 (by decide) (fun c32 => ?_) (fun c32 => ?_)
    · replace h := cz_t c32 h
      refine lv_aload_n hx hb dX6_most__80 rfl (lv_at hl 0 rfl) ?_
      refine lv_iload_n hx hb dX6_most__81 rfl (lv_at hl 1 rfl) ?_
      obtain ⟨x33, hc34, h⟩ := cz_e1 h
      refine cz_callV (As := [.int y23]) (rest := []) (is := [0, 1]) (isR := [2, 3, 4, 5, 6]) (rs := [aI cI a_o_innerOf 120 q28, aI cI a_o_whoseOf 120 q29, aI cI a_o_nearOf 360 q30, aI cI a_o_fromOf 360 q31, aI cI a_o_kept 120 g6]) (as := [a_o, a_o_s, a_o_innerOf, a_o_whoseOf, a_o_nearOf, a_o_fromOf, a_o_kept]) (ws1 := [oX6 a_o a_o_refusals a_o_s a_o_image v_o_isImage a_o_tape a_o_read v_o_taped v_o_pos v_o_readWide v_o_readHigh a_o_innerOf a_o_whoseOf a_o_nearOf a_o_fromOf y26 a_o_pieceOf a_o_kept a_o_claimOf a_o_row v_o_rowed, aI cI a_o_s 151 q27, aI cI a_o_innerOf 120 q28, aI cI a_o_whoseOf 120 q29, aI cI a_o_nearOf 360 q30, aI cI a_o_fromOf 360 q31, aI cI a_o_kept 120 g6]) (q0 := 0) (ci := 6) ⟨hx, hb, hml, hown, hts⟩ (c_X6_told l D cI a_o a_o_s a_o_refusals a_o_image a_o_tape a_o_read a_o_innerOf a_o_whoseOf a_o_nearOf a_o_fromOf a_o_pieceOf a_o_kept a_o_claimOf a_o_row v_o_isImage v_o_taped v_o_pos v_o_readWide v_o_readHigh y26 v_o_rowed q27 y23 n x33 hc34) mw_4_104 mw_4_106 mw_p_23 mw_1_8 mw_4_107 hd_X6_told ⟨Nat.le_of_ble_eq_true rfl, Nat.le_of_ble_eq_true rfl⟩ hK hN hP hD hS rfl rfl rfl rfl rfl rfl rfl rfl rfl rfl rfl rfl hl.1 rfl (Nat.le_of_ble_eq_true rfl) dX6_most__82 ⟨Nat.le_of_ble_eq_true rfl, Nat.le_of_ble_eq_true rfl⟩ (fun H locs hP hD hS => ?_)
      refine W.eq (g2 := F0 m 85 ls [.int x33]) rfl ?_
      obtain ⟨rfl, rfl, rfl, rfl, rfl, rfl, rfl, rfl⟩ := cz_j8 (cz_i h)
      exact hQ _ _ _ _ hP hS dX6_most__85
    · replace h := cz_f c32 h
      refine lv_bipush (v := (-9 : Int32)) hx hb dX6_most__75 (by decide) ?_
      refine lv_goto (tgt := 85) hx hb dX6_most__77 (by decide) ?_
      obtain ⟨rfl, rfl, rfl, rfl, rfl, rfl, rfl, rfl⟩ := cz_j8 (cz_i h)
      exact hQ _ _ _ _ hP hS dX6_most__85
  clear h
  have hL21 : ∀ (k : Nat) (x8 : Int32) (x9 : Int32) (x10 : Int32) (x11 : Int32) (g12 : (Nat → Int32)) (g13 : (Nat → Int32)) (g14 : (Nat → Int32)) (g15 : (Nat → Int32)) (g16 : (Nat → Int32)) (H : Heap) (locs : List Loc) (ls : Array Slot), f_X6_most__L11 n g6 k x8 x9 x10 x11 g12 g13 g14 g15 g16 = some z17 → va_P D vwCl [oX6 a_o a_o_refusals a_o_s a_o_image v_o_isImage a_o_tape a_o_read v_o_taped v_o_pos v_o_readWide v_o_readHigh a_o_innerOf a_o_whoseOf a_o_nearOf a_o_fromOf x11 a_o_pieceOf a_o_kept a_o_claimOf a_o_row v_o_rowed, aI cI a_o_s 151 g12, aI cI a_o_innerOf 120 g13, aI cI a_o_whoseOf 120 g14, aI cI a_o_nearOf 360 g15, aI cI a_o_fromOf 360 g16, aI cI a_o_kept 120 g6] H → va_D A [oX6 a_o a_o_refusals a_o_s a_o_image v_o_isImage a_o_tape a_o_read v_o_taped v_o_pos v_o_readWide v_o_readHigh a_o_innerOf a_o_whoseOf a_o_nearOf a_o_fromOf x11 a_o_pieceOf a_o_kept a_o_claimOf a_o_row v_o_rowed, aI cI a_o_s 151 g12, aI cI a_o_innerOf 120 g13, aI cI a_o_whoseOf 120 g14, aI cI a_o_nearOf 360 g15, aI cI a_o_fromOf 360 g16, aI cI a_o_kept 120 g6] → va_S A s.heap H locs → lv_has ls 5 [(0, .ref a_o), (1, .int x8), (2, .int x9), (3, .int x10)] → W p l e (cz_rm 6 141) s m ag below meth c H locs 0 0 Q (F0 m 11 ls []) := by
    intro k
    induction k with
    | zero =>
      intro x8 x9 x10 x11 g12 g13 g14 g15 g16 H locs ls h
      rw [f_X6_most__L11] at h
      cases h
    | succ k ih35 =>
      intro x8 x9 x10 x11 g12 g13 g14 g15 g16 H locs ls h hP hD hS hl
      rw [f_X6_most__L11] at h
      refine lv_iload_n hx hb dX6_most__11 rfl (lv_at hl 3 rfl) ?_
      refine lv_aload_n hx hb dX6_most__12 rfl (lv_at hl 0 rfl) ?_
      obtain ⟨x36, hc37, h⟩ := cz_e1 h
      refine cz_callV (As := []) (rest := [.int x10]) (is := [0, 1]) (isR := [2, 3, 4, 5, 6]) (rs := [aI cI a_o_innerOf 120 g13, aI cI a_o_whoseOf 120 g14, aI cI a_o_nearOf 360 g15, aI cI a_o_fromOf 360 g16, aI cI a_o_kept 120 g6]) (as := [a_o, a_o_s, a_o_innerOf, a_o_whoseOf, a_o_nearOf, a_o_fromOf, a_o_kept]) (ws1 := [oX6 a_o a_o_refusals a_o_s a_o_image v_o_isImage a_o_tape a_o_read v_o_taped v_o_pos v_o_readWide v_o_readHigh a_o_innerOf a_o_whoseOf a_o_nearOf a_o_fromOf x11 a_o_pieceOf a_o_kept a_o_claimOf a_o_row v_o_rowed, aI cI a_o_s 151 g12, aI cI a_o_innerOf 120 g13, aI cI a_o_whoseOf 120 g14, aI cI a_o_nearOf 360 g15, aI cI a_o_fromOf 360 g16, aI cI a_o_kept 120 g6]) (q0 := 0) (ci := 6) ⟨hx, hb, hml, hown, hts⟩ (c_X6_many l D cI a_o a_o_s a_o_refusals a_o_image a_o_tape a_o_read a_o_innerOf a_o_whoseOf a_o_nearOf a_o_fromOf a_o_pieceOf a_o_kept a_o_claimOf a_o_row v_o_isImage v_o_taped v_o_pos v_o_readWide v_o_readHigh x11 v_o_rowed g12  n x36 hc37) mw_4_27 mw_4_29 mw_p_12 mw_1_8 mw_4_30 hd_X6_many ⟨Nat.le_of_ble_eq_true rfl, Nat.le_of_ble_eq_true rfl⟩ hK hN hP hD hS rfl rfl rfl rfl rfl rfl rfl rfl rfl rfl rfl rfl hl.1 rfl (Nat.le_of_ble_eq_true rfl) dX6_most__13 ⟨Nat.le_of_ble_eq_true rfl, Nat.le_of_ble_eq_true rfl⟩ (fun H locs hP hD hS => ?_)
      refine W.eq (g2 := F0 m 16 ls [.int x36, .int x10]) rfl ?_
      refine lv_icmp_ge (tgt := 71) hx hb dX6_most__16 (by decide) (fun c38 => ?_) (fun c38 => ?_)
      · replace h := cz_t c38 h
        exact hX20 _ _ _ _ _ _ _ _ _ _ _ _ (cz_i h).symm hP hD hS (lv_sub hl [0, 1] rfl)
      · replace h := cz_f c38 h
        refine lv_aload_n hx hb dX6_most__19 rfl (lv_at hl 0 rfl) ?_
        refine lv_iload_n hx hb dX6_most__20 rfl (lv_at hl 3 rfl) ?_
        obtain ⟨x39, hc40, h⟩ := cz_e1 h
        refine cz_callV (As := [.int x10]) (rest := []) (is := [0, 1]) (isR := [2, 3, 4, 5, 6]) (rs := [aI cI a_o_innerOf 120 g13, aI cI a_o_whoseOf 120 g14, aI cI a_o_nearOf 360 g15, aI cI a_o_fromOf 360 g16, aI cI a_o_kept 120 g6]) (as := [a_o, a_o_s, a_o_innerOf, a_o_whoseOf, a_o_nearOf, a_o_fromOf, a_o_kept]) (ws1 := [oX6 a_o a_o_refusals a_o_s a_o_image v_o_isImage a_o_tape a_o_read v_o_taped v_o_pos v_o_readWide v_o_readHigh a_o_innerOf a_o_whoseOf a_o_nearOf a_o_fromOf x11 a_o_pieceOf a_o_kept a_o_claimOf a_o_row v_o_rowed, aI cI a_o_s 151 g12, aI cI a_o_innerOf 120 g13, aI cI a_o_whoseOf 120 g14, aI cI a_o_nearOf 360 g15, aI cI a_o_fromOf 360 g16, aI cI a_o_kept 120 g6]) (q0 := 0) (ci := 6) ⟨hx, hb, hml, hown, hts⟩ (c_X6_at l D cI a_o a_o_s a_o_refusals a_o_image a_o_tape a_o_read a_o_innerOf a_o_whoseOf a_o_nearOf a_o_fromOf a_o_pieceOf a_o_kept a_o_claimOf a_o_row v_o_isImage v_o_taped v_o_pos v_o_readWide v_o_readHigh x11 v_o_rowed g12 x10 n x39 hc40) mw_4_43 mw_4_45 mw_p_15 mw_1_8 mw_4_46 hd_X6_at ⟨Nat.le_of_ble_eq_true rfl, Nat.le_of_ble_eq_true rfl⟩ hK hN hP hD hS rfl rfl rfl rfl rfl rfl rfl rfl rfl rfl rfl rfl hl.1 rfl (Nat.le_of_ble_eq_true rfl) dX6_most__21 ⟨Nat.le_of_ble_eq_true rfl, Nat.le_of_ble_eq_true rfl⟩ (fun H locs hP hD hS => ?_)
        refine W.eq (g2 := F0 m 24 ls [.int x39]) rfl ?_
        obtain ⟨z52, hE50, hz49⟩ := cz_x8 h
        have hJ51 : ∀ (x41 : Int32) (x42 : Int32) (x43 : Int32) (g44 : (Nat → Int32)) (g45 : (Nat → Int32)) (g46 : (Nat → Int32)) (g47 : (Nat → Int32)) (g48 : (Nat → Int32)) (H : Heap) (locs : List Loc) (ls : Array Slot), z52 = (x41, x42, x43, g44, g45, g46, g47, g48) → va_P D vwCl [oX6 a_o a_o_refusals a_o_s a_o_image v_o_isImage a_o_tape a_o_read v_o_taped v_o_pos v_o_readWide v_o_readHigh a_o_innerOf a_o_whoseOf a_o_nearOf a_o_fromOf x43 a_o_pieceOf a_o_kept a_o_claimOf a_o_row v_o_rowed, aI cI a_o_s 151 g44, aI cI a_o_innerOf 120 g45, aI cI a_o_whoseOf 120 g46, aI cI a_o_nearOf 360 g47, aI cI a_o_fromOf 360 g48, aI cI a_o_kept 120 g6] H → va_D A [oX6 a_o a_o_refusals a_o_s a_o_image v_o_isImage a_o_tape a_o_read v_o_taped v_o_pos v_o_readWide v_o_readHigh a_o_innerOf a_o_whoseOf a_o_nearOf a_o_fromOf x43 a_o_pieceOf a_o_kept a_o_claimOf a_o_row v_o_rowed, aI cI a_o_s 151 g44, aI cI a_o_innerOf 120 g45, aI cI a_o_whoseOf 120 g46, aI cI a_o_nearOf 360 g47, aI cI a_o_fromOf 360 g48, aI cI a_o_kept 120 g6] → va_S A s.heap H locs → lv_has ls 5 [(0, .ref a_o), (1, .int x41), (2, .int x42), (3, .int x10)] → W p l e (cz_rm 6 141) s m ag below meth c H locs 0 0 Q (F0 m 65 ls []) := by
          intro x41 x42 x43 g44 g45 g46 g47 g48 H locs ls h hP hD hS hl
          replace h := hz49 _ _ _ _ _ _ _ _ h
          obtain ⟨x53, ex53⟩ : ∃ z : Int32, z = x10 + (1 : Int32) := ⟨_, rfl⟩
          replace h := cz_ltE ex53 h
          refine lv_iinc (v := x53) (lv' := [(3, .int x53), (0, .ref a_o), (1, .int x41), (2, .int x42)]) hx hb dX6_most__65 hl (k := 3) rfl (by rw [ex53]; rfl) (by decide) rfl (fun ls hl => ?_)
          refine lv_goto (tgt := 11) hx hb dX6_most__68 (by decide) ?_
          exact ih35 _ _ _ _ _ _ _ _ _ _ _ _ h hP hD hS (lv_sub hl [1, 2, 3, 0] rfl)
        clear h
        have h := hE50
        refine lv_if_eq (tgt := 65) hx hb dX6_most__24 (by decide) (fun c54 => ?_) (fun c54 => ?_)
        · replace h := cz_t c54 h
          exact hJ51 _ _ _ _ _ _ _ _ _ _ _ (cz_i h).symm hP hD hS (lv_sub hl [0, 1, 2, 3] rfl)
        · replace h := cz_f c54 h
          refine lv_aload_n hx hb dX6_most__27 rfl (lv_at hl 0 rfl) ?_
          refine lv_iload_n hx hb dX6_most__28 rfl (lv_at hl 3 rfl) ?_
          obtain ⟨x55, hc56, h⟩ := cz_e1 h
          refine cz_callV (As := [.int x10]) (rest := []) (is := [0, 1]) (isR := [2, 3, 4, 5, 6]) (rs := [aI cI a_o_innerOf 120 g13, aI cI a_o_whoseOf 120 g14, aI cI a_o_nearOf 360 g15, aI cI a_o_fromOf 360 g16, aI cI a_o_kept 120 g6]) (as := [a_o, a_o_s, a_o_innerOf, a_o_whoseOf, a_o_nearOf, a_o_fromOf, a_o_kept]) (ws1 := [oX6 a_o a_o_refusals a_o_s a_o_image v_o_isImage a_o_tape a_o_read v_o_taped v_o_pos v_o_readWide v_o_readHigh a_o_innerOf a_o_whoseOf a_o_nearOf a_o_fromOf x11 a_o_pieceOf a_o_kept a_o_claimOf a_o_row v_o_rowed, aI cI a_o_s 151 g12, aI cI a_o_innerOf 120 g13, aI cI a_o_whoseOf 120 g14, aI cI a_o_nearOf 360 g15, aI cI a_o_fromOf 360 g16, aI cI a_o_kept 120 g6]) (q0 := 0) (ci := 6) ⟨hx, hb, hml, hown, hts⟩ (c_X6_at l D cI a_o a_o_s a_o_refusals a_o_image a_o_tape a_o_read a_o_innerOf a_o_whoseOf a_o_nearOf a_o_fromOf a_o_pieceOf a_o_kept a_o_claimOf a_o_row v_o_isImage v_o_taped v_o_pos v_o_readWide v_o_readHigh x11 v_o_rowed g12 x10 n x55 hc56) mw_4_43 mw_4_45 mw_p_15 mw_1_8 mw_4_46 hd_X6_at ⟨Nat.le_of_ble_eq_true rfl, Nat.le_of_ble_eq_true rfl⟩ hK hN hP hD hS rfl rfl rfl rfl rfl rfl rfl rfl rfl rfl rfl rfl hl.1 rfl (Nat.le_of_ble_eq_true rfl) dX6_most__29 ⟨Nat.le_of_ble_eq_true rfl, Nat.le_of_ble_eq_true rfl⟩ (fun H locs hP hD hS => ?_)
          refine W.eq (g2 := F0 m 32 ls [.int x55]) rfl ?_
          refine lv_bipush (v := (7 : Int32)) hx hb dX6_most__32 (by decide) ?_
          refine lv_icmp_ne (tgt := 40) hx hb dX6_most__34 (by decide) (fun c57 => ?_) (fun c57 => ?_)
          · replace h := cz_f c57 h
            refine lv_aload_n hx hb dX6_most__40 rfl (lv_at hl 0 rfl) ?_
            refine lv_iload_n hx hb dX6_most__41 rfl (lv_at hl 3 rfl) ?_
            obtain ⟨x58, x59, g60, g61, g62, g63, g64, hc65, h⟩ := cz_e7 h
            refine cz_callV (As := [.int x10]) (rest := []) (is := [0, 1, 2, 3, 4, 5, 6]) (isR := []) (rs := []) (as := [a_o, a_o_s, a_o_innerOf, a_o_whoseOf, a_o_nearOf, a_o_fromOf, a_o_kept]) (ws1 := [oX6 a_o a_o_refusals a_o_s a_o_image v_o_isImage a_o_tape a_o_read v_o_taped v_o_pos v_o_readWide v_o_readHigh a_o_innerOf a_o_whoseOf a_o_nearOf a_o_fromOf x59 a_o_pieceOf a_o_kept a_o_claimOf a_o_row v_o_rowed, aI cI a_o_s 151 g60, aI cI a_o_innerOf 120 g61, aI cI a_o_whoseOf 120 g62, aI cI a_o_nearOf 360 g63, aI cI a_o_fromOf 360 g64, aI cI a_o_kept 120 g6]) (q0 := 0) (ci := 6) ⟨hx, hb, hml, hown, hts⟩ (c_X6_movesOf l D cI a_o a_o_s a_o_innerOf a_o_whoseOf a_o_nearOf a_o_fromOf a_o_kept a_o_refusals a_o_image a_o_tape a_o_read a_o_pieceOf a_o_claimOf a_o_row v_o_isImage v_o_taped v_o_pos v_o_readWide v_o_readHigh x11 v_o_rowed g12 g13 g14 g15 g16 g6 x10 n x58 x59 g60 g61 g62 g63 g64 hc65) mw_4_173 mw_4_175 mw_p_31 mw_1_8 mw_4_176 hd_X6_movesOf ⟨Nat.le_of_ble_eq_true rfl, Nat.le_of_ble_eq_true rfl⟩ hK hN hP hD hS rfl rfl rfl rfl rfl rfl rfl rfl rfl rfl rfl rfl hl.1 rfl (Nat.le_of_ble_eq_true rfl) dX6_most__42 ⟨Nat.le_of_ble_eq_true rfl, Nat.le_of_ble_eq_true rfl⟩ (fun H locs hP hD hS => ?_)
            refine W.eq (g2 := F0 m 45 ls [.int x58]) rfl ?_
            refine lv_istore (lv' := [(4, .int x58), (0, .ref a_o), (1, .int x8), (2, .int x9), (3, .int x10)]) hx hb dX6_most__45 hl (by decide) rfl (fun ls hl => ?_)
            refine lv_iload_n hx hb dX6_most__47 rfl (lv_at hl 2 rfl) ?_
            refine lv_if_lt (tgt := 60) hx hb dX6_most__48 (by decide) (fun c66 => ?_) (fun c66 => ?_)
            · replace h := cz_t c66 h
              refine lv_iload_n hx hb dX6_most__60 rfl (lv_at hl 4 rfl) ?_
              refine lv_istore_n (lv' := [(1, .int x10), (4, .int x58), (0, .ref a_o), (2, .int x9), (3, .int x10)]) hx hb dX6_most__61 rfl hl (by decide) rfl (fun ls hl => ?_)
              refine lv_iload hx hb dX6_most__62 (lv_at hl 1 rfl) ?_
              refine lv_istore_n (lv' := [(2, .int x58), (1, .int x10), (4, .int x58), (0, .ref a_o), (3, .int x10)]) hx hb dX6_most__64 rfl hl (by decide) rfl (fun ls hl => ?_)
              exact hJ51 _ _ _ _ _ _ _ _ _ _ _ (cz_i h).symm hP hD hS (lv_sub hl [3, 1, 0, 4] rfl)
            · replace h := cz_f c66 h
              refine lv_iload hx hb dX6_most__51 (lv_at hl 0 rfl) ?_
              refine lv_iload_n hx hb dX6_most__53 rfl (lv_at hl 3 rfl) ?_
              refine lv_icmp_gt (tgt := 60) hx hb dX6_most__54 (by decide) (fun c67 => ?_) (fun c67 => ?_)
              · replace h := cz_t c67 h
                refine lv_iload_n hx hb dX6_most__60 rfl (lv_at hl 4 rfl) ?_
                refine lv_istore_n (lv' := [(1, .int x10), (4, .int x58), (0, .ref a_o), (2, .int x9), (3, .int x10)]) hx hb dX6_most__61 rfl hl (by decide) rfl (fun ls hl => ?_)
                refine lv_iload hx hb dX6_most__62 (lv_at hl 1 rfl) ?_
                refine lv_istore_n (lv' := [(2, .int x58), (1, .int x10), (4, .int x58), (0, .ref a_o), (3, .int x10)]) hx hb dX6_most__64 rfl hl (by decide) rfl (fun ls hl => ?_)
                exact hJ51 _ _ _ _ _ _ _ _ _ _ _ (cz_i h).symm hP hD hS (lv_sub hl [3, 1, 0, 4] rfl)
              · replace h := cz_f c67 h
                refine lv_goto (tgt := 65) hx hb dX6_most__57 (by decide) ?_
                exact hJ51 _ _ _ _ _ _ _ _ _ _ _ (cz_i h).symm hP hD hS (lv_sub hl [1, 2, 3, 4] rfl)
          · replace h := cz_t c57 h
            refine lv_goto (tgt := 65) hx hb dX6_most__37 (by decide) ?_
            exact hJ51 _ _ _ _ _ _ _ _ _ _ _ (cz_i h).symm hP hD hS (lv_sub hl [0, 1, 2, 3] rfl)
  exact hL21 n _ _ _ _ _ _ _ _ _ _ _ _ hE18 hP hD hS (lv_sub hl [3, 2, 1, 0] rfl)
set_option maxHeartbeats 4000000 in
set_option maxRecDepth 100000 in
theorem c_X6_well (l : Launch) (D : va_G) (cI : ClassId) (a_o a_o_refusals a_o_s a_o_image a_o_tape a_o_read a_o_innerOf a_o_whoseOf a_o_nearOf a_o_fromOf a_o_pieceOf a_o_kept a_o_claimOf a_o_row : Nat) (v_o_isImage : Int32) (v_o_taped : Int32) (v_o_pos : Int32) (v_o_readWide : Int32) (v_o_readHigh : Int32) (v_o_thirds : Int32) (v_o_rowed : Int32) (f_o_refusals : (Nat → Int32)) (f_o_s : (Nat → Int32)) (w1 : Int32) (w2 : Int32) (n : Nat) (r : Int32) (r_f_o_refusals : (Nat → Int32)) (r_f_o_s : (Nat → Int32)) (h : f_X6_well n f_o_refusals f_o_s w1 w2 = some (r, r_f_o_refusals, r_f_o_s)) : cz_M l yX6_well cX6_well 4 (some .int) 1 22 D cI [.ref a_o, .int w1, .int w2] [oX6 a_o a_o_refusals a_o_s a_o_image v_o_isImage a_o_tape a_o_read v_o_taped v_o_pos v_o_readWide v_o_readHigh a_o_innerOf a_o_whoseOf a_o_nearOf a_o_fromOf v_o_thirds a_o_pieceOf a_o_kept a_o_claimOf a_o_row v_o_rowed, aI cI a_o_refusals 7 f_o_refusals, aI cI a_o_s 151 f_o_s] (some (.int r)) [oX6 a_o a_o_refusals a_o_s a_o_image v_o_isImage a_o_tape a_o_read v_o_taped v_o_pos v_o_readWide v_o_readHigh a_o_innerOf a_o_whoseOf a_o_nearOf a_o_fromOf v_o_thirds a_o_pieceOf a_o_kept a_o_claimOf a_o_row v_o_rowed, aI cI a_o_refusals 7 r_f_o_refusals, aI cI a_o_s 151 r_f_o_s] := by
  refine cz_startI (by decide) (Nat.le_of_ble_eq_true rfl) ?_
  intro p e s m ag below meth c A Q hx hb hml hown hts hK hN hQ H locs hP hD hS ls hl
  replace hown : s.vm.findClass RX6 = some m.cls := hown
  replace hl : lv_has ls 4 [(0, .ref a_o), (1, .int w1), (2, .int w2)] := hl
  unfold f_X6_well at h
  refine lv_aload_n hx hb dX6_well_0 rfl (lv_at hl 0 rfl) ?_
  refine lv_iload_n hx hb dX6_well_1 rfl (lv_at hl 1 rfl) ?_
  obtain ⟨x1, hc2, h⟩ := cz_e1 h
  refine cz_callV (As := [.int w1]) (rest := []) (is := [0, 2]) (isR := [1]) (rs := [aI cI a_o_refusals 7 f_o_refusals]) (as := [a_o, a_o_refusals, a_o_s]) (ws1 := [oX6 a_o a_o_refusals a_o_s a_o_image v_o_isImage a_o_tape a_o_read v_o_taped v_o_pos v_o_readWide v_o_readHigh a_o_innerOf a_o_whoseOf a_o_nearOf a_o_fromOf v_o_thirds a_o_pieceOf a_o_kept a_o_claimOf a_o_row v_o_rowed, aI cI a_o_refusals 7 f_o_refusals, aI cI a_o_s 151 f_o_s]) (q0 := 0) (ci := 6) ⟨hx, hb, hml, hown, hts⟩ (c_X6_isCell l D cI a_o a_o_s a_o_refusals a_o_image a_o_tape a_o_read a_o_innerOf a_o_whoseOf a_o_nearOf a_o_fromOf a_o_pieceOf a_o_kept a_o_claimOf a_o_row v_o_isImage v_o_taped v_o_pos v_o_readWide v_o_readHigh v_o_thirds v_o_rowed f_o_s w1 n x1 hc2) mw_4_35 mw_4_37 mw_p_13 mw_1_8 mw_4_38 hd_X6_isCell ⟨Nat.le_of_ble_eq_true rfl, Nat.le_of_ble_eq_true rfl⟩ hK hN hP hD hS rfl rfl rfl rfl rfl rfl rfl rfl rfl rfl rfl rfl hl.1 rfl (Nat.le_of_ble_eq_true rfl) dX6_well_2 ⟨Nat.le_of_ble_eq_true rfl, Nat.le_of_ble_eq_true rfl⟩ (fun H locs hP hD hS => ?_)
  refine W.eq (g2 := F0 m 5 ls [.int x1]) rfl ?_
  obtain ⟨z7, hE5, hz4⟩ := cz_x1 h
  have hJ6 : ∀ (x3 : Int32) (H : Heap) (locs : List Loc) (ls : Array Slot), z7 = x3 → va_P D vwCl [oX6 a_o a_o_refusals a_o_s a_o_image v_o_isImage a_o_tape a_o_read v_o_taped v_o_pos v_o_readWide v_o_readHigh a_o_innerOf a_o_whoseOf a_o_nearOf a_o_fromOf v_o_thirds a_o_pieceOf a_o_kept a_o_claimOf a_o_row v_o_rowed, aI cI a_o_refusals 7 f_o_refusals, aI cI a_o_s 151 f_o_s] H → va_D A [oX6 a_o a_o_refusals a_o_s a_o_image v_o_isImage a_o_tape a_o_read v_o_taped v_o_pos v_o_readWide v_o_readHigh a_o_innerOf a_o_whoseOf a_o_nearOf a_o_fromOf v_o_thirds a_o_pieceOf a_o_kept a_o_claimOf a_o_row v_o_rowed, aI cI a_o_refusals 7 f_o_refusals, aI cI a_o_s 151 f_o_s] → va_S A s.heap H locs → lv_has ls 4 [(0, .ref a_o), (1, .int w1), (2, .int w2)] → W p l e (cz_rm 1 22) s m ag below meth c H locs 0 0 Q (F0 m 36 ls [.int x3]) := by
    intro x3 H locs ls h hP hD hS hl
    replace h := hz4 _ h
    refine lv_istore_n (lv' := [(3, .int x3), (0, .ref a_o), (1, .int w1), (2, .int w2)]) hx hb dX6_well_36 rfl hl (by decide) rfl (fun ls hl => ?_)
    refine lv_iload_n hx hb dX6_well_37 rfl (lv_at hl 0 rfl) ?_
    obtain ⟨z12, hE10, hz9⟩ := cz_x1 h
    have hJ11 : ∀ (x8 : Int32) (H : Heap) (locs : List Loc) (ls : Array Slot), z12 = x8 → va_P D vwCl [oX6 a_o a_o_refusals a_o_s a_o_image v_o_isImage a_o_tape a_o_read v_o_taped v_o_pos v_o_readWide v_o_readHigh a_o_innerOf a_o_whoseOf a_o_nearOf a_o_fromOf v_o_thirds a_o_pieceOf a_o_kept a_o_claimOf a_o_row v_o_rowed, aI cI a_o_refusals 7 f_o_refusals, aI cI a_o_s 151 f_o_s] H → va_D A [oX6 a_o a_o_refusals a_o_s a_o_image v_o_isImage a_o_tape a_o_read v_o_taped v_o_pos v_o_readWide v_o_readHigh a_o_innerOf a_o_whoseOf a_o_nearOf a_o_fromOf v_o_thirds a_o_pieceOf a_o_kept a_o_claimOf a_o_row v_o_rowed, aI cI a_o_refusals 7 f_o_refusals, aI cI a_o_s 151 f_o_s] → va_S A s.heap H locs → lv_has ls 4 [(0, .ref a_o), (1, .int w1), (2, .int w2), (3, .int x8)] → W p l e (cz_rm 1 22) s m ag below meth c H locs 0 0 Q (F0 m 56 ls []) := by
      intro x8 H locs ls h hP hD hS hl
      replace h := hz9 _ h
      refine lv_iload_n hx hb dX6_well_56 rfl (lv_at hl 3 rfl) ?_
      refine lv_if_eq (tgt := 66) hx hb dX6_well_57 (by decide) (fun c13 => ?_) (fun c13 => ?_)
      · replace h := cz_t c13 h
        refine lv_aload_n hx hb dX6_well_66 rfl (lv_at hl 0 rfl) ?_
        refine va_get (D := D) (ci := 6) (v := .ref a_o_s) (C := RX6) (T := TX6) (N := 20) hx hb hts in_X6 hown hK hP 0 rfl rfl 1 (by decide) (hts _ mw_3_187) (fun _ h9 => h9) rfl dX6_well_67 ?_
        refine lv_bipush (v := (127 : Int32)) hx hb dX6_well_70 (by decide) ?_
        refine lv_iconst (v := (2 : Int32)) hx hb dX6_well_72 (by decide) ?_
        refine lv_aload_n hx hb dX6_well_73 rfl (lv_at hl 0 rfl) ?_
        refine va_get (D := D) (ci := 6) (v := .ref a_o_s) (C := RX6) (T := TX6) (N := 20) hx hb hts in_X6 hown hK hP 0 rfl rfl 1 (by decide) (hts _ mw_3_187) (fun _ h9 => h9) rfl dX6_well_74 ?_
        refine lv_bipush (v := (6 : Int32)) hx hb dX6_well_77 (by decide) ?_
        refine cz_iald hx hb hK hP 2 0 rfl rfl (cz_rdE h).1 dX6_well_79 (fun x14 ex14 => ?_)
        replace h := cz_rdK ex14 h
        refine lv_imul hx hb dX6_well_80 ?_
        refine lv_iadd hx hb dX6_well_81 ?_
        refine lv_aload_n hx hb dX6_well_82 rfl (lv_at hl 0 rfl) ?_
        refine lv_iload_n hx hb dX6_well_83 rfl (lv_at hl 1 rfl) ?_
        obtain ⟨x15, hc16, h⟩ := cz_e1 h
        refine cz_callV (As := [.int w1]) (rest := [.int ((127 : Int32) + ((2 : Int32) * x14)), .ref a_o_s]) (is := [0, 2]) (isR := [1]) (rs := [aI cI a_o_refusals 7 f_o_refusals]) (as := [a_o, a_o_refusals, a_o_s]) (ws1 := [oX6 a_o a_o_refusals a_o_s a_o_image v_o_isImage a_o_tape a_o_read v_o_taped v_o_pos v_o_readWide v_o_readHigh a_o_innerOf a_o_whoseOf a_o_nearOf a_o_fromOf v_o_thirds a_o_pieceOf a_o_kept a_o_claimOf a_o_row v_o_rowed, aI cI a_o_refusals 7 f_o_refusals, aI cI a_o_s 151 f_o_s]) (q0 := 0) (ci := 6) ⟨hx, hb, hml, hown, hts⟩ (c_X6_of l D cI a_o a_o_s a_o_refusals a_o_image a_o_tape a_o_read a_o_innerOf a_o_whoseOf a_o_nearOf a_o_fromOf a_o_pieceOf a_o_kept a_o_claimOf a_o_row v_o_isImage v_o_taped v_o_pos v_o_readWide v_o_readHigh v_o_thirds v_o_rowed f_o_s w1 n x15 hc16) mw_4_39 mw_4_41 mw_p_14 mw_1_8 mw_4_42 hd_X6_of ⟨Nat.le_of_ble_eq_true rfl, Nat.le_of_ble_eq_true rfl⟩ hK hN hP hD hS rfl rfl rfl rfl rfl rfl rfl rfl rfl rfl rfl rfl hl.1 rfl (Nat.le_of_ble_eq_true rfl) dX6_well_84 ⟨Nat.le_of_ble_eq_true rfl, Nat.le_of_ble_eq_true rfl⟩ (fun H locs hP hD hS => ?_)
        refine W.eq (g2 := F0 m 87 ls [.int x15, .int ((127 : Int32) + ((2 : Int32) * x14)), .ref a_o_s]) rfl ?_
        refine cz_iast hx hb hK hP hD hS 2 0 rfl rfl (cz_wrE h).1 dX6_well_87 (fun g17 H locs eg17 hP hD hS => ?_)
        replace h := cz_wrK eg17 h
        replace hP : va_P D vwCl [oX6 a_o a_o_refusals a_o_s a_o_image v_o_isImage a_o_tape a_o_read v_o_taped v_o_pos v_o_readWide v_o_readHigh a_o_innerOf a_o_whoseOf a_o_nearOf a_o_fromOf v_o_thirds a_o_pieceOf a_o_kept a_o_claimOf a_o_row v_o_rowed, aI cI a_o_refusals 7 f_o_refusals, aI cI a_o_s 151 g17] H := hP
        replace hD : va_D A [oX6 a_o a_o_refusals a_o_s a_o_image v_o_isImage a_o_tape a_o_read v_o_taped v_o_pos v_o_readWide v_o_readHigh a_o_innerOf a_o_whoseOf a_o_nearOf a_o_fromOf v_o_thirds a_o_pieceOf a_o_kept a_o_claimOf a_o_row v_o_rowed, aI cI a_o_refusals 7 f_o_refusals, aI cI a_o_s 151 g17] := hD
        refine lv_aload_n hx hb dX6_well_88 rfl (lv_at hl 0 rfl) ?_
        refine va_get (D := D) (ci := 6) (v := .ref a_o_s) (C := RX6) (T := TX6) (N := 20) hx hb hts in_X6 hown hK hP 0 rfl rfl 1 (by decide) (hts _ mw_3_187) (fun _ h9 => h9) rfl dX6_well_89 ?_
        refine lv_bipush (v := (127 : Int32)) hx hb dX6_well_92 (by decide) ?_
        refine lv_iconst (v := (2 : Int32)) hx hb dX6_well_94 (by decide) ?_
        refine lv_aload_n hx hb dX6_well_95 rfl (lv_at hl 0 rfl) ?_
        refine va_get (D := D) (ci := 6) (v := .ref a_o_s) (C := RX6) (T := TX6) (N := 20) hx hb hts in_X6 hown hK hP 0 rfl rfl 1 (by decide) (hts _ mw_3_187) (fun _ h9 => h9) rfl dX6_well_96 ?_
        refine lv_bipush (v := (6 : Int32)) hx hb dX6_well_99 (by decide) ?_
        refine cz_iald hx hb hK hP 2 0 rfl rfl (cz_rdE h).1 dX6_well_101 (fun x18 ex18 => ?_)
        replace h := cz_rdK ex18 h
        refine lv_imul hx hb dX6_well_102 ?_
        refine lv_iadd hx hb dX6_well_103 ?_
        refine lv_iconst (v := (1 : Int32)) hx hb dX6_well_104 (by decide) ?_
        refine lv_iadd hx hb dX6_well_105 ?_
        refine lv_iload_n hx hb dX6_well_106 rfl (lv_at hl 2 rfl) ?_
        refine cz_iast hx hb hK hP hD hS 2 0 rfl rfl (cz_wrE h).1 dX6_well_107 (fun g19 H locs eg19 hP hD hS => ?_)
        replace h := cz_wrK eg19 h
        replace hP : va_P D vwCl [oX6 a_o a_o_refusals a_o_s a_o_image v_o_isImage a_o_tape a_o_read v_o_taped v_o_pos v_o_readWide v_o_readHigh a_o_innerOf a_o_whoseOf a_o_nearOf a_o_fromOf v_o_thirds a_o_pieceOf a_o_kept a_o_claimOf a_o_row v_o_rowed, aI cI a_o_refusals 7 f_o_refusals, aI cI a_o_s 151 g19] H := hP
        replace hD : va_D A [oX6 a_o a_o_refusals a_o_s a_o_image v_o_isImage a_o_tape a_o_read v_o_taped v_o_pos v_o_readWide v_o_readHigh a_o_innerOf a_o_whoseOf a_o_nearOf a_o_fromOf v_o_thirds a_o_pieceOf a_o_kept a_o_claimOf a_o_row v_o_rowed, aI cI a_o_refusals 7 f_o_refusals, aI cI a_o_s 151 g19] := hD
        refine lv_aload_n hx hb dX6_well_108 rfl (lv_at hl 0 rfl) ?_
        refine va_get (D := D) (ci := 6) (v := .ref a_o_s) (C := RX6) (T := TX6) (N := 20) hx hb hts in_X6 hown hK hP 0 rfl rfl 1 (by decide) (hts _ mw_3_187) (fun _ h9 => h9) rfl dX6_well_109 ?_
        refine lv_bipush (v := (6 : Int32)) hx hb dX6_well_112 (by decide) ?_
        refine lv_dup2_11 hx hb dX6_well_114 rfl rfl ?_
        refine cz_iald hx hb hK hP 2 0 rfl rfl (cz_rdE h).1 dX6_well_115 (fun x20 ex20 => ?_)
        replace h := cz_rdK ex20 h
        refine lv_iconst (v := (1 : Int32)) hx hb dX6_well_116 (by decide) ?_
        refine lv_iadd hx hb dX6_well_117 ?_
        refine cz_iast hx hb hK hP hD hS 2 0 rfl rfl (cz_wrE h).1 dX6_well_118 (fun g21 H locs eg21 hP hD hS => ?_)
        replace h := cz_wrK eg21 h
        replace hP : va_P D vwCl [oX6 a_o a_o_refusals a_o_s a_o_image v_o_isImage a_o_tape a_o_read v_o_taped v_o_pos v_o_readWide v_o_readHigh a_o_innerOf a_o_whoseOf a_o_nearOf a_o_fromOf v_o_thirds a_o_pieceOf a_o_kept a_o_claimOf a_o_row v_o_rowed, aI cI a_o_refusals 7 f_o_refusals, aI cI a_o_s 151 g21] H := hP
        replace hD : va_D A [oX6 a_o a_o_refusals a_o_s a_o_image v_o_isImage a_o_tape a_o_read v_o_taped v_o_pos v_o_readWide v_o_readHigh a_o_innerOf a_o_whoseOf a_o_nearOf a_o_fromOf v_o_thirds a_o_pieceOf a_o_kept a_o_claimOf a_o_row v_o_rowed, aI cI a_o_refusals 7 f_o_refusals, aI cI a_o_s 151 g21] := hD
        refine lv_aload_n hx hb dX6_well_119 rfl (lv_at hl 0 rfl) ?_
        refine va_get (D := D) (ci := 6) (v := .ref a_o_s) (C := RX6) (T := TX6) (N := 20) hx hb hts in_X6 hown hK hP 0 rfl rfl 1 (by decide) (hts _ mw_3_187) (fun _ h9 => h9) rfl dX6_well_120 ?_
        refine lv_bipush (v := (6 : Int32)) hx hb dX6_well_123 (by decide) ?_
        refine cz_iald hx hb hK hP 2 0 rfl rfl (cz_rdE h).1 dX6_well_125 (fun x22 ex22 => ?_)
        replace h := cz_rdK ex22 h
        obtain ⟨rfl, rfl, rfl⟩ := cz_j3 (cz_i h)
        exact hQ _ _ _ _ hP hS dX6_well_126
      · replace h := cz_f c13 h
        refine lv_aload_n hx hb dX6_well_60 rfl (lv_at hl 0 rfl) ?_
        refine lv_iload_n hx hb dX6_well_61 rfl (lv_at hl 3 rfl) ?_
        obtain ⟨x23, g24, hc25, h⟩ := cz_e2 h
        refine cz_callV (As := [.int x8]) (rest := []) (is := [0, 1]) (isR := [2]) (rs := [aI cI a_o_s 151 f_o_s]) (as := [a_o, a_o_refusals, a_o_s]) (ws1 := [oX6 a_o a_o_refusals a_o_s a_o_image v_o_isImage a_o_tape a_o_read v_o_taped v_o_pos v_o_readWide v_o_readHigh a_o_innerOf a_o_whoseOf a_o_nearOf a_o_fromOf v_o_thirds a_o_pieceOf a_o_kept a_o_claimOf a_o_row v_o_rowed, aI cI a_o_refusals 7 g24, aI cI a_o_s 151 f_o_s]) (q0 := 0) (ci := 6) ⟨hx, hb, hml, hown, hts⟩ (c_X6_refuse l D cI a_o a_o_refusals a_o_s a_o_image a_o_tape a_o_read a_o_innerOf a_o_whoseOf a_o_nearOf a_o_fromOf a_o_pieceOf a_o_kept a_o_claimOf a_o_row v_o_isImage v_o_taped v_o_pos v_o_readWide v_o_readHigh v_o_thirds v_o_rowed f_o_refusals x8 n x23 g24 hc25) mw_4_11 mw_4_13 mw_p_10 mw_1_8 mw_4_14 hd_X6_refuse ⟨Nat.le_of_ble_eq_true rfl, Nat.le_of_ble_eq_true rfl⟩ hK hN hP hD hS rfl rfl rfl rfl rfl rfl rfl rfl rfl rfl rfl rfl hl.1 rfl (Nat.le_of_ble_eq_true rfl) dX6_well_62 ⟨Nat.le_of_ble_eq_true rfl, Nat.le_of_ble_eq_true rfl⟩ (fun H locs hP hD hS => ?_)
        refine W.eq (g2 := F0 m 65 ls [.int x23]) rfl ?_
        obtain ⟨rfl, rfl, rfl⟩ := cz_j3 (cz_i h)
        exact hQ _ _ _ _ hP hS dX6_well_65
    clear h
    have h := hE10
    refine lv_if_ne (tgt := 56) hx hb dX6_well_38 (by decide) (fun c26 => ?_) (fun c26 => ?_)
    · replace h := cz_f c26 h
      exact hJ11 _ _ _ _ (cz_i h).symm hP hD hS (lv_sub hl [1, 2, 3, 0] rfl)
    · replace h := cz_t c26 h
      refine lv_aload_n hx hb dX6_well_41 rfl (lv_at hl 1 rfl) ?_
      refine va_get (D := D) (ci := 6) (v := .ref a_o_s) (C := RX6) (T := TX6) (N := 20) hx hb hts in_X6 hown hK hP 0 rfl rfl 1 (by decide) (hts _ mw_3_187) (fun _ h9 => h9) rfl dX6_well_42 ?_
      refine lv_bipush (v := (6 : Int32)) hx hb dX6_well_45 (by decide) ?_
      refine cz_iald hx hb hK hP 2 0 rfl rfl (cz_rdE h).1 dX6_well_47 (fun x27 ex27 => ?_)
      replace h := cz_rdK ex27 h
      refine lv_bipush (v := (12 : Int32)) hx hb dX6_well_48 (by decide) ?_
      refine lv_icmp_ne (tgt := 56) hx hb dX6_well_50 (by decide) (fun c28 => ?_) (fun c28 => ?_)
      · replace h := cz_f c28 h
        exact hJ11 _ _ _ _ (cz_i h).symm hP hD hS (lv_sub hl [1, 2, 3, 0] rfl)
      · replace h := cz_t c28 h
        refine lv_bipush (v := (-6 : Int32)) hx hb dX6_well_53 (by decide) ?_
        refine lv_istore_n (lv' := [(3, .int (-6 : Int32)), (0, .ref a_o), (1, .int w1), (2, .int w2)]) hx hb dX6_well_55 rfl hl (by decide) rfl (fun ls hl => ?_)
        exact hJ11 _ _ _ _ (cz_i h).symm hP hD hS (lv_sub hl [1, 2, 3, 0] rfl)
  clear h
  have h := hE5
  refine lv_if_ne (tgt := 12) hx hb dX6_well_5 (by decide) (fun c29 => ?_) (fun c29 => ?_)
  · replace h := cz_f c29 h
    refine lv_aload_n hx hb dX6_well_12 rfl (lv_at hl 0 rfl) ?_
    refine lv_aload_n hx hb dX6_well_13 rfl (lv_at hl 0 rfl) ?_
    refine lv_iload_n hx hb dX6_well_14 rfl (lv_at hl 1 rfl) ?_
    obtain ⟨x30, hc31, h⟩ := cz_e1 h
    refine cz_callV (As := [.int w1]) (rest := [.ref a_o]) (is := [0, 2]) (isR := [1]) (rs := [aI cI a_o_refusals 7 f_o_refusals]) (as := [a_o, a_o_refusals, a_o_s]) (ws1 := [oX6 a_o a_o_refusals a_o_s a_o_image v_o_isImage a_o_tape a_o_read v_o_taped v_o_pos v_o_readWide v_o_readHigh a_o_innerOf a_o_whoseOf a_o_nearOf a_o_fromOf v_o_thirds a_o_pieceOf a_o_kept a_o_claimOf a_o_row v_o_rowed, aI cI a_o_refusals 7 f_o_refusals, aI cI a_o_s 151 f_o_s]) (q0 := 0) (ci := 6) ⟨hx, hb, hml, hown, hts⟩ (c_X6_of l D cI a_o a_o_s a_o_refusals a_o_image a_o_tape a_o_read a_o_innerOf a_o_whoseOf a_o_nearOf a_o_fromOf a_o_pieceOf a_o_kept a_o_claimOf a_o_row v_o_isImage v_o_taped v_o_pos v_o_readWide v_o_readHigh v_o_thirds v_o_rowed f_o_s w1 n x30 hc31) mw_4_39 mw_4_41 mw_p_14 mw_1_8 mw_4_42 hd_X6_of ⟨Nat.le_of_ble_eq_true rfl, Nat.le_of_ble_eq_true rfl⟩ hK hN hP hD hS rfl rfl rfl rfl rfl rfl rfl rfl rfl rfl rfl rfl hl.1 rfl (Nat.le_of_ble_eq_true rfl) dX6_well_15 ⟨Nat.le_of_ble_eq_true rfl, Nat.le_of_ble_eq_true rfl⟩ (fun H locs hP hD hS => ?_)
    refine W.eq (g2 := F0 m 18 ls [.int x30, .ref a_o]) rfl ?_
    obtain ⟨x32, hc33, h⟩ := cz_e1 h
    refine cz_callV (As := [.int x30]) (rest := []) (is := [0, 2]) (isR := [1]) (rs := [aI cI a_o_refusals 7 f_o_refusals]) (as := [a_o, a_o_refusals, a_o_s]) (ws1 := [oX6 a_o a_o_refusals a_o_s a_o_image v_o_isImage a_o_tape a_o_read v_o_taped v_o_pos v_o_readWide v_o_readHigh a_o_innerOf a_o_whoseOf a_o_nearOf a_o_fromOf v_o_thirds a_o_pieceOf a_o_kept a_o_claimOf a_o_row v_o_rowed, aI cI a_o_refusals 7 f_o_refusals, aI cI a_o_s 151 f_o_s]) (q0 := 0) (ci := 6) ⟨hx, hb, hml, hown, hts⟩ (c_X6_at l D cI a_o a_o_s a_o_refusals a_o_image a_o_tape a_o_read a_o_innerOf a_o_whoseOf a_o_nearOf a_o_fromOf a_o_pieceOf a_o_kept a_o_claimOf a_o_row v_o_isImage v_o_taped v_o_pos v_o_readWide v_o_readHigh v_o_thirds v_o_rowed f_o_s x30 n x32 hc33) mw_4_43 mw_4_45 mw_p_15 mw_1_8 mw_4_46 hd_X6_at ⟨Nat.le_of_ble_eq_true rfl, Nat.le_of_ble_eq_true rfl⟩ hK hN hP hD hS rfl rfl rfl rfl rfl rfl rfl rfl rfl rfl rfl rfl hl.1 rfl (Nat.le_of_ble_eq_true rfl) dX6_well_18 ⟨Nat.le_of_ble_eq_true rfl, Nat.le_of_ble_eq_true rfl⟩ (fun H locs hP hD hS => ?_)
    refine W.eq (g2 := F0 m 21 ls [.int x32]) rfl ?_
    refine lv_if_eq (tgt := 29) hx hb dX6_well_21 (by decide) (fun c34 => ?_) (fun c34 => ?_)
    · replace h := cz_t c34 h
      refine lv_iload_n hx hb dX6_well_29 rfl (lv_at hl 2 rfl) ?_
      refine lv_iconst (v := (1 : Int32)) hx hb dX6_well_30 (by decide) ?_
      refine lv_bipush (v := (99 : Int32)) hx hb dX6_well_31 (by decide) ?_
      obtain ⟨x35, hc36, h⟩ := cz_e1 h
      refine cz_callS (As := [.int w2, .int (1 : Int32), .int (99 : Int32)]) (rest := []) (is := []) (isR := [0, 1, 2]) (rs := [oX6 a_o a_o_refusals a_o_s a_o_image v_o_isImage a_o_tape a_o_read v_o_taped v_o_pos v_o_readWide v_o_readHigh a_o_innerOf a_o_whoseOf a_o_nearOf a_o_fromOf v_o_thirds a_o_pieceOf a_o_kept a_o_claimOf a_o_row v_o_rowed, aI cI a_o_refusals 7 f_o_refusals, aI cI a_o_s 151 f_o_s]) (as := [a_o, a_o_refusals, a_o_s]) (ws1 := [oX6 a_o a_o_refusals a_o_s a_o_image v_o_isImage a_o_tape a_o_read v_o_taped v_o_pos v_o_readWide v_o_readHigh a_o_innerOf a_o_whoseOf a_o_nearOf a_o_fromOf v_o_thirds a_o_pieceOf a_o_kept a_o_claimOf a_o_row v_o_rowed, aI cI a_o_refusals 7 f_o_refusals, aI cI a_o_s 151 f_o_s]) ⟨hx, hb, hml, hown, hts⟩ (c_X6_within l D cI   w2 (1 : Int32) (99 : Int32) n x35 hc36) mw_4_60 mw_4_61 mw_1_8 mw_4_62 hd_X6_within ⟨Nat.le_of_ble_eq_true rfl, Nat.le_of_ble_eq_true rfl⟩ hK hN hP hD hS rfl rfl rfl rfl rfl rfl rfl rfl rfl hl.1 rfl (Nat.le_of_ble_eq_true rfl) dX6_well_33 ⟨Nat.le_of_ble_eq_true rfl, Nat.le_of_ble_eq_true rfl⟩ (fun H locs hP hD hS => ?_)
      refine W.eq (g2 := F0 m 36 ls [.int x35]) rfl ?_
      exact hJ6 _ _ _ _ (cz_i h).symm hP hD hS (lv_sub hl [0, 1, 2] rfl)
    · replace h := cz_f c34 h
      refine lv_bipush (v := (-3 : Int32)) hx hb dX6_well_24 (by decide) ?_
      refine lv_goto (tgt := 36) hx hb dX6_well_26 (by decide) ?_
      exact hJ6 _ _ _ _ (cz_i h).symm hP hD hS (lv_sub hl [0, 1, 2] rfl)
  · replace h := cz_t c29 h
    refine lv_iconst (v := (-1 : Int32)) hx hb dX6_well_8 (by decide) ?_
    refine lv_goto (tgt := 36) hx hb dX6_well_9 (by decide) ?_
    exact hJ6 _ _ _ _ (cz_i h).symm hP hD hS (lv_sub hl [0, 1, 2] rfl)
set_option maxHeartbeats 4000000 in
set_option maxRecDepth 100000 in
theorem c_X6_worthOf (l : Launch) (D : va_G) (cI : ClassId) (a_o a_o_s a_o_whoseOf a_o_refusals a_o_image a_o_tape a_o_read a_o_innerOf a_o_nearOf a_o_fromOf a_o_pieceOf a_o_kept a_o_claimOf a_o_row : Nat) (v_o_isImage : Int32) (v_o_taped : Int32) (v_o_pos : Int32) (v_o_readWide : Int32) (v_o_readHigh : Int32) (v_o_thirds : Int32) (v_o_rowed : Int32) (f_o_s : (Nat → Int32)) (f_o_whoseOf : (Nat → Int32)) (w1 : Int32) (n : Nat) (r : Int32) (h : f_X6_worthOf n f_o_s f_o_whoseOf w1 = some r) : cz_M l yX6_worthOf cX6_worthOf 4 (some .int) 0 0 D cI [.ref a_o, .int w1] [oX6 a_o a_o_refusals a_o_s a_o_image v_o_isImage a_o_tape a_o_read v_o_taped v_o_pos v_o_readWide v_o_readHigh a_o_innerOf a_o_whoseOf a_o_nearOf a_o_fromOf v_o_thirds a_o_pieceOf a_o_kept a_o_claimOf a_o_row v_o_rowed, aI cI a_o_s 151 f_o_s, aI cI a_o_whoseOf 120 f_o_whoseOf] (some (.int r)) [oX6 a_o a_o_refusals a_o_s a_o_image v_o_isImage a_o_tape a_o_read v_o_taped v_o_pos v_o_readWide v_o_readHigh a_o_innerOf a_o_whoseOf a_o_nearOf a_o_fromOf v_o_thirds a_o_pieceOf a_o_kept a_o_claimOf a_o_row v_o_rowed, aI cI a_o_s 151 f_o_s, aI cI a_o_whoseOf 120 f_o_whoseOf] := by
  refine cz_startI (by decide) (Nat.le_of_ble_eq_true rfl) ?_
  intro p e s m ag below meth c A Q hx hb hml hown hts hK hN hQ H locs hP hD hS ls hl
  replace hown : s.vm.findClass RX6 = some m.cls := hown
  replace hl : lv_has ls 4 [(0, .ref a_o), (1, .int w1)] := hl
  unfold f_X6_worthOf at h
  refine lv_iconst (v := (0 : Int32)) hx hb dX6_worthOf_0 (by decide) ?_
  refine lv_istore_n (lv' := [(2, .int (0 : Int32)), (0, .ref a_o), (1, .int w1)]) hx hb dX6_worthOf_1 rfl hl (by decide) rfl (fun ls hl => ?_)
  refine lv_iconst (v := (0 : Int32)) hx hb dX6_worthOf_2 (by decide) ?_
  refine lv_istore_n (lv' := [(3, .int (0 : Int32)), (2, .int (0 : Int32)), (0, .ref a_o), (1, .int w1)]) hx hb dX6_worthOf_3 rfl hl (by decide) rfl (fun ls hl => ?_)
  obtain ⟨z3, hE4, hz5⟩ := cz_x2 h
  have hX6 : ∀ (y9 : Int32) (y10 : Int32) (H : Heap) (locs : List Loc) (ls : Array Slot), z3 = (y9, y10) → va_P D vwCl [oX6 a_o a_o_refusals a_o_s a_o_image v_o_isImage a_o_tape a_o_read v_o_taped v_o_pos v_o_readWide v_o_readHigh a_o_innerOf a_o_whoseOf a_o_nearOf a_o_fromOf v_o_thirds a_o_pieceOf a_o_kept a_o_claimOf a_o_row v_o_rowed, aI cI a_o_s 151 f_o_s, aI cI a_o_whoseOf 120 f_o_whoseOf] H → va_D A [oX6 a_o a_o_refusals a_o_s a_o_image v_o_isImage a_o_tape a_o_read v_o_taped v_o_pos v_o_readWide v_o_readHigh a_o_innerOf a_o_whoseOf a_o_nearOf a_o_fromOf v_o_thirds a_o_pieceOf a_o_kept a_o_claimOf a_o_row v_o_rowed, aI cI a_o_s 151 f_o_s, aI cI a_o_whoseOf 120 f_o_whoseOf] → va_S A s.heap H locs → lv_has ls 4 [(2, .int y9)] → W p l e (cz_rm 0 0) s m ag below meth c H locs 0 0 Q (F0 m 61 ls []) := by
    intro y9 y10 H locs ls h hP hD hS hl
    replace h := hz5 _ _ h
    refine lv_iload_n hx hb dX6_worthOf_61 rfl (lv_at hl 0 rfl) ?_
    obtain rfl := cz_i h
    exact hQ _ _ _ _ hP hS dX6_worthOf_62
  clear h
  have hL7 : ∀ (k : Nat) (x1 : Int32) (x2 : Int32) (H : Heap) (locs : List Loc) (ls : Array Slot), f_X6_worthOf_L4 n f_o_s f_o_whoseOf w1 k x1 x2 = some z3 → va_P D vwCl [oX6 a_o a_o_refusals a_o_s a_o_image v_o_isImage a_o_tape a_o_read v_o_taped v_o_pos v_o_readWide v_o_readHigh a_o_innerOf a_o_whoseOf a_o_nearOf a_o_fromOf v_o_thirds a_o_pieceOf a_o_kept a_o_claimOf a_o_row v_o_rowed, aI cI a_o_s 151 f_o_s, aI cI a_o_whoseOf 120 f_o_whoseOf] H → va_D A [oX6 a_o a_o_refusals a_o_s a_o_image v_o_isImage a_o_tape a_o_read v_o_taped v_o_pos v_o_readWide v_o_readHigh a_o_innerOf a_o_whoseOf a_o_nearOf a_o_fromOf v_o_thirds a_o_pieceOf a_o_kept a_o_claimOf a_o_row v_o_rowed, aI cI a_o_s 151 f_o_s, aI cI a_o_whoseOf 120 f_o_whoseOf] → va_S A s.heap H locs → lv_has ls 4 [(0, .ref a_o), (1, .int w1), (2, .int x1), (3, .int x2)] → W p l e (cz_rm 0 0) s m ag below meth c H locs 0 0 Q (F0 m 4 ls []) := by
    intro k
    induction k with
    | zero =>
      intro x1 x2 H locs ls h
      rw [f_X6_worthOf_L4] at h
      cases h
    | succ k ih11 =>
      intro x1 x2 H locs ls h hP hD hS hl
      rw [f_X6_worthOf_L4] at h
      refine lv_iload_n hx hb dX6_worthOf_4 rfl (lv_at hl 3 rfl) ?_
      refine lv_aload_n hx hb dX6_worthOf_5 rfl (lv_at hl 0 rfl) ?_
      refine va_get (D := D) (ci := 6) (v := .ref a_o_s) (C := RX6) (T := TX6) (N := 20) hx hb hts in_X6 hown hK hP 0 rfl rfl 1 (by decide) (hts _ mw_3_187) (fun _ h9 => h9) rfl dX6_worthOf_6 ?_
      refine lv_bipush (v := (6 : Int32)) hx hb dX6_worthOf_9 (by decide) ?_
      refine cz_iald hx hb hK hP 1 0 rfl rfl (cz_rdE h).1 dX6_worthOf_11 (fun x12 ex12 => ?_)
      replace h := cz_rdK ex12 h
      refine lv_icmp_ge (tgt := 61) hx hb dX6_worthOf_12 (by decide) (fun c13 => ?_) (fun c13 => ?_)
      · replace h := cz_t c13 h
        exact hX6 _ _ _ _ _ (cz_i h).symm hP hD hS (lv_sub hl [2] rfl)
      · replace h := cz_f c13 h
        refine lv_iload_n hx hb dX6_worthOf_15 rfl (lv_at hl 2 rfl) ?_
        refine lv_aload_n hx hb dX6_worthOf_16 rfl (lv_at hl 0 rfl) ?_
        refine va_get (D := D) (ci := 6) (v := .ref a_o_whoseOf) (C := RX6) (T := TX6) (N := 20) hx hb hts in_X6 hown hK hP 0 rfl rfl 11 (by decide) (hts _ mw_3_197) (fun _ h9 => h9) rfl dX6_worthOf_17 ?_
        refine lv_aload_n hx hb dX6_worthOf_20 rfl (lv_at hl 0 rfl) ?_
        refine va_get (D := D) (ci := 6) (v := .ref a_o_s) (C := RX6) (T := TX6) (N := 20) hx hb hts in_X6 hown hK hP 0 rfl rfl 1 (by decide) (hts _ mw_3_187) (fun _ h9 => h9) rfl dX6_worthOf_21 ?_
        refine lv_bipush (v := (127 : Int32)) hx hb dX6_worthOf_24 (by decide) ?_
        refine lv_iconst (v := (2 : Int32)) hx hb dX6_worthOf_26 (by decide) ?_
        refine lv_iload_n hx hb dX6_worthOf_27 rfl (lv_at hl 3 rfl) ?_
        refine lv_imul hx hb dX6_worthOf_28 ?_
        refine lv_iadd hx hb dX6_worthOf_29 ?_
        refine cz_iald hx hb hK hP 1 0 rfl rfl (cz_rdE h).1 dX6_worthOf_30 (fun x14 ex14 => ?_)
        replace h := cz_rdK ex14 h
        refine cz_iald hx hb hK hP 2 0 rfl rfl (cz_rdE h).1 dX6_worthOf_31 (fun x15 ex15 => ?_)
        replace h := cz_rdK ex15 h
        refine lv_iload_n hx hb dX6_worthOf_32 rfl (lv_at hl 1 rfl) ?_
        obtain ⟨z20, hE18, hz17⟩ := cz_x1 h
        have hJ19 : ∀ (x16 : Int32) (H : Heap) (locs : List Loc) (ls : Array Slot), z20 = x16 → va_P D vwCl [oX6 a_o a_o_refusals a_o_s a_o_image v_o_isImage a_o_tape a_o_read v_o_taped v_o_pos v_o_readWide v_o_readHigh a_o_innerOf a_o_whoseOf a_o_nearOf a_o_fromOf v_o_thirds a_o_pieceOf a_o_kept a_o_claimOf a_o_row v_o_rowed, aI cI a_o_s 151 f_o_s, aI cI a_o_whoseOf 120 f_o_whoseOf] H → va_D A [oX6 a_o a_o_refusals a_o_s a_o_image v_o_isImage a_o_tape a_o_read v_o_taped v_o_pos v_o_readWide v_o_readHigh a_o_innerOf a_o_whoseOf a_o_nearOf a_o_fromOf v_o_thirds a_o_pieceOf a_o_kept a_o_claimOf a_o_row v_o_rowed, aI cI a_o_s 151 f_o_s, aI cI a_o_whoseOf 120 f_o_whoseOf] → va_S A s.heap H locs → lv_has ls 4 [(0, .ref a_o), (1, .int w1), (3, .int x2)] → W p l e (cz_rm 0 0) s m ag below meth c H locs 0 0 Q (F0 m 53 ls [.int x16, .int x1]) := by
          intro x16 H locs ls h hP hD hS hl
          replace h := hz17 _ h
          refine lv_iadd hx hb dX6_worthOf_53 ?_
          refine lv_topi (fun x21 ex21 => ?_)
          replace h := cz_ltE ex21 h
          refine lv_istore_n (lv' := [(2, .int x21), (0, .ref a_o), (1, .int w1), (3, .int x2)]) hx hb dX6_worthOf_54 rfl hl (by decide) rfl (fun ls hl => ?_)
          obtain ⟨x22, ex22⟩ : ∃ z : Int32, z = x2 + (1 : Int32) := ⟨_, rfl⟩
          replace h := cz_ltE ex22 h
          refine lv_iinc (v := x22) (lv' := [(3, .int x22), (2, .int x21), (0, .ref a_o), (1, .int w1)]) hx hb dX6_worthOf_55 hl (k := 3) rfl (by rw [ex22]; rfl) (by decide) rfl (fun ls hl => ?_)
          refine lv_goto (tgt := 4) hx hb dX6_worthOf_58 (by decide) ?_
          exact ih11 _ _ _ _ _ h hP hD hS (lv_sub hl [2, 3, 1, 0] rfl)
        clear h
        have h := hE18
        refine lv_icmp_ne (tgt := 52) hx hb dX6_worthOf_33 (by decide) (fun c23 => ?_) (fun c23 => ?_)
        · replace h := cz_f c23 h
          refine lv_iconst (v := (0 : Int32)) hx hb dX6_worthOf_52 (by decide) ?_
          exact hJ19 _ _ _ _ (cz_i h).symm hP hD hS (lv_sub hl [0, 1, 3] rfl)
        · replace h := cz_t c23 h
          refine lv_aload_n hx hb dX6_worthOf_36 rfl (lv_at hl 0 rfl) ?_
          refine va_get (D := D) (ci := 6) (v := .ref a_o_s) (C := RX6) (T := TX6) (N := 20) hx hb hts in_X6 hown hK hP 0 rfl rfl 1 (by decide) (hts _ mw_3_187) (fun _ h9 => h9) rfl dX6_worthOf_37 ?_
          refine lv_bipush (v := (127 : Int32)) hx hb dX6_worthOf_40 (by decide) ?_
          refine lv_iconst (v := (2 : Int32)) hx hb dX6_worthOf_42 (by decide) ?_
          refine lv_iload_n hx hb dX6_worthOf_43 rfl (lv_at hl 3 rfl) ?_
          refine lv_imul hx hb dX6_worthOf_44 ?_
          refine lv_iadd hx hb dX6_worthOf_45 ?_
          refine lv_iconst (v := (1 : Int32)) hx hb dX6_worthOf_46 (by decide) ?_
          refine lv_iadd hx hb dX6_worthOf_47 ?_
          refine cz_iald hx hb hK hP 1 0 rfl rfl (cz_rdE h).1 dX6_worthOf_48 (fun x24 ex24 => ?_)
          replace h := cz_rdK ex24 h
          refine lv_goto (tgt := 53) hx hb dX6_worthOf_49 (by decide) ?_
          exact hJ19 _ _ _ _ (cz_i h).symm hP hD hS (lv_sub hl [0, 1, 3] rfl)
  exact hL7 n _ _ _ _ _ hE4 hP hD hS (lv_sub hl [2, 3, 1, 0] rfl)
set_option maxHeartbeats 4000000 in
set_option maxRecDepth 100000 in
theorem c_X6_worth (l : Launch) (D : va_G) (cI : ClassId) (a_o a_o_refusals a_o_s a_o_innerOf a_o_whoseOf a_o_nearOf a_o_fromOf a_o_image a_o_tape a_o_read a_o_pieceOf a_o_kept a_o_claimOf a_o_row : Nat) (v_o_isImage : Int32) (v_o_taped : Int32) (v_o_pos : Int32) (v_o_readWide : Int32) (v_o_readHigh : Int32) (v_o_thirds : Int32) (v_o_rowed : Int32) (f_o_refusals : (Nat → Int32)) (f_o_s : (Nat → Int32)) (f_o_innerOf : (Nat → Int32)) (f_o_whoseOf : (Nat → Int32)) (f_o_nearOf : (Nat → Int32)) (f_o_fromOf : (Nat → Int32)) (w1 : Int32) (n : Nat) (r : Int32) (r_v_o_thirds : Int32) (r_f_o_refusals : (Nat → Int32)) (r_f_o_innerOf : (Nat → Int32)) (r_f_o_whoseOf : (Nat → Int32)) (r_f_o_nearOf : (Nat → Int32)) (r_f_o_fromOf : (Nat → Int32)) (h : f_X6_worth n v_o_thirds f_o_refusals f_o_s f_o_innerOf f_o_whoseOf f_o_nearOf f_o_fromOf w1 = some (r, r_v_o_thirds, r_f_o_refusals, r_f_o_innerOf, r_f_o_whoseOf, r_f_o_nearOf, r_f_o_fromOf)) : cz_M l yX6_worth cX6_worth 2 (some .int) 5 117 D cI [.ref a_o, .int w1] [oX6 a_o a_o_refusals a_o_s a_o_image v_o_isImage a_o_tape a_o_read v_o_taped v_o_pos v_o_readWide v_o_readHigh a_o_innerOf a_o_whoseOf a_o_nearOf a_o_fromOf v_o_thirds a_o_pieceOf a_o_kept a_o_claimOf a_o_row v_o_rowed, aI cI a_o_refusals 7 f_o_refusals, aI cI a_o_s 151 f_o_s, aI cI a_o_innerOf 120 f_o_innerOf, aI cI a_o_whoseOf 120 f_o_whoseOf, aI cI a_o_nearOf 360 f_o_nearOf, aI cI a_o_fromOf 360 f_o_fromOf] (some (.int r)) [oX6 a_o a_o_refusals a_o_s a_o_image v_o_isImage a_o_tape a_o_read v_o_taped v_o_pos v_o_readWide v_o_readHigh a_o_innerOf a_o_whoseOf a_o_nearOf a_o_fromOf r_v_o_thirds a_o_pieceOf a_o_kept a_o_claimOf a_o_row v_o_rowed, aI cI a_o_refusals 7 r_f_o_refusals, aI cI a_o_s 151 f_o_s, aI cI a_o_innerOf 120 r_f_o_innerOf, aI cI a_o_whoseOf 120 r_f_o_whoseOf, aI cI a_o_nearOf 360 r_f_o_nearOf, aI cI a_o_fromOf 360 r_f_o_fromOf] := by
  refine cz_startI (by decide) (Nat.le_of_ble_eq_true rfl) ?_
  intro p e s m ag below meth c A Q hx hb hml hown hts hK hN hQ H locs hP hD hS ls hl
  replace hown : s.vm.findClass RX6 = some m.cls := hown
  replace hl : lv_has ls 2 [(0, .ref a_o), (1, .int w1)] := hl
  unfold f_X6_worth at h
  refine lv_iload_n hx hb dX6_worth_0 rfl (lv_at hl 1 rfl) ?_
  refine lv_iconst (v := (3 : Int32)) hx hb dX6_worth_1 (by decide) ?_
  obtain ⟨x1, hc2, h⟩ := cz_e1 h
  refine cz_callS (As := [.int w1, .int (3 : Int32)]) (rest := []) (is := []) (isR := [0, 1, 2, 3, 4, 5, 6]) (rs := [oX6 a_o a_o_refusals a_o_s a_o_image v_o_isImage a_o_tape a_o_read v_o_taped v_o_pos v_o_readWide v_o_readHigh a_o_innerOf a_o_whoseOf a_o_nearOf a_o_fromOf v_o_thirds a_o_pieceOf a_o_kept a_o_claimOf a_o_row v_o_rowed, aI cI a_o_refusals 7 f_o_refusals, aI cI a_o_s 151 f_o_s, aI cI a_o_innerOf 120 f_o_innerOf, aI cI a_o_whoseOf 120 f_o_whoseOf, aI cI a_o_nearOf 360 f_o_nearOf, aI cI a_o_fromOf 360 f_o_fromOf]) (as := [a_o, a_o_refusals, a_o_s, a_o_innerOf, a_o_whoseOf, a_o_nearOf, a_o_fromOf]) (ws1 := [oX6 a_o a_o_refusals a_o_s a_o_image v_o_isImage a_o_tape a_o_read v_o_taped v_o_pos v_o_readWide v_o_readHigh a_o_innerOf a_o_whoseOf a_o_nearOf a_o_fromOf v_o_thirds a_o_pieceOf a_o_kept a_o_claimOf a_o_row v_o_rowed, aI cI a_o_refusals 7 f_o_refusals, aI cI a_o_s 151 f_o_s, aI cI a_o_innerOf 120 f_o_innerOf, aI cI a_o_whoseOf 120 f_o_whoseOf, aI cI a_o_nearOf 360 f_o_nearOf, aI cI a_o_fromOf 360 f_o_fromOf]) ⟨hx, hb, hml, hown, hts⟩ (c_X6_isIn l D cI   w1 (3 : Int32) n x1 hc2) mw_4_51 mw_4_52 mw_1_8 mw_4_53 hd_X6_isIn ⟨Nat.le_of_ble_eq_true rfl, Nat.le_of_ble_eq_true rfl⟩ hK hN hP hD hS rfl rfl rfl rfl rfl rfl rfl rfl rfl hl.1 rfl (Nat.le_of_ble_eq_true rfl) dX6_worth_2 ⟨Nat.le_of_ble_eq_true rfl, Nat.le_of_ble_eq_true rfl⟩ (fun H locs hP hD hS => ?_)
  refine W.eq (g2 := F0 m 5 ls [.int x1]) rfl ?_
  refine lv_if_ne (tgt := 14) hx hb dX6_worth_5 (by decide) (fun c3 => ?_) (fun c3 => ?_)
  · replace h := cz_f c3 h
    refine lv_aload_n hx hb dX6_worth_14 rfl (lv_at hl 0 rfl) ?_
    obtain ⟨x4, g5, g6, g7, g8, hc9, h⟩ := cz_e5 h
    refine cz_callV (As := []) (rest := []) (is := [0, 2, 3, 4, 5, 6]) (isR := [1]) (rs := [aI cI a_o_refusals 7 f_o_refusals]) (as := [a_o, a_o_refusals, a_o_s, a_o_innerOf, a_o_whoseOf, a_o_nearOf, a_o_fromOf]) (ws1 := [oX6 a_o a_o_refusals a_o_s a_o_image v_o_isImage a_o_tape a_o_read v_o_taped v_o_pos v_o_readWide v_o_readHigh a_o_innerOf a_o_whoseOf a_o_nearOf a_o_fromOf x4 a_o_pieceOf a_o_kept a_o_claimOf a_o_row v_o_rowed, aI cI a_o_refusals 7 f_o_refusals, aI cI a_o_s 151 f_o_s, aI cI a_o_innerOf 120 g5, aI cI a_o_whoseOf 120 g6, aI cI a_o_nearOf 360 g7, aI cI a_o_fromOf 360 g8]) (q0 := 0) (ci := 6) ⟨hx, hb, hml, hown, hts⟩ (c_X6_find l D cI a_o a_o_s a_o_innerOf a_o_whoseOf a_o_nearOf a_o_fromOf a_o_refusals a_o_image a_o_tape a_o_read a_o_pieceOf a_o_kept a_o_claimOf a_o_row v_o_isImage v_o_taped v_o_pos v_o_readWide v_o_readHigh v_o_thirds v_o_rowed f_o_s f_o_innerOf f_o_whoseOf f_o_nearOf f_o_fromOf  n x4 g5 g6 g7 g8 hc9) mw_4_68 mw_4_70 mw_p_16 mw_1_8 mw_4_71 hd_X6_find ⟨Nat.le_of_ble_eq_true rfl, Nat.le_of_ble_eq_true rfl⟩ hK hN hP hD hS rfl rfl rfl rfl rfl rfl rfl rfl rfl rfl rfl rfl hl.1 rfl (Nat.le_of_ble_eq_true rfl) dX6_worth_15 ⟨Nat.le_of_ble_eq_true rfl, Nat.le_of_ble_eq_true rfl⟩ (fun H locs hP hD hS => ?_)
    refine W.eq (g2 := F0 m 18 ls []) rfl ?_
    refine lv_aload_n hx hb dX6_worth_18 rfl (lv_at hl 0 rfl) ?_
    refine lv_iload_n hx hb dX6_worth_19 rfl (lv_at hl 1 rfl) ?_
    obtain ⟨x10, hc11, h⟩ := cz_e1 h
    refine cz_callV (As := [.int w1]) (rest := []) (is := [0, 2, 4]) (isR := [1, 3, 5, 6]) (rs := [aI cI a_o_refusals 7 f_o_refusals, aI cI a_o_innerOf 120 g5, aI cI a_o_nearOf 360 g7, aI cI a_o_fromOf 360 g8]) (as := [a_o, a_o_refusals, a_o_s, a_o_innerOf, a_o_whoseOf, a_o_nearOf, a_o_fromOf]) (ws1 := [oX6 a_o a_o_refusals a_o_s a_o_image v_o_isImage a_o_tape a_o_read v_o_taped v_o_pos v_o_readWide v_o_readHigh a_o_innerOf a_o_whoseOf a_o_nearOf a_o_fromOf x4 a_o_pieceOf a_o_kept a_o_claimOf a_o_row v_o_rowed, aI cI a_o_refusals 7 f_o_refusals, aI cI a_o_s 151 f_o_s, aI cI a_o_innerOf 120 g5, aI cI a_o_whoseOf 120 g6, aI cI a_o_nearOf 360 g7, aI cI a_o_fromOf 360 g8]) (q0 := 0) (ci := 6) ⟨hx, hb, hml, hown, hts⟩ (c_X6_worthOf l D cI a_o a_o_s a_o_whoseOf a_o_refusals a_o_image a_o_tape a_o_read a_o_innerOf a_o_nearOf a_o_fromOf a_o_pieceOf a_o_kept a_o_claimOf a_o_row v_o_isImage v_o_taped v_o_pos v_o_readWide v_o_readHigh x4 v_o_rowed f_o_s g6 w1 n x10 hc11) mw_4_189 mw_4_191 mw_p_32 mw_1_8 mw_4_192 hd_X6_worthOf ⟨Nat.le_of_ble_eq_true rfl, Nat.le_of_ble_eq_true rfl⟩ hK hN hP hD hS rfl rfl rfl rfl rfl rfl rfl rfl rfl rfl rfl rfl hl.1 rfl (Nat.le_of_ble_eq_true rfl) dX6_worth_20 ⟨Nat.le_of_ble_eq_true rfl, Nat.le_of_ble_eq_true rfl⟩ (fun H locs hP hD hS => ?_)
    refine W.eq (g2 := F0 m 23 ls [.int x10]) rfl ?_
    obtain ⟨rfl, rfl, rfl, rfl, rfl, rfl, rfl⟩ := cz_j7 (cz_i h)
    exact hQ _ _ _ _ hP hS dX6_worth_23
  · replace h := cz_t c3 h
    refine lv_aload_n hx hb dX6_worth_8 rfl (lv_at hl 0 rfl) ?_
    refine lv_iconst (v := (-1 : Int32)) hx hb dX6_worth_9 (by decide) ?_
    obtain ⟨x12, g13, hc14, h⟩ := cz_e2 h
    refine cz_callV (As := [.int (-1 : Int32)]) (rest := []) (is := [0, 1]) (isR := [2, 3, 4, 5, 6]) (rs := [aI cI a_o_s 151 f_o_s, aI cI a_o_innerOf 120 f_o_innerOf, aI cI a_o_whoseOf 120 f_o_whoseOf, aI cI a_o_nearOf 360 f_o_nearOf, aI cI a_o_fromOf 360 f_o_fromOf]) (as := [a_o, a_o_refusals, a_o_s, a_o_innerOf, a_o_whoseOf, a_o_nearOf, a_o_fromOf]) (ws1 := [oX6 a_o a_o_refusals a_o_s a_o_image v_o_isImage a_o_tape a_o_read v_o_taped v_o_pos v_o_readWide v_o_readHigh a_o_innerOf a_o_whoseOf a_o_nearOf a_o_fromOf v_o_thirds a_o_pieceOf a_o_kept a_o_claimOf a_o_row v_o_rowed, aI cI a_o_refusals 7 g13, aI cI a_o_s 151 f_o_s, aI cI a_o_innerOf 120 f_o_innerOf, aI cI a_o_whoseOf 120 f_o_whoseOf, aI cI a_o_nearOf 360 f_o_nearOf, aI cI a_o_fromOf 360 f_o_fromOf]) (q0 := 0) (ci := 6) ⟨hx, hb, hml, hown, hts⟩ (c_X6_refuse l D cI a_o a_o_refusals a_o_s a_o_image a_o_tape a_o_read a_o_innerOf a_o_whoseOf a_o_nearOf a_o_fromOf a_o_pieceOf a_o_kept a_o_claimOf a_o_row v_o_isImage v_o_taped v_o_pos v_o_readWide v_o_readHigh v_o_thirds v_o_rowed f_o_refusals (-1 : Int32) n x12 g13 hc14) mw_4_11 mw_4_13 mw_p_10 mw_1_8 mw_4_14 hd_X6_refuse ⟨Nat.le_of_ble_eq_true rfl, Nat.le_of_ble_eq_true rfl⟩ hK hN hP hD hS rfl rfl rfl rfl rfl rfl rfl rfl rfl rfl rfl rfl hl.1 rfl (Nat.le_of_ble_eq_true rfl) dX6_worth_10 ⟨Nat.le_of_ble_eq_true rfl, Nat.le_of_ble_eq_true rfl⟩ (fun H locs hP hD hS => ?_)
    refine W.eq (g2 := F0 m 13 ls [.int x12]) rfl ?_
    obtain ⟨rfl, rfl, rfl, rfl, rfl, rfl, rfl⟩ := cz_j7 (cz_i h)
    exact hQ _ _ _ _ hP hS dX6_worth_13
set_option maxHeartbeats 4000000 in
set_option maxRecDepth 100000 in
theorem c_X6_findBy (l : Launch) (D : va_G) (cI : ClassId) (a_o a_o_s a_o_innerOf a_o_whoseOf a_o_nearOf a_o_fromOf a_o_refusals a_o_image a_o_tape a_o_read a_o_pieceOf a_o_kept a_o_claimOf a_o_row : Nat) (v_o_isImage : Int32) (v_o_taped : Int32) (v_o_pos : Int32) (v_o_readWide : Int32) (v_o_readHigh : Int32) (v_o_thirds : Int32) (v_o_rowed : Int32) (f_o_s : (Nat → Int32)) (f_o_innerOf : (Nat → Int32)) (f_o_whoseOf : (Nat → Int32)) (f_o_nearOf : (Nat → Int32)) (f_o_fromOf : (Nat → Int32)) (w1 : Int32) (n : Nat) (r_v_o_thirds : Int32) (r_f_o_s : (Nat → Int32)) (r_f_o_innerOf : (Nat → Int32)) (r_f_o_whoseOf : (Nat → Int32)) (r_f_o_nearOf : (Nat → Int32)) (r_f_o_fromOf : (Nat → Int32)) (h : f_X6_findBy n v_o_thirds f_o_s f_o_innerOf f_o_whoseOf f_o_nearOf f_o_fromOf w1 = some (r_v_o_thirds, r_f_o_s, r_f_o_innerOf, r_f_o_whoseOf, r_f_o_nearOf, r_f_o_fromOf)) : cz_M l yX6_findBy cX6_findBy 5 none 5 117 D cI [.ref a_o, .int w1] [oX6 a_o a_o_refusals a_o_s a_o_image v_o_isImage a_o_tape a_o_read v_o_taped v_o_pos v_o_readWide v_o_readHigh a_o_innerOf a_o_whoseOf a_o_nearOf a_o_fromOf v_o_thirds a_o_pieceOf a_o_kept a_o_claimOf a_o_row v_o_rowed, aI cI a_o_s 151 f_o_s, aI cI a_o_innerOf 120 f_o_innerOf, aI cI a_o_whoseOf 120 f_o_whoseOf, aI cI a_o_nearOf 360 f_o_nearOf, aI cI a_o_fromOf 360 f_o_fromOf] none [oX6 a_o a_o_refusals a_o_s a_o_image v_o_isImage a_o_tape a_o_read v_o_taped v_o_pos v_o_readWide v_o_readHigh a_o_innerOf a_o_whoseOf a_o_nearOf a_o_fromOf r_v_o_thirds a_o_pieceOf a_o_kept a_o_claimOf a_o_row v_o_rowed, aI cI a_o_s 151 r_f_o_s, aI cI a_o_innerOf 120 r_f_o_innerOf, aI cI a_o_whoseOf 120 r_f_o_whoseOf, aI cI a_o_nearOf 360 r_f_o_nearOf, aI cI a_o_fromOf 360 r_f_o_fromOf] := by
  refine cz_startV (by decide) (Nat.le_of_ble_eq_true rfl) ?_
  intro p e s m ag below meth c A Q hx hb hml hown hts hK hN hQ H locs hP hD hS ls hl
  replace hown : s.vm.findClass RX6 = some m.cls := hown
  replace hl : lv_has ls 5 [(0, .ref a_o), (1, .int w1)] := hl
  unfold f_X6_findBy at h
  refine lv_aload_n hx hb dX6_findBy_0 rfl (lv_at hl 0 rfl) ?_
  refine va_get (D := D) (ci := 6) (v := .ref a_o_s) (C := RX6) (T := TX6) (N := 20) hx hb hts in_X6 hown hK hP 0 rfl rfl 1 (by decide) (hts _ mw_3_187) (fun _ h9 => h9) rfl dX6_findBy_1 ?_
  refine lv_iconst (v := (2 : Int32)) hx hb dX6_findBy_4 (by decide) ?_
  refine cz_iald hx hb hK hP 1 0 rfl rfl (cz_rdE h).1 dX6_findBy_5 (fun x1 ex1 => ?_)
  replace h := cz_rdK ex1 h
  refine lv_istore_n (lv' := [(2, .int x1), (0, .ref a_o), (1, .int w1)]) hx hb dX6_findBy_6 rfl hl (by decide) rfl (fun ls hl => ?_)
  refine lv_aload_n hx hb dX6_findBy_7 rfl (lv_at hl 1 rfl) ?_
  refine va_get (D := D) (ci := 6) (v := .ref a_o_s) (C := RX6) (T := TX6) (N := 20) hx hb hts in_X6 hown hK hP 0 rfl rfl 1 (by decide) (hts _ mw_3_187) (fun _ h9 => h9) rfl dX6_findBy_8 ?_
  refine lv_iconst (v := (3 : Int32)) hx hb dX6_findBy_11 (by decide) ?_
  refine cz_iald hx hb hK hP 1 0 rfl rfl (cz_rdE h).1 dX6_findBy_12 (fun x2 ex2 => ?_)
  replace h := cz_rdK ex2 h
  refine lv_istore_n (lv' := [(3, .int x2), (2, .int x1), (0, .ref a_o), (1, .int w1)]) hx hb dX6_findBy_13 rfl hl (by decide) rfl (fun ls hl => ?_)
  refine lv_aload_n hx hb dX6_findBy_14 rfl (lv_at hl 2 rfl) ?_
  refine va_get (D := D) (ci := 6) (v := .ref a_o_s) (C := RX6) (T := TX6) (N := 20) hx hb hts in_X6 hown hK hP 0 rfl rfl 1 (by decide) (hts _ mw_3_187) (fun _ h9 => h9) rfl dX6_findBy_15 ?_
  refine lv_iconst (v := (4 : Int32)) hx hb dX6_findBy_18 (by decide) ?_
  refine cz_iald hx hb hK hP 1 0 rfl rfl (cz_rdE h).1 dX6_findBy_19 (fun x3 ex3 => ?_)
  replace h := cz_rdK ex3 h
  refine lv_istore (lv' := [(4, .int x3), (3, .int x2), (2, .int x1), (0, .ref a_o), (1, .int w1)]) hx hb dX6_findBy_20 hl (by decide) rfl (fun ls hl => ?_)
  refine lv_aload_n hx hb dX6_findBy_22 rfl (lv_at hl 3 rfl) ?_
  refine va_get (D := D) (ci := 6) (v := .ref a_o_s) (C := RX6) (T := TX6) (N := 20) hx hb hts in_X6 hown hK hP 0 rfl rfl 1 (by decide) (hts _ mw_3_187) (fun _ h9 => h9) rfl dX6_findBy_23 ?_
  refine lv_iconst (v := (2 : Int32)) hx hb dX6_findBy_26 (by decide) ?_
  refine lv_iload_n hx hb dX6_findBy_27 rfl (lv_at hl 4 rfl) ?_
  refine lv_bipush (v := (10 : Int32)) hx hb dX6_findBy_28 (by decide) ?_
  refine lv_idiv hx hb dX6_findBy_30 (by decide) ?_
  refine lv_bipush (v := (10 : Int32)) hx hb dX6_findBy_31 (by decide) ?_
  refine lv_irem hx hb dX6_findBy_33 (by decide) ?_
  refine lv_topi (fun x4 ex4 => ?_)
  replace h := cz_ltE ex4 h
  refine lv_iconst (v := (1 : Int32)) hx hb dX6_findBy_34 (by decide) ?_
  obtain ⟨z9, hE7, hz6⟩ := cz_ltV h
  have hJ8 : ∀ (x5 : Int32) (H : Heap) (locs : List Loc) (ls : Array Slot), z9 = x5 → va_P D vwCl [oX6 a_o a_o_refusals a_o_s a_o_image v_o_isImage a_o_tape a_o_read v_o_taped v_o_pos v_o_readWide v_o_readHigh a_o_innerOf a_o_whoseOf a_o_nearOf a_o_fromOf v_o_thirds a_o_pieceOf a_o_kept a_o_claimOf a_o_row v_o_rowed, aI cI a_o_s 151 f_o_s, aI cI a_o_innerOf 120 f_o_innerOf, aI cI a_o_whoseOf 120 f_o_whoseOf, aI cI a_o_nearOf 360 f_o_nearOf, aI cI a_o_fromOf 360 f_o_fromOf] H → va_D A [oX6 a_o a_o_refusals a_o_s a_o_image v_o_isImage a_o_tape a_o_read v_o_taped v_o_pos v_o_readWide v_o_readHigh a_o_innerOf a_o_whoseOf a_o_nearOf a_o_fromOf v_o_thirds a_o_pieceOf a_o_kept a_o_claimOf a_o_row v_o_rowed, aI cI a_o_s 151 f_o_s, aI cI a_o_innerOf 120 f_o_innerOf, aI cI a_o_whoseOf 120 f_o_whoseOf, aI cI a_o_nearOf 360 f_o_nearOf, aI cI a_o_fromOf 360 f_o_fromOf] → va_S A s.heap H locs → lv_has ls 5 [(0, .ref a_o), (1, .int w1), (2, .int x1), (3, .int x2), (4, .int x3)] → W p l e (cz_rm 5 117) s m ag below meth c H locs 0 0 Q (F0 m 43 ls [.int x5, .int (2 : Int32), .ref a_o_s]) := by
    intro x5 H locs ls h hP hD hS hl
    replace h := hz6 _ h
    refine cz_iast hx hb hK hP hD hS 1 0 rfl rfl (cz_wrE h).1 dX6_findBy_43 (fun g10 H locs eg10 hP hD hS => ?_)
    replace h := cz_wrK eg10 h
    replace hP : va_P D vwCl [oX6 a_o a_o_refusals a_o_s a_o_image v_o_isImage a_o_tape a_o_read v_o_taped v_o_pos v_o_readWide v_o_readHigh a_o_innerOf a_o_whoseOf a_o_nearOf a_o_fromOf v_o_thirds a_o_pieceOf a_o_kept a_o_claimOf a_o_row v_o_rowed, aI cI a_o_s 151 g10, aI cI a_o_innerOf 120 f_o_innerOf, aI cI a_o_whoseOf 120 f_o_whoseOf, aI cI a_o_nearOf 360 f_o_nearOf, aI cI a_o_fromOf 360 f_o_fromOf] H := hP
    replace hD : va_D A [oX6 a_o a_o_refusals a_o_s a_o_image v_o_isImage a_o_tape a_o_read v_o_taped v_o_pos v_o_readWide v_o_readHigh a_o_innerOf a_o_whoseOf a_o_nearOf a_o_fromOf v_o_thirds a_o_pieceOf a_o_kept a_o_claimOf a_o_row v_o_rowed, aI cI a_o_s 151 g10, aI cI a_o_innerOf 120 f_o_innerOf, aI cI a_o_whoseOf 120 f_o_whoseOf, aI cI a_o_nearOf 360 f_o_nearOf, aI cI a_o_fromOf 360 f_o_fromOf] := hD
    refine lv_aload_n hx hb dX6_findBy_44 rfl (lv_at hl 0 rfl) ?_
    refine va_get (D := D) (ci := 6) (v := .ref a_o_s) (C := RX6) (T := TX6) (N := 20) hx hb hts in_X6 hown hK hP 0 rfl rfl 1 (by decide) (hts _ mw_3_187) (fun _ h9 => h9) rfl dX6_findBy_45 ?_
    refine lv_iconst (v := (3 : Int32)) hx hb dX6_findBy_48 (by decide) ?_
    refine lv_iload_n hx hb dX6_findBy_49 rfl (lv_at hl 1 rfl) ?_
    refine lv_bipush (v := (100 : Int32)) hx hb dX6_findBy_50 (by decide) ?_
    refine lv_idiv hx hb dX6_findBy_52 (by decide) ?_
    refine cz_iast hx hb hK hP hD hS 1 0 rfl rfl (cz_wrE h).1 dX6_findBy_53 (fun g11 H locs eg11 hP hD hS => ?_)
    replace h := cz_wrK eg11 h
    replace hP : va_P D vwCl [oX6 a_o a_o_refusals a_o_s a_o_image v_o_isImage a_o_tape a_o_read v_o_taped v_o_pos v_o_readWide v_o_readHigh a_o_innerOf a_o_whoseOf a_o_nearOf a_o_fromOf v_o_thirds a_o_pieceOf a_o_kept a_o_claimOf a_o_row v_o_rowed, aI cI a_o_s 151 g11, aI cI a_o_innerOf 120 f_o_innerOf, aI cI a_o_whoseOf 120 f_o_whoseOf, aI cI a_o_nearOf 360 f_o_nearOf, aI cI a_o_fromOf 360 f_o_fromOf] H := hP
    replace hD : va_D A [oX6 a_o a_o_refusals a_o_s a_o_image v_o_isImage a_o_tape a_o_read v_o_taped v_o_pos v_o_readWide v_o_readHigh a_o_innerOf a_o_whoseOf a_o_nearOf a_o_fromOf v_o_thirds a_o_pieceOf a_o_kept a_o_claimOf a_o_row v_o_rowed, aI cI a_o_s 151 g11, aI cI a_o_innerOf 120 f_o_innerOf, aI cI a_o_whoseOf 120 f_o_whoseOf, aI cI a_o_nearOf 360 f_o_nearOf, aI cI a_o_fromOf 360 f_o_fromOf] := hD
    refine lv_aload_n hx hb dX6_findBy_54 rfl (lv_at hl 0 rfl) ?_
    refine va_get (D := D) (ci := 6) (v := .ref a_o_s) (C := RX6) (T := TX6) (N := 20) hx hb hts in_X6 hown hK hP 0 rfl rfl 1 (by decide) (hts _ mw_3_187) (fun _ h9 => h9) rfl dX6_findBy_55 ?_
    refine lv_iconst (v := (4 : Int32)) hx hb dX6_findBy_58 (by decide) ?_
    refine lv_iload_n hx hb dX6_findBy_59 rfl (lv_at hl 1 rfl) ?_
    refine lv_bipush (v := (10 : Int32)) hx hb dX6_findBy_60 (by decide) ?_
    refine lv_irem hx hb dX6_findBy_62 (by decide) ?_
    refine lv_iconst (v := (1 : Int32)) hx hb dX6_findBy_63 (by decide) ?_
    obtain ⟨z16, hE14, hz13⟩ := cz_ltV h
    have hJ15 : ∀ (x12 : Int32) (H : Heap) (locs : List Loc) (ls : Array Slot), z16 = x12 → va_P D vwCl [oX6 a_o a_o_refusals a_o_s a_o_image v_o_isImage a_o_tape a_o_read v_o_taped v_o_pos v_o_readWide v_o_readHigh a_o_innerOf a_o_whoseOf a_o_nearOf a_o_fromOf v_o_thirds a_o_pieceOf a_o_kept a_o_claimOf a_o_row v_o_rowed, aI cI a_o_s 151 g11, aI cI a_o_innerOf 120 f_o_innerOf, aI cI a_o_whoseOf 120 f_o_whoseOf, aI cI a_o_nearOf 360 f_o_nearOf, aI cI a_o_fromOf 360 f_o_fromOf] H → va_D A [oX6 a_o a_o_refusals a_o_s a_o_image v_o_isImage a_o_tape a_o_read v_o_taped v_o_pos v_o_readWide v_o_readHigh a_o_innerOf a_o_whoseOf a_o_nearOf a_o_fromOf v_o_thirds a_o_pieceOf a_o_kept a_o_claimOf a_o_row v_o_rowed, aI cI a_o_s 151 g11, aI cI a_o_innerOf 120 f_o_innerOf, aI cI a_o_whoseOf 120 f_o_whoseOf, aI cI a_o_nearOf 360 f_o_nearOf, aI cI a_o_fromOf 360 f_o_fromOf] → va_S A s.heap H locs → lv_has ls 5 [(0, .ref a_o), (2, .int x1), (3, .int x2), (4, .int x3)] → W p l e (cz_rm 5 117) s m ag below meth c H locs 0 0 Q (F0 m 76 ls [.int x12, .int (4 : Int32), .ref a_o_s]) := by
      intro x12 H locs ls h hP hD hS hl
      replace h := hz13 _ h
      refine cz_iast hx hb hK hP hD hS 1 0 rfl rfl (cz_wrE h).1 dX6_findBy_76 (fun g17 H locs eg17 hP hD hS => ?_)
      replace h := cz_wrK eg17 h
      replace hP : va_P D vwCl [oX6 a_o a_o_refusals a_o_s a_o_image v_o_isImage a_o_tape a_o_read v_o_taped v_o_pos v_o_readWide v_o_readHigh a_o_innerOf a_o_whoseOf a_o_nearOf a_o_fromOf v_o_thirds a_o_pieceOf a_o_kept a_o_claimOf a_o_row v_o_rowed, aI cI a_o_s 151 g17, aI cI a_o_innerOf 120 f_o_innerOf, aI cI a_o_whoseOf 120 f_o_whoseOf, aI cI a_o_nearOf 360 f_o_nearOf, aI cI a_o_fromOf 360 f_o_fromOf] H := hP
      replace hD : va_D A [oX6 a_o a_o_refusals a_o_s a_o_image v_o_isImage a_o_tape a_o_read v_o_taped v_o_pos v_o_readWide v_o_readHigh a_o_innerOf a_o_whoseOf a_o_nearOf a_o_fromOf v_o_thirds a_o_pieceOf a_o_kept a_o_claimOf a_o_row v_o_rowed, aI cI a_o_s 151 g17, aI cI a_o_innerOf 120 f_o_innerOf, aI cI a_o_whoseOf 120 f_o_whoseOf, aI cI a_o_nearOf 360 f_o_nearOf, aI cI a_o_fromOf 360 f_o_fromOf] := hD
      refine lv_aload_n hx hb dX6_findBy_77 rfl (lv_at hl 0 rfl) ?_
      obtain ⟨x18, g19, g20, g21, g22, hc23, h⟩ := cz_e5 h
      refine cz_callV (As := []) (rest := []) (is := [0, 1, 2, 3, 4, 5]) (isR := []) (rs := []) (as := [a_o, a_o_s, a_o_innerOf, a_o_whoseOf, a_o_nearOf, a_o_fromOf]) (ws1 := [oX6 a_o a_o_refusals a_o_s a_o_image v_o_isImage a_o_tape a_o_read v_o_taped v_o_pos v_o_readWide v_o_readHigh a_o_innerOf a_o_whoseOf a_o_nearOf a_o_fromOf x18 a_o_pieceOf a_o_kept a_o_claimOf a_o_row v_o_rowed, aI cI a_o_s 151 g17, aI cI a_o_innerOf 120 g19, aI cI a_o_whoseOf 120 g20, aI cI a_o_nearOf 360 g21, aI cI a_o_fromOf 360 g22]) (q0 := 0) (ci := 6) ⟨hx, hb, hml, hown, hts⟩ (c_X6_find l D cI a_o a_o_s a_o_innerOf a_o_whoseOf a_o_nearOf a_o_fromOf a_o_refusals a_o_image a_o_tape a_o_read a_o_pieceOf a_o_kept a_o_claimOf a_o_row v_o_isImage v_o_taped v_o_pos v_o_readWide v_o_readHigh v_o_thirds v_o_rowed g17 f_o_innerOf f_o_whoseOf f_o_nearOf f_o_fromOf  n x18 g19 g20 g21 g22 hc23) mw_4_68 mw_4_70 mw_p_16 mw_1_8 mw_4_71 hd_X6_find ⟨Nat.le_of_ble_eq_true rfl, Nat.le_of_ble_eq_true rfl⟩ hK hN hP hD hS rfl rfl rfl rfl rfl rfl rfl rfl rfl rfl rfl rfl hl.1 rfl (Nat.le_of_ble_eq_true rfl) dX6_findBy_78 ⟨Nat.le_of_ble_eq_true rfl, Nat.le_of_ble_eq_true rfl⟩ (fun H locs hP hD hS => ?_)
      refine W.eq (g2 := F0 m 81 ls []) rfl ?_
      refine lv_aload_n hx hb dX6_findBy_81 rfl (lv_at hl 0 rfl) ?_
      refine va_get (D := D) (ci := 6) (v := .ref a_o_s) (C := RX6) (T := TX6) (N := 20) hx hb hts in_X6 hown hK hP 0 rfl rfl 1 (by decide) (hts _ mw_3_187) (fun _ h9 => h9) rfl dX6_findBy_82 ?_
      refine lv_iconst (v := (2 : Int32)) hx hb dX6_findBy_85 (by decide) ?_
      refine lv_iload_n hx hb dX6_findBy_86 rfl (lv_at hl 1 rfl) ?_
      refine cz_iast hx hb hK hP hD hS 1 0 rfl rfl (cz_wrE h).1 dX6_findBy_87 (fun g24 H locs eg24 hP hD hS => ?_)
      replace h := cz_wrK eg24 h
      replace hP : va_P D vwCl [oX6 a_o a_o_refusals a_o_s a_o_image v_o_isImage a_o_tape a_o_read v_o_taped v_o_pos v_o_readWide v_o_readHigh a_o_innerOf a_o_whoseOf a_o_nearOf a_o_fromOf x18 a_o_pieceOf a_o_kept a_o_claimOf a_o_row v_o_rowed, aI cI a_o_s 151 g24, aI cI a_o_innerOf 120 g19, aI cI a_o_whoseOf 120 g20, aI cI a_o_nearOf 360 g21, aI cI a_o_fromOf 360 g22] H := hP
      replace hD : va_D A [oX6 a_o a_o_refusals a_o_s a_o_image v_o_isImage a_o_tape a_o_read v_o_taped v_o_pos v_o_readWide v_o_readHigh a_o_innerOf a_o_whoseOf a_o_nearOf a_o_fromOf x18 a_o_pieceOf a_o_kept a_o_claimOf a_o_row v_o_rowed, aI cI a_o_s 151 g24, aI cI a_o_innerOf 120 g19, aI cI a_o_whoseOf 120 g20, aI cI a_o_nearOf 360 g21, aI cI a_o_fromOf 360 g22] := hD
      refine lv_aload_n hx hb dX6_findBy_88 rfl (lv_at hl 0 rfl) ?_
      refine va_get (D := D) (ci := 6) (v := .ref a_o_s) (C := RX6) (T := TX6) (N := 20) hx hb hts in_X6 hown hK hP 0 rfl rfl 1 (by decide) (hts _ mw_3_187) (fun _ h9 => h9) rfl dX6_findBy_89 ?_
      refine lv_iconst (v := (3 : Int32)) hx hb dX6_findBy_92 (by decide) ?_
      refine lv_iload_n hx hb dX6_findBy_93 rfl (lv_at hl 2 rfl) ?_
      refine cz_iast hx hb hK hP hD hS 1 0 rfl rfl (cz_wrE h).1 dX6_findBy_94 (fun g25 H locs eg25 hP hD hS => ?_)
      replace h := cz_wrK eg25 h
      replace hP : va_P D vwCl [oX6 a_o a_o_refusals a_o_s a_o_image v_o_isImage a_o_tape a_o_read v_o_taped v_o_pos v_o_readWide v_o_readHigh a_o_innerOf a_o_whoseOf a_o_nearOf a_o_fromOf x18 a_o_pieceOf a_o_kept a_o_claimOf a_o_row v_o_rowed, aI cI a_o_s 151 g25, aI cI a_o_innerOf 120 g19, aI cI a_o_whoseOf 120 g20, aI cI a_o_nearOf 360 g21, aI cI a_o_fromOf 360 g22] H := hP
      replace hD : va_D A [oX6 a_o a_o_refusals a_o_s a_o_image v_o_isImage a_o_tape a_o_read v_o_taped v_o_pos v_o_readWide v_o_readHigh a_o_innerOf a_o_whoseOf a_o_nearOf a_o_fromOf x18 a_o_pieceOf a_o_kept a_o_claimOf a_o_row v_o_rowed, aI cI a_o_s 151 g25, aI cI a_o_innerOf 120 g19, aI cI a_o_whoseOf 120 g20, aI cI a_o_nearOf 360 g21, aI cI a_o_fromOf 360 g22] := hD
      refine lv_aload_n hx hb dX6_findBy_95 rfl (lv_at hl 0 rfl) ?_
      refine va_get (D := D) (ci := 6) (v := .ref a_o_s) (C := RX6) (T := TX6) (N := 20) hx hb hts in_X6 hown hK hP 0 rfl rfl 1 (by decide) (hts _ mw_3_187) (fun _ h9 => h9) rfl dX6_findBy_96 ?_
      refine lv_iconst (v := (4 : Int32)) hx hb dX6_findBy_99 (by decide) ?_
      refine lv_iload hx hb dX6_findBy_100 (lv_at hl 3 rfl) ?_
      refine cz_iast hx hb hK hP hD hS 1 0 rfl rfl (cz_wrE h).1 dX6_findBy_102 (fun g26 H locs eg26 hP hD hS => ?_)
      replace h := cz_wrK eg26 h
      replace hP : va_P D vwCl [oX6 a_o a_o_refusals a_o_s a_o_image v_o_isImage a_o_tape a_o_read v_o_taped v_o_pos v_o_readWide v_o_readHigh a_o_innerOf a_o_whoseOf a_o_nearOf a_o_fromOf x18 a_o_pieceOf a_o_kept a_o_claimOf a_o_row v_o_rowed, aI cI a_o_s 151 g26, aI cI a_o_innerOf 120 g19, aI cI a_o_whoseOf 120 g20, aI cI a_o_nearOf 360 g21, aI cI a_o_fromOf 360 g22] H := hP
      replace hD : va_D A [oX6 a_o a_o_refusals a_o_s a_o_image v_o_isImage a_o_tape a_o_read v_o_taped v_o_pos v_o_readWide v_o_readHigh a_o_innerOf a_o_whoseOf a_o_nearOf a_o_fromOf x18 a_o_pieceOf a_o_kept a_o_claimOf a_o_row v_o_rowed, aI cI a_o_s 151 g26, aI cI a_o_innerOf 120 g19, aI cI a_o_whoseOf 120 g20, aI cI a_o_nearOf 360 g21, aI cI a_o_fromOf 360 g22] := hD
      obtain ⟨rfl, rfl, rfl, rfl, rfl, rfl⟩ := cz_j6 (cz_i h)
      exact hQ _ _ _ _ hP hS dX6_findBy_103
    clear h
    have h := hE14
    refine lv_icmp_ne (tgt := 74) hx hb dX6_findBy_64 (by decide) (fun c27 => ?_) (fun c27 => ?_)
    · replace h := cz_f c27 h
      refine lv_iload hx hb dX6_findBy_74 (lv_at hl 4 rfl) ?_
      exact hJ15 _ _ _ _ h.symm hP hD hS (lv_sub hl [0, 2, 3, 4] rfl)
    · replace h := cz_t c27 h
      refine lv_iload hx hb dX6_findBy_67 (lv_at hl 4 rfl) ?_
      refine lv_iconst (v := (2 : Int32)) hx hb dX6_findBy_69 (by decide) ?_
      refine lv_idiv hx hb dX6_findBy_70 (by decide) ?_
      refine lv_goto (tgt := 76) hx hb dX6_findBy_71 (by decide) ?_
      exact hJ15 _ _ _ _ h.symm hP hD hS (lv_sub hl [0, 2, 3, 4] rfl)
  clear h
  have h := hE7
  refine lv_icmp_ne (tgt := 42) hx hb dX6_findBy_35 (by decide) (fun c28 => ?_) (fun c28 => ?_)
  · replace h := cz_f c28 h
    refine lv_iconst (v := (0 : Int32)) hx hb dX6_findBy_42 (by decide) ?_
    exact hJ8 _ _ _ _ h.symm hP hD hS (lv_sub hl [3, 4, 2, 1, 0] rfl)
  · replace h := cz_t c28 h
    refine lv_iload_n hx hb dX6_findBy_38 rfl (lv_at hl 2 rfl) ?_
    refine lv_goto (tgt := 43) hx hb dX6_findBy_39 (by decide) ?_
    exact hJ8 _ _ _ _ h.symm hP hD hS (lv_sub hl [3, 4, 2, 1, 0] rfl)
