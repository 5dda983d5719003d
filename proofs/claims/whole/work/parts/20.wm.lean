set_option maxHeartbeats 4000000 in
set_option maxRecDepth 100000 in
theorem c_X6_codeOf (l : Launch) (D : va_G) (cI : ClassId)  (w1 : Int32) (n : Nat) (r : Int32) (h : f_X6_codeOf n w1 = some r) : cz_M l yX6_codeOf cX6_codeOf 1 (some .int) 0 0 D cI [.int w1] [] (some (.int r)) [] := by
  refine cz_startI (by decide) (Nat.le_of_ble_eq_true rfl) ?_
  intro p e s m ag below meth c A Q hx hb hml hown hts hK hN hQ H locs hP hD hS ls hl
  replace hown : s.vm.findClass RX6 = some m.cls := hown
  replace hl : lv_has ls 1 [(0, .int w1)] := hl
  unfold f_X6_codeOf at h
  refine lv_bipush (v := (100 : Int32)) hx hb dX6_codeOf_0 (by decide) ?_
  refine lv_iload_n hx hb dX6_codeOf_2 rfl (lv_at hl 0 rfl) ?_
  refine lv_iconst (v := (4 : Int32)) hx hb dX6_codeOf_3 (by decide) ?_
  refine lv_idiv hx hb dX6_codeOf_4 (by decide) ?_
  refine lv_imul hx hb dX6_codeOf_5 ?_
  refine lv_bipush (v := (10 : Int32)) hx hb dX6_codeOf_6 (by decide) ?_
  refine lv_iload_n hx hb dX6_codeOf_8 rfl (lv_at hl 0 rfl) ?_
  refine lv_iconst (v := (2 : Int32)) hx hb dX6_codeOf_9 (by decide) ?_
  refine lv_idiv hx hb dX6_codeOf_10 (by decide) ?_
  refine lv_iconst (v := (2 : Int32)) hx hb dX6_codeOf_11 (by decide) ?_
  refine lv_irem hx hb dX6_codeOf_12 (by decide) ?_
  refine lv_topi (fun x1 ex1 => ?_)
  replace h := cz_ltE ex1 h
  refine lv_imul hx hb dX6_codeOf_13 ?_
  refine lv_iadd hx hb dX6_codeOf_14 ?_
  refine lv_iload_n hx hb dX6_codeOf_15 rfl (lv_at hl 0 rfl) ?_
  refine lv_iconst (v := (2 : Int32)) hx hb dX6_codeOf_16 (by decide) ?_
  refine lv_irem hx hb dX6_codeOf_17 (by decide) ?_
  refine lv_iadd hx hb dX6_codeOf_18 ?_
  obtain rfl := cz_i h
  exact hQ _ _ _ _ hP hS dX6_codeOf_19
set_option maxHeartbeats 4000000 in
set_option maxRecDepth 100000 in
theorem c_X6_chosenOf (l : Launch) (D : va_G) (cI : ClassId) (a_o a_o_s a_o_innerOf a_o_whoseOf a_o_nearOf a_o_fromOf a_o_refusals a_o_image a_o_tape a_o_read a_o_pieceOf a_o_kept a_o_claimOf a_o_row : Nat) (v_o_isImage : Int32) (v_o_taped : Int32) (v_o_pos : Int32) (v_o_readWide : Int32) (v_o_readHigh : Int32) (v_o_thirds : Int32) (v_o_rowed : Int32) (f_o_s : (Nat → Int32)) (f_o_innerOf : (Nat → Int32)) (f_o_whoseOf : (Nat → Int32)) (f_o_nearOf : (Nat → Int32)) (f_o_fromOf : (Nat → Int32)) (w1 : Int32) (n : Nat) (r : Int32) (r_v_o_thirds : Int32) (r_f_o_s : (Nat → Int32)) (r_f_o_innerOf : (Nat → Int32)) (r_f_o_whoseOf : (Nat → Int32)) (r_f_o_nearOf : (Nat → Int32)) (r_f_o_fromOf : (Nat → Int32)) (h : f_X6_chosenOf n v_o_thirds f_o_s f_o_innerOf f_o_whoseOf f_o_nearOf f_o_fromOf w1 = some (r, r_v_o_thirds, r_f_o_s, r_f_o_innerOf, r_f_o_whoseOf, r_f_o_nearOf, r_f_o_fromOf)) : cz_M l yX6_chosenOf cX6_chosenOf 8 (some .int) 6 141 D cI [.ref a_o, .int w1] [oX6 a_o a_o_refusals a_o_s a_o_image v_o_isImage a_o_tape a_o_read v_o_taped v_o_pos v_o_readWide v_o_readHigh a_o_innerOf a_o_whoseOf a_o_nearOf a_o_fromOf v_o_thirds a_o_pieceOf a_o_kept a_o_claimOf a_o_row v_o_rowed, aI cI a_o_s 151 f_o_s, aI cI a_o_innerOf 120 f_o_innerOf, aI cI a_o_whoseOf 120 f_o_whoseOf, aI cI a_o_nearOf 360 f_o_nearOf, aI cI a_o_fromOf 360 f_o_fromOf] (some (.int r)) [oX6 a_o a_o_refusals a_o_s a_o_image v_o_isImage a_o_tape a_o_read v_o_taped v_o_pos v_o_readWide v_o_readHigh a_o_innerOf a_o_whoseOf a_o_nearOf a_o_fromOf r_v_o_thirds a_o_pieceOf a_o_kept a_o_claimOf a_o_row v_o_rowed, aI cI a_o_s 151 r_f_o_s, aI cI a_o_innerOf 120 r_f_o_innerOf, aI cI a_o_whoseOf 120 r_f_o_whoseOf, aI cI a_o_nearOf 360 r_f_o_nearOf, aI cI a_o_fromOf 360 r_f_o_fromOf] := by
  refine cz_startI (by decide) (Nat.le_of_ble_eq_true rfl) ?_
  intro p e s m ag below meth c A Q hx hb hml hown hts hK hN hQ H locs hP hD hS ls hl
  replace hown : s.vm.findClass RX6 = some m.cls := hown
  replace hl : lv_has ls 8 [(0, .ref a_o), (1, .int w1)] := hl
  unfold f_X6_chosenOf at h
  refine lv_bipush (v := (-9 : Int32)) hx hb dX6_chosenOf_0 (by decide) ?_
  refine lv_istore_n (lv' := [(2, .int (-9 : Int32)), (0, .ref a_o), (1, .int w1)]) hx hb dX6_chosenOf_2 rfl hl (by decide) rfl (fun ls hl => ?_)
  refine lv_iconst (v := (0 : Int32)) hx hb dX6_chosenOf_3 (by decide) ?_
  refine lv_istore_n (lv' := [(3, .int (0 : Int32)), (2, .int (-9 : Int32)), (0, .ref a_o), (1, .int w1)]) hx hb dX6_chosenOf_4 rfl hl (by decide) rfl (fun ls hl => ?_)
  refine lv_iconst (v := (0 : Int32)) hx hb dX6_chosenOf_5 (by decide) ?_
  refine lv_istore (lv' := [(4, .int (0 : Int32)), (3, .int (0 : Int32)), (2, .int (-9 : Int32)), (0, .ref a_o), (1, .int w1)]) hx hb dX6_chosenOf_6 hl (by decide) rfl (fun ls hl => ?_)
  refine lv_iconst (v := (0 : Int32)) hx hb dX6_chosenOf_8 (by decide) ?_
  refine lv_istore (lv' := [(5, .int (0 : Int32)), (4, .int (0 : Int32)), (3, .int (0 : Int32)), (2, .int (-9 : Int32)), (0, .ref a_o), (1, .int w1)]) hx hb dX6_chosenOf_9 hl (by decide) rfl (fun ls hl => ?_)
  obtain ⟨z11, hE12, hz13⟩ := cz_x10 h
  have hX14 : ∀ (y17 : Int32) (y18 : Int32) (y19 : Int32) (y20 : Int32) (y21 : Int32) (q22 : (Nat → Int32)) (q23 : (Nat → Int32)) (q24 : (Nat → Int32)) (q25 : (Nat → Int32)) (q26 : (Nat → Int32)) (H : Heap) (locs : List Loc) (ls : Array Slot), z11 = (y17, y18, y19, y20, y21, q22, q23, q24, q25, q26) → va_P D vwCl [oX6 a_o a_o_refusals a_o_s a_o_image v_o_isImage a_o_tape a_o_read v_o_taped v_o_pos v_o_readWide v_o_readHigh a_o_innerOf a_o_whoseOf a_o_nearOf a_o_fromOf y21 a_o_pieceOf a_o_kept a_o_claimOf a_o_row v_o_rowed, aI cI a_o_s 151 q22, aI cI a_o_innerOf 120 q23, aI cI a_o_whoseOf 120 q24, aI cI a_o_nearOf 360 q25, aI cI a_o_fromOf 360 q26] H → va_D A [oX6 a_o a_o_refusals a_o_s a_o_image v_o_isImage a_o_tape a_o_read v_o_taped v_o_pos v_o_readWide v_o_readHigh a_o_innerOf a_o_whoseOf a_o_nearOf a_o_fromOf y21 a_o_pieceOf a_o_kept a_o_claimOf a_o_row v_o_rowed, aI cI a_o_s 151 q22, aI cI a_o_innerOf 120 q23, aI cI a_o_whoseOf 120 q24, aI cI a_o_nearOf 360 q25, aI cI a_o_fromOf 360 q26] → va_S A s.heap H locs → lv_has ls 8 [(2, .int y17)] → W p l e (cz_rm 6 141) s m ag below meth c H locs 0 0 Q (F0 m 86 ls []) := by
    intro y17 y18 y19 y20 y21 q22 q23 q24 q25 q26 H locs ls h hP hD hS hl
    replace h := hz13 _ _ _ _ _ _ _ _ _ _ h
    refine lv_iload_n hx hb dX6_chosenOf_86 rfl (lv_at hl 0 rfl) ?_
    obtain ⟨rfl, rfl, rfl, rfl, rfl, rfl, rfl⟩ := cz_j7 (cz_i h)
    exact hQ _ _ _ _ hP hS dX6_chosenOf_87
  clear h
  have hL15 : ∀ (k : Nat) (x1 : Int32) (x2 : Int32) (x3 : Int32) (x4 : Int32) (x5 : Int32) (g6 : (Nat → Int32)) (g7 : (Nat → Int32)) (g8 : (Nat → Int32)) (g9 : (Nat → Int32)) (g10 : (Nat → Int32)) (H : Heap) (locs : List Loc) (ls : Array Slot), f_X6_chosenOf_L11 n w1 k x1 x2 x3 x4 x5 g6 g7 g8 g9 g10 = some z11 → va_P D vwCl [oX6 a_o a_o_refusals a_o_s a_o_image v_o_isImage a_o_tape a_o_read v_o_taped v_o_pos v_o_readWide v_o_readHigh a_o_innerOf a_o_whoseOf a_o_nearOf a_o_fromOf x5 a_o_pieceOf a_o_kept a_o_claimOf a_o_row v_o_rowed, aI cI a_o_s 151 g6, aI cI a_o_innerOf 120 g7, aI cI a_o_whoseOf 120 g8, aI cI a_o_nearOf 360 g9, aI cI a_o_fromOf 360 g10] H → va_D A [oX6 a_o a_o_refusals a_o_s a_o_image v_o_isImage a_o_tape a_o_read v_o_taped v_o_pos v_o_readWide v_o_readHigh a_o_innerOf a_o_whoseOf a_o_nearOf a_o_fromOf x5 a_o_pieceOf a_o_kept a_o_claimOf a_o_row v_o_rowed, aI cI a_o_s 151 g6, aI cI a_o_innerOf 120 g7, aI cI a_o_whoseOf 120 g8, aI cI a_o_nearOf 360 g9, aI cI a_o_fromOf 360 g10] → va_S A s.heap H locs → lv_has ls 8 [(0, .ref a_o), (1, .int w1), (2, .int x1), (3, .int x2), (4, .int x3), (5, .int x4)] → W p l e (cz_rm 6 141) s m ag below meth c H locs 0 0 Q (F0 m 11 ls []) := by
    intro k
    induction k with
    | zero =>
      intro x1 x2 x3 x4 x5 g6 g7 g8 g9 g10 H locs ls h
      rw [f_X6_chosenOf_L11] at h
      cases h
    | succ k ih27 =>
      intro x1 x2 x3 x4 x5 g6 g7 g8 g9 g10 H locs ls h hP hD hS hl
      rw [f_X6_chosenOf_L11] at h
      refine lv_iload hx hb dX6_chosenOf_11 (lv_at hl 5 rfl) ?_
      refine lv_bipush (v := (12 : Int32)) hx hb dX6_chosenOf_13 (by decide) ?_
      refine lv_icmp_ge (tgt := 86) hx hb dX6_chosenOf_15 (by decide) (fun c28 => ?_) (fun c28 => ?_)
      · replace h := cz_t c28 h
        exact hX14 _ _ _ _ _ _ _ _ _ _ _ _ _ (cz_i h).symm hP hD hS (lv_sub hl [2] rfl)
      · replace h := cz_f c28 h
        refine lv_aload_n hx hb dX6_chosenOf_18 rfl (lv_at hl 0 rfl) ?_
        refine lv_iload hx hb dX6_chosenOf_19 (lv_at hl 5 rfl) ?_
        obtain ⟨x29, hc30, h⟩ := cz_e1 h
        refine cz_callS (As := [.int x4]) (rest := [.ref a_o]) (is := []) (isR := [0, 1, 2, 3, 4, 5]) (rs := [oX6 a_o a_o_refusals a_o_s a_o_image v_o_isImage a_o_tape a_o_read v_o_taped v_o_pos v_o_readWide v_o_readHigh a_o_innerOf a_o_whoseOf a_o_nearOf a_o_fromOf x5 a_o_pieceOf a_o_kept a_o_claimOf a_o_row v_o_rowed, aI cI a_o_s 151 g6, aI cI a_o_innerOf 120 g7, aI cI a_o_whoseOf 120 g8, aI cI a_o_nearOf 360 g9, aI cI a_o_fromOf 360 g10]) (as := [a_o, a_o_s, a_o_innerOf, a_o_whoseOf, a_o_nearOf, a_o_fromOf]) (ws1 := [oX6 a_o a_o_refusals a_o_s a_o_image v_o_isImage a_o_tape a_o_read v_o_taped v_o_pos v_o_readWide v_o_readHigh a_o_innerOf a_o_whoseOf a_o_nearOf a_o_fromOf x5 a_o_pieceOf a_o_kept a_o_claimOf a_o_row v_o_rowed, aI cI a_o_s 151 g6, aI cI a_o_innerOf 120 g7, aI cI a_o_whoseOf 120 g8, aI cI a_o_nearOf 360 g9, aI cI a_o_fromOf 360 g10]) ⟨hx, hb, hml, hown, hts⟩ (c_X6_codeOf l D cI   x4 n x29 hc30) mw_4_201 mw_4_202 mw_1_8 mw_4_203 hd_X6_codeOf ⟨Nat.le_of_ble_eq_true rfl, Nat.le_of_ble_eq_true rfl⟩ hK hN hP hD hS rfl rfl rfl rfl rfl rfl rfl rfl rfl hl.1 rfl (Nat.le_of_ble_eq_true rfl) dX6_chosenOf_21 ⟨Nat.le_of_ble_eq_true rfl, Nat.le_of_ble_eq_true rfl⟩ (fun H locs hP hD hS => ?_)
        refine W.eq (g2 := F0 m 24 ls [.int x29, .ref a_o]) rfl ?_
        obtain ⟨x31, g32, g33, g34, g35, g36, hc37, h⟩ := cz_e6 h
        refine cz_callV (As := [.int x29]) (rest := []) (is := [0, 1, 2, 3, 4, 5]) (isR := []) (rs := []) (as := [a_o, a_o_s, a_o_innerOf, a_o_whoseOf, a_o_nearOf, a_o_fromOf]) (ws1 := [oX6 a_o a_o_refusals a_o_s a_o_image v_o_isImage a_o_tape a_o_read v_o_taped v_o_pos v_o_readWide v_o_readHigh a_o_innerOf a_o_whoseOf a_o_nearOf a_o_fromOf x31 a_o_pieceOf a_o_kept a_o_claimOf a_o_row v_o_rowed, aI cI a_o_s 151 g32, aI cI a_o_innerOf 120 g33, aI cI a_o_whoseOf 120 g34, aI cI a_o_nearOf 360 g35, aI cI a_o_fromOf 360 g36]) (q0 := 0) (ci := 6) ⟨hx, hb, hml, hown, hts⟩ (c_X6_findBy l D cI a_o a_o_s a_o_innerOf a_o_whoseOf a_o_nearOf a_o_fromOf a_o_refusals a_o_image a_o_tape a_o_read a_o_pieceOf a_o_kept a_o_claimOf a_o_row v_o_isImage v_o_taped v_o_pos v_o_readWide v_o_readHigh x5 v_o_rowed g6 g7 g8 g9 g10 x29 n x31 g32 g33 g34 g35 g36 hc37) mw_4_204 mw_4_206 mw_p_34 mw_1_8 mw_4_207 hd_X6_findBy ⟨Nat.le_of_ble_eq_true rfl, Nat.le_of_ble_eq_true rfl⟩ hK hN hP hD hS rfl rfl rfl rfl rfl rfl rfl rfl rfl rfl rfl rfl hl.1 rfl (Nat.le_of_ble_eq_true rfl) dX6_chosenOf_24 ⟨Nat.le_of_ble_eq_true rfl, Nat.le_of_ble_eq_true rfl⟩ (fun H locs hP hD hS => ?_)
        refine W.eq (g2 := F0 m 27 ls []) rfl ?_
        refine lv_aload_n hx hb dX6_chosenOf_27 rfl (lv_at hl 0 rfl) ?_
        refine lv_iload_n hx hb dX6_chosenOf_28 rfl (lv_at hl 1 rfl) ?_
        obtain ⟨x38, hc39, h⟩ := cz_e1 h
        refine cz_callV (As := [.int w1]) (rest := []) (is := [0, 1, 3]) (isR := [2, 4, 5]) (rs := [aI cI a_o_innerOf 120 g33, aI cI a_o_nearOf 360 g35, aI cI a_o_fromOf 360 g36]) (as := [a_o, a_o_s, a_o_innerOf, a_o_whoseOf, a_o_nearOf, a_o_fromOf]) (ws1 := [oX6 a_o a_o_refusals a_o_s a_o_image v_o_isImage a_o_tape a_o_read v_o_taped v_o_pos v_o_readWide v_o_readHigh a_o_innerOf a_o_whoseOf a_o_nearOf a_o_fromOf x31 a_o_pieceOf a_o_kept a_o_claimOf a_o_row v_o_rowed, aI cI a_o_s 151 g32, aI cI a_o_innerOf 120 g33, aI cI a_o_whoseOf 120 g34, aI cI a_o_nearOf 360 g35, aI cI a_o_fromOf 360 g36]) (q0 := 0) (ci := 6) ⟨hx, hb, hml, hown, hts⟩ (c_X6_worthOf l D cI a_o a_o_s a_o_whoseOf a_o_refusals a_o_image a_o_tape a_o_read a_o_innerOf a_o_nearOf a_o_fromOf a_o_pieceOf a_o_kept a_o_claimOf a_o_row v_o_isImage v_o_taped v_o_pos v_o_readWide v_o_readHigh x31 v_o_rowed g32 g34 w1 n x38 hc39) mw_4_189 mw_4_191 mw_p_32 mw_1_8 mw_4_192 hd_X6_worthOf ⟨Nat.le_of_ble_eq_true rfl, Nat.le_of_ble_eq_true rfl⟩ hK hN hP hD hS rfl rfl rfl rfl rfl rfl rfl rfl rfl rfl rfl rfl hl.1 rfl (Nat.le_of_ble_eq_true rfl) dX6_chosenOf_29 ⟨Nat.le_of_ble_eq_true rfl, Nat.le_of_ble_eq_true rfl⟩ (fun H locs hP hD hS => ?_)
        refine W.eq (g2 := F0 m 32 ls [.int x38]) rfl ?_
        refine lv_istore (lv' := [(6, .int x38), (0, .ref a_o), (1, .int w1), (2, .int x1), (3, .int x2), (4, .int x3), (5, .int x4)]) hx hb dX6_chosenOf_32 hl (by decide) rfl (fun ls hl => ?_)
        refine lv_aload_n hx hb dX6_chosenOf_34 rfl (lv_at hl 1 rfl) ?_
        refine lv_iload_n hx hb dX6_chosenOf_35 rfl (lv_at hl 2 rfl) ?_
        obtain ⟨x40, hc41, h⟩ := cz_e1 h
        refine cz_callV (As := [.int w1]) (rest := []) (is := [0, 1, 3]) (isR := [2, 4, 5]) (rs := [aI cI a_o_innerOf 120 g33, aI cI a_o_nearOf 360 g35, aI cI a_o_fromOf 360 g36]) (as := [a_o, a_o_s, a_o_innerOf, a_o_whoseOf, a_o_nearOf, a_o_fromOf]) (ws1 := [oX6 a_o a_o_refusals a_o_s a_o_image v_o_isImage a_o_tape a_o_read v_o_taped v_o_pos v_o_readWide v_o_readHigh a_o_innerOf a_o_whoseOf a_o_nearOf a_o_fromOf x31 a_o_pieceOf a_o_kept a_o_claimOf a_o_row v_o_rowed, aI cI a_o_s 151 g32, aI cI a_o_innerOf 120 g33, aI cI a_o_whoseOf 120 g34, aI cI a_o_nearOf 360 g35, aI cI a_o_fromOf 360 g36]) (q0 := 0) (ci := 6) ⟨hx, hb, hml, hown, hts⟩ (c_X6_areaOf l D cI a_o a_o_s a_o_whoseOf a_o_refusals a_o_image a_o_tape a_o_read a_o_innerOf a_o_nearOf a_o_fromOf a_o_pieceOf a_o_kept a_o_claimOf a_o_row v_o_isImage v_o_taped v_o_pos v_o_readWide v_o_readHigh x31 v_o_rowed g32 g34 w1 n x40 hc41) mw_4_120 mw_4_122 mw_p_24 mw_1_8 mw_4_123 hd_X6_areaOf ⟨Nat.le_of_ble_eq_true rfl, Nat.le_of_ble_eq_true rfl⟩ hK hN hP hD hS rfl rfl rfl rfl rfl rfl rfl rfl rfl rfl rfl rfl hl.1 rfl (Nat.le_of_ble_eq_true rfl) dX6_chosenOf_36 ⟨Nat.le_of_ble_eq_true rfl, Nat.le_of_ble_eq_true rfl⟩ (fun H locs hP hD hS => ?_)
        refine W.eq (g2 := F0 m 39 ls [.int x40]) rfl ?_
        refine lv_istore (lv' := [(7, .int x40), (6, .int x38), (0, .ref a_o), (1, .int w1), (2, .int x1), (3, .int x2), (4, .int x3), (5, .int x4)]) hx hb dX6_chosenOf_39 hl (by decide) rfl (fun ls hl => ?_)
        refine lv_iload_n hx hb dX6_chosenOf_41 rfl (lv_at hl 4 rfl) ?_
        obtain ⟨z48, hE46, hz45⟩ := cz_x3 h
        have hJ47 : ∀ (x42 : Int32) (x43 : Int32) (x44 : Int32) (H : Heap) (locs : List Loc) (ls : Array Slot), z48 = (x42, x43, x44) → va_P D vwCl [oX6 a_o a_o_refusals a_o_s a_o_image v_o_isImage a_o_tape a_o_read v_o_taped v_o_pos v_o_readWide v_o_readHigh a_o_innerOf a_o_whoseOf a_o_nearOf a_o_fromOf x31 a_o_pieceOf a_o_kept a_o_claimOf a_o_row v_o_rowed, aI cI a_o_s 151 g32, aI cI a_o_innerOf 120 g33, aI cI a_o_whoseOf 120 g34, aI cI a_o_nearOf 360 g35, aI cI a_o_fromOf 360 g36] H → va_D A [oX6 a_o a_o_refusals a_o_s a_o_image v_o_isImage a_o_tape a_o_read v_o_taped v_o_pos v_o_readWide v_o_readHigh a_o_innerOf a_o_whoseOf a_o_nearOf a_o_fromOf x31 a_o_pieceOf a_o_kept a_o_claimOf a_o_row v_o_rowed, aI cI a_o_s 151 g32, aI cI a_o_innerOf 120 g33, aI cI a_o_whoseOf 120 g34, aI cI a_o_nearOf 360 g35, aI cI a_o_fromOf 360 g36] → va_S A s.heap H locs → lv_has ls 8 [(0, .ref a_o), (1, .int w1), (2, .int x42), (3, .int x43), (4, .int x44), (5, .int x4)] → W p l e (cz_rm 6 141) s m ag below meth c H locs 0 0 Q (F0 m 80 ls []) := by
          intro x42 x43 x44 H locs ls h hP hD hS hl
          replace h := hz45 _ _ _ h
          obtain ⟨x49, ex49⟩ : ∃ z : Int32, z = x4 + (1 : Int32) := ⟨_, rfl⟩
          replace h := cz_ltE ex49 h
          refine lv_iinc (v := x49) (lv' := [(5, .int x49), (0, .ref a_o), (1, .int w1), (2, .int x42), (3, .int x43), (4, .int x44)]) hx hb dX6_chosenOf_80 hl (k := 5) rfl (by rw [ex49]; rfl) (by decide) rfl (fun ls hl => ?_)
          refine lv_goto (tgt := 11) hx hb dX6_chosenOf_83 (by decide) ?_
          exact ih27 _ _ _ _ _ _ _ _ _ _ _ _ _ h hP hD hS (lv_sub hl [1, 2, 3, 4, 5, 0] rfl)
        clear h
        have h := hE46
        refine lv_if_lt (tgt := 67) hx hb dX6_chosenOf_42 (by decide) (fun c50 => ?_) (fun c50 => ?_)
        · replace h := cz_t c50 h
          refine lv_iload hx hb dX6_chosenOf_67 (lv_at hl 7 rfl) ?_
          obtain ⟨x51, hc52, h⟩ := cz_e1 h
          refine cz_callS (As := [.int x4]) (rest := []) (is := []) (isR := [0, 1, 2, 3, 4, 5]) (rs := [oX6 a_o a_o_refusals a_o_s a_o_image v_o_isImage a_o_tape a_o_read v_o_taped v_o_pos v_o_readWide v_o_readHigh a_o_innerOf a_o_whoseOf a_o_nearOf a_o_fromOf x31 a_o_pieceOf a_o_kept a_o_claimOf a_o_row v_o_rowed, aI cI a_o_s 151 g32, aI cI a_o_innerOf 120 g33, aI cI a_o_whoseOf 120 g34, aI cI a_o_nearOf 360 g35, aI cI a_o_fromOf 360 g36]) (as := [a_o, a_o_s, a_o_innerOf, a_o_whoseOf, a_o_nearOf, a_o_fromOf]) (ws1 := [oX6 a_o a_o_refusals a_o_s a_o_image v_o_isImage a_o_tape a_o_read v_o_taped v_o_pos v_o_readWide v_o_readHigh a_o_innerOf a_o_whoseOf a_o_nearOf a_o_fromOf x31 a_o_pieceOf a_o_kept a_o_claimOf a_o_row v_o_rowed, aI cI a_o_s 151 g32, aI cI a_o_innerOf 120 g33, aI cI a_o_whoseOf 120 g34, aI cI a_o_nearOf 360 g35, aI cI a_o_fromOf 360 g36]) ⟨hx, hb, hml, hown, hts⟩ (c_X6_codeOf l D cI   x4 n x51 hc52) mw_4_201 mw_4_202 mw_1_8 mw_4_203 hd_X6_codeOf ⟨Nat.le_of_ble_eq_true rfl, Nat.le_of_ble_eq_true rfl⟩ hK hN hP hD hS rfl rfl rfl rfl rfl rfl rfl rfl rfl hl.1 rfl (Nat.le_of_ble_eq_true rfl) dX6_chosenOf_69 ⟨Nat.le_of_ble_eq_true rfl, Nat.le_of_ble_eq_true rfl⟩ (fun H locs hP hD hS => ?_)
          refine W.eq (g2 := F0 m 72 ls [.int x51]) rfl ?_
          refine lv_istore_n (lv' := [(2, .int x51), (7, .int x40), (6, .int x38), (0, .ref a_o), (1, .int w1), (3, .int x2), (4, .int x3), (5, .int x4)]) hx hb dX6_chosenOf_72 rfl hl (by decide) rfl (fun ls hl => ?_)
          refine lv_iload hx hb dX6_chosenOf_73 (lv_at hl 2 rfl) ?_
          refine lv_istore_n (lv' := [(3, .int x38), (2, .int x51), (7, .int x40), (6, .int x38), (0, .ref a_o), (1, .int w1), (4, .int x3), (5, .int x4)]) hx hb dX6_chosenOf_75 rfl hl (by decide) rfl (fun ls hl => ?_)
          refine lv_iload hx hb dX6_chosenOf_76 (lv_at hl 2 rfl) ?_
          refine lv_istore (lv' := [(4, .int x40), (3, .int x38), (2, .int x51), (7, .int x40), (6, .int x38), (0, .ref a_o), (1, .int w1), (5, .int x4)]) hx hb dX6_chosenOf_78 hl (by decide) rfl (fun ls hl => ?_)
          exact hJ47 _ _ _ _ _ _ (cz_i h).symm hP hD hS (lv_sub hl [5, 6, 2, 1, 0, 7] rfl)
        · replace h := cz_f c50 h
          refine lv_iload hx hb dX6_chosenOf_45 (lv_at hl 1 rfl) ?_
          refine lv_iload_n hx hb dX6_chosenOf_47 rfl (lv_at hl 5 rfl) ?_
          refine lv_icmp_lt (tgt := 80) hx hb dX6_chosenOf_48 (by decide) (fun c53 => ?_) (fun c53 => ?_)
          · replace h := cz_t c53 h
            exact hJ47 _ _ _ _ _ _ (cz_i h).symm hP hD hS (lv_sub hl [2, 3, 4, 5, 6, 7] rfl)
          · replace h := cz_f c53 h
            refine lv_iload hx hb dX6_chosenOf_51 (lv_at hl 1 rfl) ?_
            refine lv_iload_n hx hb dX6_chosenOf_53 rfl (lv_at hl 5 rfl) ?_
            refine lv_icmp_ne (tgt := 67) hx hb dX6_chosenOf_54 (by decide) (fun c54 => ?_) (fun c54 => ?_)
            · replace h := cz_f c54 h
              refine lv_iload hx hb dX6_chosenOf_67 (lv_at hl 7 rfl) ?_
              obtain ⟨x55, hc56, h⟩ := cz_e1 h
              refine cz_callS (As := [.int x4]) (rest := []) (is := []) (isR := [0, 1, 2, 3, 4, 5]) (rs := [oX6 a_o a_o_refusals a_o_s a_o_image v_o_isImage a_o_tape a_o_read v_o_taped v_o_pos v_o_readWide v_o_readHigh a_o_innerOf a_o_whoseOf a_o_nearOf a_o_fromOf x31 a_o_pieceOf a_o_kept a_o_claimOf a_o_row v_o_rowed, aI cI a_o_s 151 g32, aI cI a_o_innerOf 120 g33, aI cI a_o_whoseOf 120 g34, aI cI a_o_nearOf 360 g35, aI cI a_o_fromOf 360 g36]) (as := [a_o, a_o_s, a_o_innerOf, a_o_whoseOf, a_o_nearOf, a_o_fromOf]) (ws1 := [oX6 a_o a_o_refusals a_o_s a_o_image v_o_isImage a_o_tape a_o_read v_o_taped v_o_pos v_o_readWide v_o_readHigh a_o_innerOf a_o_whoseOf a_o_nearOf a_o_fromOf x31 a_o_pieceOf a_o_kept a_o_claimOf a_o_row v_o_rowed, aI cI a_o_s 151 g32, aI cI a_o_innerOf 120 g33, aI cI a_o_whoseOf 120 g34, aI cI a_o_nearOf 360 g35, aI cI a_o_fromOf 360 g36]) ⟨hx, hb, hml, hown, hts⟩ (c_X6_codeOf l D cI   x4 n x55 hc56) mw_4_201 mw_4_202 mw_1_8 mw_4_203 hd_X6_codeOf ⟨Nat.le_of_ble_eq_true rfl, Nat.le_of_ble_eq_true rfl⟩ hK hN hP hD hS rfl rfl rfl rfl rfl rfl rfl rfl rfl hl.1 rfl (Nat.le_of_ble_eq_true rfl) dX6_chosenOf_69 ⟨Nat.le_of_ble_eq_true rfl, Nat.le_of_ble_eq_true rfl⟩ (fun H locs hP hD hS => ?_)
              refine W.eq (g2 := F0 m 72 ls [.int x55]) rfl ?_
              refine lv_istore_n (lv' := [(2, .int x55), (7, .int x40), (6, .int x38), (0, .ref a_o), (1, .int w1), (3, .int x2), (4, .int x3), (5, .int x4)]) hx hb dX6_chosenOf_72 rfl hl (by decide) rfl (fun ls hl => ?_)
              refine lv_iload hx hb dX6_chosenOf_73 (lv_at hl 2 rfl) ?_
              refine lv_istore_n (lv' := [(3, .int x38), (2, .int x55), (7, .int x40), (6, .int x38), (0, .ref a_o), (1, .int w1), (4, .int x3), (5, .int x4)]) hx hb dX6_chosenOf_75 rfl hl (by decide) rfl (fun ls hl => ?_)
              refine lv_iload hx hb dX6_chosenOf_76 (lv_at hl 2 rfl) ?_
              refine lv_istore (lv' := [(4, .int x40), (3, .int x38), (2, .int x55), (7, .int x40), (6, .int x38), (0, .ref a_o), (1, .int w1), (5, .int x4)]) hx hb dX6_chosenOf_78 hl (by decide) rfl (fun ls hl => ?_)
              exact hJ47 _ _ _ _ _ _ (cz_i h).symm hP hD hS (lv_sub hl [5, 6, 2, 1, 0, 7] rfl)
            · replace h := cz_t c54 h
              refine lv_iload hx hb dX6_chosenOf_57 (lv_at hl 0 rfl) ?_
              refine lv_iload hx hb dX6_chosenOf_59 (lv_at hl 6 rfl) ?_
              refine lv_icmp_gt (tgt := 67) hx hb dX6_chosenOf_61 (by decide) (fun c57 => ?_) (fun c57 => ?_)
              · replace h := cz_t c57 h
                refine lv_iload hx hb dX6_chosenOf_67 (lv_at hl 7 rfl) ?_
                obtain ⟨x58, hc59, h⟩ := cz_e1 h
                refine cz_callS (As := [.int x4]) (rest := []) (is := []) (isR := [0, 1, 2, 3, 4, 5]) (rs := [oX6 a_o a_o_refusals a_o_s a_o_image v_o_isImage a_o_tape a_o_read v_o_taped v_o_pos v_o_readWide v_o_readHigh a_o_innerOf a_o_whoseOf a_o_nearOf a_o_fromOf x31 a_o_pieceOf a_o_kept a_o_claimOf a_o_row v_o_rowed, aI cI a_o_s 151 g32, aI cI a_o_innerOf 120 g33, aI cI a_o_whoseOf 120 g34, aI cI a_o_nearOf 360 g35, aI cI a_o_fromOf 360 g36]) (as := [a_o, a_o_s, a_o_innerOf, a_o_whoseOf, a_o_nearOf, a_o_fromOf]) (ws1 := [oX6 a_o a_o_refusals a_o_s a_o_image v_o_isImage a_o_tape a_o_read v_o_taped v_o_pos v_o_readWide v_o_readHigh a_o_innerOf a_o_whoseOf a_o_nearOf a_o_fromOf x31 a_o_pieceOf a_o_kept a_o_claimOf a_o_row v_o_rowed, aI cI a_o_s 151 g32, aI cI a_o_innerOf 120 g33, aI cI a_o_whoseOf 120 g34, aI cI a_o_nearOf 360 g35, aI cI a_o_fromOf 360 g36]) ⟨hx, hb, hml, hown, hts⟩ (c_X6_codeOf l D cI   x4 n x58 hc59) mw_4_201 mw_4_202 mw_1_8 mw_4_203 hd_X6_codeOf ⟨Nat.le_of_ble_eq_true rfl, Nat.le_of_ble_eq_true rfl⟩ hK hN hP hD hS rfl rfl rfl rfl rfl rfl rfl rfl rfl hl.1 rfl (Nat.le_of_ble_eq_true rfl) dX6_chosenOf_69 ⟨Nat.le_of_ble_eq_true rfl, Nat.le_of_ble_eq_true rfl⟩ (fun H locs hP hD hS => ?_)
                refine W.eq (g2 := F0 m 72 ls [.int x58]) rfl ?_
                refine lv_istore_n (lv' := [(2, .int x58), (7, .int x40), (6, .int x38), (0, .ref a_o), (1, .int w1), (3, .int x2), (4, .int x3), (5, .int x4)]) hx hb dX6_chosenOf_72 rfl hl (by decide) rfl (fun ls hl => ?_)
                refine lv_iload hx hb dX6_chosenOf_73 (lv_at hl 2 rfl) ?_
                refine lv_istore_n (lv' := [(3, .int x38), (2, .int x58), (7, .int x40), (6, .int x38), (0, .ref a_o), (1, .int w1), (4, .int x3), (5, .int x4)]) hx hb dX6_chosenOf_75 rfl hl (by decide) rfl (fun ls hl => ?_)
                refine lv_iload hx hb dX6_chosenOf_76 (lv_at hl 2 rfl) ?_
                refine lv_istore (lv' := [(4, .int x40), (3, .int x38), (2, .int x58), (7, .int x40), (6, .int x38), (0, .ref a_o), (1, .int w1), (5, .int x4)]) hx hb dX6_chosenOf_78 hl (by decide) rfl (fun ls hl => ?_)
                exact hJ47 _ _ _ _ _ _ (cz_i h).symm hP hD hS (lv_sub hl [5, 6, 2, 1, 0, 7] rfl)
              · replace h := cz_f c57 h
                refine lv_goto (tgt := 80) hx hb dX6_chosenOf_64 (by decide) ?_
                exact hJ47 _ _ _ _ _ _ (cz_i h).symm hP hD hS (lv_sub hl [2, 3, 4, 5, 6, 7] rfl)
  exact hL15 n _ _ _ _ _ _ _ _ _ _ _ _ _ hE12 hP hD hS (lv_sub hl [4, 5, 3, 2, 1, 0] rfl)
set_option maxHeartbeats 4000000 in
set_option maxRecDepth 100000 in
theorem c_X6_chosen (l : Launch) (D : va_G) (cI : ClassId) (a_o a_o_refusals a_o_s a_o_innerOf a_o_whoseOf a_o_nearOf a_o_fromOf a_o_image a_o_tape a_o_read a_o_pieceOf a_o_kept a_o_claimOf a_o_row : Nat) (v_o_isImage : Int32) (v_o_taped : Int32) (v_o_pos : Int32) (v_o_readWide : Int32) (v_o_readHigh : Int32) (v_o_thirds : Int32) (v_o_rowed : Int32) (f_o_refusals : (Nat → Int32)) (f_o_s : (Nat → Int32)) (f_o_innerOf : (Nat → Int32)) (f_o_whoseOf : (Nat → Int32)) (f_o_nearOf : (Nat → Int32)) (f_o_fromOf : (Nat → Int32)) (w1 : Int32) (n : Nat) (r : Int32) (r_v_o_thirds : Int32) (r_f_o_refusals : (Nat → Int32)) (r_f_o_s : (Nat → Int32)) (r_f_o_innerOf : (Nat → Int32)) (r_f_o_whoseOf : (Nat → Int32)) (r_f_o_nearOf : (Nat → Int32)) (r_f_o_fromOf : (Nat → Int32)) (h : f_X6_chosen n v_o_thirds f_o_refusals f_o_s f_o_innerOf f_o_whoseOf f_o_nearOf f_o_fromOf w1 = some (r, r_v_o_thirds, r_f_o_refusals, r_f_o_s, r_f_o_innerOf, r_f_o_whoseOf, r_f_o_nearOf, r_f_o_fromOf)) : cz_M l yX6_chosen cX6_chosen 2 (some .int) 7 168 D cI [.ref a_o, .int w1] [oX6 a_o a_o_refusals a_o_s a_o_image v_o_isImage a_o_tape a_o_read v_o_taped v_o_pos v_o_readWide v_o_readHigh a_o_innerOf a_o_whoseOf a_o_nearOf a_o_fromOf v_o_thirds a_o_pieceOf a_o_kept a_o_claimOf a_o_row v_o_rowed, aI cI a_o_refusals 7 f_o_refusals, aI cI a_o_s 151 f_o_s, aI cI a_o_innerOf 120 f_o_innerOf, aI cI a_o_whoseOf 120 f_o_whoseOf, aI cI a_o_nearOf 360 f_o_nearOf, aI cI a_o_fromOf 360 f_o_fromOf] (some (.int r)) [oX6 a_o a_o_refusals a_o_s a_o_image v_o_isImage a_o_tape a_o_read v_o_taped v_o_pos v_o_readWide v_o_readHigh a_o_innerOf a_o_whoseOf a_o_nearOf a_o_fromOf r_v_o_thirds a_o_pieceOf a_o_kept a_o_claimOf a_o_row v_o_rowed, aI cI a_o_refusals 7 r_f_o_refusals, aI cI a_o_s 151 r_f_o_s, aI cI a_o_innerOf 120 r_f_o_innerOf, aI cI a_o_whoseOf 120 r_f_o_whoseOf, aI cI a_o_nearOf 360 r_f_o_nearOf, aI cI a_o_fromOf 360 r_f_o_fromOf] := by
  refine cz_startI (by decide) (Nat.le_of_ble_eq_true rfl) ?_
  intro p e s m ag below meth c A Q hx hb hml hown hts hK hN hQ H locs hP hD hS ls hl
  replace hown : s.vm.findClass RX6 = some m.cls := hown
  replace hl : lv_has ls 2 [(0, .ref a_o), (1, .int w1)] := hl
  unfold f_X6_chosen at h
  refine lv_iload_n hx hb dX6_chosen_0 rfl (lv_at hl 1 rfl) ?_
  refine lv_iconst (v := (3 : Int32)) hx hb dX6_chosen_1 (by decide) ?_
  obtain ⟨x1, hc2, h⟩ := cz_e1 h
  refine cz_callS (As := [.int w1, .int (3 : Int32)]) (rest := []) (is := []) (isR := [0, 1, 2, 3, 4, 5, 6]) (rs := [oX6 a_o a_o_refusals a_o_s a_o_image v_o_isImage a_o_tape a_o_read v_o_taped v_o_pos v_o_readWide v_o_readHigh a_o_innerOf a_o_whoseOf a_o_nearOf a_o_fromOf v_o_thirds a_o_pieceOf a_o_kept a_o_claimOf a_o_row v_o_rowed, aI cI a_o_refusals 7 f_o_refusals, aI cI a_o_s 151 f_o_s, aI cI a_o_innerOf 120 f_o_innerOf, aI cI a_o_whoseOf 120 f_o_whoseOf, aI cI a_o_nearOf 360 f_o_nearOf, aI cI a_o_fromOf 360 f_o_fromOf]) (as := [a_o, a_o_refusals, a_o_s, a_o_innerOf, a_o_whoseOf, a_o_nearOf, a_o_fromOf]) (ws1 := [oX6 a_o a_o_refusals a_o_s a_o_image v_o_isImage a_o_tape a_o_read v_o_taped v_o_pos v_o_readWide v_o_readHigh a_o_innerOf a_o_whoseOf a_o_nearOf a_o_fromOf v_o_thirds a_o_pieceOf a_o_kept a_o_claimOf a_o_row v_o_rowed, aI cI a_o_refusals 7 f_o_refusals, aI cI a_o_s 151 f_o_s, aI cI a_o_innerOf 120 f_o_innerOf, aI cI a_o_whoseOf 120 f_o_whoseOf, aI cI a_o_nearOf 360 f_o_nearOf, aI cI a_o_fromOf 360 f_o_fromOf]) ⟨hx, hb, hml, hown, hts⟩ (c_X6_isIn l D cI   w1 (3 : Int32) n x1 hc2) mw_4_51 mw_4_52 mw_1_8 mw_4_53 hd_X6_isIn ⟨Nat.le_of_ble_eq_true rfl, Nat.le_of_ble_eq_true rfl⟩ hK hN hP hD hS rfl rfl rfl rfl rfl rfl rfl rfl rfl hl.1 rfl (Nat.le_of_ble_eq_true rfl) dX6_chosen_2 ⟨Nat.le_of_ble_eq_true rfl, Nat.le_of_ble_eq_true rfl⟩ (fun H locs hP hD hS => ?_)
  refine W.eq (g2 := F0 m 5 ls [.int x1]) rfl ?_
  refine lv_if_eq (tgt := 16) hx hb dX6_chosen_5 (by decide) (fun c3 => ?_) (fun c3 => ?_)
  · replace h := cz_t c3 h
    refine lv_aload_n hx hb dX6_chosen_16 rfl (lv_at hl 0 rfl) ?_
    refine lv_iconst (v := (-1 : Int32)) hx hb dX6_chosen_17 (by decide) ?_
    obtain ⟨x4, g5, hc6, h⟩ := cz_e2 h
    refine cz_callV (As := [.int (-1 : Int32)]) (rest := []) (is := [0, 1]) (isR := [2, 3, 4, 5, 6]) (rs := [aI cI a_o_s 151 f_o_s, aI cI a_o_innerOf 120 f_o_innerOf, aI cI a_o_whoseOf 120 f_o_whoseOf, aI cI a_o_nearOf 360 f_o_nearOf, aI cI a_o_fromOf 360 f_o_fromOf]) (as := [a_o, a_o_refusals, a_o_s, a_o_innerOf, a_o_whoseOf, a_o_nearOf, a_o_fromOf]) (ws1 := [oX6 a_o a_o_refusals a_o_s a_o_image v_o_isImage a_o_tape a_o_read v_o_taped v_o_pos v_o_readWide v_o_readHigh a_o_innerOf a_o_whoseOf a_o_nearOf a_o_fromOf v_o_thirds a_o_pieceOf a_o_kept a_o_claimOf a_o_row v_o_rowed, aI cI a_o_refusals 7 g5, aI cI a_o_s 151 f_o_s, aI cI a_o_innerOf 120 f_o_innerOf, aI cI a_o_whoseOf 120 f_o_whoseOf, aI cI a_o_nearOf 360 f_o_nearOf, aI cI a_o_fromOf 360 f_o_fromOf]) (q0 := 0) (ci := 6) ⟨hx, hb, hml, hown, hts⟩ (c_X6_refuse l D cI a_o a_o_refusals a_o_s a_o_image a_o_tape a_o_read a_o_innerOf a_o_whoseOf a_o_nearOf a_o_fromOf a_o_pieceOf a_o_kept a_o_claimOf a_o_row v_o_isImage v_o_taped v_o_pos v_o_readWide v_o_readHigh v_o_thirds v_o_rowed f_o_refusals (-1 : Int32) n x4 g5 hc6) mw_4_11 mw_4_13 mw_p_10 mw_1_8 mw_4_14 hd_X6_refuse ⟨Nat.le_of_ble_eq_true rfl, Nat.le_of_ble_eq_true rfl⟩ hK hN hP hD hS rfl rfl rfl rfl rfl rfl rfl rfl rfl rfl rfl rfl hl.1 rfl (Nat.le_of_ble_eq_true rfl) dX6_chosen_18 ⟨Nat.le_of_ble_eq_true rfl, Nat.le_of_ble_eq_true rfl⟩ (fun H locs hP hD hS => ?_)
    refine W.eq (g2 := F0 m 21 ls [.int x4]) rfl ?_
    obtain ⟨rfl, rfl, rfl, rfl, rfl, rfl, rfl, rfl⟩ := cz_j8 (cz_i h)
    exact hQ _ _ _ _ hP hS dX6_chosen_21
  · replace h := cz_f c3 h
    refine lv_aload_n hx hb dX6_chosen_8 rfl (lv_at hl 0 rfl) ?_
    refine lv_iload_n hx hb dX6_chosen_9 rfl (lv_at hl 1 rfl) ?_
    obtain ⟨x7, x8, g9, g10, g11, g12, g13, hc14, h⟩ := cz_e7 h
    refine cz_callV (As := [.int w1]) (rest := []) (is := [0, 2, 3, 4, 5, 6]) (isR := [1]) (rs := [aI cI a_o_refusals 7 f_o_refusals]) (as := [a_o, a_o_refusals, a_o_s, a_o_innerOf, a_o_whoseOf, a_o_nearOf, a_o_fromOf]) (ws1 := [oX6 a_o a_o_refusals a_o_s a_o_image v_o_isImage a_o_tape a_o_read v_o_taped v_o_pos v_o_readWide v_o_readHigh a_o_innerOf a_o_whoseOf a_o_nearOf a_o_fromOf x8 a_o_pieceOf a_o_kept a_o_claimOf a_o_row v_o_rowed, aI cI a_o_refusals 7 f_o_refusals, aI cI a_o_s 151 g9, aI cI a_o_innerOf 120 g10, aI cI a_o_whoseOf 120 g11, aI cI a_o_nearOf 360 g12, aI cI a_o_fromOf 360 g13]) (q0 := 0) (ci := 6) ⟨hx, hb, hml, hown, hts⟩ (c_X6_chosenOf l D cI a_o a_o_s a_o_innerOf a_o_whoseOf a_o_nearOf a_o_fromOf a_o_refusals a_o_image a_o_tape a_o_read a_o_pieceOf a_o_kept a_o_claimOf a_o_row v_o_isImage v_o_taped v_o_pos v_o_readWide v_o_readHigh v_o_thirds v_o_rowed f_o_s f_o_innerOf f_o_whoseOf f_o_nearOf f_o_fromOf w1 n x7 x8 g9 g10 g11 g12 g13 hc14) mw_4_197 mw_4_199 mw_p_33 mw_1_8 mw_4_200 hd_X6_chosenOf ⟨Nat.le_of_ble_eq_true rfl, Nat.le_of_ble_eq_true rfl⟩ hK hN hP hD hS rfl rfl rfl rfl rfl rfl rfl rfl rfl rfl rfl rfl hl.1 rfl (Nat.le_of_ble_eq_true rfl) dX6_chosen_10 ⟨Nat.le_of_ble_eq_true rfl, Nat.le_of_ble_eq_true rfl⟩ (fun H locs hP hD hS => ?_)
    refine W.eq (g2 := F0 m 13 ls [.int x7]) rfl ?_
    refine lv_goto (tgt := 21) hx hb dX6_chosen_13 (by decide) ?_
    obtain ⟨rfl, rfl, rfl, rfl, rfl, rfl, rfl, rfl⟩ := cz_j8 (cz_i h)
    exact hQ _ _ _ _ hP hS dX6_chosen_21
set_option maxHeartbeats 4000000 in
set_option maxRecDepth 100000 in
theorem c_X6_findClaims (l : Launch) (D : va_G) (cI : ClassId) (a_o a_o_s a_o_innerOf a_o_whoseOf a_o_nearOf a_o_fromOf a_o_claimOf a_o_refusals a_o_image a_o_tape a_o_read a_o_pieceOf a_o_kept a_o_row : Nat) (v_o_isImage : Int32) (v_o_taped : Int32) (v_o_pos : Int32) (v_o_readWide : Int32) (v_o_readHigh : Int32) (v_o_thirds : Int32) (v_o_rowed : Int32) (f_o_s : (Nat → Int32)) (f_o_innerOf : (Nat → Int32)) (f_o_whoseOf : (Nat → Int32)) (f_o_nearOf : (Nat → Int32)) (f_o_fromOf : (Nat → Int32)) (f_o_claimOf : (Nat → Int32)) (n : Nat) (r_v_o_thirds : Int32) (r_f_o_s : (Nat → Int32)) (r_f_o_innerOf : (Nat → Int32)) (r_f_o_whoseOf : (Nat → Int32)) (r_f_o_nearOf : (Nat → Int32)) (r_f_o_fromOf : (Nat → Int32)) (r_f_o_claimOf : (Nat → Int32)) (h : f_X6_findClaims n v_o_thirds f_o_s f_o_innerOf f_o_whoseOf f_o_nearOf f_o_fromOf f_o_claimOf = some (r_v_o_thirds, r_f_o_s, r_f_o_innerOf, r_f_o_whoseOf, r_f_o_nearOf, r_f_o_fromOf, r_f_o_claimOf)) : cz_M l yX6_findClaims cX6_findClaims 3 none 7 168 D cI [.ref a_o] [oX6 a_o a_o_refusals a_o_s a_o_image v_o_isImage a_o_tape a_o_read v_o_taped v_o_pos v_o_readWide v_o_readHigh a_o_innerOf a_o_whoseOf a_o_nearOf a_o_fromOf v_o_thirds a_o_pieceOf a_o_kept a_o_claimOf a_o_row v_o_rowed, aI cI a_o_s 151 f_o_s, aI cI a_o_innerOf 120 f_o_innerOf, aI cI a_o_whoseOf 120 f_o_whoseOf, aI cI a_o_nearOf 360 f_o_nearOf, aI cI a_o_fromOf 360 f_o_fromOf, aI cI a_o_claimOf 120 f_o_claimOf] none [oX6 a_o a_o_refusals a_o_s a_o_image v_o_isImage a_o_tape a_o_read v_o_taped v_o_pos v_o_readWide v_o_readHigh a_o_innerOf a_o_whoseOf a_o_nearOf a_o_fromOf r_v_o_thirds a_o_pieceOf a_o_kept a_o_claimOf a_o_row v_o_rowed, aI cI a_o_s 151 r_f_o_s, aI cI a_o_innerOf 120 r_f_o_innerOf, aI cI a_o_whoseOf 120 r_f_o_whoseOf, aI cI a_o_nearOf 360 r_f_o_nearOf, aI cI a_o_fromOf 360 r_f_o_fromOf, aI cI a_o_claimOf 120 r_f_o_claimOf] := by
  refine cz_startV (by decide) (Nat.le_of_ble_eq_true rfl) ?_
  intro p e s m ag below meth c A Q hx hb hml hown hts hK hN hQ H locs hP hD hS ls hl
  replace hown : s.vm.findClass RX6 = some m.cls := hown
  replace hl : lv_has ls 3 [(0, .ref a_o)] := hl
  unfold f_X6_findClaims at h
  refine lv_iconst (v := (0 : Int32)) hx hb dX6_findClaims_0 (by decide) ?_
  refine lv_istore_n (lv' := [(1, .int (0 : Int32)), (0, .ref a_o)]) hx hb dX6_findClaims_1 rfl hl (by decide) rfl (fun ls hl => ?_)
  obtain ⟨z3, hE4, hz5⟩ := cz_x2 h
  have hX6 : ∀ (y9 : Int32) (q10 : (Nat → Int32)) (H : Heap) (locs : List Loc) (ls : Array Slot), z3 = (y9, q10) → va_P D vwCl [oX6 a_o a_o_refusals a_o_s a_o_image v_o_isImage a_o_tape a_o_read v_o_taped v_o_pos v_o_readWide v_o_readHigh a_o_innerOf a_o_whoseOf a_o_nearOf a_o_fromOf v_o_thirds a_o_pieceOf a_o_kept a_o_claimOf a_o_row v_o_rowed, aI cI a_o_s 151 f_o_s, aI cI a_o_innerOf 120 f_o_innerOf, aI cI a_o_whoseOf 120 f_o_whoseOf, aI cI a_o_nearOf 360 f_o_nearOf, aI cI a_o_fromOf 360 f_o_fromOf, aI cI a_o_claimOf 120 q10] H → va_D A [oX6 a_o a_o_refusals a_o_s a_o_image v_o_isImage a_o_tape a_o_read v_o_taped v_o_pos v_o_readWide v_o_readHigh a_o_innerOf a_o_whoseOf a_o_nearOf a_o_fromOf v_o_thirds a_o_pieceOf a_o_kept a_o_claimOf a_o_row v_o_rowed, aI cI a_o_s 151 f_o_s, aI cI a_o_innerOf 120 f_o_innerOf, aI cI a_o_whoseOf 120 f_o_whoseOf, aI cI a_o_nearOf 360 f_o_nearOf, aI cI a_o_fromOf 360 f_o_fromOf, aI cI a_o_claimOf 120 q10] → va_S A s.heap H locs → lv_has ls 3 [(0, .ref a_o)] → W p l e (cz_rm 7 168) s m ag below meth c H locs 0 0 Q (F0 m 23 ls []) := by
    intro y9 q10 H locs ls h hP hD hS hl
    replace h := hz5 _ _ h
    refine lv_iconst (v := (0 : Int32)) hx hb dX6_findClaims_23 (by decide) ?_
    refine lv_istore_n (lv' := [(1, .int (0 : Int32)), (0, .ref a_o)]) hx hb dX6_findClaims_24 rfl hl (by decide) rfl (fun ls hl => ?_)
    obtain ⟨z19, hE20, hz21⟩ := cz_x8 h
    have hX22 : ∀ (y25 : Int32) (y26 : Int32) (q27 : (Nat → Int32)) (q28 : (Nat → Int32)) (q29 : (Nat → Int32)) (q30 : (Nat → Int32)) (q31 : (Nat → Int32)) (q32 : (Nat → Int32)) (H : Heap) (locs : List Loc) (ls : Array Slot), z19 = (y25, y26, q27, q28, q29, q30, q31, q32) → va_P D vwCl [oX6 a_o a_o_refusals a_o_s a_o_image v_o_isImage a_o_tape a_o_read v_o_taped v_o_pos v_o_readWide v_o_readHigh a_o_innerOf a_o_whoseOf a_o_nearOf a_o_fromOf y26 a_o_pieceOf a_o_kept a_o_claimOf a_o_row v_o_rowed, aI cI a_o_s 151 q27, aI cI a_o_innerOf 120 q28, aI cI a_o_whoseOf 120 q29, aI cI a_o_nearOf 360 q30, aI cI a_o_fromOf 360 q31, aI cI a_o_claimOf 120 q32] H → va_D A [oX6 a_o a_o_refusals a_o_s a_o_image v_o_isImage a_o_tape a_o_read v_o_taped v_o_pos v_o_readWide v_o_readHigh a_o_innerOf a_o_whoseOf a_o_nearOf a_o_fromOf y26 a_o_pieceOf a_o_kept a_o_claimOf a_o_row v_o_rowed, aI cI a_o_s 151 q27, aI cI a_o_innerOf 120 q28, aI cI a_o_whoseOf 120 q29, aI cI a_o_nearOf 360 q30, aI cI a_o_fromOf 360 q31, aI cI a_o_claimOf 120 q32] → va_S A s.heap H locs → lv_has ls 3 [] → W p l e (cz_rm 7 168) s m ag below meth c H locs 0 0 Q (F0 m 87 ls []) := by
      intro y25 y26 q27 q28 q29 q30 q31 q32 H locs ls h hP hD hS hl
      replace h := hz21 _ _ _ _ _ _ _ _ h
      obtain ⟨rfl, rfl, rfl, rfl, rfl, rfl, rfl⟩ := cz_j7 (cz_i h)
      exact hQ _ _ _ _ hP hS dX6_findClaims_87
    clear h
    have hL23 : ∀ (k : Nat) (x11 : Int32) (x12 : Int32) (g13 : (Nat → Int32)) (g14 : (Nat → Int32)) (g15 : (Nat → Int32)) (g16 : (Nat → Int32)) (g17 : (Nat → Int32)) (g18 : (Nat → Int32)) (H : Heap) (locs : List Loc) (ls : Array Slot), f_X6_findClaims_L25 n k x11 x12 g13 g14 g15 g16 g17 g18 = some z19 → va_P D vwCl [oX6 a_o a_o_refusals a_o_s a_o_image v_o_isImage a_o_tape a_o_read v_o_taped v_o_pos v_o_readWide v_o_readHigh a_o_innerOf a_o_whoseOf a_o_nearOf a_o_fromOf x12 a_o_pieceOf a_o_kept a_o_claimOf a_o_row v_o_rowed, aI cI a_o_s 151 g13, aI cI a_o_innerOf 120 g14, aI cI a_o_whoseOf 120 g15, aI cI a_o_nearOf 360 g16, aI cI a_o_fromOf 360 g17, aI cI a_o_claimOf 120 g18] H → va_D A [oX6 a_o a_o_refusals a_o_s a_o_image v_o_isImage a_o_tape a_o_read v_o_taped v_o_pos v_o_readWide v_o_readHigh a_o_innerOf a_o_whoseOf a_o_nearOf a_o_fromOf x12 a_o_pieceOf a_o_kept a_o_claimOf a_o_row v_o_rowed, aI cI a_o_s 151 g13, aI cI a_o_innerOf 120 g14, aI cI a_o_whoseOf 120 g15, aI cI a_o_nearOf 360 g16, aI cI a_o_fromOf 360 g17, aI cI a_o_claimOf 120 g18] → va_S A s.heap H locs → lv_has ls 3 [(0, .ref a_o), (1, .int x11)] → W p l e (cz_rm 7 168) s m ag below meth c H locs 0 0 Q (F0 m 25 ls []) := by
      intro k
      induction k with
      | zero =>
        intro x11 x12 g13 g14 g15 g16 g17 g18 H locs ls h
        rw [f_X6_findClaims_L25] at h
        cases h
      | succ k ih33 =>
        intro x11 x12 g13 g14 g15 g16 g17 g18 H locs ls h hP hD hS hl
        rw [f_X6_findClaims_L25] at h
        refine lv_iload_n hx hb dX6_findClaims_25 rfl (lv_at hl 1 rfl) ?_
        refine lv_iconst (v := (2 : Int32)) hx hb dX6_findClaims_26 (by decide) ?_
        refine lv_icmp_ge (tgt := 87) hx hb dX6_findClaims_27 (by decide) (fun c34 => ?_) (fun c34 => ?_)
        · replace h := cz_t c34 h
          exact hX22 _ _ _ _ _ _ _ _ _ _ _ (cz_i h).symm hP hD hS (lv_sub hl [] rfl)
        · replace h := cz_f c34 h
          refine lv_aload_n hx hb dX6_findClaims_30 rfl (lv_at hl 0 rfl) ?_
          refine lv_aload_n hx hb dX6_findClaims_31 rfl (lv_at hl 0 rfl) ?_
          refine lv_iload_n hx hb dX6_findClaims_32 rfl (lv_at hl 1 rfl) ?_
          obtain ⟨x35, x36, g37, g38, g39, g40, g41, hc42, h⟩ := cz_e7 h
          refine cz_callV (As := [.int x11]) (rest := [.ref a_o]) (is := [0, 1, 2, 3, 4, 5]) (isR := [6]) (rs := [aI cI a_o_claimOf 120 g18]) (as := [a_o, a_o_s, a_o_innerOf, a_o_whoseOf, a_o_nearOf, a_o_fromOf, a_o_claimOf]) (ws1 := [oX6 a_o a_o_refusals a_o_s a_o_image v_o_isImage a_o_tape a_o_read v_o_taped v_o_pos v_o_readWide v_o_readHigh a_o_innerOf a_o_whoseOf a_o_nearOf a_o_fromOf x36 a_o_pieceOf a_o_kept a_o_claimOf a_o_row v_o_rowed, aI cI a_o_s 151 g37, aI cI a_o_innerOf 120 g38, aI cI a_o_whoseOf 120 g39, aI cI a_o_nearOf 360 g40, aI cI a_o_fromOf 360 g41, aI cI a_o_claimOf 120 g18]) (q0 := 0) (ci := 6) ⟨hx, hb, hml, hown, hts⟩ (c_X6_chosenOf l D cI a_o a_o_s a_o_innerOf a_o_whoseOf a_o_nearOf a_o_fromOf a_o_refusals a_o_image a_o_tape a_o_read a_o_pieceOf a_o_kept a_o_claimOf a_o_row v_o_isImage v_o_taped v_o_pos v_o_readWide v_o_readHigh x12 v_o_rowed g13 g14 g15 g16 g17 x11 n x35 x36 g37 g38 g39 g40 g41 hc42) mw_4_197 mw_4_199 mw_p_33 mw_1_8 mw_4_200 hd_X6_chosenOf ⟨Nat.le_of_ble_eq_true rfl, Nat.le_of_ble_eq_true rfl⟩ hK hN hP hD hS rfl rfl rfl rfl rfl rfl rfl rfl rfl rfl rfl rfl hl.1 rfl (Nat.le_of_ble_eq_true rfl) dX6_findClaims_33 ⟨Nat.le_of_ble_eq_true rfl, Nat.le_of_ble_eq_true rfl⟩ (fun H locs hP hD hS => ?_)
          refine W.eq (g2 := F0 m 36 ls [.int x35, .ref a_o]) rfl ?_
          obtain ⟨x43, g44, g45, g46, g47, g48, hc49, h⟩ := cz_e6 h
          refine cz_callV (As := [.int x35]) (rest := []) (is := [0, 1, 2, 3, 4, 5]) (isR := [6]) (rs := [aI cI a_o_claimOf 120 g18]) (as := [a_o, a_o_s, a_o_innerOf, a_o_whoseOf, a_o_nearOf, a_o_fromOf, a_o_claimOf]) (ws1 := [oX6 a_o a_o_refusals a_o_s a_o_image v_o_isImage a_o_tape a_o_read v_o_taped v_o_pos v_o_readWide v_o_readHigh a_o_innerOf a_o_whoseOf a_o_nearOf a_o_fromOf x43 a_o_pieceOf a_o_kept a_o_claimOf a_o_row v_o_rowed, aI cI a_o_s 151 g44, aI cI a_o_innerOf 120 g45, aI cI a_o_whoseOf 120 g46, aI cI a_o_nearOf 360 g47, aI cI a_o_fromOf 360 g48, aI cI a_o_claimOf 120 g18]) (q0 := 0) (ci := 6) ⟨hx, hb, hml, hown, hts⟩ (c_X6_findBy l D cI a_o a_o_s a_o_innerOf a_o_whoseOf a_o_nearOf a_o_fromOf a_o_refusals a_o_image a_o_tape a_o_read a_o_pieceOf a_o_kept a_o_claimOf a_o_row v_o_isImage v_o_taped v_o_pos v_o_readWide v_o_readHigh x36 v_o_rowed g37 g38 g39 g40 g41 x35 n x43 g44 g45 g46 g47 g48 hc49) mw_4_204 mw_4_206 mw_p_34 mw_1_8 mw_4_207 hd_X6_findBy ⟨Nat.le_of_ble_eq_true rfl, Nat.le_of_ble_eq_true rfl⟩ hK hN hP hD hS rfl rfl rfl rfl rfl rfl rfl rfl rfl rfl rfl rfl hl.1 rfl (Nat.le_of_ble_eq_true rfl) dX6_findClaims_36 ⟨Nat.le_of_ble_eq_true rfl, Nat.le_of_ble_eq_true rfl⟩ (fun H locs hP hD hS => ?_)
          refine W.eq (g2 := F0 m 39 ls []) rfl ?_
          refine lv_iconst (v := (0 : Int32)) hx hb dX6_findClaims_39 (by decide) ?_
          refine lv_istore_n (lv' := [(2, .int (0 : Int32)), (0, .ref a_o), (1, .int x11)]) hx hb dX6_findClaims_40 rfl hl (by decide) rfl (fun ls hl => ?_)
          obtain ⟨z52, hE53, hz54⟩ := cz_x2 h
          have hX55 : ∀ (y58 : Int32) (q59 : (Nat → Int32)) (H : Heap) (locs : List Loc) (ls : Array Slot), z52 = (y58, q59) → va_P D vwCl [oX6 a_o a_o_refusals a_o_s a_o_image v_o_isImage a_o_tape a_o_read v_o_taped v_o_pos v_o_readWide v_o_readHigh a_o_innerOf a_o_whoseOf a_o_nearOf a_o_fromOf x43 a_o_pieceOf a_o_kept a_o_claimOf a_o_row v_o_rowed, aI cI a_o_s 151 g44, aI cI a_o_innerOf 120 g45, aI cI a_o_whoseOf 120 g46, aI cI a_o_nearOf 360 g47, aI cI a_o_fromOf 360 g48, aI cI a_o_claimOf 120 q59] H → va_D A [oX6 a_o a_o_refusals a_o_s a_o_image v_o_isImage a_o_tape a_o_read v_o_taped v_o_pos v_o_readWide v_o_readHigh a_o_innerOf a_o_whoseOf a_o_nearOf a_o_fromOf x43 a_o_pieceOf a_o_kept a_o_claimOf a_o_row v_o_rowed, aI cI a_o_s 151 g44, aI cI a_o_innerOf 120 g45, aI cI a_o_whoseOf 120 g46, aI cI a_o_nearOf 360 g47, aI cI a_o_fromOf 360 g48, aI cI a_o_claimOf 120 q59] → va_S A s.heap H locs → lv_has ls 3 [(0, .ref a_o), (1, .int x11)] → W p l e (cz_rm 7 168) s m ag below meth c H locs 0 0 Q (F0 m 81 ls []) := by
            intro y58 q59 H locs ls h hP hD hS hl
            replace h := hz54 _ _ h
            obtain ⟨x60, ex60⟩ : ∃ z : Int32, z = x11 + (1 : Int32) := ⟨_, rfl⟩
            replace h := cz_ltE ex60 h
            refine lv_iinc (v := x60) (lv' := [(1, .int x60), (0, .ref a_o)]) hx hb dX6_findClaims_81 hl (k := 1) rfl (by rw [ex60]; rfl) (by decide) rfl (fun ls hl => ?_)
            refine lv_goto (tgt := 25) hx hb dX6_findClaims_84 (by decide) ?_
            exact ih33 _ _ _ _ _ _ _ _ _ _ _ h hP hD hS (lv_sub hl [1, 0] rfl)
          clear h
          have hL56 : ∀ (k : Nat) (x50 : Int32) (g51 : (Nat → Int32)) (H : Heap) (locs : List Loc) (ls : Array Slot), f_X6_findClaims_L41 n g44 g46 x11 k x50 g51 = some z52 → va_P D vwCl [oX6 a_o a_o_refusals a_o_s a_o_image v_o_isImage a_o_tape a_o_read v_o_taped v_o_pos v_o_readWide v_o_readHigh a_o_innerOf a_o_whoseOf a_o_nearOf a_o_fromOf x43 a_o_pieceOf a_o_kept a_o_claimOf a_o_row v_o_rowed, aI cI a_o_s 151 g44, aI cI a_o_innerOf 120 g45, aI cI a_o_whoseOf 120 g46, aI cI a_o_nearOf 360 g47, aI cI a_o_fromOf 360 g48, aI cI a_o_claimOf 120 g51] H → va_D A [oX6 a_o a_o_refusals a_o_s a_o_image v_o_isImage a_o_tape a_o_read v_o_taped v_o_pos v_o_readWide v_o_readHigh a_o_innerOf a_o_whoseOf a_o_nearOf a_o_fromOf x43 a_o_pieceOf a_o_kept a_o_claimOf a_o_row v_o_rowed, aI cI a_o_s 151 g44, aI cI a_o_innerOf 120 g45, aI cI a_o_whoseOf 120 g46, aI cI a_o_nearOf 360 g47, aI cI a_o_fromOf 360 g48, aI cI a_o_claimOf 120 g51] → va_S A s.heap H locs → lv_has ls 3 [(0, .ref a_o), (1, .int x11), (2, .int x50)] → W p l e (cz_rm 7 168) s m ag below meth c H locs 0 0 Q (F0 m 41 ls []) := by
            intro k
            induction k with
            | zero =>
              intro x50 g51 H locs ls h
              rw [f_X6_findClaims_L41] at h
              cases h
            | succ k ih61 =>
              intro x50 g51 H locs ls h hP hD hS hl
              rw [f_X6_findClaims_L41] at h
              refine lv_iload_n hx hb dX6_findClaims_41 rfl (lv_at hl 2 rfl) ?_
              refine lv_aload_n hx hb dX6_findClaims_42 rfl (lv_at hl 0 rfl) ?_
              obtain ⟨x62, hc63, h⟩ := cz_e1 h
              refine cz_callV (As := []) (rest := [.int x50]) (is := [0, 1]) (isR := [2, 3, 4, 5, 6]) (rs := [aI cI a_o_innerOf 120 g45, aI cI a_o_whoseOf 120 g46, aI cI a_o_nearOf 360 g47, aI cI a_o_fromOf 360 g48, aI cI a_o_claimOf 120 g51]) (as := [a_o, a_o_s, a_o_innerOf, a_o_whoseOf, a_o_nearOf, a_o_fromOf, a_o_claimOf]) (ws1 := [oX6 a_o a_o_refusals a_o_s a_o_image v_o_isImage a_o_tape a_o_read v_o_taped v_o_pos v_o_readWide v_o_readHigh a_o_innerOf a_o_whoseOf a_o_nearOf a_o_fromOf x43 a_o_pieceOf a_o_kept a_o_claimOf a_o_row v_o_rowed, aI cI a_o_s 151 g44, aI cI a_o_innerOf 120 g45, aI cI a_o_whoseOf 120 g46, aI cI a_o_nearOf 360 g47, aI cI a_o_fromOf 360 g48, aI cI a_o_claimOf 120 g51]) (q0 := 0) (ci := 6) ⟨hx, hb, hml, hown, hts⟩ (c_X6_many l D cI a_o a_o_s a_o_refusals a_o_image a_o_tape a_o_read a_o_innerOf a_o_whoseOf a_o_nearOf a_o_fromOf a_o_pieceOf a_o_kept a_o_claimOf a_o_row v_o_isImage v_o_taped v_o_pos v_o_readWide v_o_readHigh x43 v_o_rowed g44  n x62 hc63) mw_4_27 mw_4_29 mw_p_12 mw_1_8 mw_4_30 hd_X6_many ⟨Nat.le_of_ble_eq_true rfl, Nat.le_of_ble_eq_true rfl⟩ hK hN hP hD hS rfl rfl rfl rfl rfl rfl rfl rfl rfl rfl rfl rfl hl.1 rfl (Nat.le_of_ble_eq_true rfl) dX6_findClaims_43 ⟨Nat.le_of_ble_eq_true rfl, Nat.le_of_ble_eq_true rfl⟩ (fun H locs hP hD hS => ?_)
              refine W.eq (g2 := F0 m 46 ls [.int x62, .int x50]) rfl ?_
              refine lv_icmp_ge (tgt := 81) hx hb dX6_findClaims_46 (by decide) (fun c64 => ?_) (fun c64 => ?_)
              · replace h := cz_t c64 h
                exact hX55 _ _ _ _ _ (cz_i h).symm hP hD hS (lv_sub hl [0, 1] rfl)
              · replace h := cz_f c64 h
                refine lv_aload_n hx hb dX6_findClaims_49 rfl (lv_at hl 0 rfl) ?_
                refine va_get (D := D) (ci := 6) (v := .ref a_o_claimOf) (C := RX6) (T := TX6) (N := 20) hx hb hts in_X6 hown hK hP 0 rfl rfl 17 (by decide) (hts _ mw_3_203) (fun _ h9 => h9) rfl dX6_findClaims_50 ?_
                refine lv_iload_n hx hb dX6_findClaims_53 rfl (lv_at hl 2 rfl) ?_
                refine lv_dup2_11 hx hb dX6_findClaims_54 rfl rfl ?_
                refine cz_iald hx hb hK hP 6 0 rfl rfl (cz_rdE h).1 dX6_findClaims_55 (fun x65 ex65 => ?_)
                replace h := cz_rdK ex65 h
                refine lv_aload_n hx hb dX6_findClaims_56 rfl (lv_at hl 0 rfl) ?_
                refine va_get (D := D) (ci := 6) (v := .ref a_o_whoseOf) (C := RX6) (T := TX6) (N := 20) hx hb hts in_X6 hown hK hP 0 rfl rfl 11 (by decide) (hts _ mw_3_197) (fun _ h9 => h9) rfl dX6_findClaims_57 ?_
                refine lv_iload_n hx hb dX6_findClaims_60 rfl (lv_at hl 2 rfl) ?_
                refine cz_iald hx hb hK hP 3 0 rfl rfl (cz_rdE h).1 dX6_findClaims_61 (fun x66 ex66 => ?_)
                replace h := cz_rdK ex66 h
                refine lv_iload_n hx hb dX6_findClaims_62 rfl (lv_at hl 1 rfl) ?_
                obtain ⟨z71, hE69, hz68⟩ := cz_ltV h
                have hJ70 : ∀ (x67 : Int32) (H : Heap) (locs : List Loc) (ls : Array Slot), z71 = x67 → va_P D vwCl [oX6 a_o a_o_refusals a_o_s a_o_image v_o_isImage a_o_tape a_o_read v_o_taped v_o_pos v_o_readWide v_o_readHigh a_o_innerOf a_o_whoseOf a_o_nearOf a_o_fromOf x43 a_o_pieceOf a_o_kept a_o_claimOf a_o_row v_o_rowed, aI cI a_o_s 151 g44, aI cI a_o_innerOf 120 g45, aI cI a_o_whoseOf 120 g46, aI cI a_o_nearOf 360 g47, aI cI a_o_fromOf 360 g48, aI cI a_o_claimOf 120 g51] H → va_D A [oX6 a_o a_o_refusals a_o_s a_o_image v_o_isImage a_o_tape a_o_read v_o_taped v_o_pos v_o_readWide v_o_readHigh a_o_innerOf a_o_whoseOf a_o_nearOf a_o_fromOf x43 a_o_pieceOf a_o_kept a_o_claimOf a_o_row v_o_rowed, aI cI a_o_s 151 g44, aI cI a_o_innerOf 120 g45, aI cI a_o_whoseOf 120 g46, aI cI a_o_nearOf 360 g47, aI cI a_o_fromOf 360 g48, aI cI a_o_claimOf 120 g51] → va_S A s.heap H locs → lv_has ls 3 [(0, .ref a_o), (1, .int x11), (2, .int x50)] → W p l e (cz_rm 7 168) s m ag below meth c H locs 0 0 Q (F0 m 73 ls [.int x67, .int x65, .int x50, .ref a_o_claimOf]) := by
                  intro x67 H locs ls h hP hD hS hl
                  replace h := hz68 _ h
                  refine lv_iadd hx hb dX6_findClaims_73 ?_
                  refine cz_iast hx hb hK hP hD hS 6 0 rfl rfl (cz_wrE h).1 dX6_findClaims_74 (fun g72 H locs eg72 hP hD hS => ?_)
                  replace h := cz_wrK eg72 h
                  replace hP : va_P D vwCl [oX6 a_o a_o_refusals a_o_s a_o_image v_o_isImage a_o_tape a_o_read v_o_taped v_o_pos v_o_readWide v_o_readHigh a_o_innerOf a_o_whoseOf a_o_nearOf a_o_fromOf x43 a_o_pieceOf a_o_kept a_o_claimOf a_o_row v_o_rowed, aI cI a_o_s 151 g44, aI cI a_o_innerOf 120 g45, aI cI a_o_whoseOf 120 g46, aI cI a_o_nearOf 360 g47, aI cI a_o_fromOf 360 g48, aI cI a_o_claimOf 120 g72] H := hP
                  replace hD : va_D A [oX6 a_o a_o_refusals a_o_s a_o_image v_o_isImage a_o_tape a_o_read v_o_taped v_o_pos v_o_readWide v_o_readHigh a_o_innerOf a_o_whoseOf a_o_nearOf a_o_fromOf x43 a_o_pieceOf a_o_kept a_o_claimOf a_o_row v_o_rowed, aI cI a_o_s 151 g44, aI cI a_o_innerOf 120 g45, aI cI a_o_whoseOf 120 g46, aI cI a_o_nearOf 360 g47, aI cI a_o_fromOf 360 g48, aI cI a_o_claimOf 120 g72] := hD
                  obtain ⟨x73, ex73⟩ : ∃ z : Int32, z = x50 + (1 : Int32) := ⟨_, rfl⟩
                  replace h := cz_ltE ex73 h
                  refine lv_iinc (v := x73) (lv' := [(2, .int x73), (0, .ref a_o), (1, .int x11)]) hx hb dX6_findClaims_75 hl (k := 2) rfl (by rw [ex73]; rfl) (by decide) rfl (fun ls hl => ?_)
                  refine lv_goto (tgt := 41) hx hb dX6_findClaims_78 (by decide) ?_
                  exact ih61 _ _ _ _ _ h hP hD hS (lv_sub hl [1, 2, 0] rfl)
                clear h
                have h := hE69
                refine lv_icmp_ne (tgt := 72) hx hb dX6_findClaims_63 (by decide) (fun c74 => ?_) (fun c74 => ?_)
                · replace h := cz_f c74 h
                  refine lv_iconst (v := (0 : Int32)) hx hb dX6_findClaims_72 (by decide) ?_
                  exact hJ70 _ _ _ _ h.symm hP hD hS (lv_sub hl [0, 1, 2] rfl)
                · replace h := cz_t c74 h
                  refine lv_iconst (v := (1 : Int32)) hx hb dX6_findClaims_66 (by decide) ?_
                  refine lv_iload_n hx hb dX6_findClaims_67 rfl (lv_at hl 1 rfl) ?_
                  refine lv_iadd hx hb dX6_findClaims_68 ?_
                  refine lv_goto (tgt := 73) hx hb dX6_findClaims_69 (by decide) ?_
                  exact hJ70 _ _ _ _ h.symm hP hD hS (lv_sub hl [0, 1, 2] rfl)
          exact hL56 n _ _ _ _ _ hE53 hP hD hS (lv_sub hl [1, 2, 0] rfl)
    exact hL23 n _ _ _ _ _ _ _ _ _ _ _ hE20 hP hD hS (lv_sub hl [1, 0] rfl)
  clear h
  have hL7 : ∀ (k : Nat) (x1 : Int32) (g2 : (Nat → Int32)) (H : Heap) (locs : List Loc) (ls : Array Slot), f_X6_findClaims_L2 n f_o_s k x1 g2 = some z3 → va_P D vwCl [oX6 a_o a_o_refusals a_o_s a_o_image v_o_isImage a_o_tape a_o_read v_o_taped v_o_pos v_o_readWide v_o_readHigh a_o_innerOf a_o_whoseOf a_o_nearOf a_o_fromOf v_o_thirds a_o_pieceOf a_o_kept a_o_claimOf a_o_row v_o_rowed, aI cI a_o_s 151 f_o_s, aI cI a_o_innerOf 120 f_o_innerOf, aI cI a_o_whoseOf 120 f_o_whoseOf, aI cI a_o_nearOf 360 f_o_nearOf, aI cI a_o_fromOf 360 f_o_fromOf, aI cI a_o_claimOf 120 g2] H → va_D A [oX6 a_o a_o_refusals a_o_s a_o_image v_o_isImage a_o_tape a_o_read v_o_taped v_o_pos v_o_readWide v_o_readHigh a_o_innerOf a_o_whoseOf a_o_nearOf a_o_fromOf v_o_thirds a_o_pieceOf a_o_kept a_o_claimOf a_o_row v_o_rowed, aI cI a_o_s 151 f_o_s, aI cI a_o_innerOf 120 f_o_innerOf, aI cI a_o_whoseOf 120 f_o_whoseOf, aI cI a_o_nearOf 360 f_o_nearOf, aI cI a_o_fromOf 360 f_o_fromOf, aI cI a_o_claimOf 120 g2] → va_S A s.heap H locs → lv_has ls 3 [(0, .ref a_o), (1, .int x1)] → W p l e (cz_rm 7 168) s m ag below meth c H locs 0 0 Q (F0 m 2 ls []) := by
    intro k
    induction k with
    | zero =>
      intro x1 g2 H locs ls h
      rw [f_X6_findClaims_L2] at h
      cases h
    | succ k ih77 =>
      intro x1 g2 H locs ls h hP hD hS hl
      rw [f_X6_findClaims_L2] at h
      refine lv_iload_n hx hb dX6_findClaims_2 rfl (lv_at hl 1 rfl) ?_
      refine lv_aload_n hx hb dX6_findClaims_3 rfl (lv_at hl 0 rfl) ?_
      obtain ⟨x78, hc79, h⟩ := cz_e1 h
      refine cz_callV (As := []) (rest := [.int x1]) (is := [0, 1]) (isR := [2, 3, 4, 5, 6]) (rs := [aI cI a_o_innerOf 120 f_o_innerOf, aI cI a_o_whoseOf 120 f_o_whoseOf, aI cI a_o_nearOf 360 f_o_nearOf, aI cI a_o_fromOf 360 f_o_fromOf, aI cI a_o_claimOf 120 g2]) (as := [a_o, a_o_s, a_o_innerOf, a_o_whoseOf, a_o_nearOf, a_o_fromOf, a_o_claimOf]) (ws1 := [oX6 a_o a_o_refusals a_o_s a_o_image v_o_isImage a_o_tape a_o_read v_o_taped v_o_pos v_o_readWide v_o_readHigh a_o_innerOf a_o_whoseOf a_o_nearOf a_o_fromOf v_o_thirds a_o_pieceOf a_o_kept a_o_claimOf a_o_row v_o_rowed, aI cI a_o_s 151 f_o_s, aI cI a_o_innerOf 120 f_o_innerOf, aI cI a_o_whoseOf 120 f_o_whoseOf, aI cI a_o_nearOf 360 f_o_nearOf, aI cI a_o_fromOf 360 f_o_fromOf, aI cI a_o_claimOf 120 g2]) (q0 := 0) (ci := 6) ⟨hx, hb, hml, hown, hts⟩ (c_X6_many l D cI a_o a_o_s a_o_refusals a_o_image a_o_tape a_o_read a_o_innerOf a_o_whoseOf a_o_nearOf a_o_fromOf a_o_pieceOf a_o_kept a_o_claimOf a_o_row v_o_isImage v_o_taped v_o_pos v_o_readWide v_o_readHigh v_o_thirds v_o_rowed f_o_s  n x78 hc79) mw_4_27 mw_4_29 mw_p_12 mw_1_8 mw_4_30 hd_X6_many ⟨Nat.le_of_ble_eq_true rfl, Nat.le_of_ble_eq_true rfl⟩ hK hN hP hD hS rfl rfl rfl rfl rfl rfl rfl rfl rfl rfl rfl rfl hl.1 rfl (Nat.le_of_ble_eq_true rfl) dX6_findClaims_4 ⟨Nat.le_of_ble_eq_true rfl, Nat.le_of_ble_eq_true rfl⟩ (fun H locs hP hD hS => ?_)
      refine W.eq (g2 := F0 m 7 ls [.int x78, .int x1]) rfl ?_
      refine lv_icmp_ge (tgt := 23) hx hb dX6_findClaims_7 (by decide) (fun c80 => ?_) (fun c80 => ?_)
      · replace h := cz_t c80 h
        exact hX6 _ _ _ _ _ (cz_i h).symm hP hD hS (lv_sub hl [0] rfl)
      · replace h := cz_f c80 h
        refine lv_aload_n hx hb dX6_findClaims_10 rfl (lv_at hl 0 rfl) ?_
        refine va_get (D := D) (ci := 6) (v := .ref a_o_claimOf) (C := RX6) (T := TX6) (N := 20) hx hb hts in_X6 hown hK hP 0 rfl rfl 17 (by decide) (hts _ mw_3_203) (fun _ h9 => h9) rfl dX6_findClaims_11 ?_
        refine lv_iload_n hx hb dX6_findClaims_14 rfl (lv_at hl 1 rfl) ?_
        refine lv_iconst (v := (0 : Int32)) hx hb dX6_findClaims_15 (by decide) ?_
        refine cz_iast hx hb hK hP hD hS 6 0 rfl rfl (cz_wrE h).1 dX6_findClaims_16 (fun g81 H locs eg81 hP hD hS => ?_)
        replace h := cz_wrK eg81 h
        replace hP : va_P D vwCl [oX6 a_o a_o_refusals a_o_s a_o_image v_o_isImage a_o_tape a_o_read v_o_taped v_o_pos v_o_readWide v_o_readHigh a_o_innerOf a_o_whoseOf a_o_nearOf a_o_fromOf v_o_thirds a_o_pieceOf a_o_kept a_o_claimOf a_o_row v_o_rowed, aI cI a_o_s 151 f_o_s, aI cI a_o_innerOf 120 f_o_innerOf, aI cI a_o_whoseOf 120 f_o_whoseOf, aI cI a_o_nearOf 360 f_o_nearOf, aI cI a_o_fromOf 360 f_o_fromOf, aI cI a_o_claimOf 120 g81] H := hP
        replace hD : va_D A [oX6 a_o a_o_refusals a_o_s a_o_image v_o_isImage a_o_tape a_o_read v_o_taped v_o_pos v_o_readWide v_o_readHigh a_o_innerOf a_o_whoseOf a_o_nearOf a_o_fromOf v_o_thirds a_o_pieceOf a_o_kept a_o_claimOf a_o_row v_o_rowed, aI cI a_o_s 151 f_o_s, aI cI a_o_innerOf 120 f_o_innerOf, aI cI a_o_whoseOf 120 f_o_whoseOf, aI cI a_o_nearOf 360 f_o_nearOf, aI cI a_o_fromOf 360 f_o_fromOf, aI cI a_o_claimOf 120 g81] := hD
        obtain ⟨x82, ex82⟩ : ∃ z : Int32, z = x1 + (1 : Int32) := ⟨_, rfl⟩
        replace h := cz_ltE ex82 h
        refine lv_iinc (v := x82) (lv' := [(1, .int x82), (0, .ref a_o)]) hx hb dX6_findClaims_17 hl (k := 1) rfl (by rw [ex82]; rfl) (by decide) rfl (fun ls hl => ?_)
        refine lv_goto (tgt := 2) hx hb dX6_findClaims_20 (by decide) ?_
        exact ih77 _ _ _ _ _ h hP hD hS (lv_sub hl [1, 0] rfl)
  exact hL7 n _ _ _ _ _ hE4 hP hD hS (lv_sub hl [1, 0] rfl)
set_option maxHeartbeats 4000000 in
set_option maxRecDepth 100000 in
theorem c_X6_claims (l : Launch) (D : va_G) (cI : ClassId) (a_o a_o_s a_o_innerOf a_o_whoseOf a_o_nearOf a_o_fromOf a_o_claimOf a_o_refusals a_o_image a_o_tape a_o_read a_o_pieceOf a_o_kept a_o_row : Nat) (v_o_isImage : Int32) (v_o_taped : Int32) (v_o_pos : Int32) (v_o_readWide : Int32) (v_o_readHigh : Int32) (v_o_thirds : Int32) (v_o_rowed : Int32) (f_o_s : (Nat → Int32)) (f_o_innerOf : (Nat → Int32)) (f_o_whoseOf : (Nat → Int32)) (f_o_nearOf : (Nat → Int32)) (f_o_fromOf : (Nat → Int32)) (f_o_claimOf : (Nat → Int32)) (n : Nat) (r : Int32) (r_v_o_thirds : Int32) (r_f_o_s : (Nat → Int32)) (r_f_o_innerOf : (Nat → Int32)) (r_f_o_whoseOf : (Nat → Int32)) (r_f_o_nearOf : (Nat → Int32)) (r_f_o_fromOf : (Nat → Int32)) (r_f_o_claimOf : (Nat → Int32)) (h : f_X6_claims n v_o_thirds f_o_s f_o_innerOf f_o_whoseOf f_o_nearOf f_o_fromOf f_o_claimOf = some (r, r_v_o_thirds, r_f_o_s, r_f_o_innerOf, r_f_o_whoseOf, r_f_o_nearOf, r_f_o_fromOf, r_f_o_claimOf)) : cz_M l yX6_claims cX6_claims 3 (some .int) 8 190 D cI [.ref a_o] [oX6 a_o a_o_refusals a_o_s a_o_image v_o_isImage a_o_tape a_o_read v_o_taped v_o_pos v_o_readWide v_o_readHigh a_o_innerOf a_o_whoseOf a_o_nearOf a_o_fromOf v_o_thirds a_o_pieceOf a_o_kept a_o_claimOf a_o_row v_o_rowed, aI cI a_o_s 151 f_o_s, aI cI a_o_innerOf 120 f_o_innerOf, aI cI a_o_whoseOf 120 f_o_whoseOf, aI cI a_o_nearOf 360 f_o_nearOf, aI cI a_o_fromOf 360 f_o_fromOf, aI cI a_o_claimOf 120 f_o_claimOf] (some (.int r)) [oX6 a_o a_o_refusals a_o_s a_o_image v_o_isImage a_o_tape a_o_read v_o_taped v_o_pos v_o_readWide v_o_readHigh a_o_innerOf a_o_whoseOf a_o_nearOf a_o_fromOf r_v_o_thirds a_o_pieceOf a_o_kept a_o_claimOf a_o_row v_o_rowed, aI cI a_o_s 151 r_f_o_s, aI cI a_o_innerOf 120 r_f_o_innerOf, aI cI a_o_whoseOf 120 r_f_o_whoseOf, aI cI a_o_nearOf 360 r_f_o_nearOf, aI cI a_o_fromOf 360 r_f_o_fromOf, aI cI a_o_claimOf 120 r_f_o_claimOf] := by
  refine cz_startI (by decide) (Nat.le_of_ble_eq_true rfl) ?_
  intro p e s m ag below meth c A Q hx hb hml hown hts hK hN hQ H locs hP hD hS ls hl
  replace hown : s.vm.findClass RX6 = some m.cls := hown
  replace hl : lv_has ls 3 [(0, .ref a_o)] := hl
  unfold f_X6_claims at h
  refine lv_aload_n hx hb dX6_claims_0 rfl (lv_at hl 0 rfl) ?_
  obtain ⟨x1, g2, g3, g4, g5, g6, g7, hc8, h⟩ := cz_e7 h
  refine cz_callV (As := []) (rest := []) (is := [0, 1, 2, 3, 4, 5, 6]) (isR := []) (rs := []) (as := [a_o, a_o_s, a_o_innerOf, a_o_whoseOf, a_o_nearOf, a_o_fromOf, a_o_claimOf]) (ws1 := [oX6 a_o a_o_refusals a_o_s a_o_image v_o_isImage a_o_tape a_o_read v_o_taped v_o_pos v_o_readWide v_o_readHigh a_o_innerOf a_o_whoseOf a_o_nearOf a_o_fromOf x1 a_o_pieceOf a_o_kept a_o_claimOf a_o_row v_o_rowed, aI cI a_o_s 151 g2, aI cI a_o_innerOf 120 g3, aI cI a_o_whoseOf 120 g4, aI cI a_o_nearOf 360 g5, aI cI a_o_fromOf 360 g6, aI cI a_o_claimOf 120 g7]) (q0 := 0) (ci := 6) ⟨hx, hb, hml, hown, hts⟩ (c_X6_findClaims l D cI a_o a_o_s a_o_innerOf a_o_whoseOf a_o_nearOf a_o_fromOf a_o_claimOf a_o_refusals a_o_image a_o_tape a_o_read a_o_pieceOf a_o_kept a_o_row v_o_isImage v_o_taped v_o_pos v_o_readWide v_o_readHigh v_o_thirds v_o_rowed f_o_s f_o_innerOf f_o_whoseOf f_o_nearOf f_o_fromOf f_o_claimOf  n x1 g2 g3 g4 g5 g6 g7 hc8) mw_4_212 mw_4_214 mw_p_35 mw_1_8 mw_4_215 hd_X6_findClaims ⟨Nat.le_of_ble_eq_true rfl, Nat.le_of_ble_eq_true rfl⟩ hK hN hP hD hS rfl rfl rfl rfl rfl rfl rfl rfl rfl rfl rfl rfl hl.1 rfl (Nat.le_of_ble_eq_true rfl) dX6_claims_1 ⟨Nat.le_of_ble_eq_true rfl, Nat.le_of_ble_eq_true rfl⟩ (fun H locs hP hD hS => ?_)
  refine W.eq (g2 := F0 m 4 ls []) rfl ?_
  refine lv_iconst (v := (0 : Int32)) hx hb dX6_claims_4 (by decide) ?_
  refine lv_istore_n (lv' := [(1, .int (0 : Int32)), (0, .ref a_o)]) hx hb dX6_claims_5 rfl hl (by decide) rfl (fun ls hl => ?_)
  refine lv_iconst (v := (0 : Int32)) hx hb dX6_claims_6 (by decide) ?_
  refine lv_istore_n (lv' := [(2, .int (0 : Int32)), (1, .int (0 : Int32)), (0, .ref a_o)]) hx hb dX6_claims_7 rfl hl (by decide) rfl (fun ls hl => ?_)
  obtain ⟨z11, hE12, hz13⟩ := cz_x2 h
  have hX14 : ∀ (y17 : Int32) (y18 : Int32) (H : Heap) (locs : List Loc) (ls : Array Slot), z11 = (y17, y18) → va_P D vwCl [oX6 a_o a_o_refusals a_o_s a_o_image v_o_isImage a_o_tape a_o_read v_o_taped v_o_pos v_o_readWide v_o_readHigh a_o_innerOf a_o_whoseOf a_o_nearOf a_o_fromOf x1 a_o_pieceOf a_o_kept a_o_claimOf a_o_row v_o_rowed, aI cI a_o_s 151 g2, aI cI a_o_innerOf 120 g3, aI cI a_o_whoseOf 120 g4, aI cI a_o_nearOf 360 g5, aI cI a_o_fromOf 360 g6, aI cI a_o_claimOf 120 g7] H → va_D A [oX6 a_o a_o_refusals a_o_s a_o_image v_o_isImage a_o_tape a_o_read v_o_taped v_o_pos v_o_readWide v_o_readHigh a_o_innerOf a_o_whoseOf a_o_nearOf a_o_fromOf x1 a_o_pieceOf a_o_kept a_o_claimOf a_o_row v_o_rowed, aI cI a_o_s 151 g2, aI cI a_o_innerOf 120 g3, aI cI a_o_whoseOf 120 g4, aI cI a_o_nearOf 360 g5, aI cI a_o_fromOf 360 g6, aI cI a_o_claimOf 120 g7] → va_S A s.heap H locs → lv_has ls 3 [(1, .int y17)] → W p l e (cz_rm 8 190) s m ag below meth c H locs 0 0 Q (F0 m 40 ls []) := by
    intro y17 y18 H locs ls h hP hD hS hl
    replace h := hz13 _ _ h
    refine lv_iload_n hx hb dX6_claims_40 rfl (lv_at hl 0 rfl) ?_
    obtain ⟨rfl, rfl, rfl, rfl, rfl, rfl, rfl, rfl⟩ := cz_j8 (cz_i h)
    exact hQ _ _ _ _ hP hS dX6_claims_41
  clear h
  have hL15 : ∀ (k : Nat) (x9 : Int32) (x10 : Int32) (H : Heap) (locs : List Loc) (ls : Array Slot), f_X6_claims_L8 n g2 g7 k x9 x10 = some z11 → va_P D vwCl [oX6 a_o a_o_refusals a_o_s a_o_image v_o_isImage a_o_tape a_o_read v_o_taped v_o_pos v_o_readWide v_o_readHigh a_o_innerOf a_o_whoseOf a_o_nearOf a_o_fromOf x1 a_o_pieceOf a_o_kept a_o_claimOf a_o_row v_o_rowed, aI cI a_o_s 151 g2, aI cI a_o_innerOf 120 g3, aI cI a_o_whoseOf 120 g4, aI cI a_o_nearOf 360 g5, aI cI a_o_fromOf 360 g6, aI cI a_o_claimOf 120 g7] H → va_D A [oX6 a_o a_o_refusals a_o_s a_o_image v_o_isImage a_o_tape a_o_read v_o_taped v_o_pos v_o_readWide v_o_readHigh a_o_innerOf a_o_whoseOf a_o_nearOf a_o_fromOf x1 a_o_pieceOf a_o_kept a_o_claimOf a_o_row v_o_rowed, aI cI a_o_s 151 g2, aI cI a_o_innerOf 120 g3, aI cI a_o_whoseOf 120 g4, aI cI a_o_nearOf 360 g5, aI cI a_o_fromOf 360 g6, aI cI a_o_claimOf 120 g7] → va_S A s.heap H locs → lv_has ls 3 [(0, .ref a_o), (1, .int x9), (2, .int x10)] → W p l e (cz_rm 8 190) s m ag below meth c H locs 0 0 Q (F0 m 8 ls []) := by
    intro k
    induction k with
    | zero =>
      intro x9 x10 H locs ls h
      rw [f_X6_claims_L8] at h
      cases h
    | succ k ih19 =>
      intro x9 x10 H locs ls h hP hD hS hl
      rw [f_X6_claims_L8] at h
      refine lv_iload_n hx hb dX6_claims_8 rfl (lv_at hl 2 rfl) ?_
      refine lv_aload_n hx hb dX6_claims_9 rfl (lv_at hl 0 rfl) ?_
      obtain ⟨x20, hc21, h⟩ := cz_e1 h
      refine cz_callV (As := []) (rest := [.int x10]) (is := [0, 1]) (isR := [2, 3, 4, 5, 6]) (rs := [aI cI a_o_innerOf 120 g3, aI cI a_o_whoseOf 120 g4, aI cI a_o_nearOf 360 g5, aI cI a_o_fromOf 360 g6, aI cI a_o_claimOf 120 g7]) (as := [a_o, a_o_s, a_o_innerOf, a_o_whoseOf, a_o_nearOf, a_o_fromOf, a_o_claimOf]) (ws1 := [oX6 a_o a_o_refusals a_o_s a_o_image v_o_isImage a_o_tape a_o_read v_o_taped v_o_pos v_o_readWide v_o_readHigh a_o_innerOf a_o_whoseOf a_o_nearOf a_o_fromOf x1 a_o_pieceOf a_o_kept a_o_claimOf a_o_row v_o_rowed, aI cI a_o_s 151 g2, aI cI a_o_innerOf 120 g3, aI cI a_o_whoseOf 120 g4, aI cI a_o_nearOf 360 g5, aI cI a_o_fromOf 360 g6, aI cI a_o_claimOf 120 g7]) (q0 := 0) (ci := 6) ⟨hx, hb, hml, hown, hts⟩ (c_X6_many l D cI a_o a_o_s a_o_refusals a_o_image a_o_tape a_o_read a_o_innerOf a_o_whoseOf a_o_nearOf a_o_fromOf a_o_pieceOf a_o_kept a_o_claimOf a_o_row v_o_isImage v_o_taped v_o_pos v_o_readWide v_o_readHigh x1 v_o_rowed g2  n x20 hc21) mw_4_27 mw_4_29 mw_p_12 mw_1_8 mw_4_30 hd_X6_many ⟨Nat.le_of_ble_eq_true rfl, Nat.le_of_ble_eq_true rfl⟩ hK hN hP hD hS rfl rfl rfl rfl rfl rfl rfl rfl rfl rfl rfl rfl hl.1 rfl (Nat.le_of_ble_eq_true rfl) dX6_claims_10 ⟨Nat.le_of_ble_eq_true rfl, Nat.le_of_ble_eq_true rfl⟩ (fun H locs hP hD hS => ?_)
      refine W.eq (g2 := F0 m 13 ls [.int x20, .int x10]) rfl ?_
      refine lv_icmp_ge (tgt := 40) hx hb dX6_claims_13 (by decide) (fun c22 => ?_) (fun c22 => ?_)
      · replace h := cz_t c22 h
        exact hX14 _ _ _ _ _ (cz_i h).symm hP hD hS (lv_sub hl [1] rfl)
      · replace h := cz_f c22 h
        refine lv_iload_n hx hb dX6_claims_16 rfl (lv_at hl 1 rfl) ?_
        refine lv_aload_n hx hb dX6_claims_17 rfl (lv_at hl 0 rfl) ?_
        refine va_get (D := D) (ci := 6) (v := .ref a_o_claimOf) (C := RX6) (T := TX6) (N := 20) hx hb hts in_X6 hown hK hP 0 rfl rfl 17 (by decide) (hts _ mw_3_203) (fun _ h9 => h9) rfl dX6_claims_18 ?_
        refine lv_iload_n hx hb dX6_claims_21 rfl (lv_at hl 2 rfl) ?_
        refine cz_iald hx hb hK hP 6 0 rfl rfl (cz_rdE h).1 dX6_claims_22 (fun x23 ex23 => ?_)
        replace h := cz_rdK ex23 h
        refine lv_iconst (v := (3 : Int32)) hx hb dX6_claims_23 (by decide) ?_
        obtain ⟨z28, hE26, hz25⟩ := cz_ltV h
        have hJ27 : ∀ (x24 : Int32) (H : Heap) (locs : List Loc) (ls : Array Slot), z28 = x24 → va_P D vwCl [oX6 a_o a_o_refusals a_o_s a_o_image v_o_isImage a_o_tape a_o_read v_o_taped v_o_pos v_o_readWide v_o_readHigh a_o_innerOf a_o_whoseOf a_o_nearOf a_o_fromOf x1 a_o_pieceOf a_o_kept a_o_claimOf a_o_row v_o_rowed, aI cI a_o_s 151 g2, aI cI a_o_innerOf 120 g3, aI cI a_o_whoseOf 120 g4, aI cI a_o_nearOf 360 g5, aI cI a_o_fromOf 360 g6, aI cI a_o_claimOf 120 g7] H → va_D A [oX6 a_o a_o_refusals a_o_s a_o_image v_o_isImage a_o_tape a_o_read v_o_taped v_o_pos v_o_readWide v_o_readHigh a_o_innerOf a_o_whoseOf a_o_nearOf a_o_fromOf x1 a_o_pieceOf a_o_kept a_o_claimOf a_o_row v_o_rowed, aI cI a_o_s 151 g2, aI cI a_o_innerOf 120 g3, aI cI a_o_whoseOf 120 g4, aI cI a_o_nearOf 360 g5, aI cI a_o_fromOf 360 g6, aI cI a_o_claimOf 120 g7] → va_S A s.heap H locs → lv_has ls 3 [(0, .ref a_o), (2, .int x10)] → W p l e (cz_rm 8 190) s m ag below meth c H locs 0 0 Q (F0 m 32 ls [.int x24, .int x9]) := by
          intro x24 H locs ls h hP hD hS hl
          replace h := hz25 _ h
          refine lv_iadd hx hb dX6_claims_32 ?_
          refine lv_topi (fun x29 ex29 => ?_)
          replace h := cz_ltE ex29 h
          refine lv_istore_n (lv' := [(1, .int x29), (0, .ref a_o), (2, .int x10)]) hx hb dX6_claims_33 rfl hl (by decide) rfl (fun ls hl => ?_)
          obtain ⟨x30, ex30⟩ : ∃ z : Int32, z = x10 + (1 : Int32) := ⟨_, rfl⟩
          replace h := cz_ltE ex30 h
          refine lv_iinc (v := x30) (lv' := [(2, .int x30), (1, .int x29), (0, .ref a_o)]) hx hb dX6_claims_34 hl (k := 2) rfl (by rw [ex30]; rfl) (by decide) rfl (fun ls hl => ?_)
          refine lv_goto (tgt := 8) hx hb dX6_claims_37 (by decide) ?_
          exact ih19 _ _ _ _ _ h hP hD hS (lv_sub hl [2, 1, 0] rfl)
        clear h
        have h := hE26
        refine lv_icmp_ne (tgt := 31) hx hb dX6_claims_24 (by decide) (fun c31 => ?_) (fun c31 => ?_)
        · replace h := cz_f c31 h
          refine lv_iconst (v := (0 : Int32)) hx hb dX6_claims_31 (by decide) ?_
          exact hJ27 _ _ _ _ h.symm hP hD hS (lv_sub hl [0, 2] rfl)
        · replace h := cz_t c31 h
          refine lv_iconst (v := (1 : Int32)) hx hb dX6_claims_27 (by decide) ?_
          refine lv_goto (tgt := 32) hx hb dX6_claims_28 (by decide) ?_
          exact hJ27 _ _ _ _ h.symm hP hD hS (lv_sub hl [0, 2] rfl)
  exact hL15 n _ _ _ _ _ hE12 hP hD hS (lv_sub hl [2, 1, 0] rfl)
set_option maxHeartbeats 4000000 in
set_option maxRecDepth 100000 in
theorem c_X6_claimed (l : Launch) (D : va_G) (cI : ClassId) (a_o a_o_refusals a_o_s a_o_innerOf a_o_whoseOf a_o_nearOf a_o_fromOf a_o_claimOf a_o_image a_o_tape a_o_read a_o_pieceOf a_o_kept a_o_row : Nat) (v_o_isImage : Int32) (v_o_taped : Int32) (v_o_pos : Int32) (v_o_readWide : Int32) (v_o_readHigh : Int32) (v_o_thirds : Int32) (v_o_rowed : Int32) (f_o_refusals : (Nat → Int32)) (f_o_s : (Nat → Int32)) (f_o_innerOf : (Nat → Int32)) (f_o_whoseOf : (Nat → Int32)) (f_o_nearOf : (Nat → Int32)) (f_o_fromOf : (Nat → Int32)) (f_o_claimOf : (Nat → Int32)) (w1 : Int32) (n : Nat) (r : Int32) (r_v_o_thirds : Int32) (r_f_o_refusals : (Nat → Int32)) (r_f_o_s : (Nat → Int32)) (r_f_o_innerOf : (Nat → Int32)) (r_f_o_whoseOf : (Nat → Int32)) (r_f_o_nearOf : (Nat → Int32)) (r_f_o_fromOf : (Nat → Int32)) (r_f_o_claimOf : (Nat → Int32)) (h : f_X6_claimed n v_o_thirds f_o_refusals f_o_s f_o_innerOf f_o_whoseOf f_o_nearOf f_o_fromOf f_o_claimOf w1 = some (r, r_v_o_thirds, r_f_o_refusals, r_f_o_s, r_f_o_innerOf, r_f_o_whoseOf, r_f_o_nearOf, r_f_o_fromOf, r_f_o_claimOf)) : cz_M l yX6_claimed cX6_claimed 2 (some .int) 8 190 D cI [.ref a_o, .int w1] [oX6 a_o a_o_refusals a_o_s a_o_image v_o_isImage a_o_tape a_o_read v_o_taped v_o_pos v_o_readWide v_o_readHigh a_o_innerOf a_o_whoseOf a_o_nearOf a_o_fromOf v_o_thirds a_o_pieceOf a_o_kept a_o_claimOf a_o_row v_o_rowed, aI cI a_o_refusals 7 f_o_refusals, aI cI a_o_s 151 f_o_s, aI cI a_o_innerOf 120 f_o_innerOf, aI cI a_o_whoseOf 120 f_o_whoseOf, aI cI a_o_nearOf 360 f_o_nearOf, aI cI a_o_fromOf 360 f_o_fromOf, aI cI a_o_claimOf 120 f_o_claimOf] (some (.int r)) [oX6 a_o a_o_refusals a_o_s a_o_image v_o_isImage a_o_tape a_o_read v_o_taped v_o_pos v_o_readWide v_o_readHigh a_o_innerOf a_o_whoseOf a_o_nearOf a_o_fromOf r_v_o_thirds a_o_pieceOf a_o_kept a_o_claimOf a_o_row v_o_rowed, aI cI a_o_refusals 7 r_f_o_refusals, aI cI a_o_s 151 r_f_o_s, aI cI a_o_innerOf 120 r_f_o_innerOf, aI cI a_o_whoseOf 120 r_f_o_whoseOf, aI cI a_o_nearOf 360 r_f_o_nearOf, aI cI a_o_fromOf 360 r_f_o_fromOf, aI cI a_o_claimOf 120 r_f_o_claimOf] := by
  refine cz_startI (by decide) (Nat.le_of_ble_eq_true rfl) ?_
  intro p e s m ag below meth c A Q hx hb hml hown hts hK hN hQ H locs hP hD hS ls hl
  replace hown : s.vm.findClass RX6 = some m.cls := hown
  replace hl : lv_has ls 2 [(0, .ref a_o), (1, .int w1)] := hl
  unfold f_X6_claimed at h
  refine lv_aload_n hx hb dX6_claimed_0 rfl (lv_at hl 0 rfl) ?_
  refine lv_iload_n hx hb dX6_claimed_1 rfl (lv_at hl 1 rfl) ?_
  obtain ⟨x1, hc2, h⟩ := cz_e1 h
  refine cz_callV (As := [.int w1]) (rest := []) (is := [0, 2]) (isR := [1, 3, 4, 5, 6, 7]) (rs := [aI cI a_o_refusals 7 f_o_refusals, aI cI a_o_innerOf 120 f_o_innerOf, aI cI a_o_whoseOf 120 f_o_whoseOf, aI cI a_o_nearOf 360 f_o_nearOf, aI cI a_o_fromOf 360 f_o_fromOf, aI cI a_o_claimOf 120 f_o_claimOf]) (as := [a_o, a_o_refusals, a_o_s, a_o_innerOf, a_o_whoseOf, a_o_nearOf, a_o_fromOf, a_o_claimOf]) (ws1 := [oX6 a_o a_o_refusals a_o_s a_o_image v_o_isImage a_o_tape a_o_read v_o_taped v_o_pos v_o_readWide v_o_readHigh a_o_innerOf a_o_whoseOf a_o_nearOf a_o_fromOf v_o_thirds a_o_pieceOf a_o_kept a_o_claimOf a_o_row v_o_rowed, aI cI a_o_refusals 7 f_o_refusals, aI cI a_o_s 151 f_o_s, aI cI a_o_innerOf 120 f_o_innerOf, aI cI a_o_whoseOf 120 f_o_whoseOf, aI cI a_o_nearOf 360 f_o_nearOf, aI cI a_o_fromOf 360 f_o_fromOf, aI cI a_o_claimOf 120 f_o_claimOf]) (q0 := 0) (ci := 6) ⟨hx, hb, hml, hown, hts⟩ (c_X6_isCell l D cI a_o a_o_s a_o_refusals a_o_image a_o_tape a_o_read a_o_innerOf a_o_whoseOf a_o_nearOf a_o_fromOf a_o_pieceOf a_o_kept a_o_claimOf a_o_row v_o_isImage v_o_taped v_o_pos v_o_readWide v_o_readHigh v_o_thirds v_o_rowed f_o_s w1 n x1 hc2) mw_4_35 mw_4_37 mw_p_13 mw_1_8 mw_4_38 hd_X6_isCell ⟨Nat.le_of_ble_eq_true rfl, Nat.le_of_ble_eq_true rfl⟩ hK hN hP hD hS rfl rfl rfl rfl rfl rfl rfl rfl rfl rfl rfl rfl hl.1 rfl (Nat.le_of_ble_eq_true rfl) dX6_claimed_2 ⟨Nat.le_of_ble_eq_true rfl, Nat.le_of_ble_eq_true rfl⟩ (fun H locs hP hD hS => ?_)
  refine W.eq (g2 := F0 m 5 ls [.int x1]) rfl ?_
  refine lv_if_ne (tgt := 14) hx hb dX6_claimed_5 (by decide) (fun c3 => ?_) (fun c3 => ?_)
  · replace h := cz_f c3 h
    refine lv_aload_n hx hb dX6_claimed_14 rfl (lv_at hl 0 rfl) ?_
    obtain ⟨x4, g5, g6, g7, g8, g9, g10, hc11, h⟩ := cz_e7 h
    refine cz_callV (As := []) (rest := []) (is := [0, 2, 3, 4, 5, 6, 7]) (isR := [1]) (rs := [aI cI a_o_refusals 7 f_o_refusals]) (as := [a_o, a_o_refusals, a_o_s, a_o_innerOf, a_o_whoseOf, a_o_nearOf, a_o_fromOf, a_o_claimOf]) (ws1 := [oX6 a_o a_o_refusals a_o_s a_o_image v_o_isImage a_o_tape a_o_read v_o_taped v_o_pos v_o_readWide v_o_readHigh a_o_innerOf a_o_whoseOf a_o_nearOf a_o_fromOf x4 a_o_pieceOf a_o_kept a_o_claimOf a_o_row v_o_rowed, aI cI a_o_refusals 7 f_o_refusals, aI cI a_o_s 151 g5, aI cI a_o_innerOf 120 g6, aI cI a_o_whoseOf 120 g7, aI cI a_o_nearOf 360 g8, aI cI a_o_fromOf 360 g9, aI cI a_o_claimOf 120 g10]) (q0 := 0) (ci := 6) ⟨hx, hb, hml, hown, hts⟩ (c_X6_findClaims l D cI a_o a_o_s a_o_innerOf a_o_whoseOf a_o_nearOf a_o_fromOf a_o_claimOf a_o_refusals a_o_image a_o_tape a_o_read a_o_pieceOf a_o_kept a_o_row v_o_isImage v_o_taped v_o_pos v_o_readWide v_o_readHigh v_o_thirds v_o_rowed f_o_s f_o_innerOf f_o_whoseOf f_o_nearOf f_o_fromOf f_o_claimOf  n x4 g5 g6 g7 g8 g9 g10 hc11) mw_4_212 mw_4_214 mw_p_35 mw_1_8 mw_4_215 hd_X6_findClaims ⟨Nat.le_of_ble_eq_true rfl, Nat.le_of_ble_eq_true rfl⟩ hK hN hP hD hS rfl rfl rfl rfl rfl rfl rfl rfl rfl rfl rfl rfl hl.1 rfl (Nat.le_of_ble_eq_true rfl) dX6_claimed_15 ⟨Nat.le_of_ble_eq_true rfl, Nat.le_of_ble_eq_true rfl⟩ (fun H locs hP hD hS => ?_)
    refine W.eq (g2 := F0 m 18 ls []) rfl ?_
    refine lv_aload_n hx hb dX6_claimed_18 rfl (lv_at hl 0 rfl) ?_
    refine va_get (D := D) (ci := 6) (v := .ref a_o_claimOf) (C := RX6) (T := TX6) (N := 20) hx hb hts in_X6 hown hK hP 0 rfl rfl 17 (by decide) (hts _ mw_3_203) (fun _ h9 => h9) rfl dX6_claimed_19 ?_
    refine lv_aload_n hx hb dX6_claimed_22 rfl (lv_at hl 0 rfl) ?_
    refine lv_iload_n hx hb dX6_claimed_23 rfl (lv_at hl 1 rfl) ?_
    obtain ⟨x12, hc13, h⟩ := cz_e1 h
    refine cz_callV (As := [.int w1]) (rest := [.ref a_o_claimOf]) (is := [0, 2]) (isR := [1, 3, 4, 5, 6, 7]) (rs := [aI cI a_o_refusals 7 f_o_refusals, aI cI a_o_innerOf 120 g6, aI cI a_o_whoseOf 120 g7, aI cI a_o_nearOf 360 g8, aI cI a_o_fromOf 360 g9, aI cI a_o_claimOf 120 g10]) (as := [a_o, a_o_refusals, a_o_s, a_o_innerOf, a_o_whoseOf, a_o_nearOf, a_o_fromOf, a_o_claimOf]) (ws1 := [oX6 a_o a_o_refusals a_o_s a_o_image v_o_isImage a_o_tape a_o_read v_o_taped v_o_pos v_o_readWide v_o_readHigh a_o_innerOf a_o_whoseOf a_o_nearOf a_o_fromOf x4 a_o_pieceOf a_o_kept a_o_claimOf a_o_row v_o_rowed, aI cI a_o_refusals 7 f_o_refusals, aI cI a_o_s 151 g5, aI cI a_o_innerOf 120 g6, aI cI a_o_whoseOf 120 g7, aI cI a_o_nearOf 360 g8, aI cI a_o_fromOf 360 g9, aI cI a_o_claimOf 120 g10]) (q0 := 0) (ci := 6) ⟨hx, hb, hml, hown, hts⟩ (c_X6_of l D cI a_o a_o_s a_o_refusals a_o_image a_o_tape a_o_read a_o_innerOf a_o_whoseOf a_o_nearOf a_o_fromOf a_o_pieceOf a_o_kept a_o_claimOf a_o_row v_o_isImage v_o_taped v_o_pos v_o_readWide v_o_readHigh x4 v_o_rowed g5 w1 n x12 hc13) mw_4_39 mw_4_41 mw_p_14 mw_1_8 mw_4_42 hd_X6_of ⟨Nat.le_of_ble_eq_true rfl, Nat.le_of_ble_eq_true rfl⟩ hK hN hP hD hS rfl rfl rfl rfl rfl rfl rfl rfl rfl rfl rfl rfl hl.1 rfl (Nat.le_of_ble_eq_true rfl) dX6_claimed_24 ⟨Nat.le_of_ble_eq_true rfl, Nat.le_of_ble_eq_true rfl⟩ (fun H locs hP hD hS => ?_)
    refine W.eq (g2 := F0 m 27 ls [.int x12, .ref a_o_claimOf]) rfl ?_
    refine cz_iald hx hb hK hP 7 0 rfl rfl (cz_rdE h).1 dX6_claimed_27 (fun x14 ex14 => ?_)
    replace h := cz_rdK ex14 h
    obtain ⟨rfl, rfl, rfl, rfl, rfl, rfl, rfl, rfl, rfl⟩ := cz_j9 (cz_i h)
    exact hQ _ _ _ _ hP hS dX6_claimed_28
  · replace h := cz_t c3 h
    refine lv_aload_n hx hb dX6_claimed_8 rfl (lv_at hl 0 rfl) ?_
    refine lv_iconst (v := (-1 : Int32)) hx hb dX6_claimed_9 (by decide) ?_
    obtain ⟨x15, g16, hc17, h⟩ := cz_e2 h
    refine cz_callV (As := [.int (-1 : Int32)]) (rest := []) (is := [0, 1]) (isR := [2, 3, 4, 5, 6, 7]) (rs := [aI cI a_o_s 151 f_o_s, aI cI a_o_innerOf 120 f_o_innerOf, aI cI a_o_whoseOf 120 f_o_whoseOf, aI cI a_o_nearOf 360 f_o_nearOf, aI cI a_o_fromOf 360 f_o_fromOf, aI cI a_o_claimOf 120 f_o_claimOf]) (as := [a_o, a_o_refusals, a_o_s, a_o_innerOf, a_o_whoseOf, a_o_nearOf, a_o_fromOf, a_o_claimOf]) (ws1 := [oX6 a_o a_o_refusals a_o_s a_o_image v_o_isImage a_o_tape a_o_read v_o_taped v_o_pos v_o_readWide v_o_readHigh a_o_innerOf a_o_whoseOf a_o_nearOf a_o_fromOf v_o_thirds a_o_pieceOf a_o_kept a_o_claimOf a_o_row v_o_rowed, aI cI a_o_refusals 7 g16, aI cI a_o_s 151 f_o_s, aI cI a_o_innerOf 120 f_o_innerOf, aI cI a_o_whoseOf 120 f_o_whoseOf, aI cI a_o_nearOf 360 f_o_nearOf, aI cI a_o_fromOf 360 f_o_fromOf, aI cI a_o_claimOf 120 f_o_claimOf]) (q0 := 0) (ci := 6) ⟨hx, hb, hml, hown, hts⟩ (c_X6_refuse l D cI a_o a_o_refusals a_o_s a_o_image a_o_tape a_o_read a_o_innerOf a_o_whoseOf a_o_nearOf a_o_fromOf a_o_pieceOf a_o_kept a_o_claimOf a_o_row v_o_isImage v_o_taped v_o_pos v_o_readWide v_o_readHigh v_o_thirds v_o_rowed f_o_refusals (-1 : Int32) n x15 g16 hc17) mw_4_11 mw_4_13 mw_p_10 mw_1_8 mw_4_14 hd_X6_refuse ⟨Nat.le_of_ble_eq_true rfl, Nat.le_of_ble_eq_true rfl⟩ hK hN hP hD hS rfl rfl rfl rfl rfl rfl rfl rfl rfl rfl rfl rfl hl.1 rfl (Nat.le_of_ble_eq_true rfl) dX6_claimed_10 ⟨Nat.le_of_ble_eq_true rfl, Nat.le_of_ble_eq_true rfl⟩ (fun H locs hP hD hS => ?_)
    refine W.eq (g2 := F0 m 13 ls [.int x15]) rfl ?_
    obtain ⟨rfl, rfl, rfl, rfl, rfl, rfl, rfl, rfl, rfl⟩ := cz_j9 (cz_i h)
    exact hQ _ _ _ _ hP hS dX6_claimed_13
set_option maxHeartbeats 4000000 in
set_option maxRecDepth 100000 in
theorem c_X6_meet (l : Launch) (D : va_G) (cI : ClassId) (a_o a_o_refusals a_o_s a_o_innerOf a_o_whoseOf a_o_nearOf a_o_fromOf a_o_image a_o_tape a_o_read a_o_pieceOf a_o_kept a_o_claimOf a_o_row : Nat) (v_o_isImage : Int32) (v_o_taped : Int32) (v_o_pos : Int32) (v_o_readWide : Int32) (v_o_readHigh : Int32) (v_o_thirds : Int32) (v_o_rowed : Int32) (f_o_refusals : (Nat → Int32)) (f_o_s : (Nat → Int32)) (f_o_innerOf : (Nat → Int32)) (f_o_whoseOf : (Nat → Int32)) (f_o_nearOf : (Nat → Int32)) (f_o_fromOf : (Nat → Int32)) (w1 : Int32) (w2 : Int32) (n : Nat) (r : Int32) (r_v_o_thirds : Int32) (r_f_o_refusals : (Nat → Int32)) (r_f_o_s : (Nat → Int32)) (r_f_o_innerOf : (Nat → Int32)) (r_f_o_whoseOf : (Nat → Int32)) (r_f_o_nearOf : (Nat → Int32)) (r_f_o_fromOf : (Nat → Int32)) (h : f_X6_meet n v_o_thirds f_o_refusals f_o_s f_o_innerOf f_o_whoseOf f_o_nearOf f_o_fromOf w1 w2 = some (r, r_v_o_thirds, r_f_o_refusals, r_f_o_s, r_f_o_innerOf, r_f_o_whoseOf, r_f_o_nearOf, r_f_o_fromOf)) : cz_M l yX6_meet cX6_meet 4 (some .int) 6 141 D cI [.ref a_o, .int w1, .int w2] [oX6 a_o a_o_refusals a_o_s a_o_image v_o_isImage a_o_tape a_o_read v_o_taped v_o_pos v_o_readWide v_o_readHigh a_o_innerOf a_o_whoseOf a_o_nearOf a_o_fromOf v_o_thirds a_o_pieceOf a_o_kept a_o_claimOf a_o_row v_o_rowed, aI cI a_o_refusals 7 f_o_refusals, aI cI a_o_s 151 f_o_s, aI cI a_o_innerOf 120 f_o_innerOf, aI cI a_o_whoseOf 120 f_o_whoseOf, aI cI a_o_nearOf 360 f_o_nearOf, aI cI a_o_fromOf 360 f_o_fromOf] (some (.int r)) [oX6 a_o a_o_refusals a_o_s a_o_image v_o_isImage a_o_tape a_o_read v_o_taped v_o_pos v_o_readWide v_o_readHigh a_o_innerOf a_o_whoseOf a_o_nearOf a_o_fromOf r_v_o_thirds a_o_pieceOf a_o_kept a_o_claimOf a_o_row v_o_rowed, aI cI a_o_refusals 7 r_f_o_refusals, aI cI a_o_s 151 r_f_o_s, aI cI a_o_innerOf 120 r_f_o_innerOf, aI cI a_o_whoseOf 120 r_f_o_whoseOf, aI cI a_o_nearOf 360 r_f_o_nearOf, aI cI a_o_fromOf 360 r_f_o_fromOf] := by
  refine cz_startI (by decide) (Nat.le_of_ble_eq_true rfl) ?_
  intro p e s m ag below meth c A Q hx hb hml hown hts hK hN hQ H locs hP hD hS ls hl
  replace hown : s.vm.findClass RX6 = some m.cls := hown
  replace hl : lv_has ls 4 [(0, .ref a_o), (1, .int w1), (2, .int w2)] := hl
  unfold f_X6_meet at h
  refine lv_iload_n hx hb dX6_meet_0 rfl (lv_at hl 1 rfl) ?_
  refine lv_if_lt (tgt := 8) hx hb dX6_meet_1 (by decide) (fun c1 => ?_) (fun c1 => ?_)
  · replace h := cz_t c1 h
    refine lv_aload_n hx hb dX6_meet_8 rfl (lv_at hl 0 rfl) ?_
    refine lv_bipush (v := (-4 : Int32)) hx hb dX6_meet_9 (by decide) ?_
    obtain ⟨x2, g3, hc4, h⟩ := cz_e2 h
    refine cz_callV (As := [.int (-4 : Int32)]) (rest := []) (is := [0, 1]) (isR := [2, 3, 4, 5, 6]) (rs := [aI cI a_o_s 151 f_o_s, aI cI a_o_innerOf 120 f_o_innerOf, aI cI a_o_whoseOf 120 f_o_whoseOf, aI cI a_o_nearOf 360 f_o_nearOf, aI cI a_o_fromOf 360 f_o_fromOf]) (as := [a_o, a_o_refusals, a_o_s, a_o_innerOf, a_o_whoseOf, a_o_nearOf, a_o_fromOf]) (ws1 := [oX6 a_o a_o_refusals a_o_s a_o_image v_o_isImage a_o_tape a_o_read v_o_taped v_o_pos v_o_readWide v_o_readHigh a_o_innerOf a_o_whoseOf a_o_nearOf a_o_fromOf v_o_thirds a_o_pieceOf a_o_kept a_o_claimOf a_o_row v_o_rowed, aI cI a_o_refusals 7 g3, aI cI a_o_s 151 f_o_s, aI cI a_o_innerOf 120 f_o_innerOf, aI cI a_o_whoseOf 120 f_o_whoseOf, aI cI a_o_nearOf 360 f_o_nearOf, aI cI a_o_fromOf 360 f_o_fromOf]) (q0 := 0) (ci := 6) ⟨hx, hb, hml, hown, hts⟩ (c_X6_refuse l D cI a_o a_o_refusals a_o_s a_o_image a_o_tape a_o_read a_o_innerOf a_o_whoseOf a_o_nearOf a_o_fromOf a_o_pieceOf a_o_kept a_o_claimOf a_o_row v_o_isImage v_o_taped v_o_pos v_o_readWide v_o_readHigh v_o_thirds v_o_rowed f_o_refusals (-4 : Int32) n x2 g3 hc4) mw_4_11 mw_4_13 mw_p_10 mw_1_8 mw_4_14 hd_X6_refuse ⟨Nat.le_of_ble_eq_true rfl, Nat.le_of_ble_eq_true rfl⟩ hK hN hP hD hS rfl rfl rfl rfl rfl rfl rfl rfl rfl rfl rfl rfl hl.1 rfl (Nat.le_of_ble_eq_true rfl) dX6_meet_11 ⟨Nat.le_of_ble_eq_true rfl, Nat.le_of_ble_eq_true rfl⟩ (fun H locs hP hD hS => ?_)
    refine W.eq (g2 := F0 m 14 ls [.int x2]) rfl ?_
    obtain ⟨rfl, rfl, rfl, rfl, rfl, rfl, rfl, rfl⟩ := cz_j8 (cz_i h)
    exact hQ _ _ _ _ hP hS dX6_meet_14
  · replace h := cz_f c1 h
    refine lv_iload_n hx hb dX6_meet_4 rfl (lv_at hl 2 rfl) ?_
    refine lv_if_ge (tgt := 15) hx hb dX6_meet_5 (by decide) (fun c5 => ?_) (fun c5 => ?_)
    · replace h := cz_t c5 h
      refine lv_iload_n hx hb dX6_meet_15 rfl (lv_at hl 1 rfl) ?_
      refine lv_bipush (v := (120 : Int32)) hx hb dX6_meet_16 (by decide) ?_
      refine lv_icmp_gt (tgt := 27) hx hb dX6_meet_18 (by decide) (fun c6 => ?_) (fun c6 => ?_)
      · replace h := cz_t c6 h
        refine lv_aload_n hx hb dX6_meet_27 rfl (lv_at hl 0 rfl) ?_
        refine lv_bipush (v := (-6 : Int32)) hx hb dX6_meet_28 (by decide) ?_
        obtain ⟨x7, g8, hc9, h⟩ := cz_e2 h
        refine cz_callV (As := [.int (-6 : Int32)]) (rest := []) (is := [0, 1]) (isR := [2, 3, 4, 5, 6]) (rs := [aI cI a_o_s 151 f_o_s, aI cI a_o_innerOf 120 f_o_innerOf, aI cI a_o_whoseOf 120 f_o_whoseOf, aI cI a_o_nearOf 360 f_o_nearOf, aI cI a_o_fromOf 360 f_o_fromOf]) (as := [a_o, a_o_refusals, a_o_s, a_o_innerOf, a_o_whoseOf, a_o_nearOf, a_o_fromOf]) (ws1 := [oX6 a_o a_o_refusals a_o_s a_o_image v_o_isImage a_o_tape a_o_read v_o_taped v_o_pos v_o_readWide v_o_readHigh a_o_innerOf a_o_whoseOf a_o_nearOf a_o_fromOf v_o_thirds a_o_pieceOf a_o_kept a_o_claimOf a_o_row v_o_rowed, aI cI a_o_refusals 7 g8, aI cI a_o_s 151 f_o_s, aI cI a_o_innerOf 120 f_o_innerOf, aI cI a_o_whoseOf 120 f_o_whoseOf, aI cI a_o_nearOf 360 f_o_nearOf, aI cI a_o_fromOf 360 f_o_fromOf]) (q0 := 0) (ci := 6) ⟨hx, hb, hml, hown, hts⟩ (c_X6_refuse l D cI a_o a_o_refusals a_o_s a_o_image a_o_tape a_o_read a_o_innerOf a_o_whoseOf a_o_nearOf a_o_fromOf a_o_pieceOf a_o_kept a_o_claimOf a_o_row v_o_isImage v_o_taped v_o_pos v_o_readWide v_o_readHigh v_o_thirds v_o_rowed f_o_refusals (-6 : Int32) n x7 g8 hc9) mw_4_11 mw_4_13 mw_p_10 mw_1_8 mw_4_14 hd_X6_refuse ⟨Nat.le_of_ble_eq_true rfl, Nat.le_of_ble_eq_true rfl⟩ hK hN hP hD hS rfl rfl rfl rfl rfl rfl rfl rfl rfl rfl rfl rfl hl.1 rfl (Nat.le_of_ble_eq_true rfl) dX6_meet_30 ⟨Nat.le_of_ble_eq_true rfl, Nat.le_of_ble_eq_true rfl⟩ (fun H locs hP hD hS => ?_)
        refine W.eq (g2 := F0 m 33 ls [.int x7]) rfl ?_
        obtain ⟨rfl, rfl, rfl, rfl, rfl, rfl, rfl, rfl⟩ := cz_j8 (cz_i h)
        exact hQ _ _ _ _ hP hS dX6_meet_33
      · replace h := cz_f c6 h
        refine lv_iload_n hx hb dX6_meet_21 rfl (lv_at hl 2 rfl) ?_
        refine lv_bipush (v := (120 : Int32)) hx hb dX6_meet_22 (by decide) ?_
        refine lv_icmp_le (tgt := 34) hx hb dX6_meet_24 (by decide) (fun c10 => ?_) (fun c10 => ?_)
        · replace h := cz_t c10 h
          refine lv_iconst (v := (0 : Int32)) hx hb dX6_meet_34 (by decide) ?_
          refine lv_istore_n (lv' := [(3, .int (0 : Int32)), (0, .ref a_o), (1, .int w1), (2, .int w2)]) hx hb dX6_meet_35 rfl hl (by decide) rfl (fun ls hl => ?_)
          obtain ⟨z18, hE19, hR23, hz20⟩ := cz_y7 h
          have hX21 : ∀ (y24 : Int32) (y25 : Int32) (q26 : (Nat → Int32)) (q27 : (Nat → Int32)) (q28 : (Nat → Int32)) (q29 : (Nat → Int32)) (q30 : (Nat → Int32)) (H : Heap) (locs : List Loc) (ls : Array Slot), z18 = Sum.inr (y24, y25, q26, q27, q28, q29, q30) → va_P D vwCl [oX6 a_o a_o_refusals a_o_s a_o_image v_o_isImage a_o_tape a_o_read v_o_taped v_o_pos v_o_readWide v_o_readHigh a_o_innerOf a_o_whoseOf a_o_nearOf a_o_fromOf y25 a_o_pieceOf a_o_kept a_o_claimOf a_o_row v_o_rowed, aI cI a_o_refusals 7 f_o_refusals, aI cI a_o_s 151 q26, aI cI a_o_innerOf 120 q27, aI cI a_o_whoseOf 120 q28, aI cI a_o_nearOf 360 q29, aI cI a_o_fromOf 360 q30] H → va_D A [oX6 a_o a_o_refusals a_o_s a_o_image v_o_isImage a_o_tape a_o_read v_o_taped v_o_pos v_o_readWide v_o_readHigh a_o_innerOf a_o_whoseOf a_o_nearOf a_o_fromOf y25 a_o_pieceOf a_o_kept a_o_claimOf a_o_row v_o_rowed, aI cI a_o_refusals 7 f_o_refusals, aI cI a_o_s 151 q26, aI cI a_o_innerOf 120 q27, aI cI a_o_whoseOf 120 q28, aI cI a_o_nearOf 360 q29, aI cI a_o_fromOf 360 q30] → va_S A s.heap H locs → lv_has ls 4 [] → W p l e (cz_rm 6 141) s m ag below meth c H locs 0 0 Q (F0 m 79 ls []) := by
            intro y24 y25 q26 q27 q28 q29 q30 H locs ls h hP hD hS hl
            replace h := hz20 _ _ _ _ _ _ _ h
            refine lv_bipush (v := (-9 : Int32)) hx hb dX6_meet_79 (by decide) ?_
            obtain ⟨rfl, rfl, rfl, rfl, rfl, rfl, rfl, rfl⟩ := cz_j8 (cz_i h)
            exact hQ _ _ _ _ hP hS dX6_meet_81
          clear h
          have hL22 : ∀ (k : Nat) (x11 : Int32) (x12 : Int32) (g13 : (Nat → Int32)) (g14 : (Nat → Int32)) (g15 : (Nat → Int32)) (g16 : (Nat → Int32)) (g17 : (Nat → Int32)) (H : Heap) (locs : List Loc) (ls : Array Slot), f_X6_meet_L36 n f_o_refusals w1 w2 k x11 x12 g13 g14 g15 g16 g17 = some z18 → va_P D vwCl [oX6 a_o a_o_refusals a_o_s a_o_image v_o_isImage a_o_tape a_o_read v_o_taped v_o_pos v_o_readWide v_o_readHigh a_o_innerOf a_o_whoseOf a_o_nearOf a_o_fromOf x12 a_o_pieceOf a_o_kept a_o_claimOf a_o_row v_o_rowed, aI cI a_o_refusals 7 f_o_refusals, aI cI a_o_s 151 g13, aI cI a_o_innerOf 120 g14, aI cI a_o_whoseOf 120 g15, aI cI a_o_nearOf 360 g16, aI cI a_o_fromOf 360 g17] H → va_D A [oX6 a_o a_o_refusals a_o_s a_o_image v_o_isImage a_o_tape a_o_read v_o_taped v_o_pos v_o_readWide v_o_readHigh a_o_innerOf a_o_whoseOf a_o_nearOf a_o_fromOf x12 a_o_pieceOf a_o_kept a_o_claimOf a_o_row v_o_rowed, aI cI a_o_refusals 7 f_o_refusals, aI cI a_o_s 151 g13, aI cI a_o_innerOf 120 g14, aI cI a_o_whoseOf 120 g15, aI cI a_o_nearOf 360 g16, aI cI a_o_fromOf 360 g17] → va_S A s.heap H locs → lv_has ls 4 [(0, .ref a_o), (1, .int w1), (2, .int w2), (3, .int x11)] → W p l e (cz_rm 6 141) s m ag below meth c H locs 0 0 Q (F0 m 36 ls []) := by
            intro k
            induction k with
            | zero =>
              intro x11 x12 g13 g14 g15 g16 g17 H locs ls h
              rw [f_X6_meet_L36] at h
              cases h
            | succ k ih31 =>
              intro x11 x12 g13 g14 g15 g16 g17 H locs ls h hP hD hS hl
              rw [f_X6_meet_L36] at h
              refine lv_iload_n hx hb dX6_meet_36 rfl (lv_at hl 3 rfl) ?_
              refine lv_bipush (v := (12 : Int32)) hx hb dX6_meet_37 (by decide) ?_
              refine lv_icmp_ge (tgt := 79) hx hb dX6_meet_39 (by decide) (fun c32 => ?_) (fun c32 => ?_)
              · replace h := cz_t c32 h
                exact hX21 _ _ _ _ _ _ _ _ _ _ (cz_i h).symm hP hD hS (lv_sub hl [] rfl)
              · replace h := cz_f c32 h
                refine lv_aload_n hx hb dX6_meet_42 rfl (lv_at hl 0 rfl) ?_
                refine lv_iload_n hx hb dX6_meet_43 rfl (lv_at hl 3 rfl) ?_
                obtain ⟨x33, hc34, h⟩ := cz_e1 h
                refine cz_callS (As := [.int x11]) (rest := [.ref a_o]) (is := []) (isR := [0, 1, 2, 3, 4, 5, 6]) (rs := [oX6 a_o a_o_refusals a_o_s a_o_image v_o_isImage a_o_tape a_o_read v_o_taped v_o_pos v_o_readWide v_o_readHigh a_o_innerOf a_o_whoseOf a_o_nearOf a_o_fromOf x12 a_o_pieceOf a_o_kept a_o_claimOf a_o_row v_o_rowed, aI cI a_o_refusals 7 f_o_refusals, aI cI a_o_s 151 g13, aI cI a_o_innerOf 120 g14, aI cI a_o_whoseOf 120 g15, aI cI a_o_nearOf 360 g16, aI cI a_o_fromOf 360 g17]) (as := [a_o, a_o_refusals, a_o_s, a_o_innerOf, a_o_whoseOf, a_o_nearOf, a_o_fromOf]) (ws1 := [oX6 a_o a_o_refusals a_o_s a_o_image v_o_isImage a_o_tape a_o_read v_o_taped v_o_pos v_o_readWide v_o_readHigh a_o_innerOf a_o_whoseOf a_o_nearOf a_o_fromOf x12 a_o_pieceOf a_o_kept a_o_claimOf a_o_row v_o_rowed, aI cI a_o_refusals 7 f_o_refusals, aI cI a_o_s 151 g13, aI cI a_o_innerOf 120 g14, aI cI a_o_whoseOf 120 g15, aI cI a_o_nearOf 360 g16, aI cI a_o_fromOf 360 g17]) ⟨hx, hb, hml, hown, hts⟩ (c_X6_codeOf l D cI   x11 n x33 hc34) mw_4_201 mw_4_202 mw_1_8 mw_4_203 hd_X6_codeOf ⟨Nat.le_of_ble_eq_true rfl, Nat.le_of_ble_eq_true rfl⟩ hK hN hP hD hS rfl rfl rfl rfl rfl rfl rfl rfl rfl hl.1 rfl (Nat.le_of_ble_eq_true rfl) dX6_meet_44 ⟨Nat.le_of_ble_eq_true rfl, Nat.le_of_ble_eq_true rfl⟩ (fun H locs hP hD hS => ?_)
                refine W.eq (g2 := F0 m 47 ls [.int x33, .ref a_o]) rfl ?_
                obtain ⟨x35, g36, g37, g38, g39, g40, hc41, h⟩ := cz_e6 h
                refine cz_callV (As := [.int x33]) (rest := []) (is := [0, 2, 3, 4, 5, 6]) (isR := [1]) (rs := [aI cI a_o_refusals 7 f_o_refusals]) (as := [a_o, a_o_refusals, a_o_s, a_o_innerOf, a_o_whoseOf, a_o_nearOf, a_o_fromOf]) (ws1 := [oX6 a_o a_o_refusals a_o_s a_o_image v_o_isImage a_o_tape a_o_read v_o_taped v_o_pos v_o_readWide v_o_readHigh a_o_innerOf a_o_whoseOf a_o_nearOf a_o_fromOf x35 a_o_pieceOf a_o_kept a_o_claimOf a_o_row v_o_rowed, aI cI a_o_refusals 7 f_o_refusals, aI cI a_o_s 151 g36, aI cI a_o_innerOf 120 g37, aI cI a_o_whoseOf 120 g38, aI cI a_o_nearOf 360 g39, aI cI a_o_fromOf 360 g40]) (q0 := 0) (ci := 6) ⟨hx, hb, hml, hown, hts⟩ (c_X6_findBy l D cI a_o a_o_s a_o_innerOf a_o_whoseOf a_o_nearOf a_o_fromOf a_o_refusals a_o_image a_o_tape a_o_read a_o_pieceOf a_o_kept a_o_claimOf a_o_row v_o_isImage v_o_taped v_o_pos v_o_readWide v_o_readHigh x12 v_o_rowed g13 g14 g15 g16 g17 x33 n x35 g36 g37 g38 g39 g40 hc41) mw_4_204 mw_4_206 mw_p_34 mw_1_8 mw_4_207 hd_X6_findBy ⟨Nat.le_of_ble_eq_true rfl, Nat.le_of_ble_eq_true rfl⟩ hK hN hP hD hS rfl rfl rfl rfl rfl rfl rfl rfl rfl rfl rfl rfl hl.1 rfl (Nat.le_of_ble_eq_true rfl) dX6_meet_47 ⟨Nat.le_of_ble_eq_true rfl, Nat.le_of_ble_eq_true rfl⟩ (fun H locs hP hD hS => ?_)
                refine W.eq (g2 := F0 m 50 ls []) rfl ?_
                refine lv_aload_n hx hb dX6_meet_50 rfl (lv_at hl 0 rfl) ?_
                refine lv_iconst (v := (0 : Int32)) hx hb dX6_meet_51 (by decide) ?_
                obtain ⟨x42, hc43, h⟩ := cz_e1 h
                refine cz_callV (As := [.int (0 : Int32)]) (rest := []) (is := [0, 2, 4]) (isR := [1, 3, 5, 6]) (rs := [aI cI a_o_refusals 7 f_o_refusals, aI cI a_o_innerOf 120 g37, aI cI a_o_nearOf 360 g39, aI cI a_o_fromOf 360 g40]) (as := [a_o, a_o_refusals, a_o_s, a_o_innerOf, a_o_whoseOf, a_o_nearOf, a_o_fromOf]) (ws1 := [oX6 a_o a_o_refusals a_o_s a_o_image v_o_isImage a_o_tape a_o_read v_o_taped v_o_pos v_o_readWide v_o_readHigh a_o_innerOf a_o_whoseOf a_o_nearOf a_o_fromOf x35 a_o_pieceOf a_o_kept a_o_claimOf a_o_row v_o_rowed, aI cI a_o_refusals 7 f_o_refusals, aI cI a_o_s 151 g36, aI cI a_o_innerOf 120 g37, aI cI a_o_whoseOf 120 g38, aI cI a_o_nearOf 360 g39, aI cI a_o_fromOf 360 g40]) (q0 := 0) (ci := 6) ⟨hx, hb, hml, hown, hts⟩ (c_X6_areaOf l D cI a_o a_o_s a_o_whoseOf a_o_refusals a_o_image a_o_tape a_o_read a_o_innerOf a_o_nearOf a_o_fromOf a_o_pieceOf a_o_kept a_o_claimOf a_o_row v_o_isImage v_o_taped v_o_pos v_o_readWide v_o_readHigh x35 v_o_rowed g36 g38 (0 : Int32) n x42 hc43) mw_4_120 mw_4_122 mw_p_24 mw_1_8 mw_4_123 hd_X6_areaOf ⟨Nat.le_of_ble_eq_true rfl, Nat.le_of_ble_eq_true rfl⟩ hK hN hP hD hS rfl rfl rfl rfl rfl rfl rfl rfl rfl rfl rfl rfl hl.1 rfl (Nat.le_of_ble_eq_true rfl) dX6_meet_52 ⟨Nat.le_of_ble_eq_true rfl, Nat.le_of_ble_eq_true rfl⟩ (fun H locs hP hD hS => ?_)
                refine W.eq (g2 := F0 m 55 ls [.int x42]) rfl ?_
                refine lv_iload_n hx hb dX6_meet_55 rfl (lv_at hl 1 rfl) ?_
                refine lv_icmp_lt (tgt := 73) hx hb dX6_meet_56 (by decide) (fun c44 => ?_) (fun c44 => ?_)
                · replace h := cz_t c44 h
                  obtain ⟨x45, ex45⟩ : ∃ z : Int32, z = x11 + (1 : Int32) := ⟨_, rfl⟩
                  replace h := cz_ltE ex45 h
                  refine lv_iinc (v := x45) (lv' := [(3, .int x45), (0, .ref a_o), (1, .int w1), (2, .int w2)]) hx hb dX6_meet_73 hl (k := 3) rfl (by rw [ex45]; rfl) (by decide) rfl (fun ls hl => ?_)
                  refine lv_goto (tgt := 36) hx hb dX6_meet_76 (by decide) ?_
                  exact ih31 _ _ _ _ _ _ _ _ _ _ h hP hD hS (lv_sub hl [1, 2, 3, 0] rfl)
                · replace h := cz_f c44 h
                  refine lv_aload_n hx hb dX6_meet_59 rfl (lv_at hl 0 rfl) ?_
                  refine lv_iconst (v := (1 : Int32)) hx hb dX6_meet_60 (by decide) ?_
                  obtain ⟨x46, hc47, h⟩ := cz_e1 h
                  refine cz_callV (As := [.int (1 : Int32)]) (rest := []) (is := [0, 2, 4]) (isR := [1, 3, 5, 6]) (rs := [aI cI a_o_refusals 7 f_o_refusals, aI cI a_o_innerOf 120 g37, aI cI a_o_nearOf 360 g39, aI cI a_o_fromOf 360 g40]) (as := [a_o, a_o_refusals, a_o_s, a_o_innerOf, a_o_whoseOf, a_o_nearOf, a_o_fromOf]) (ws1 := [oX6 a_o a_o_refusals a_o_s a_o_image v_o_isImage a_o_tape a_o_read v_o_taped v_o_pos v_o_readWide v_o_readHigh a_o_innerOf a_o_whoseOf a_o_nearOf a_o_fromOf x35 a_o_pieceOf a_o_kept a_o_claimOf a_o_row v_o_rowed, aI cI a_o_refusals 7 f_o_refusals, aI cI a_o_s 151 g36, aI cI a_o_innerOf 120 g37, aI cI a_o_whoseOf 120 g38, aI cI a_o_nearOf 360 g39, aI cI a_o_fromOf 360 g40]) (q0 := 0) (ci := 6) ⟨hx, hb, hml, hown, hts⟩ (c_X6_areaOf l D cI a_o a_o_s a_o_whoseOf a_o_refusals a_o_image a_o_tape a_o_read a_o_innerOf a_o_nearOf a_o_fromOf a_o_pieceOf a_o_kept a_o_claimOf a_o_row v_o_isImage v_o_taped v_o_pos v_o_readWide v_o_readHigh x35 v_o_rowed g36 g38 (1 : Int32) n x46 hc47) mw_4_120 mw_4_122 mw_p_24 mw_1_8 mw_4_123 hd_X6_areaOf ⟨Nat.le_of_ble_eq_true rfl, Nat.le_of_ble_eq_true rfl⟩ hK hN hP hD hS rfl rfl rfl rfl rfl rfl rfl rfl rfl rfl rfl rfl hl.1 rfl (Nat.le_of_ble_eq_true rfl) dX6_meet_61 ⟨Nat.le_of_ble_eq_true rfl, Nat.le_of_ble_eq_true rfl⟩ (fun H locs hP hD hS => ?_)
                  refine W.eq (g2 := F0 m 64 ls [.int x46]) rfl ?_
                  refine lv_iload_n hx hb dX6_meet_64 rfl (lv_at hl 2 rfl) ?_
                  refine lv_icmp_lt (tgt := 73) hx hb dX6_meet_65 (by decide) (fun c48 => ?_) (fun c48 => ?_)
                  · replace h := cz_t c48 h
                    obtain ⟨x49, ex49⟩ : ∃ z : Int32, z = x11 + (1 : Int32) := ⟨_, rfl⟩
                    replace h := cz_ltE ex49 h
                    refine lv_iinc (v := x49) (lv' := [(3, .int x49), (0, .ref a_o), (1, .int w1), (2, .int w2)]) hx hb dX6_meet_73 hl (k := 3) rfl (by rw [ex49]; rfl) (by decide) rfl (fun ls hl => ?_)
                    refine lv_goto (tgt := 36) hx hb dX6_meet_76 (by decide) ?_
                    exact ih31 _ _ _ _ _ _ _ _ _ _ h hP hD hS (lv_sub hl [1, 2, 3, 0] rfl)
                  · replace h := cz_f c48 h
                    refine lv_iload_n hx hb dX6_meet_68 rfl (lv_at hl 3 rfl) ?_
                    obtain ⟨x50, hc51, h⟩ := cz_e1 h
                    refine cz_callS (As := [.int x11]) (rest := []) (is := []) (isR := [0, 1, 2, 3, 4, 5, 6]) (rs := [oX6 a_o a_o_refusals a_o_s a_o_image v_o_isImage a_o_tape a_o_read v_o_taped v_o_pos v_o_readWide v_o_readHigh a_o_innerOf a_o_whoseOf a_o_nearOf a_o_fromOf x35 a_o_pieceOf a_o_kept a_o_claimOf a_o_row v_o_rowed, aI cI a_o_refusals 7 f_o_refusals, aI cI a_o_s 151 g36, aI cI a_o_innerOf 120 g37, aI cI a_o_whoseOf 120 g38, aI cI a_o_nearOf 360 g39, aI cI a_o_fromOf 360 g40]) (as := [a_o, a_o_refusals, a_o_s, a_o_innerOf, a_o_whoseOf, a_o_nearOf, a_o_fromOf]) (ws1 := [oX6 a_o a_o_refusals a_o_s a_o_image v_o_isImage a_o_tape a_o_read v_o_taped v_o_pos v_o_readWide v_o_readHigh a_o_innerOf a_o_whoseOf a_o_nearOf a_o_fromOf x35 a_o_pieceOf a_o_kept a_o_claimOf a_o_row v_o_rowed, aI cI a_o_refusals 7 f_o_refusals, aI cI a_o_s 151 g36, aI cI a_o_innerOf 120 g37, aI cI a_o_whoseOf 120 g38, aI cI a_o_nearOf 360 g39, aI cI a_o_fromOf 360 g40]) ⟨hx, hb, hml, hown, hts⟩ (c_X6_codeOf l D cI   x11 n x50 hc51) mw_4_201 mw_4_202 mw_1_8 mw_4_203 hd_X6_codeOf ⟨Nat.le_of_ble_eq_true rfl, Nat.le_of_ble_eq_true rfl⟩ hK hN hP hD hS rfl rfl rfl rfl rfl rfl rfl rfl rfl hl.1 rfl (Nat.le_of_ble_eq_true rfl) dX6_meet_69 ⟨Nat.le_of_ble_eq_true rfl, Nat.le_of_ble_eq_true rfl⟩ (fun H locs hP hD hS => ?_)
                    refine W.eq (g2 := F0 m 72 ls [.int x50]) rfl ?_
                    replace h := hR23 _ (cz_i h).symm
                    obtain ⟨rfl, rfl, rfl, rfl, rfl, rfl, rfl, rfl⟩ := cz_j8 (cz_i h)
                    exact hQ _ _ _ _ hP hS dX6_meet_72
          exact hL22 n _ _ _ _ _ _ _ _ _ _ hE19 hP hD hS (lv_sub hl [1, 2, 3, 0] rfl)
        · replace h := cz_f c10 h
          refine lv_aload_n hx hb dX6_meet_27 rfl (lv_at hl 0 rfl) ?_
          refine lv_bipush (v := (-6 : Int32)) hx hb dX6_meet_28 (by decide) ?_
          obtain ⟨x53, g54, hc55, h⟩ := cz_e2 h
          refine cz_callV (As := [.int (-6 : Int32)]) (rest := []) (is := [0, 1]) (isR := [2, 3, 4, 5, 6]) (rs := [aI cI a_o_s 151 f_o_s, aI cI a_o_innerOf 120 f_o_innerOf, aI cI a_o_whoseOf 120 f_o_whoseOf, aI cI a_o_nearOf 360 f_o_nearOf, aI cI a_o_fromOf 360 f_o_fromOf]) (as := [a_o, a_o_refusals, a_o_s, a_o_innerOf, a_o_whoseOf, a_o_nearOf, a_o_fromOf]) (ws1 := [oX6 a_o a_o_refusals a_o_s a_o_image v_o_isImage a_o_tape a_o_read v_o_taped v_o_pos v_o_readWide v_o_readHigh a_o_innerOf a_o_whoseOf a_o_nearOf a_o_fromOf v_o_thirds a_o_pieceOf a_o_kept a_o_claimOf a_o_row v_o_rowed, aI cI a_o_refusals 7 g54, aI cI a_o_s 151 f_o_s, aI cI a_o_innerOf 120 f_o_innerOf, aI cI a_o_whoseOf 120 f_o_whoseOf, aI cI a_o_nearOf 360 f_o_nearOf, aI cI a_o_fromOf 360 f_o_fromOf]) (q0 := 0) (ci := 6) ⟨hx, hb, hml, hown, hts⟩ (c_X6_refuse l D cI a_o a_o_refusals a_o_s a_o_image a_o_tape a_o_read a_o_innerOf a_o_whoseOf a_o_nearOf a_o_fromOf a_o_pieceOf a_o_kept a_o_claimOf a_o_row v_o_isImage v_o_taped v_o_pos v_o_readWide v_o_readHigh v_o_thirds v_o_rowed f_o_refusals (-6 : Int32) n x53 g54 hc55) mw_4_11 mw_4_13 mw_p_10 mw_1_8 mw_4_14 hd_X6_refuse ⟨Nat.le_of_ble_eq_true rfl, Nat.le_of_ble_eq_true rfl⟩ hK hN hP hD hS rfl rfl rfl rfl rfl rfl rfl rfl rfl rfl rfl rfl hl.1 rfl (Nat.le_of_ble_eq_true rfl) dX6_meet_30 ⟨Nat.le_of_ble_eq_true rfl, Nat.le_of_ble_eq_true rfl⟩ (fun H locs hP hD hS => ?_)
          refine W.eq (g2 := F0 m 33 ls [.int x53]) rfl ?_
          obtain ⟨rfl, rfl, rfl, rfl, rfl, rfl, rfl, rfl⟩ := cz_j8 (cz_i h)
          exact hQ _ _ _ _ hP hS dX6_meet_33
    · replace h := cz_f c5 h
      refine lv_aload_n hx hb dX6_meet_8 rfl (lv_at hl 0 rfl) ?_
      refine lv_bipush (v := (-4 : Int32)) hx hb dX6_meet_9 (by decide) ?_
      obtain ⟨x56, g57, hc58, h⟩ := cz_e2 h
      refine cz_callV (As := [.int (-4 : Int32)]) (rest := []) (is := [0, 1]) (isR := [2, 3, 4, 5, 6]) (rs := [aI cI a_o_s 151 f_o_s, aI cI a_o_innerOf 120 f_o_innerOf, aI cI a_o_whoseOf 120 f_o_whoseOf, aI cI a_o_nearOf 360 f_o_nearOf, aI cI a_o_fromOf 360 f_o_fromOf]) (as := [a_o, a_o_refusals, a_o_s, a_o_innerOf, a_o_whoseOf, a_o_nearOf, a_o_fromOf]) (ws1 := [oX6 a_o a_o_refusals a_o_s a_o_image v_o_isImage a_o_tape a_o_read v_o_taped v_o_pos v_o_readWide v_o_readHigh a_o_innerOf a_o_whoseOf a_o_nearOf a_o_fromOf v_o_thirds a_o_pieceOf a_o_kept a_o_claimOf a_o_row v_o_rowed, aI cI a_o_refusals 7 g57, aI cI a_o_s 151 f_o_s, aI cI a_o_innerOf 120 f_o_innerOf, aI cI a_o_whoseOf 120 f_o_whoseOf, aI cI a_o_nearOf 360 f_o_nearOf, aI cI a_o_fromOf 360 f_o_fromOf]) (q0 := 0) (ci := 6) ⟨hx, hb, hml, hown, hts⟩ (c_X6_refuse l D cI a_o a_o_refusals a_o_s a_o_image a_o_tape a_o_read a_o_innerOf a_o_whoseOf a_o_nearOf a_o_fromOf a_o_pieceOf a_o_kept a_o_claimOf a_o_row v_o_isImage v_o_taped v_o_pos v_o_readWide v_o_readHigh v_o_thirds v_o_rowed f_o_refusals (-4 : Int32) n x56 g57 hc58) mw_4_11 mw_4_13 mw_p_10 mw_1_8 mw_4_14 hd_X6_refuse ⟨Nat.le_of_ble_eq_true rfl, Nat.le_of_ble_eq_true rfl⟩ hK hN hP hD hS rfl rfl rfl rfl rfl rfl rfl rfl rfl rfl rfl rfl hl.1 rfl (Nat.le_of_ble_eq_true rfl) dX6_meet_11 ⟨Nat.le_of_ble_eq_true rfl, Nat.le_of_ble_eq_true rfl⟩ (fun H locs hP hD hS => ?_)
      refine W.eq (g2 := F0 m 14 ls [.int x56]) rfl ?_
      obtain ⟨rfl, rfl, rfl, rfl, rfl, rfl, rfl, rfl⟩ := cz_j8 (cz_i h)
      exact hQ _ _ _ _ hP hS dX6_meet_14
set_option maxHeartbeats 4000000 in
set_option maxRecDepth 100000 in
theorem c_X6_put (l : Launch) (D : va_G) (cI : ClassId) (a_o a_o_refusals a_o_row a_o_s a_o_image a_o_tape a_o_read a_o_innerOf a_o_whoseOf a_o_nearOf a_o_fromOf a_o_pieceOf a_o_kept a_o_claimOf : Nat) (v_o_isImage : Int32) (v_o_taped : Int32) (v_o_pos : Int32) (v_o_readWide : Int32) (v_o_readHigh : Int32) (v_o_thirds : Int32) (v_o_rowed : Int32) (f_o_refusals : (Nat → Int32)) (f_o_row : (Nat → Int32)) (w1 : Int32) (n : Nat) (r : Int32) (r_v_o_rowed : Int32) (r_f_o_refusals : (Nat → Int32)) (r_f_o_row : (Nat → Int32)) (h : f_X6_put n v_o_rowed f_o_refusals f_o_row w1 = some (r, r_v_o_rowed, r_f_o_refusals, r_f_o_row)) : cz_M l yX6_put cX6_put 3 (some .int) 1 22 D cI [.ref a_o, .int w1] [oX6 a_o a_o_refusals a_o_s a_o_image v_o_isImage a_o_tape a_o_read v_o_taped v_o_pos v_o_readWide v_o_readHigh a_o_innerOf a_o_whoseOf a_o_nearOf a_o_fromOf v_o_thirds a_o_pieceOf a_o_kept a_o_claimOf a_o_row v_o_rowed, aI cI a_o_refusals 7 f_o_refusals, aI cI a_o_row 120 f_o_row] (some (.int r)) [oX6 a_o a_o_refusals a_o_s a_o_image v_o_isImage a_o_tape a_o_read v_o_taped v_o_pos v_o_readWide v_o_readHigh a_o_innerOf a_o_whoseOf a_o_nearOf a_o_fromOf v_o_thirds a_o_pieceOf a_o_kept a_o_claimOf a_o_row r_v_o_rowed, aI cI a_o_refusals 7 r_f_o_refusals, aI cI a_o_row 120 r_f_o_row] := by
  refine cz_startI (by decide) (Nat.le_of_ble_eq_true rfl) ?_
  intro p e s m ag below meth c A Q hx hb hml hown hts hK hN hQ H locs hP hD hS ls hl
  replace hown : s.vm.findClass RX6 = some m.cls := hown
  replace hl : lv_has ls 3 [(0, .ref a_o), (1, .int w1)] := hl
  unfold f_X6_put at h
  refine lv_iload_n hx hb dX6_put_0 rfl (lv_at hl 1 rfl) ?_
  refine lv_bipush (v := (-9 : Int32)) hx hb dX6_put_1 (by decide) ?_
  refine lv_bipush (v := (9 : Int32)) hx hb dX6_put_3 (by decide) ?_
  obtain ⟨x1, hc2, h⟩ := cz_e1 h
  refine cz_callS (As := [.int w1, .int (-9 : Int32), .int (9 : Int32)]) (rest := []) (is := []) (isR := [0, 1, 2]) (rs := [oX6 a_o a_o_refusals a_o_s a_o_image v_o_isImage a_o_tape a_o_read v_o_taped v_o_pos v_o_readWide v_o_readHigh a_o_innerOf a_o_whoseOf a_o_nearOf a_o_fromOf v_o_thirds a_o_pieceOf a_o_kept a_o_claimOf a_o_row v_o_rowed, aI cI a_o_refusals 7 f_o_refusals, aI cI a_o_row 120 f_o_row]) (as := [a_o, a_o_refusals, a_o_row]) (ws1 := [oX6 a_o a_o_refusals a_o_s a_o_image v_o_isImage a_o_tape a_o_read v_o_taped v_o_pos v_o_readWide v_o_readHigh a_o_innerOf a_o_whoseOf a_o_nearOf a_o_fromOf v_o_thirds a_o_pieceOf a_o_kept a_o_claimOf a_o_row v_o_rowed, aI cI a_o_refusals 7 f_o_refusals, aI cI a_o_row 120 f_o_row]) ⟨hx, hb, hml, hown, hts⟩ (c_X6_within l D cI   w1 (-9 : Int32) (9 : Int32) n x1 hc2) mw_4_60 mw_4_61 mw_1_8 mw_4_62 hd_X6_within ⟨Nat.le_of_ble_eq_true rfl, Nat.le_of_ble_eq_true rfl⟩ hK hN hP hD hS rfl rfl rfl rfl rfl rfl rfl rfl rfl hl.1 rfl (Nat.le_of_ble_eq_true rfl) dX6_put_5 ⟨Nat.le_of_ble_eq_true rfl, Nat.le_of_ble_eq_true rfl⟩ (fun H locs hP hD hS => ?_)
  refine W.eq (g2 := F0 m 8 ls [.int x1]) rfl ?_
  refine lv_istore_n (lv' := [(2, .int x1), (0, .ref a_o), (1, .int w1)]) hx hb dX6_put_8 rfl hl (by decide) rfl (fun ls hl => ?_)
  refine lv_iload_n hx hb dX6_put_9 rfl (lv_at hl 0 rfl) ?_
  obtain ⟨z7, hE5, hz4⟩ := cz_ltV h
  have hJ6 : ∀ (x3 : Int32) (H : Heap) (locs : List Loc) (ls : Array Slot), z7 = x3 → va_P D vwCl [oX6 a_o a_o_refusals a_o_s a_o_image v_o_isImage a_o_tape a_o_read v_o_taped v_o_pos v_o_readWide v_o_readHigh a_o_innerOf a_o_whoseOf a_o_nearOf a_o_fromOf v_o_thirds a_o_pieceOf a_o_kept a_o_claimOf a_o_row v_o_rowed, aI cI a_o_refusals 7 f_o_refusals, aI cI a_o_row 120 f_o_row] H → va_D A [oX6 a_o a_o_refusals a_o_s a_o_image v_o_isImage a_o_tape a_o_read v_o_taped v_o_pos v_o_readWide v_o_readHigh a_o_innerOf a_o_whoseOf a_o_nearOf a_o_fromOf v_o_thirds a_o_pieceOf a_o_kept a_o_claimOf a_o_row v_o_rowed, aI cI a_o_refusals 7 f_o_refusals, aI cI a_o_row 120 f_o_row] → va_S A s.heap H locs → lv_has ls 3 [(0, .ref a_o), (1, .int w1), (2, .int x3)] → W p l e (cz_rm 1 22) s m ag below meth c H locs 0 0 Q (F0 m 25 ls []) := by
    intro x3 H locs ls h hP hD hS hl
    replace h := hz4 _ h
    refine lv_iload_n hx hb dX6_put_25 rfl (lv_at hl 2 rfl) ?_
    refine lv_if_eq (tgt := 35) hx hb dX6_put_26 (by decide) (fun c8 => ?_) (fun c8 => ?_)
    · replace h := cz_t c8 h
      refine lv_aload_n hx hb dX6_put_35 rfl (lv_at hl 0 rfl) ?_
      refine va_get (D := D) (ci := 6) (v := .ref a_o_row) (C := RX6) (T := TX6) (N := 20) hx hb hts in_X6 hown hK hP 0 rfl rfl 18 (by decide) (hts _ mw_3_204) (fun _ h9 => h9) rfl dX6_put_36 ?_
      refine lv_aload_n hx hb dX6_put_39 rfl (lv_at hl 0 rfl) ?_
      refine va_get (D := D) (ci := 6) (v := .int v_o_rowed) (C := RX6) (T := TX6) (N := 20) hx hb hts in_X6 hown hK hP 0 rfl rfl 19 (by decide) (hts _ mw_3_205) (fun _ h9 => h9) rfl dX6_put_40 ?_
      refine lv_iload_n hx hb dX6_put_43 rfl (lv_at hl 1 rfl) ?_
      refine cz_iast hx hb hK hP hD hS 2 0 rfl rfl (cz_wrE h).1 dX6_put_44 (fun g9 H locs eg9 hP hD hS => ?_)
      replace h := cz_wrK eg9 h
      replace hP : va_P D vwCl [oX6 a_o a_o_refusals a_o_s a_o_image v_o_isImage a_o_tape a_o_read v_o_taped v_o_pos v_o_readWide v_o_readHigh a_o_innerOf a_o_whoseOf a_o_nearOf a_o_fromOf v_o_thirds a_o_pieceOf a_o_kept a_o_claimOf a_o_row v_o_rowed, aI cI a_o_refusals 7 f_o_refusals, aI cI a_o_row 120 g9] H := hP
      replace hD : va_D A [oX6 a_o a_o_refusals a_o_s a_o_image v_o_isImage a_o_tape a_o_read v_o_taped v_o_pos v_o_readWide v_o_readHigh a_o_innerOf a_o_whoseOf a_o_nearOf a_o_fromOf v_o_thirds a_o_pieceOf a_o_kept a_o_claimOf a_o_row v_o_rowed, aI cI a_o_refusals 7 f_o_refusals, aI cI a_o_row 120 g9] := hD
      refine lv_aload_n hx hb dX6_put_45 rfl (lv_at hl 0 rfl) ?_
      refine lv_dup hx hb dX6_put_46 rfl ?_
      refine va_get (D := D) (ci := 6) (v := .int v_o_rowed) (C := RX6) (T := TX6) (N := 20) hx hb hts in_X6 hown hK hP 0 rfl rfl 19 (by decide) (hts _ mw_3_205) (fun _ h9 => h9) rfl dX6_put_47 ?_
      refine lv_iconst (v := (1 : Int32)) hx hb dX6_put_50 (by decide) ?_
      refine lv_iadd hx hb dX6_put_51 ?_
      refine lv_topi (fun x10 ex10 => ?_)
      replace h := cz_ltE ex10 h
      refine va_put (D := D) (ci := 6) (v := .int x10) (ty := .int) (C := RX6) (T := TX6) (N := 20) hx hb hts in_X6 tyX6 tyX6_ok nmX6 hown hK hP hD hS 0 rfl rfl 19 (by decide) (hts _ mw_3_205) (fun _ h9 => h9) rfl (by decide +kernel) rfl rfl (Nat.le_of_ble_eq_true rfl) dX6_put_52 (fun H locs hP hD hS => ?_)
      replace hP : va_P D vwCl [oX6 a_o a_o_refusals a_o_s a_o_image v_o_isImage a_o_tape a_o_read v_o_taped v_o_pos v_o_readWide v_o_readHigh a_o_innerOf a_o_whoseOf a_o_nearOf a_o_fromOf v_o_thirds a_o_pieceOf a_o_kept a_o_claimOf a_o_row x10, aI cI a_o_refusals 7 f_o_refusals, aI cI a_o_row 120 g9] H := hP
      replace hD : va_D A [oX6 a_o a_o_refusals a_o_s a_o_image v_o_isImage a_o_tape a_o_read v_o_taped v_o_pos v_o_readWide v_o_readHigh a_o_innerOf a_o_whoseOf a_o_nearOf a_o_fromOf v_o_thirds a_o_pieceOf a_o_kept a_o_claimOf a_o_row x10, aI cI a_o_refusals 7 f_o_refusals, aI cI a_o_row 120 g9] := hD
      refine lv_aload_n hx hb dX6_put_55 rfl (lv_at hl 0 rfl) ?_
      refine va_get (D := D) (ci := 6) (v := .int x10) (C := RX6) (T := TX6) (N := 20) hx hb hts in_X6 hown hK hP 0 rfl rfl 19 (by decide) (hts _ mw_3_205) (fun _ h9 => h9) rfl dX6_put_56 ?_
      obtain ⟨rfl, rfl, rfl, rfl⟩ := cz_j4 (cz_i h)
      exact hQ _ _ _ _ hP hS dX6_put_59
    · replace h := cz_f c8 h
      refine lv_aload_n hx hb dX6_put_29 rfl (lv_at hl 0 rfl) ?_
      refine lv_iload_n hx hb dX6_put_30 rfl (lv_at hl 2 rfl) ?_
      obtain ⟨x11, g12, hc13, h⟩ := cz_e2 h
      refine cz_callV (As := [.int x3]) (rest := []) (is := [0, 1]) (isR := [2]) (rs := [aI cI a_o_row 120 f_o_row]) (as := [a_o, a_o_refusals, a_o_row]) (ws1 := [oX6 a_o a_o_refusals a_o_s a_o_image v_o_isImage a_o_tape a_o_read v_o_taped v_o_pos v_o_readWide v_o_readHigh a_o_innerOf a_o_whoseOf a_o_nearOf a_o_fromOf v_o_thirds a_o_pieceOf a_o_kept a_o_claimOf a_o_row v_o_rowed, aI cI a_o_refusals 7 g12, aI cI a_o_row 120 f_o_row]) (q0 := 0) (ci := 6) ⟨hx, hb, hml, hown, hts⟩ (c_X6_refuse l D cI a_o a_o_refusals a_o_s a_o_image a_o_tape a_o_read a_o_innerOf a_o_whoseOf a_o_nearOf a_o_fromOf a_o_pieceOf a_o_kept a_o_claimOf a_o_row v_o_isImage v_o_taped v_o_pos v_o_readWide v_o_readHigh v_o_thirds v_o_rowed f_o_refusals x3 n x11 g12 hc13) mw_4_11 mw_4_13 mw_p_10 mw_1_8 mw_4_14 hd_X6_refuse ⟨Nat.le_of_ble_eq_true rfl, Nat.le_of_ble_eq_true rfl⟩ hK hN hP hD hS rfl rfl rfl rfl rfl rfl rfl rfl rfl rfl rfl rfl hl.1 rfl (Nat.le_of_ble_eq_true rfl) dX6_put_31 ⟨Nat.le_of_ble_eq_true rfl, Nat.le_of_ble_eq_true rfl⟩ (fun H locs hP hD hS => ?_)
      refine W.eq (g2 := F0 m 34 ls [.int x11]) rfl ?_
      obtain ⟨rfl, rfl, rfl, rfl⟩ := cz_j4 (cz_i h)
      exact hQ _ _ _ _ hP hS dX6_put_34
  clear h
  have h := hE5
  refine lv_if_ne (tgt := 25) hx hb dX6_put_10 (by decide) (fun c14 => ?_) (fun c14 => ?_)
  · replace h := cz_f c14 h
    exact hJ6 _ _ _ _ h.symm hP hD hS (lv_sub hl [1, 2, 0] rfl)
  · replace h := cz_t c14 h
    refine lv_aload_n hx hb dX6_put_13 rfl (lv_at hl 1 rfl) ?_
    refine va_get (D := D) (ci := 6) (v := .int v_o_rowed) (C := RX6) (T := TX6) (N := 20) hx hb hts in_X6 hown hK hP 0 rfl rfl 19 (by decide) (hts _ mw_3_205) (fun _ h9 => h9) rfl dX6_put_14 ?_
    refine lv_bipush (v := (120 : Int32)) hx hb dX6_put_17 (by decide) ?_
    refine lv_icmp_ne (tgt := 25) hx hb dX6_put_19 (by decide) (fun c15 => ?_) (fun c15 => ?_)
    · replace h := cz_f c15 h
      exact hJ6 _ _ _ _ h.symm hP hD hS (lv_sub hl [1, 2, 0] rfl)
    · replace h := cz_t c15 h
      refine lv_bipush (v := (-6 : Int32)) hx hb dX6_put_22 (by decide) ?_
      refine lv_istore_n (lv' := [(2, .int (-6 : Int32)), (0, .ref a_o), (1, .int w1)]) hx hb dX6_put_24 rfl hl (by decide) rfl (fun ls hl => ?_)
      exact hJ6 _ _ _ _ h.symm hP hD hS (lv_sub hl [1, 2, 0] rfl)
set_option maxHeartbeats 4000000 in
set_option maxRecDepth 100000 in
theorem c_X6_judge (l : Launch) (D : va_G) (cI : ClassId) (a_o a_o_s a_o_innerOf a_o_whoseOf a_o_nearOf a_o_fromOf a_o_row a_o_refusals a_o_image a_o_tape a_o_read a_o_pieceOf a_o_kept a_o_claimOf : Nat) (v_o_isImage : Int32) (v_o_taped : Int32) (v_o_pos : Int32) (v_o_readWide : Int32) (v_o_readHigh : Int32) (v_o_thirds : Int32) (v_o_rowed : Int32) (f_o_s : (Nat → Int32)) (f_o_innerOf : (Nat → Int32)) (f_o_whoseOf : (Nat → Int32)) (f_o_nearOf : (Nat → Int32)) (f_o_fromOf : (Nat → Int32)) (f_o_row : (Nat → Int32)) (n : Nat) (r : Int32) (r_v_o_thirds : Int32) (r_v_o_rowed : Int32) (r_f_o_innerOf : (Nat → Int32)) (r_f_o_whoseOf : (Nat → Int32)) (r_f_o_nearOf : (Nat → Int32)) (r_f_o_fromOf : (Nat → Int32)) (h : f_X6_judge n v_o_thirds v_o_rowed f_o_s f_o_innerOf f_o_whoseOf f_o_nearOf f_o_fromOf f_o_row = some (r, r_v_o_thirds, r_v_o_rowed, r_f_o_innerOf, r_f_o_whoseOf, r_f_o_nearOf, r_f_o_fromOf)) : cz_M l yX6_judge cX6_judge 3 (some .int) 5 117 D cI [.ref a_o] [oX6 a_o a_o_refusals a_o_s a_o_image v_o_isImage a_o_tape a_o_read v_o_taped v_o_pos v_o_readWide v_o_readHigh a_o_innerOf a_o_whoseOf a_o_nearOf a_o_fromOf v_o_thirds a_o_pieceOf a_o_kept a_o_claimOf a_o_row v_o_rowed, aI cI a_o_s 151 f_o_s, aI cI a_o_innerOf 120 f_o_innerOf, aI cI a_o_whoseOf 120 f_o_whoseOf, aI cI a_o_nearOf 360 f_o_nearOf, aI cI a_o_fromOf 360 f_o_fromOf, aI cI a_o_row 120 f_o_row] (some (.int r)) [oX6 a_o a_o_refusals a_o_s a_o_image v_o_isImage a_o_tape a_o_read v_o_taped v_o_pos v_o_readWide v_o_readHigh a_o_innerOf a_o_whoseOf a_o_nearOf a_o_fromOf r_v_o_thirds a_o_pieceOf a_o_kept a_o_claimOf a_o_row r_v_o_rowed, aI cI a_o_s 151 f_o_s, aI cI a_o_innerOf 120 r_f_o_innerOf, aI cI a_o_whoseOf 120 r_f_o_whoseOf, aI cI a_o_nearOf 360 r_f_o_nearOf, aI cI a_o_fromOf 360 r_f_o_fromOf, aI cI a_o_row 120 f_o_row] := by
  refine cz_startI (by decide) (Nat.le_of_ble_eq_true rfl) ?_
  intro p e s m ag below meth c A Q hx hb hml hown hts hK hN hQ H locs hP hD hS ls hl
  replace hown : s.vm.findClass RX6 = some m.cls := hown
  replace hl : lv_has ls 3 [(0, .ref a_o)] := hl
  unfold f_X6_judge at h
  refine lv_aload_n hx hb dX6_judge_0 rfl (lv_at hl 0 rfl) ?_
  obtain ⟨x1, g2, g3, g4, g5, hc6, h⟩ := cz_e5 h
  refine cz_callV (As := []) (rest := []) (is := [0, 1, 2, 3, 4, 5]) (isR := [6]) (rs := [aI cI a_o_row 120 f_o_row]) (as := [a_o, a_o_s, a_o_innerOf, a_o_whoseOf, a_o_nearOf, a_o_fromOf, a_o_row]) (ws1 := [oX6 a_o a_o_refusals a_o_s a_o_image v_o_isImage a_o_tape a_o_read v_o_taped v_o_pos v_o_readWide v_o_readHigh a_o_innerOf a_o_whoseOf a_o_nearOf a_o_fromOf x1 a_o_pieceOf a_o_kept a_o_claimOf a_o_row v_o_rowed, aI cI a_o_s 151 f_o_s, aI cI a_o_innerOf 120 g2, aI cI a_o_whoseOf 120 g3, aI cI a_o_nearOf 360 g4, aI cI a_o_fromOf 360 g5, aI cI a_o_row 120 f_o_row]) (q0 := 0) (ci := 6) ⟨hx, hb, hml, hown, hts⟩ (c_X6_find l D cI a_o a_o_s a_o_innerOf a_o_whoseOf a_o_nearOf a_o_fromOf a_o_refusals a_o_image a_o_tape a_o_read a_o_pieceOf a_o_kept a_o_claimOf a_o_row v_o_isImage v_o_taped v_o_pos v_o_readWide v_o_readHigh v_o_thirds v_o_rowed f_o_s f_o_innerOf f_o_whoseOf f_o_nearOf f_o_fromOf  n x1 g2 g3 g4 g5 hc6) mw_4_68 mw_4_70 mw_p_16 mw_1_8 mw_4_71 hd_X6_find ⟨Nat.le_of_ble_eq_true rfl, Nat.le_of_ble_eq_true rfl⟩ hK hN hP hD hS rfl rfl rfl rfl rfl rfl rfl rfl rfl rfl rfl rfl hl.1 rfl (Nat.le_of_ble_eq_true rfl) dX6_judge_1 ⟨Nat.le_of_ble_eq_true rfl, Nat.le_of_ble_eq_true rfl⟩ (fun H locs hP hD hS => ?_)
  refine W.eq (g2 := F0 m 4 ls []) rfl ?_
  refine lv_aload_n hx hb dX6_judge_4 rfl (lv_at hl 0 rfl) ?_
  refine va_get (D := D) (ci := 6) (v := .int v_o_rowed) (C := RX6) (T := TX6) (N := 20) hx hb hts in_X6 hown hK hP 0 rfl rfl 19 (by decide) (hts _ mw_3_205) (fun _ h9 => h9) rfl dX6_judge_5 ?_
  refine lv_istore_n (lv' := [(1, .int v_o_rowed), (0, .ref a_o)]) hx hb dX6_judge_8 rfl hl (by decide) rfl (fun ls hl => ?_)
  refine lv_aload_n hx hb dX6_judge_9 rfl (lv_at hl 1 rfl) ?_
  refine lv_iconst (v := (0 : Int32)) hx hb dX6_judge_10 (by decide) ?_
  refine va_put (D := D) (ci := 6) (v := .int (0 : Int32)) (ty := .int) (C := RX6) (T := TX6) (N := 20) hx hb hts in_X6 tyX6 tyX6_ok nmX6 hown hK hP hD hS 0 rfl rfl 19 (by decide) (hts _ mw_3_205) (fun _ h9 => h9) rfl (by decide +kernel) rfl rfl (Nat.le_of_ble_eq_true rfl) dX6_judge_11 (fun H locs hP hD hS => ?_)
  replace hP : va_P D vwCl [oX6 a_o a_o_refusals a_o_s a_o_image v_o_isImage a_o_tape a_o_read v_o_taped v_o_pos v_o_readWide v_o_readHigh a_o_innerOf a_o_whoseOf a_o_nearOf a_o_fromOf x1 a_o_pieceOf a_o_kept a_o_claimOf a_o_row (0 : Int32), aI cI a_o_s 151 f_o_s, aI cI a_o_innerOf 120 g2, aI cI a_o_whoseOf 120 g3, aI cI a_o_nearOf 360 g4, aI cI a_o_fromOf 360 g5, aI cI a_o_row 120 f_o_row] H := hP
  replace hD : va_D A [oX6 a_o a_o_refusals a_o_s a_o_image v_o_isImage a_o_tape a_o_read v_o_taped v_o_pos v_o_readWide v_o_readHigh a_o_innerOf a_o_whoseOf a_o_nearOf a_o_fromOf x1 a_o_pieceOf a_o_kept a_o_claimOf a_o_row (0 : Int32), aI cI a_o_s 151 f_o_s, aI cI a_o_innerOf 120 g2, aI cI a_o_whoseOf 120 g3, aI cI a_o_nearOf 360 g4, aI cI a_o_fromOf 360 g5, aI cI a_o_row 120 f_o_row] := hD
  refine lv_iconst (v := (0 : Int32)) hx hb dX6_judge_14 (by decide) ?_
  refine lv_istore_n (lv' := [(2, .int (0 : Int32)), (1, .int v_o_rowed), (0, .ref a_o)]) hx hb dX6_judge_15 rfl hl (by decide) rfl (fun ls hl => ?_)
  obtain ⟨z9, hE10, hR14, hz11⟩ := cz_y2 h
  have hX12 : ∀ (y15 : Int32) (y16 : Int32) (H : Heap) (locs : List Loc) (ls : Array Slot), z9 = Sum.inr (y15, y16) → va_P D vwCl [oX6 a_o a_o_refusals a_o_s a_o_image v_o_isImage a_o_tape a_o_read v_o_taped v_o_pos v_o_readWide v_o_readHigh a_o_innerOf a_o_whoseOf a_o_nearOf a_o_fromOf x1 a_o_pieceOf a_o_kept a_o_claimOf a_o_row y16, aI cI a_o_s 151 f_o_s, aI cI a_o_innerOf 120 g2, aI cI a_o_whoseOf 120 g3, aI cI a_o_nearOf 360 g4, aI cI a_o_fromOf 360 g5, aI cI a_o_row 120 f_o_row] H → va_D A [oX6 a_o a_o_refusals a_o_s a_o_image v_o_isImage a_o_tape a_o_read v_o_taped v_o_pos v_o_readWide v_o_readHigh a_o_innerOf a_o_whoseOf a_o_nearOf a_o_fromOf x1 a_o_pieceOf a_o_kept a_o_claimOf a_o_row y16, aI cI a_o_s 151 f_o_s, aI cI a_o_innerOf 120 g2, aI cI a_o_whoseOf 120 g3, aI cI a_o_nearOf 360 g4, aI cI a_o_fromOf 360 g5, aI cI a_o_row 120 f_o_row] → va_S A s.heap H locs → lv_has ls 3 [(0, .ref a_o), (1, .int v_o_rowed)] → W p l e (cz_rm 5 117) s m ag below meth c H locs 0 0 Q (F0 m 64 ls []) := by
    intro y15 y16 H locs ls h hP hD hS hl
    replace h := hz11 _ _ h
    refine lv_iload_n hx hb dX6_judge_64 rfl (lv_at hl 1 rfl) ?_
    refine lv_aload_n hx hb dX6_judge_65 rfl (lv_at hl 0 rfl) ?_
    obtain ⟨x17, hc18, h⟩ := cz_e1 h
    refine cz_callV (As := []) (rest := [.int v_o_rowed]) (is := [0, 1]) (isR := [2, 3, 4, 5, 6]) (rs := [aI cI a_o_innerOf 120 g2, aI cI a_o_whoseOf 120 g3, aI cI a_o_nearOf 360 g4, aI cI a_o_fromOf 360 g5, aI cI a_o_row 120 f_o_row]) (as := [a_o, a_o_s, a_o_innerOf, a_o_whoseOf, a_o_nearOf, a_o_fromOf, a_o_row]) (ws1 := [oX6 a_o a_o_refusals a_o_s a_o_image v_o_isImage a_o_tape a_o_read v_o_taped v_o_pos v_o_readWide v_o_readHigh a_o_innerOf a_o_whoseOf a_o_nearOf a_o_fromOf x1 a_o_pieceOf a_o_kept a_o_claimOf a_o_row y16, aI cI a_o_s 151 f_o_s, aI cI a_o_innerOf 120 g2, aI cI a_o_whoseOf 120 g3, aI cI a_o_nearOf 360 g4, aI cI a_o_fromOf 360 g5, aI cI a_o_row 120 f_o_row]) (q0 := 0) (ci := 6) ⟨hx, hb, hml, hown, hts⟩ (c_X6_many l D cI a_o a_o_s a_o_refusals a_o_image a_o_tape a_o_read a_o_innerOf a_o_whoseOf a_o_nearOf a_o_fromOf a_o_pieceOf a_o_kept a_o_claimOf a_o_row v_o_isImage v_o_taped v_o_pos v_o_readWide v_o_readHigh x1 y16 f_o_s  n x17 hc18) mw_4_27 mw_4_29 mw_p_12 mw_1_8 mw_4_30 hd_X6_many ⟨Nat.le_of_ble_eq_true rfl, Nat.le_of_ble_eq_true rfl⟩ hK hN hP hD hS rfl rfl rfl rfl rfl rfl rfl rfl rfl rfl rfl rfl hl.1 rfl (Nat.le_of_ble_eq_true rfl) dX6_judge_66 ⟨Nat.le_of_ble_eq_true rfl, Nat.le_of_ble_eq_true rfl⟩ (fun H locs hP hD hS => ?_)
    refine W.eq (g2 := F0 m 69 ls [.int x17, .int v_o_rowed]) rfl ?_
    refine lv_icmp_le (tgt := 78) hx hb dX6_judge_69 (by decide) (fun c19 => ?_) (fun c19 => ?_)
    · replace h := cz_t c19 h
      refine lv_bipush (v := (-9 : Int32)) hx hb dX6_judge_78 (by decide) ?_
      obtain ⟨rfl, rfl, rfl, rfl, rfl, rfl, rfl⟩ := cz_j7 (cz_i h)
      exact hQ _ _ _ _ hP hS dX6_judge_80
    · replace h := cz_f c19 h
      refine lv_sipush (v := (9999 : Int32)) hx hb dX6_judge_72 (by decide) ?_
      refine lv_goto (tgt := 80) hx hb dX6_judge_75 (by decide) ?_
      obtain ⟨rfl, rfl, rfl, rfl, rfl, rfl, rfl⟩ := cz_j7 (cz_i h)
      exact hQ _ _ _ _ hP hS dX6_judge_80
  clear h
  have hL13 : ∀ (k : Nat) (x7 : Int32) (x8 : Int32) (H : Heap) (locs : List Loc) (ls : Array Slot), f_X6_judge_L16 n x1 f_o_s g2 g3 g4 g5 f_o_row v_o_rowed k x7 x8 = some z9 → va_P D vwCl [oX6 a_o a_o_refusals a_o_s a_o_image v_o_isImage a_o_tape a_o_read v_o_taped v_o_pos v_o_readWide v_o_readHigh a_o_innerOf a_o_whoseOf a_o_nearOf a_o_fromOf x1 a_o_pieceOf a_o_kept a_o_claimOf a_o_row x8, aI cI a_o_s 151 f_o_s, aI cI a_o_innerOf 120 g2, aI cI a_o_whoseOf 120 g3, aI cI a_o_nearOf 360 g4, aI cI a_o_fromOf 360 g5, aI cI a_o_row 120 f_o_row] H → va_D A [oX6 a_o a_o_refusals a_o_s a_o_image v_o_isImage a_o_tape a_o_read v_o_taped v_o_pos v_o_readWide v_o_readHigh a_o_innerOf a_o_whoseOf a_o_nearOf a_o_fromOf x1 a_o_pieceOf a_o_kept a_o_claimOf a_o_row x8, aI cI a_o_s 151 f_o_s, aI cI a_o_innerOf 120 g2, aI cI a_o_whoseOf 120 g3, aI cI a_o_nearOf 360 g4, aI cI a_o_fromOf 360 g5, aI cI a_o_row 120 f_o_row] → va_S A s.heap H locs → lv_has ls 3 [(0, .ref a_o), (1, .int v_o_rowed), (2, .int x7)] → W p l e (cz_rm 5 117) s m ag below meth c H locs 0 0 Q (F0 m 16 ls []) := by
    intro k
    induction k with
    | zero =>
      intro x7 x8 H locs ls h
      rw [f_X6_judge_L16] at h
      cases h
    | succ k ih20 =>
      intro x7 x8 H locs ls h hP hD hS hl
      rw [f_X6_judge_L16] at h
      refine lv_iload_n hx hb dX6_judge_16 rfl (lv_at hl 2 rfl) ?_
      refine lv_aload_n hx hb dX6_judge_17 rfl (lv_at hl 0 rfl) ?_
      obtain ⟨x21, hc22, h⟩ := cz_e1 h
      refine cz_callV (As := []) (rest := [.int x7]) (is := [0, 1]) (isR := [2, 3, 4, 5, 6]) (rs := [aI cI a_o_innerOf 120 g2, aI cI a_o_whoseOf 120 g3, aI cI a_o_nearOf 360 g4, aI cI a_o_fromOf 360 g5, aI cI a_o_row 120 f_o_row]) (as := [a_o, a_o_s, a_o_innerOf, a_o_whoseOf, a_o_nearOf, a_o_fromOf, a_o_row]) (ws1 := [oX6 a_o a_o_refusals a_o_s a_o_image v_o_isImage a_o_tape a_o_read v_o_taped v_o_pos v_o_readWide v_o_readHigh a_o_innerOf a_o_whoseOf a_o_nearOf a_o_fromOf x1 a_o_pieceOf a_o_kept a_o_claimOf a_o_row x8, aI cI a_o_s 151 f_o_s, aI cI a_o_innerOf 120 g2, aI cI a_o_whoseOf 120 g3, aI cI a_o_nearOf 360 g4, aI cI a_o_fromOf 360 g5, aI cI a_o_row 120 f_o_row]) (q0 := 0) (ci := 6) ⟨hx, hb, hml, hown, hts⟩ (c_X6_many l D cI a_o a_o_s a_o_refusals a_o_image a_o_tape a_o_read a_o_innerOf a_o_whoseOf a_o_nearOf a_o_fromOf a_o_pieceOf a_o_kept a_o_claimOf a_o_row v_o_isImage v_o_taped v_o_pos v_o_readWide v_o_readHigh x1 x8 f_o_s  n x21 hc22) mw_4_27 mw_4_29 mw_p_12 mw_1_8 mw_4_30 hd_X6_many ⟨Nat.le_of_ble_eq_true rfl, Nat.le_of_ble_eq_true rfl⟩ hK hN hP hD hS rfl rfl rfl rfl rfl rfl rfl rfl rfl rfl rfl rfl hl.1 rfl (Nat.le_of_ble_eq_true rfl) dX6_judge_18 ⟨Nat.le_of_ble_eq_true rfl, Nat.le_of_ble_eq_true rfl⟩ (fun H locs hP hD hS => ?_)
      refine W.eq (g2 := F0 m 21 ls [.int x21, .int x7]) rfl ?_
      refine lv_icmp_ge (tgt := 64) hx hb dX6_judge_21 (by decide) (fun c23 => ?_) (fun c23 => ?_)
      · replace h := cz_t c23 h
        exact hX12 _ _ _ _ _ (cz_i h).symm hP hD hS (lv_sub hl [0, 1] rfl)
      · replace h := cz_f c23 h
        refine lv_iload_n hx hb dX6_judge_24 rfl (lv_at hl 2 rfl) ?_
        refine lv_iload_n hx hb dX6_judge_25 rfl (lv_at hl 1 rfl) ?_
        refine lv_icmp_ge (tgt := 52) hx hb dX6_judge_26 (by decide) (fun c24 => ?_) (fun c24 => ?_)
        · replace h := cz_t c24 h
          refine lv_aload_n hx hb dX6_judge_52 rfl (lv_at hl 0 rfl) ?_
          refine lv_iload_n hx hb dX6_judge_53 rfl (lv_at hl 2 rfl) ?_
          obtain ⟨x25, hc26, h⟩ := cz_e1 h
          refine cz_callV (As := [.int x7]) (rest := []) (is := [0, 1]) (isR := [2, 3, 4, 5, 6]) (rs := [aI cI a_o_innerOf 120 g2, aI cI a_o_whoseOf 120 g3, aI cI a_o_nearOf 360 g4, aI cI a_o_fromOf 360 g5, aI cI a_o_row 120 f_o_row]) (as := [a_o, a_o_s, a_o_innerOf, a_o_whoseOf, a_o_nearOf, a_o_fromOf, a_o_row]) (ws1 := [oX6 a_o a_o_refusals a_o_s a_o_image v_o_isImage a_o_tape a_o_read v_o_taped v_o_pos v_o_readWide v_o_readHigh a_o_innerOf a_o_whoseOf a_o_nearOf a_o_fromOf x1 a_o_pieceOf a_o_kept a_o_claimOf a_o_row x8, aI cI a_o_s 151 f_o_s, aI cI a_o_innerOf 120 g2, aI cI a_o_whoseOf 120 g3, aI cI a_o_nearOf 360 g4, aI cI a_o_fromOf 360 g5, aI cI a_o_row 120 f_o_row]) (q0 := 0) (ci := 6) ⟨hx, hb, hml, hown, hts⟩ (c_X6_told l D cI a_o a_o_s a_o_refusals a_o_image a_o_tape a_o_read a_o_innerOf a_o_whoseOf a_o_nearOf a_o_fromOf a_o_pieceOf a_o_kept a_o_claimOf a_o_row v_o_isImage v_o_taped v_o_pos v_o_readWide v_o_readHigh x1 x8 f_o_s x7 n x25 hc26) mw_4_104 mw_4_106 mw_p_23 mw_1_8 mw_4_107 hd_X6_told ⟨Nat.le_of_ble_eq_true rfl, Nat.le_of_ble_eq_true rfl⟩ hK hN hP hD hS rfl rfl rfl rfl rfl rfl rfl rfl rfl rfl rfl rfl hl.1 rfl (Nat.le_of_ble_eq_true rfl) dX6_judge_54 ⟨Nat.le_of_ble_eq_true rfl, Nat.le_of_ble_eq_true rfl⟩ (fun H locs hP hD hS => ?_)
          refine W.eq (g2 := F0 m 57 ls [.int x25]) rfl ?_
          replace h := hR14 _ (cz_i h).symm
          obtain ⟨rfl, rfl, rfl, rfl, rfl, rfl, rfl⟩ := cz_j7 (cz_i h)
          exact hQ _ _ _ _ hP hS dX6_judge_57
        · replace h := cz_f c24 h
          refine lv_aload_n hx hb dX6_judge_29 rfl (lv_at hl 0 rfl) ?_
          refine lv_iload_n hx hb dX6_judge_30 rfl (lv_at hl 2 rfl) ?_
          obtain ⟨x27, hc28, h⟩ := cz_e1 h
          refine cz_callV (As := [.int x7]) (rest := []) (is := [0, 1]) (isR := [2, 3, 4, 5, 6]) (rs := [aI cI a_o_innerOf 120 g2, aI cI a_o_whoseOf 120 g3, aI cI a_o_nearOf 360 g4, aI cI a_o_fromOf 360 g5, aI cI a_o_row 120 f_o_row]) (as := [a_o, a_o_s, a_o_innerOf, a_o_whoseOf, a_o_nearOf, a_o_fromOf, a_o_row]) (ws1 := [oX6 a_o a_o_refusals a_o_s a_o_image v_o_isImage a_o_tape a_o_read v_o_taped v_o_pos v_o_readWide v_o_readHigh a_o_innerOf a_o_whoseOf a_o_nearOf a_o_fromOf x1 a_o_pieceOf a_o_kept a_o_claimOf a_o_row x8, aI cI a_o_s 151 f_o_s, aI cI a_o_innerOf 120 g2, aI cI a_o_whoseOf 120 g3, aI cI a_o_nearOf 360 g4, aI cI a_o_fromOf 360 g5, aI cI a_o_row 120 f_o_row]) (q0 := 0) (ci := 6) ⟨hx, hb, hml, hown, hts⟩ (c_X6_at l D cI a_o a_o_s a_o_refusals a_o_image a_o_tape a_o_read a_o_innerOf a_o_whoseOf a_o_nearOf a_o_fromOf a_o_pieceOf a_o_kept a_o_claimOf a_o_row v_o_isImage v_o_taped v_o_pos v_o_readWide v_o_readHigh x1 x8 f_o_s x7 n x27 hc28) mw_4_43 mw_4_45 mw_p_15 mw_1_8 mw_4_46 hd_X6_at ⟨Nat.le_of_ble_eq_true rfl, Nat.le_of_ble_eq_true rfl⟩ hK hN hP hD hS rfl rfl rfl rfl rfl rfl rfl rfl rfl rfl rfl rfl hl.1 rfl (Nat.le_of_ble_eq_true rfl) dX6_judge_31 ⟨Nat.le_of_ble_eq_true rfl, Nat.le_of_ble_eq_true rfl⟩ (fun H locs hP hD hS => ?_)
          refine W.eq (g2 := F0 m 34 ls [.int x27]) rfl ?_
          refine lv_if_ne (tgt := 58) hx hb dX6_judge_34 (by decide) (fun c29 => ?_) (fun c29 => ?_)
          · replace h := cz_f c29 h
            obtain ⟨x30, ex30⟩ : ∃ z : Int32, z = x7 + (1 : Int32) := ⟨_, rfl⟩
            replace h := cz_ltE ex30 h
            refine lv_iinc (v := x30) (lv' := [(2, .int x30), (0, .ref a_o), (1, .int v_o_rowed)]) hx hb dX6_judge_58 hl (k := 2) rfl (by rw [ex30]; rfl) (by decide) rfl (fun ls hl => ?_)
            refine lv_goto (tgt := 16) hx hb dX6_judge_61 (by decide) ?_
            exact ih20 _ _ _ _ _ h hP hD hS (lv_sub hl [1, 2, 0] rfl)
          · replace h := cz_t c29 h
            refine lv_aload_n hx hb dX6_judge_37 rfl (lv_at hl 0 rfl) ?_
            refine va_get (D := D) (ci := 6) (v := .ref a_o_row) (C := RX6) (T := TX6) (N := 20) hx hb hts in_X6 hown hK hP 0 rfl rfl 18 (by decide) (hts _ mw_3_204) (fun _ h9 => h9) rfl dX6_judge_38 ?_
            refine lv_iload_n hx hb dX6_judge_41 rfl (lv_at hl 2 rfl) ?_
            refine cz_iald hx hb hK hP 6 0 rfl rfl (cz_rdE h).1 dX6_judge_42 (fun x31 ex31 => ?_)
            replace h := cz_rdK ex31 h
            refine lv_aload_n hx hb dX6_judge_43 rfl (lv_at hl 0 rfl) ?_
            refine va_get (D := D) (ci := 6) (v := .ref a_o_whoseOf) (C := RX6) (T := TX6) (N := 20) hx hb hts in_X6 hown hK hP 0 rfl rfl 11 (by decide) (hts _ mw_3_197) (fun _ h9 => h9) rfl dX6_judge_44 ?_
            refine lv_iload_n hx hb dX6_judge_47 rfl (lv_at hl 2 rfl) ?_
            refine cz_iald hx hb hK hP 3 0 rfl rfl (cz_rdE h).1 dX6_judge_48 (fun x32 ex32 => ?_)
            replace h := cz_rdK ex32 h
            refine lv_icmp_eq (tgt := 58) hx hb dX6_judge_49 (by decide) (fun c33 => ?_) (fun c33 => ?_)
            · replace h := cz_t c33 h
              obtain ⟨x34, ex34⟩ : ∃ z : Int32, z = x7 + (1 : Int32) := ⟨_, rfl⟩
              replace h := cz_ltE ex34 h
              refine lv_iinc (v := x34) (lv' := [(2, .int x34), (0, .ref a_o), (1, .int v_o_rowed)]) hx hb dX6_judge_58 hl (k := 2) rfl (by rw [ex34]; rfl) (by decide) rfl (fun ls hl => ?_)
              refine lv_goto (tgt := 16) hx hb dX6_judge_61 (by decide) ?_
              exact ih20 _ _ _ _ _ h hP hD hS (lv_sub hl [1, 2, 0] rfl)
            · replace h := cz_f c33 h
              refine lv_aload_n hx hb dX6_judge_52 rfl (lv_at hl 0 rfl) ?_
              refine lv_iload_n hx hb dX6_judge_53 rfl (lv_at hl 2 rfl) ?_
              obtain ⟨x35, hc36, h⟩ := cz_e1 h
              refine cz_callV (As := [.int x7]) (rest := []) (is := [0, 1]) (isR := [2, 3, 4, 5, 6]) (rs := [aI cI a_o_innerOf 120 g2, aI cI a_o_whoseOf 120 g3, aI cI a_o_nearOf 360 g4, aI cI a_o_fromOf 360 g5, aI cI a_o_row 120 f_o_row]) (as := [a_o, a_o_s, a_o_innerOf, a_o_whoseOf, a_o_nearOf, a_o_fromOf, a_o_row]) (ws1 := [oX6 a_o a_o_refusals a_o_s a_o_image v_o_isImage a_o_tape a_o_read v_o_taped v_o_pos v_o_readWide v_o_readHigh a_o_innerOf a_o_whoseOf a_o_nearOf a_o_fromOf x1 a_o_pieceOf a_o_kept a_o_claimOf a_o_row x8, aI cI a_o_s 151 f_o_s, aI cI a_o_innerOf 120 g2, aI cI a_o_whoseOf 120 g3, aI cI a_o_nearOf 360 g4, aI cI a_o_fromOf 360 g5, aI cI a_o_row 120 f_o_row]) (q0 := 0) (ci := 6) ⟨hx, hb, hml, hown, hts⟩ (c_X6_told l D cI a_o a_o_s a_o_refusals a_o_image a_o_tape a_o_read a_o_innerOf a_o_whoseOf a_o_nearOf a_o_fromOf a_o_pieceOf a_o_kept a_o_claimOf a_o_row v_o_isImage v_o_taped v_o_pos v_o_readWide v_o_readHigh x1 x8 f_o_s x7 n x35 hc36) mw_4_104 mw_4_106 mw_p_23 mw_1_8 mw_4_107 hd_X6_told ⟨Nat.le_of_ble_eq_true rfl, Nat.le_of_ble_eq_true rfl⟩ hK hN hP hD hS rfl rfl rfl rfl rfl rfl rfl rfl rfl rfl rfl rfl hl.1 rfl (Nat.le_of_ble_eq_true rfl) dX6_judge_54 ⟨Nat.le_of_ble_eq_true rfl, Nat.le_of_ble_eq_true rfl⟩ (fun H locs hP hD hS => ?_)
              refine W.eq (g2 := F0 m 57 ls [.int x35]) rfl ?_
              replace h := hR14 _ (cz_i h).symm
              obtain ⟨rfl, rfl, rfl, rfl, rfl, rfl, rfl⟩ := cz_j7 (cz_i h)
              exact hQ _ _ _ _ hP hS dX6_judge_57
  exact hL13 n _ _ _ _ _ hE10 hP hD hS (lv_sub hl [2, 1, 0] rfl)
