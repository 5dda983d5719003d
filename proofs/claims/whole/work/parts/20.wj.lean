set_option maxHeartbeats 4000000 in
set_option maxRecDepth 100000 in
theorem c_X6_innerBy (l : Launch) (D : va_G) (cI : ClassId) (a_o a_o_s a_o_refusals a_o_image a_o_tape a_o_read a_o_innerOf a_o_whoseOf a_o_nearOf a_o_fromOf a_o_pieceOf a_o_kept a_o_claimOf a_o_row : Nat) (v_o_isImage : Int32) (v_o_taped : Int32) (v_o_pos : Int32) (v_o_readWide : Int32) (v_o_readHigh : Int32) (v_o_thirds : Int32) (v_o_rowed : Int32) (f_o_s : (Nat → Int32)) (w1 : Int32) (n : Nat) (r : Int32) (h : f_X6_innerBy n f_o_s w1 = some r) : cz_M l yX6_innerBy cX6_innerBy 3 (some .int) 3 73 D cI [.ref a_o, .int w1] [oX6 a_o a_o_refusals a_o_s a_o_image v_o_isImage a_o_tape a_o_read v_o_taped v_o_pos v_o_readWide v_o_readHigh a_o_innerOf a_o_whoseOf a_o_nearOf a_o_fromOf v_o_thirds a_o_pieceOf a_o_kept a_o_claimOf a_o_row v_o_rowed, aI cI a_o_s 151 f_o_s] (some (.int r)) [oX6 a_o a_o_refusals a_o_s a_o_image v_o_isImage a_o_tape a_o_read v_o_taped v_o_pos v_o_readWide v_o_readHigh a_o_innerOf a_o_whoseOf a_o_nearOf a_o_fromOf v_o_thirds a_o_pieceOf a_o_kept a_o_claimOf a_o_row v_o_rowed, aI cI a_o_s 151 f_o_s] := by
  refine cz_startI (by decide) (Nat.le_of_ble_eq_true rfl) ?_
  intro p e s m ag below meth c A Q hx hb hml hown hts hK hN hQ H locs hP hD hS ls hl
  replace hown : s.vm.findClass RX6 = some m.cls := hown
  replace hl : lv_has ls 3 [(0, .ref a_o), (1, .int w1)] := hl
  unfold f_X6_innerBy at h
  refine lv_iconst (v := (0 : Int32)) hx hb dX6_innerBy_0 (by decide) ?_
  refine lv_istore_n (lv' := [(2, .int (0 : Int32)), (0, .ref a_o), (1, .int w1)]) hx hb dX6_innerBy_1 rfl hl (by decide) rfl (fun ls hl => ?_)
  obtain ⟨z2, hE3, hR7, hz4⟩ := cz_y1 h
  have hX5 : ∀ (y8 : Int32) (H : Heap) (locs : List Loc) (ls : Array Slot), z2 = Sum.inr y8 → va_P D vwCl [oX6 a_o a_o_refusals a_o_s a_o_image v_o_isImage a_o_tape a_o_read v_o_taped v_o_pos v_o_readWide v_o_readHigh a_o_innerOf a_o_whoseOf a_o_nearOf a_o_fromOf v_o_thirds a_o_pieceOf a_o_kept a_o_claimOf a_o_row v_o_rowed, aI cI a_o_s 151 f_o_s] H → va_D A [oX6 a_o a_o_refusals a_o_s a_o_image v_o_isImage a_o_tape a_o_read v_o_taped v_o_pos v_o_readWide v_o_readHigh a_o_innerOf a_o_whoseOf a_o_nearOf a_o_fromOf v_o_thirds a_o_pieceOf a_o_kept a_o_claimOf a_o_row v_o_rowed, aI cI a_o_s 151 f_o_s] → va_S A s.heap H locs → lv_has ls 3 [] → W p l e (cz_rm 3 73) s m ag below meth c H locs 0 0 Q (F0 m 45 ls []) := by
    intro y8 H locs ls h hP hD hS hl
    replace h := hz4 _ h
    refine lv_bipush (v := (-9 : Int32)) hx hb dX6_innerBy_45 (by decide) ?_
    obtain rfl := cz_i h
    exact hQ _ _ _ _ hP hS dX6_innerBy_47
  clear h
  have hL6 : ∀ (k : Nat) (x1 : Int32) (H : Heap) (locs : List Loc) (ls : Array Slot), f_X6_innerBy_L2 n f_o_s w1 k x1 = some z2 → va_P D vwCl [oX6 a_o a_o_refusals a_o_s a_o_image v_o_isImage a_o_tape a_o_read v_o_taped v_o_pos v_o_readWide v_o_readHigh a_o_innerOf a_o_whoseOf a_o_nearOf a_o_fromOf v_o_thirds a_o_pieceOf a_o_kept a_o_claimOf a_o_row v_o_rowed, aI cI a_o_s 151 f_o_s] H → va_D A [oX6 a_o a_o_refusals a_o_s a_o_image v_o_isImage a_o_tape a_o_read v_o_taped v_o_pos v_o_readWide v_o_readHigh a_o_innerOf a_o_whoseOf a_o_nearOf a_o_fromOf v_o_thirds a_o_pieceOf a_o_kept a_o_claimOf a_o_row v_o_rowed, aI cI a_o_s 151 f_o_s] → va_S A s.heap H locs → lv_has ls 3 [(0, .ref a_o), (1, .int w1), (2, .int x1)] → W p l e (cz_rm 3 73) s m ag below meth c H locs 0 0 Q (F0 m 2 ls []) := by
    intro k
    induction k with
    | zero =>
      intro x1 H locs ls h
      rw [f_X6_innerBy_L2] at h
      cases h
    | succ k ih9 =>
      intro x1 H locs ls h hP hD hS hl
      rw [f_X6_innerBy_L2] at h
      refine lv_iload_n hx hb dX6_innerBy_2 rfl (lv_at hl 2 rfl) ?_
      refine lv_iconst (v := (3 : Int32)) hx hb dX6_innerBy_3 (by decide) ?_
      refine lv_icmp_ge (tgt := 45) hx hb dX6_innerBy_4 (by decide) (fun c10 => ?_) (fun c10 => ?_)
      · replace h := cz_t c10 h
        exact hX5 _ _ _ _ (cz_i h).symm hP hD hS (lv_sub hl [] rfl)
      · replace h := cz_f c10 h
        refine lv_aload_n hx hb dX6_innerBy_7 rfl (lv_at hl 0 rfl) ?_
        refine lv_iload_n hx hb dX6_innerBy_8 rfl (lv_at hl 1 rfl) ?_
        obtain ⟨x11, hc12, h⟩ := cz_e1 h
        refine cz_callV (As := [.int w1]) (rest := []) (is := [0, 1]) (isR := []) (rs := []) (as := [a_o, a_o_s]) (ws1 := [oX6 a_o a_o_refusals a_o_s a_o_image v_o_isImage a_o_tape a_o_read v_o_taped v_o_pos v_o_readWide v_o_readHigh a_o_innerOf a_o_whoseOf a_o_nearOf a_o_fromOf v_o_thirds a_o_pieceOf a_o_kept a_o_claimOf a_o_row v_o_rowed, aI cI a_o_s 151 f_o_s]) (q0 := 0) (ci := 6) ⟨hx, hb, hml, hown, hts⟩ (c_X6_at l D cI a_o a_o_s a_o_refusals a_o_image a_o_tape a_o_read a_o_innerOf a_o_whoseOf a_o_nearOf a_o_fromOf a_o_pieceOf a_o_kept a_o_claimOf a_o_row v_o_isImage v_o_taped v_o_pos v_o_readWide v_o_readHigh v_o_thirds v_o_rowed f_o_s w1 n x11 hc12) mw_4_43 mw_4_45 mw_p_15 mw_1_8 mw_4_46 hd_X6_at ⟨Nat.le_of_ble_eq_true rfl, Nat.le_of_ble_eq_true rfl⟩ hK hN hP hD hS rfl rfl rfl rfl rfl rfl rfl rfl rfl rfl rfl rfl hl.1 rfl (Nat.le_of_ble_eq_true rfl) dX6_innerBy_9 ⟨Nat.le_of_ble_eq_true rfl, Nat.le_of_ble_eq_true rfl⟩ (fun H locs hP hD hS => ?_)
        refine W.eq (g2 := F0 m 12 ls [.int x11]) rfl ?_
        refine lv_if_ne (tgt := 45) hx hb dX6_innerBy_12 (by decide) (fun c13 => ?_) (fun c13 => ?_)
        · replace h := cz_f c13 h
          exact hX5 _ _ _ _ (cz_i h).symm hP hD hS (lv_sub hl [] rfl)
        · replace h := cz_t c13 h
          refine lv_aload_n hx hb dX6_innerBy_15 rfl (lv_at hl 0 rfl) ?_
          refine lv_iload_n hx hb dX6_innerBy_16 rfl (lv_at hl 1 rfl) ?_
          refine lv_iconst (v := (1 : Int32)) hx hb dX6_innerBy_17 (by decide) ?_
          refine lv_iconst (v := (0 : Int32)) hx hb dX6_innerBy_18 (by decide) ?_
          refine lv_iload_n hx hb dX6_innerBy_19 rfl (lv_at hl 2 rfl) ?_
          obtain ⟨x14, hc15, h⟩ := cz_e1 h
          refine cz_callV (As := [.int w1, .int (1 : Int32), .int (0 : Int32), .int x1]) (rest := []) (is := [0, 1]) (isR := []) (rs := []) (as := [a_o, a_o_s]) (ws1 := [oX6 a_o a_o_refusals a_o_s a_o_image v_o_isImage a_o_tape a_o_read v_o_taped v_o_pos v_o_readWide v_o_readHigh a_o_innerOf a_o_whoseOf a_o_nearOf a_o_fromOf v_o_thirds a_o_pieceOf a_o_kept a_o_claimOf a_o_row v_o_rowed, aI cI a_o_s 151 f_o_s]) (q0 := 0) (ci := 6) ⟨hx, hb, hml, hown, hts⟩ (c_X6_isClosed l D cI a_o a_o_s a_o_refusals a_o_image a_o_tape a_o_read a_o_innerOf a_o_whoseOf a_o_nearOf a_o_fromOf a_o_pieceOf a_o_kept a_o_claimOf a_o_row v_o_isImage v_o_taped v_o_pos v_o_readWide v_o_readHigh v_o_thirds v_o_rowed f_o_s w1 (1 : Int32) (0 : Int32) x1 n x14 hc15) mw_4_76 mw_4_78 mw_p_18 mw_1_8 mw_4_79 hd_X6_isClosed ⟨Nat.le_of_ble_eq_true rfl, Nat.le_of_ble_eq_true rfl⟩ hK hN hP hD hS rfl rfl rfl rfl rfl rfl rfl rfl rfl rfl rfl rfl hl.1 rfl (Nat.le_of_ble_eq_true rfl) dX6_innerBy_20 ⟨Nat.le_of_ble_eq_true rfl, Nat.le_of_ble_eq_true rfl⟩ (fun H locs hP hD hS => ?_)
          refine W.eq (g2 := F0 m 23 ls [.int x14]) rfl ?_
          refine lv_if_ne (tgt := 37) hx hb dX6_innerBy_23 (by decide) (fun c16 => ?_) (fun c16 => ?_)
          · replace h := cz_f c16 h
            refine lv_iload_n hx hb dX6_innerBy_37 rfl (lv_at hl 2 rfl) ?_
            replace h := hR7 _ (cz_i h).symm
            obtain rfl := cz_i h
            exact hQ _ _ _ _ hP hS dX6_innerBy_38
          · replace h := cz_t c16 h
            refine lv_aload_n hx hb dX6_innerBy_26 rfl (lv_at hl 0 rfl) ?_
            refine lv_iload_n hx hb dX6_innerBy_27 rfl (lv_at hl 1 rfl) ?_
            refine lv_iconst (v := (0 : Int32)) hx hb dX6_innerBy_28 (by decide) ?_
            refine lv_iconst (v := (1 : Int32)) hx hb dX6_innerBy_29 (by decide) ?_
            refine lv_iload_n hx hb dX6_innerBy_30 rfl (lv_at hl 2 rfl) ?_
            obtain ⟨x17, hc18, h⟩ := cz_e1 h
            refine cz_callV (As := [.int w1, .int (0 : Int32), .int (1 : Int32), .int x1]) (rest := []) (is := [0, 1]) (isR := []) (rs := []) (as := [a_o, a_o_s]) (ws1 := [oX6 a_o a_o_refusals a_o_s a_o_image v_o_isImage a_o_tape a_o_read v_o_taped v_o_pos v_o_readWide v_o_readHigh a_o_innerOf a_o_whoseOf a_o_nearOf a_o_fromOf v_o_thirds a_o_pieceOf a_o_kept a_o_claimOf a_o_row v_o_rowed, aI cI a_o_s 151 f_o_s]) (q0 := 0) (ci := 6) ⟨hx, hb, hml, hown, hts⟩ (c_X6_isClosed l D cI a_o a_o_s a_o_refusals a_o_image a_o_tape a_o_read a_o_innerOf a_o_whoseOf a_o_nearOf a_o_fromOf a_o_pieceOf a_o_kept a_o_claimOf a_o_row v_o_isImage v_o_taped v_o_pos v_o_readWide v_o_readHigh v_o_thirds v_o_rowed f_o_s w1 (0 : Int32) (1 : Int32) x1 n x17 hc18) mw_4_76 mw_4_78 mw_p_18 mw_1_8 mw_4_79 hd_X6_isClosed ⟨Nat.le_of_ble_eq_true rfl, Nat.le_of_ble_eq_true rfl⟩ hK hN hP hD hS rfl rfl rfl rfl rfl rfl rfl rfl rfl rfl rfl rfl hl.1 rfl (Nat.le_of_ble_eq_true rfl) dX6_innerBy_31 ⟨Nat.le_of_ble_eq_true rfl, Nat.le_of_ble_eq_true rfl⟩ (fun H locs hP hD hS => ?_)
            refine W.eq (g2 := F0 m 34 ls [.int x17]) rfl ?_
            refine lv_if_eq (tgt := 39) hx hb dX6_innerBy_34 (by decide) (fun c19 => ?_) (fun c19 => ?_)
            · replace h := cz_t c19 h
              obtain ⟨x20, ex20⟩ : ∃ z : Int32, z = x1 + (1 : Int32) := ⟨_, rfl⟩
              replace h := cz_ltE ex20 h
              refine lv_iinc (v := x20) (lv' := [(2, .int x20), (0, .ref a_o), (1, .int w1)]) hx hb dX6_innerBy_39 hl (k := 2) rfl (by rw [ex20]; rfl) (by decide) rfl (fun ls hl => ?_)
              refine lv_goto (tgt := 2) hx hb dX6_innerBy_42 (by decide) ?_
              exact ih9 _ _ _ _ h hP hD hS (lv_sub hl [1, 2, 0] rfl)
            · replace h := cz_f c19 h
              refine lv_iload_n hx hb dX6_innerBy_37 rfl (lv_at hl 2 rfl) ?_
              replace h := hR7 _ (cz_i h).symm
              obtain rfl := cz_i h
              exact hQ _ _ _ _ hP hS dX6_innerBy_38
  exact hL6 n _ _ _ _ hE3 hP hD hS (lv_sub hl [1, 2, 0] rfl)
set_option maxHeartbeats 4000000 in
set_option maxRecDepth 100000 in
theorem c_X6_countOf (l : Launch) (D : va_G) (cI : ClassId) (a_o a_o_s a_o_innerOf a_o_refusals a_o_image a_o_tape a_o_read a_o_whoseOf a_o_nearOf a_o_fromOf a_o_pieceOf a_o_kept a_o_claimOf a_o_row : Nat) (v_o_isImage : Int32) (v_o_taped : Int32) (v_o_pos : Int32) (v_o_readWide : Int32) (v_o_readHigh : Int32) (v_o_thirds : Int32) (v_o_rowed : Int32) (f_o_s : (Nat → Int32)) (f_o_innerOf : (Nat → Int32)) (w1 : Int32) (w2 : Int32) (n : Nat) (r : Int32) (h : f_X6_countOf n f_o_s f_o_innerOf w1 w2 = some r) : cz_M l yX6_countOf cX6_countOf 3 (some .int) 1 21 D cI [.ref a_o, .int w1, .int w2] [oX6 a_o a_o_refusals a_o_s a_o_image v_o_isImage a_o_tape a_o_read v_o_taped v_o_pos v_o_readWide v_o_readHigh a_o_innerOf a_o_whoseOf a_o_nearOf a_o_fromOf v_o_thirds a_o_pieceOf a_o_kept a_o_claimOf a_o_row v_o_rowed, aI cI a_o_s 151 f_o_s, aI cI a_o_innerOf 120 f_o_innerOf] (some (.int r)) [oX6 a_o a_o_refusals a_o_s a_o_image v_o_isImage a_o_tape a_o_read v_o_taped v_o_pos v_o_readWide v_o_readHigh a_o_innerOf a_o_whoseOf a_o_nearOf a_o_fromOf v_o_thirds a_o_pieceOf a_o_kept a_o_claimOf a_o_row v_o_rowed, aI cI a_o_s 151 f_o_s, aI cI a_o_innerOf 120 f_o_innerOf] := by
  refine cz_startI (by decide) (Nat.le_of_ble_eq_true rfl) ?_
  intro p e s m ag below meth c A Q hx hb hml hown hts hK hN hQ H locs hP hD hS ls hl
  replace hown : s.vm.findClass RX6 = some m.cls := hown
  replace hl : lv_has ls 3 [(0, .ref a_o), (1, .int w1), (2, .int w2)] := hl
  unfold f_X6_countOf at h
  refine lv_aload_n hx hb dX6_countOf_0 rfl (lv_at hl 0 rfl) ?_
  refine lv_iload_n hx hb dX6_countOf_1 rfl (lv_at hl 1 rfl) ?_
  obtain ⟨x1, hc2, h⟩ := cz_e1 h
  refine cz_callV (As := [.int w1]) (rest := []) (is := [0, 1]) (isR := [2]) (rs := [aI cI a_o_innerOf 120 f_o_innerOf]) (as := [a_o, a_o_s, a_o_innerOf]) (ws1 := [oX6 a_o a_o_refusals a_o_s a_o_image v_o_isImage a_o_tape a_o_read v_o_taped v_o_pos v_o_readWide v_o_readHigh a_o_innerOf a_o_whoseOf a_o_nearOf a_o_fromOf v_o_thirds a_o_pieceOf a_o_kept a_o_claimOf a_o_row v_o_rowed, aI cI a_o_s 151 f_o_s, aI cI a_o_innerOf 120 f_o_innerOf]) (q0 := 0) (ci := 6) ⟨hx, hb, hml, hown, hts⟩ (c_X6_at l D cI a_o a_o_s a_o_refusals a_o_image a_o_tape a_o_read a_o_innerOf a_o_whoseOf a_o_nearOf a_o_fromOf a_o_pieceOf a_o_kept a_o_claimOf a_o_row v_o_isImage v_o_taped v_o_pos v_o_readWide v_o_readHigh v_o_thirds v_o_rowed f_o_s w1 n x1 hc2) mw_4_43 mw_4_45 mw_p_15 mw_1_8 mw_4_46 hd_X6_at ⟨Nat.le_of_ble_eq_true rfl, Nat.le_of_ble_eq_true rfl⟩ hK hN hP hD hS rfl rfl rfl rfl rfl rfl rfl rfl rfl rfl rfl rfl hl.1 rfl (Nat.le_of_ble_eq_true rfl) dX6_countOf_2 ⟨Nat.le_of_ble_eq_true rfl, Nat.le_of_ble_eq_true rfl⟩ (fun H locs hP hD hS => ?_)
  refine W.eq (g2 := F0 m 5 ls [.int x1]) rfl ?_
  refine lv_iload_n hx hb dX6_countOf_5 rfl (lv_at hl 2 rfl) ?_
  refine lv_iconst (v := (1 : Int32)) hx hb dX6_countOf_6 (by decide) ?_
  refine lv_iadd hx hb dX6_countOf_7 ?_
  refine lv_icmp_eq (tgt := 21) hx hb dX6_countOf_8 (by decide) (fun c3 => ?_) (fun c3 => ?_)
  · replace h := cz_t c3 h
    refine lv_iconst (v := (1 : Int32)) hx hb dX6_countOf_21 (by decide) ?_
    obtain rfl := cz_i h
    exact hQ _ _ _ _ hP hS dX6_countOf_22
  · replace h := cz_f c3 h
    refine lv_aload_n hx hb dX6_countOf_11 rfl (lv_at hl 0 rfl) ?_
    refine va_get (D := D) (ci := 6) (v := .ref a_o_innerOf) (C := RX6) (T := TX6) (N := 20) hx hb hts in_X6 hown hK hP 0 rfl rfl 10 (by decide) (hts _ mw_3_196) (fun _ h9 => h9) rfl dX6_countOf_12 ?_
    refine lv_iload_n hx hb dX6_countOf_15 rfl (lv_at hl 1 rfl) ?_
    refine cz_iald hx hb hK hP 2 0 rfl rfl (cz_rdE h).1 dX6_countOf_16 (fun x4 ex4 => ?_)
    replace h := cz_rdK ex4 h
    refine lv_iload_n hx hb dX6_countOf_17 rfl (lv_at hl 2 rfl) ?_
    refine lv_icmp_ne (tgt := 23) hx hb dX6_countOf_18 (by decide) (fun c5 => ?_) (fun c5 => ?_)
    · replace h := cz_f c5 h
      refine lv_aload_n hx hb dX6_countOf_23 rfl (lv_at hl 0 rfl) ?_
      refine lv_iload_n hx hb dX6_countOf_24 rfl (lv_at hl 1 rfl) ?_
      obtain ⟨x6, hc7, h⟩ := cz_e1 h
      refine cz_callV (As := [.int w1]) (rest := []) (is := [0, 1]) (isR := [2]) (rs := [aI cI a_o_innerOf 120 f_o_innerOf]) (as := [a_o, a_o_s, a_o_innerOf]) (ws1 := [oX6 a_o a_o_refusals a_o_s a_o_image v_o_isImage a_o_tape a_o_read v_o_taped v_o_pos v_o_readWide v_o_readHigh a_o_innerOf a_o_whoseOf a_o_nearOf a_o_fromOf v_o_thirds a_o_pieceOf a_o_kept a_o_claimOf a_o_row v_o_rowed, aI cI a_o_s 151 f_o_s, aI cI a_o_innerOf 120 f_o_innerOf]) (q0 := 0) (ci := 6) ⟨hx, hb, hml, hown, hts⟩ (c_X6_at l D cI a_o a_o_s a_o_refusals a_o_image a_o_tape a_o_read a_o_innerOf a_o_whoseOf a_o_nearOf a_o_fromOf a_o_pieceOf a_o_kept a_o_claimOf a_o_row v_o_isImage v_o_taped v_o_pos v_o_readWide v_o_readHigh v_o_thirds v_o_rowed f_o_s w1 n x6 hc7) mw_4_43 mw_4_45 mw_p_15 mw_1_8 mw_4_46 hd_X6_at ⟨Nat.le_of_ble_eq_true rfl, Nat.le_of_ble_eq_true rfl⟩ hK hN hP hD hS rfl rfl rfl rfl rfl rfl rfl rfl rfl rfl rfl rfl hl.1 rfl (Nat.le_of_ble_eq_true rfl) dX6_countOf_25 ⟨Nat.le_of_ble_eq_true rfl, Nat.le_of_ble_eq_true rfl⟩ (fun H locs hP hD hS => ?_)
      refine W.eq (g2 := F0 m 28 ls [.int x6]) rfl ?_
      refine lv_iconst (v := (3 : Int32)) hx hb dX6_countOf_28 (by decide) ?_
      refine lv_iload_n hx hb dX6_countOf_29 rfl (lv_at hl 2 rfl) ?_
      refine lv_iadd hx hb dX6_countOf_30 ?_
      refine lv_iconst (v := (1 : Int32)) hx hb dX6_countOf_31 (by decide) ?_
      refine lv_iadd hx hb dX6_countOf_32 ?_
      refine lv_icmp_ne (tgt := 45) hx hb dX6_countOf_33 (by decide) (fun c8 => ?_) (fun c8 => ?_)
      · replace h := cz_f c8 h
        refine lv_iconst (v := (0 : Int32)) hx hb dX6_countOf_45 (by decide) ?_
        refine lv_goto (tgt := 64) hx hb dX6_countOf_46 (by decide) ?_
        obtain rfl := cz_i h
        exact hQ _ _ _ _ hP hS dX6_countOf_64
      · replace h := cz_t c8 h
        refine lv_aload_n hx hb dX6_countOf_36 rfl (lv_at hl 0 rfl) ?_
        refine va_get (D := D) (ci := 6) (v := .ref a_o_s) (C := RX6) (T := TX6) (N := 20) hx hb hts in_X6 hown hK hP 0 rfl rfl 1 (by decide) (hts _ mw_3_187) (fun _ h9 => h9) rfl dX6_countOf_37 ?_
        refine lv_iconst (v := (3 : Int32)) hx hb dX6_countOf_40 (by decide) ?_
        refine cz_iald hx hb hK hP 1 0 rfl rfl (cz_rdE h).1 dX6_countOf_41 (fun x9 ex9 => ?_)
        replace h := cz_rdK ex9 h
        refine lv_if_ne (tgt := 49) hx hb dX6_countOf_42 (by decide) (fun c10 => ?_) (fun c10 => ?_)
        · replace h := cz_f c10 h
          refine lv_aload_n hx hb dX6_countOf_49 rfl (lv_at hl 0 rfl) ?_
          refine va_get (D := D) (ci := 6) (v := .ref a_o_s) (C := RX6) (T := TX6) (N := 20) hx hb hts in_X6 hown hK hP 0 rfl rfl 1 (by decide) (hts _ mw_3_187) (fun _ h9 => h9) rfl dX6_countOf_50 ?_
          refine lv_iconst (v := (3 : Int32)) hx hb dX6_countOf_53 (by decide) ?_
          refine cz_iald hx hb hK hP 1 0 rfl rfl (cz_rdE h).1 dX6_countOf_54 (fun x11 ex11 => ?_)
          replace h := cz_rdK ex11 h
          refine lv_iconst (v := (1 : Int32)) hx hb dX6_countOf_55 (by decide) ?_
          refine lv_icmp_ne (tgt := 63) hx hb dX6_countOf_56 (by decide) (fun c12 => ?_) (fun c12 => ?_)
          · replace h := cz_f c12 h
            refine lv_iconst (v := (1 : Int32)) hx hb dX6_countOf_63 (by decide) ?_
            obtain rfl := cz_i h
            exact hQ _ _ _ _ hP hS dX6_countOf_64
          · replace h := cz_t c12 h
            refine lv_iconst (v := (4 : Int32)) hx hb dX6_countOf_59 (by decide) ?_
            refine lv_goto (tgt := 64) hx hb dX6_countOf_60 (by decide) ?_
            obtain rfl := cz_i h
            exact hQ _ _ _ _ hP hS dX6_countOf_64
        · replace h := cz_t c10 h
          refine lv_iconst (v := (0 : Int32)) hx hb dX6_countOf_45 (by decide) ?_
          refine lv_goto (tgt := 64) hx hb dX6_countOf_46 (by decide) ?_
          obtain rfl := cz_i h
          exact hQ _ _ _ _ hP hS dX6_countOf_64
    · replace h := cz_t c5 h
      refine lv_iconst (v := (1 : Int32)) hx hb dX6_countOf_21 (by decide) ?_
      obtain rfl := cz_i h
      exact hQ _ _ _ _ hP hS dX6_countOf_22
set_option maxHeartbeats 4000000 in
set_option maxRecDepth 100000 in
theorem c_X6_findNear (l : Launch) (D : va_G) (cI : ClassId) (a_o a_o_s a_o_innerOf a_o_nearOf a_o_fromOf a_o_refusals a_o_image a_o_tape a_o_read a_o_whoseOf a_o_pieceOf a_o_kept a_o_claimOf a_o_row : Nat) (v_o_isImage : Int32) (v_o_taped : Int32) (v_o_pos : Int32) (v_o_readWide : Int32) (v_o_readHigh : Int32) (v_o_thirds : Int32) (v_o_rowed : Int32) (f_o_s : (Nat → Int32)) (f_o_innerOf : (Nat → Int32)) (f_o_nearOf : (Nat → Int32)) (f_o_fromOf : (Nat → Int32)) (w1 : Int32) (w2 : Int32) (n : Nat) (r_f_o_nearOf : (Nat → Int32)) (r_f_o_fromOf : (Nat → Int32)) (h : f_X6_findNear n f_o_s f_o_innerOf f_o_nearOf f_o_fromOf w1 w2 = some (r_f_o_nearOf, r_f_o_fromOf)) : cz_M l yX6_findNear cX6_findNear 10 none 2 43 D cI [.ref a_o, .int w1, .int w2] [oX6 a_o a_o_refusals a_o_s a_o_image v_o_isImage a_o_tape a_o_read v_o_taped v_o_pos v_o_readWide v_o_readHigh a_o_innerOf a_o_whoseOf a_o_nearOf a_o_fromOf v_o_thirds a_o_pieceOf a_o_kept a_o_claimOf a_o_row v_o_rowed, aI cI a_o_s 151 f_o_s, aI cI a_o_innerOf 120 f_o_innerOf, aI cI a_o_nearOf 360 f_o_nearOf, aI cI a_o_fromOf 360 f_o_fromOf] none [oX6 a_o a_o_refusals a_o_s a_o_image v_o_isImage a_o_tape a_o_read v_o_taped v_o_pos v_o_readWide v_o_readHigh a_o_innerOf a_o_whoseOf a_o_nearOf a_o_fromOf v_o_thirds a_o_pieceOf a_o_kept a_o_claimOf a_o_row v_o_rowed, aI cI a_o_s 151 f_o_s, aI cI a_o_innerOf 120 f_o_innerOf, aI cI a_o_nearOf 360 r_f_o_nearOf, aI cI a_o_fromOf 360 r_f_o_fromOf] := by
  refine cz_startV (by decide) (Nat.le_of_ble_eq_true rfl) ?_
  intro p e s m ag below meth c A Q hx hb hml hown hts hK hN hQ H locs hP hD hS ls hl
  replace hown : s.vm.findClass RX6 = some m.cls := hown
  replace hl : lv_has ls 10 [(0, .ref a_o), (1, .int w1), (2, .int w2)] := hl
  unfold f_X6_findNear at h
  refine lv_bipush (v := (-9 : Int32)) hx hb dX6_findNear_0 (by decide) ?_
  refine lv_istore_n (lv' := [(3, .int (-9 : Int32)), (0, .ref a_o), (1, .int w1), (2, .int w2)]) hx hb dX6_findNear_2 rfl hl (by decide) rfl (fun ls hl => ?_)
  refine lv_bipush (v := (-9 : Int32)) hx hb dX6_findNear_3 (by decide) ?_
  refine lv_istore (lv' := [(4, .int (-9 : Int32)), (3, .int (-9 : Int32)), (0, .ref a_o), (1, .int w1), (2, .int w2)]) hx hb dX6_findNear_5 hl (by decide) rfl (fun ls hl => ?_)
  refine lv_iconst (v := (0 : Int32)) hx hb dX6_findNear_7 (by decide) ?_
  refine lv_istore (lv' := [(5, .int (0 : Int32)), (4, .int (-9 : Int32)), (3, .int (-9 : Int32)), (0, .ref a_o), (1, .int w1), (2, .int w2)]) hx hb dX6_findNear_8 hl (by decide) rfl (fun ls hl => ?_)
  obtain ⟨z4, hE5, hz6⟩ := cz_x3 h
  have hX7 : ∀ (y10 : Int32) (y11 : Int32) (y12 : Int32) (H : Heap) (locs : List Loc) (ls : Array Slot), z4 = (y10, y11, y12) → va_P D vwCl [oX6 a_o a_o_refusals a_o_s a_o_image v_o_isImage a_o_tape a_o_read v_o_taped v_o_pos v_o_readWide v_o_readHigh a_o_innerOf a_o_whoseOf a_o_nearOf a_o_fromOf v_o_thirds a_o_pieceOf a_o_kept a_o_claimOf a_o_row v_o_rowed, aI cI a_o_s 151 f_o_s, aI cI a_o_innerOf 120 f_o_innerOf, aI cI a_o_nearOf 360 f_o_nearOf, aI cI a_o_fromOf 360 f_o_fromOf] H → va_D A [oX6 a_o a_o_refusals a_o_s a_o_image v_o_isImage a_o_tape a_o_read v_o_taped v_o_pos v_o_readWide v_o_readHigh a_o_innerOf a_o_whoseOf a_o_nearOf a_o_fromOf v_o_thirds a_o_pieceOf a_o_kept a_o_claimOf a_o_row v_o_rowed, aI cI a_o_s 151 f_o_s, aI cI a_o_innerOf 120 f_o_innerOf, aI cI a_o_nearOf 360 f_o_nearOf, aI cI a_o_fromOf 360 f_o_fromOf] → va_S A s.heap H locs → lv_has ls 10 [(0, .ref a_o), (1, .int w1), (2, .int w2), (3, .int y10), (4, .int y11)] → W p l e (cz_rm 2 43) s m ag below meth c H locs 0 0 Q (F0 m 118 ls []) := by
    intro y10 y11 y12 H locs ls h hP hD hS hl
    replace h := hz6 _ _ _ h
    refine lv_aload_n hx hb dX6_findNear_118 rfl (lv_at hl 0 rfl) ?_
    refine va_get (D := D) (ci := 6) (v := .ref a_o_nearOf) (C := RX6) (T := TX6) (N := 20) hx hb hts in_X6 hown hK hP 0 rfl rfl 12 (by decide) (hts _ mw_3_198) (fun _ h9 => h9) rfl dX6_findNear_119 ?_
    refine lv_bipush (v := (120 : Int32)) hx hb dX6_findNear_122 (by decide) ?_
    refine lv_iload_n hx hb dX6_findNear_124 rfl (lv_at hl 2 rfl) ?_
    refine lv_imul hx hb dX6_findNear_125 ?_
    refine lv_iload_n hx hb dX6_findNear_126 rfl (lv_at hl 1 rfl) ?_
    refine lv_iadd hx hb dX6_findNear_127 ?_
    refine lv_iload_n hx hb dX6_findNear_128 rfl (lv_at hl 3 rfl) ?_
    refine cz_iast hx hb hK hP hD hS 3 0 rfl rfl (cz_wrE h).1 dX6_findNear_129 (fun g13 H locs eg13 hP hD hS => ?_)
    replace h := cz_wrK eg13 h
    replace hP : va_P D vwCl [oX6 a_o a_o_refusals a_o_s a_o_image v_o_isImage a_o_tape a_o_read v_o_taped v_o_pos v_o_readWide v_o_readHigh a_o_innerOf a_o_whoseOf a_o_nearOf a_o_fromOf v_o_thirds a_o_pieceOf a_o_kept a_o_claimOf a_o_row v_o_rowed, aI cI a_o_s 151 f_o_s, aI cI a_o_innerOf 120 f_o_innerOf, aI cI a_o_nearOf 360 g13, aI cI a_o_fromOf 360 f_o_fromOf] H := hP
    replace hD : va_D A [oX6 a_o a_o_refusals a_o_s a_o_image v_o_isImage a_o_tape a_o_read v_o_taped v_o_pos v_o_readWide v_o_readHigh a_o_innerOf a_o_whoseOf a_o_nearOf a_o_fromOf v_o_thirds a_o_pieceOf a_o_kept a_o_claimOf a_o_row v_o_rowed, aI cI a_o_s 151 f_o_s, aI cI a_o_innerOf 120 f_o_innerOf, aI cI a_o_nearOf 360 g13, aI cI a_o_fromOf 360 f_o_fromOf] := hD
    refine lv_aload_n hx hb dX6_findNear_130 rfl (lv_at hl 0 rfl) ?_
    refine va_get (D := D) (ci := 6) (v := .ref a_o_fromOf) (C := RX6) (T := TX6) (N := 20) hx hb hts in_X6 hown hK hP 0 rfl rfl 13 (by decide) (hts _ mw_3_199) (fun _ h9 => h9) rfl dX6_findNear_131 ?_
    refine lv_bipush (v := (120 : Int32)) hx hb dX6_findNear_134 (by decide) ?_
    refine lv_iload_n hx hb dX6_findNear_136 rfl (lv_at hl 2 rfl) ?_
    refine lv_imul hx hb dX6_findNear_137 ?_
    refine lv_iload_n hx hb dX6_findNear_138 rfl (lv_at hl 1 rfl) ?_
    refine lv_iadd hx hb dX6_findNear_139 ?_
    refine lv_iload hx hb dX6_findNear_140 (lv_at hl 4 rfl) ?_
    refine cz_iast hx hb hK hP hD hS 4 0 rfl rfl (cz_wrE h).1 dX6_findNear_142 (fun g14 H locs eg14 hP hD hS => ?_)
    replace h := cz_wrK eg14 h
    replace hP : va_P D vwCl [oX6 a_o a_o_refusals a_o_s a_o_image v_o_isImage a_o_tape a_o_read v_o_taped v_o_pos v_o_readWide v_o_readHigh a_o_innerOf a_o_whoseOf a_o_nearOf a_o_fromOf v_o_thirds a_o_pieceOf a_o_kept a_o_claimOf a_o_row v_o_rowed, aI cI a_o_s 151 f_o_s, aI cI a_o_innerOf 120 f_o_innerOf, aI cI a_o_nearOf 360 g13, aI cI a_o_fromOf 360 g14] H := hP
    replace hD : va_D A [oX6 a_o a_o_refusals a_o_s a_o_image v_o_isImage a_o_tape a_o_read v_o_taped v_o_pos v_o_readWide v_o_readHigh a_o_innerOf a_o_whoseOf a_o_nearOf a_o_fromOf v_o_thirds a_o_pieceOf a_o_kept a_o_claimOf a_o_row v_o_rowed, aI cI a_o_s 151 f_o_s, aI cI a_o_innerOf 120 f_o_innerOf, aI cI a_o_nearOf 360 g13, aI cI a_o_fromOf 360 g14] := hD
    obtain ⟨rfl, rfl⟩ := cz_j2 (cz_i h)
    exact hQ _ _ _ _ hP hS dX6_findNear_143
  clear h
  have hL8 : ∀ (k : Nat) (x1 : Int32) (x2 : Int32) (x3 : Int32) (H : Heap) (locs : List Loc) (ls : Array Slot), f_X6_findNear_L10 n f_o_s f_o_innerOf w1 w2 k x1 x2 x3 = some z4 → va_P D vwCl [oX6 a_o a_o_refusals a_o_s a_o_image v_o_isImage a_o_tape a_o_read v_o_taped v_o_pos v_o_readWide v_o_readHigh a_o_innerOf a_o_whoseOf a_o_nearOf a_o_fromOf v_o_thirds a_o_pieceOf a_o_kept a_o_claimOf a_o_row v_o_rowed, aI cI a_o_s 151 f_o_s, aI cI a_o_innerOf 120 f_o_innerOf, aI cI a_o_nearOf 360 f_o_nearOf, aI cI a_o_fromOf 360 f_o_fromOf] H → va_D A [oX6 a_o a_o_refusals a_o_s a_o_image v_o_isImage a_o_tape a_o_read v_o_taped v_o_pos v_o_readWide v_o_readHigh a_o_innerOf a_o_whoseOf a_o_nearOf a_o_fromOf v_o_thirds a_o_pieceOf a_o_kept a_o_claimOf a_o_row v_o_rowed, aI cI a_o_s 151 f_o_s, aI cI a_o_innerOf 120 f_o_innerOf, aI cI a_o_nearOf 360 f_o_nearOf, aI cI a_o_fromOf 360 f_o_fromOf] → va_S A s.heap H locs → lv_has ls 10 [(0, .ref a_o), (1, .int w1), (2, .int w2), (3, .int x1), (4, .int x2), (5, .int x3)] → W p l e (cz_rm 2 43) s m ag below meth c H locs 0 0 Q (F0 m 10 ls []) := by
    intro k
    induction k with
    | zero =>
      intro x1 x2 x3 H locs ls h
      rw [f_X6_findNear_L10] at h
      cases h
    | succ k ih15 =>
      intro x1 x2 x3 H locs ls h hP hD hS hl
      rw [f_X6_findNear_L10] at h
      refine lv_iload hx hb dX6_findNear_10 (lv_at hl 5 rfl) ?_
      refine lv_aload_n hx hb dX6_findNear_12 rfl (lv_at hl 0 rfl) ?_
      obtain ⟨x16, hc17, h⟩ := cz_e1 h
      refine cz_callV (As := []) (rest := [.int x3]) (is := [0, 1]) (isR := [2, 3, 4]) (rs := [aI cI a_o_innerOf 120 f_o_innerOf, aI cI a_o_nearOf 360 f_o_nearOf, aI cI a_o_fromOf 360 f_o_fromOf]) (as := [a_o, a_o_s, a_o_innerOf, a_o_nearOf, a_o_fromOf]) (ws1 := [oX6 a_o a_o_refusals a_o_s a_o_image v_o_isImage a_o_tape a_o_read v_o_taped v_o_pos v_o_readWide v_o_readHigh a_o_innerOf a_o_whoseOf a_o_nearOf a_o_fromOf v_o_thirds a_o_pieceOf a_o_kept a_o_claimOf a_o_row v_o_rowed, aI cI a_o_s 151 f_o_s, aI cI a_o_innerOf 120 f_o_innerOf, aI cI a_o_nearOf 360 f_o_nearOf, aI cI a_o_fromOf 360 f_o_fromOf]) (q0 := 0) (ci := 6) ⟨hx, hb, hml, hown, hts⟩ (c_X6_many l D cI a_o a_o_s a_o_refusals a_o_image a_o_tape a_o_read a_o_innerOf a_o_whoseOf a_o_nearOf a_o_fromOf a_o_pieceOf a_o_kept a_o_claimOf a_o_row v_o_isImage v_o_taped v_o_pos v_o_readWide v_o_readHigh v_o_thirds v_o_rowed f_o_s  n x16 hc17) mw_4_27 mw_4_29 mw_p_12 mw_1_8 mw_4_30 hd_X6_many ⟨Nat.le_of_ble_eq_true rfl, Nat.le_of_ble_eq_true rfl⟩ hK hN hP hD hS rfl rfl rfl rfl rfl rfl rfl rfl rfl rfl rfl rfl hl.1 rfl (Nat.le_of_ble_eq_true rfl) dX6_findNear_13 ⟨Nat.le_of_ble_eq_true rfl, Nat.le_of_ble_eq_true rfl⟩ (fun H locs hP hD hS => ?_)
      refine W.eq (g2 := F0 m 16 ls [.int x16, .int x3]) rfl ?_
      refine lv_icmp_ge (tgt := 118) hx hb dX6_findNear_16 (by decide) (fun c18 => ?_) (fun c18 => ?_)
      · replace h := cz_t c18 h
        exact hX7 _ _ _ _ _ _ (cz_i h).symm hP hD hS (lv_sub hl [0, 1, 2, 3, 4] rfl)
      · replace h := cz_f c18 h
        refine lv_aload_n hx hb dX6_findNear_19 rfl (lv_at hl 0 rfl) ?_
        refine lv_iload hx hb dX6_findNear_20 (lv_at hl 5 rfl) ?_
        refine lv_iload_n hx hb dX6_findNear_22 rfl (lv_at hl 2 rfl) ?_
        obtain ⟨x19, hc20, h⟩ := cz_e1 h
        refine cz_callV (As := [.int x3, .int w2]) (rest := []) (is := [0, 1, 2]) (isR := [3, 4]) (rs := [aI cI a_o_nearOf 360 f_o_nearOf, aI cI a_o_fromOf 360 f_o_fromOf]) (as := [a_o, a_o_s, a_o_innerOf, a_o_nearOf, a_o_fromOf]) (ws1 := [oX6 a_o a_o_refusals a_o_s a_o_image v_o_isImage a_o_tape a_o_read v_o_taped v_o_pos v_o_readWide v_o_readHigh a_o_innerOf a_o_whoseOf a_o_nearOf a_o_fromOf v_o_thirds a_o_pieceOf a_o_kept a_o_claimOf a_o_row v_o_rowed, aI cI a_o_s 151 f_o_s, aI cI a_o_innerOf 120 f_o_innerOf, aI cI a_o_nearOf 360 f_o_nearOf, aI cI a_o_fromOf 360 f_o_fromOf]) (q0 := 0) (ci := 6) ⟨hx, hb, hml, hown, hts⟩ (c_X6_countOf l D cI a_o a_o_s a_o_innerOf a_o_refusals a_o_image a_o_tape a_o_read a_o_whoseOf a_o_nearOf a_o_fromOf a_o_pieceOf a_o_kept a_o_claimOf a_o_row v_o_isImage v_o_taped v_o_pos v_o_readWide v_o_readHigh v_o_thirds v_o_rowed f_o_s f_o_innerOf x3 w2 n x19 hc20) mw_4_88 mw_4_90 mw_p_21 mw_1_8 mw_4_91 hd_X6_countOf ⟨Nat.le_of_ble_eq_true rfl, Nat.le_of_ble_eq_true rfl⟩ hK hN hP hD hS rfl rfl rfl rfl rfl rfl rfl rfl rfl rfl rfl rfl hl.1 rfl (Nat.le_of_ble_eq_true rfl) dX6_findNear_23 ⟨Nat.le_of_ble_eq_true rfl, Nat.le_of_ble_eq_true rfl⟩ (fun H locs hP hD hS => ?_)
        refine W.eq (g2 := F0 m 26 ls [.int x19]) rfl ?_
        refine lv_istore (lv' := [(6, .int x19), (0, .ref a_o), (1, .int w1), (2, .int w2), (3, .int x1), (4, .int x2), (5, .int x3)]) hx hb dX6_findNear_26 hl (by decide) rfl (fun ls hl => ?_)
        refine lv_iload hx hb dX6_findNear_28 (lv_at hl 0 rfl) ?_
        obtain ⟨z26, hE24, hz23⟩ := cz_x2 h
        have hJ25 : ∀ (x21 : Int32) (x22 : Int32) (H : Heap) (locs : List Loc) (ls : Array Slot), z26 = (x21, x22) → va_P D vwCl [oX6 a_o a_o_refusals a_o_s a_o_image v_o_isImage a_o_tape a_o_read v_o_taped v_o_pos v_o_readWide v_o_readHigh a_o_innerOf a_o_whoseOf a_o_nearOf a_o_fromOf v_o_thirds a_o_pieceOf a_o_kept a_o_claimOf a_o_row v_o_rowed, aI cI a_o_s 151 f_o_s, aI cI a_o_innerOf 120 f_o_innerOf, aI cI a_o_nearOf 360 f_o_nearOf, aI cI a_o_fromOf 360 f_o_fromOf] H → va_D A [oX6 a_o a_o_refusals a_o_s a_o_image v_o_isImage a_o_tape a_o_read v_o_taped v_o_pos v_o_readWide v_o_readHigh a_o_innerOf a_o_whoseOf a_o_nearOf a_o_fromOf v_o_thirds a_o_pieceOf a_o_kept a_o_claimOf a_o_row v_o_rowed, aI cI a_o_s 151 f_o_s, aI cI a_o_innerOf 120 f_o_innerOf, aI cI a_o_nearOf 360 f_o_nearOf, aI cI a_o_fromOf 360 f_o_fromOf] → va_S A s.heap H locs → lv_has ls 10 [(0, .ref a_o), (1, .int w1), (2, .int w2), (3, .int x21), (4, .int x22), (5, .int x3)] → W p l e (cz_rm 2 43) s m ag below meth c H locs 0 0 Q (F0 m 112 ls []) := by
          intro x21 x22 H locs ls h hP hD hS hl
          replace h := hz23 _ _ h
          obtain ⟨x27, ex27⟩ : ∃ z : Int32, z = x3 + (1 : Int32) := ⟨_, rfl⟩
          replace h := cz_ltE ex27 h
          refine lv_iinc (v := x27) (lv' := [(5, .int x27), (0, .ref a_o), (1, .int w1), (2, .int w2), (3, .int x21), (4, .int x22)]) hx hb dX6_findNear_112 hl (k := 5) rfl (by rw [ex27]; rfl) (by decide) rfl (fun ls hl => ?_)
          refine lv_goto (tgt := 10) hx hb dX6_findNear_115 (by decide) ?_
          exact ih15 _ _ _ _ _ _ h hP hD hS (lv_sub hl [1, 2, 3, 4, 5, 0] rfl)
        clear h
        have h := hE24
        refine lv_if_ne (tgt := 36) hx hb dX6_findNear_30 (by decide) (fun c28 => ?_) (fun c28 => ?_)
        · replace h := cz_f c28 h
          refine lv_iload_n hx hb dX6_findNear_36 rfl (lv_at hl 2 rfl) ?_
          refine lv_aload_n hx hb dX6_findNear_37 rfl (lv_at hl 1 rfl) ?_
          refine va_get (D := D) (ci := 6) (v := .ref a_o_s) (C := RX6) (T := TX6) (N := 20) hx hb hts in_X6 hown hK hP 0 rfl rfl 1 (by decide) (hts _ mw_3_187) (fun _ h9 => h9) rfl dX6_findNear_38 ?_
          refine lv_iconst (v := (0 : Int32)) hx hb dX6_findNear_41 (by decide) ?_
          refine cz_iald hx hb hK hP 1 0 rfl rfl (cz_rdE h).1 dX6_findNear_42 (fun x29 ex29 => ?_)
          replace h := cz_rdK ex29 h
          refine lv_irem hx hb dX6_findNear_43 (cz_nzE h).1 ?_
          replace h := (cz_nzE h).2
          refine lv_iload hx hb dX6_findNear_44 (lv_at hl 6 rfl) ?_
          refine lv_aload_n hx hb dX6_findNear_46 rfl (lv_at hl 1 rfl) ?_
          refine va_get (D := D) (ci := 6) (v := .ref a_o_s) (C := RX6) (T := TX6) (N := 20) hx hb hts in_X6 hown hK hP 0 rfl rfl 1 (by decide) (hts _ mw_3_187) (fun _ h9 => h9) rfl dX6_findNear_47 ?_
          refine lv_iconst (v := (0 : Int32)) hx hb dX6_findNear_50 (by decide) ?_
          refine cz_iald hx hb hK hP 1 0 rfl rfl (cz_rdE h).1 dX6_findNear_51 (fun x30 ex30 => ?_)
          replace h := cz_rdK ex30 h
          refine lv_irem hx hb dX6_findNear_52 (cz_nzE h).1 ?_
          replace h := (cz_nzE h).2
          refine lv_isub hx hb dX6_findNear_53 ?_
          refine lv_topi (fun x31 ex31 => ?_)
          replace h := cz_ltE ex31 h
          refine lv_istore (lv' := [(7, .int x31), (6, .int x19), (0, .ref a_o), (1, .int w1), (2, .int w2), (3, .int x1), (4, .int x2), (5, .int x3)]) hx hb dX6_findNear_54 hl (by decide) rfl (fun ls hl => ?_)
          refine lv_iload_n hx hb dX6_findNear_56 rfl (lv_at hl 3 rfl) ?_
          refine lv_aload_n hx hb dX6_findNear_57 rfl (lv_at hl 2 rfl) ?_
          refine va_get (D := D) (ci := 6) (v := .ref a_o_s) (C := RX6) (T := TX6) (N := 20) hx hb hts in_X6 hown hK hP 0 rfl rfl 1 (by decide) (hts _ mw_3_187) (fun _ h9 => h9) rfl dX6_findNear_58 ?_
          refine lv_iconst (v := (0 : Int32)) hx hb dX6_findNear_61 (by decide) ?_
          refine cz_iald hx hb hK hP 1 0 rfl rfl (cz_rdE h).1 dX6_findNear_62 (fun x32 ex32 => ?_)
          replace h := cz_rdK ex32 h
          refine lv_idiv hx hb dX6_findNear_63 (cz_nzE h).1 ?_
          replace h := (cz_nzE h).2
          refine lv_iload hx hb dX6_findNear_64 (lv_at hl 7 rfl) ?_
          refine lv_aload_n hx hb dX6_findNear_66 rfl (lv_at hl 2 rfl) ?_
          refine va_get (D := D) (ci := 6) (v := .ref a_o_s) (C := RX6) (T := TX6) (N := 20) hx hb hts in_X6 hown hK hP 0 rfl rfl 1 (by decide) (hts _ mw_3_187) (fun _ h9 => h9) rfl dX6_findNear_67 ?_
          refine lv_iconst (v := (0 : Int32)) hx hb dX6_findNear_70 (by decide) ?_
          refine cz_iald hx hb hK hP 1 0 rfl rfl (cz_rdE h).1 dX6_findNear_71 (fun x33 ex33 => ?_)
          replace h := cz_rdK ex33 h
          refine lv_idiv hx hb dX6_findNear_72 (cz_nzE h).1 ?_
          replace h := (cz_nzE h).2
          refine lv_isub hx hb dX6_findNear_73 ?_
          refine lv_topi (fun x34 ex34 => ?_)
          replace h := cz_ltE ex34 h
          refine lv_istore (lv' := [(8, .int x34), (7, .int x31), (6, .int x19), (0, .ref a_o), (1, .int w1), (2, .int w2), (3, .int x1), (4, .int x2), (5, .int x3)]) hx hb dX6_findNear_74 hl (by decide) rfl (fun ls hl => ?_)
          refine lv_iload hx hb dX6_findNear_76 (lv_at hl 2 rfl) ?_
          refine lv_iload hx hb dX6_findNear_78 (lv_at hl 1 rfl) ?_
          refine lv_iload hx hb dX6_findNear_80 (lv_at hl 1 rfl) ?_
          refine lv_imul hx hb dX6_findNear_82 ?_
          refine lv_iload hx hb dX6_findNear_83 (lv_at hl 0 rfl) ?_
          refine lv_iload hx hb dX6_findNear_85 (lv_at hl 0 rfl) ?_
          refine lv_imul hx hb dX6_findNear_87 ?_
          refine lv_iadd hx hb dX6_findNear_88 ?_
          refine lv_imul hx hb dX6_findNear_89 ?_
          refine lv_topi (fun x35 ex35 => ?_)
          replace h := cz_ltE ex35 h
          refine lv_istore (lv' := [(9, .int x35), (8, .int x34), (7, .int x31), (6, .int x19), (0, .ref a_o), (1, .int w1), (2, .int w2), (3, .int x1), (4, .int x2), (5, .int x3)]) hx hb dX6_findNear_90 hl (by decide) rfl (fun ls hl => ?_)
          refine lv_iload_n hx hb dX6_findNear_92 rfl (lv_at hl 7 rfl) ?_
          refine lv_if_lt (tgt := 105) hx hb dX6_findNear_93 (by decide) (fun c36 => ?_) (fun c36 => ?_)
          · replace h := cz_t c36 h
            refine lv_iload hx hb dX6_findNear_105 (lv_at hl 0 rfl) ?_
            refine lv_istore_n (lv' := [(3, .int x35), (9, .int x35), (8, .int x34), (7, .int x31), (6, .int x19), (0, .ref a_o), (1, .int w1), (2, .int w2), (4, .int x2), (5, .int x3)]) hx hb dX6_findNear_107 rfl hl (by decide) rfl (fun ls hl => ?_)
            refine lv_iload hx hb dX6_findNear_108 (lv_at hl 9 rfl) ?_
            refine lv_istore (lv' := [(4, .int x3), (3, .int x35), (9, .int x35), (8, .int x34), (7, .int x31), (6, .int x19), (0, .ref a_o), (1, .int w1), (2, .int w2), (5, .int x3)]) hx hb dX6_findNear_110 hl (by decide) rfl (fun ls hl => ?_)
            exact hJ25 _ _ _ _ _ (cz_i h).symm hP hD hS (lv_sub hl [6, 7, 8, 1, 0, 9] rfl)
          · replace h := cz_f c36 h
            refine lv_iload hx hb dX6_findNear_96 (lv_at hl 0 rfl) ?_
            refine lv_iload_n hx hb dX6_findNear_98 rfl (lv_at hl 7 rfl) ?_
            refine lv_icmp_lt (tgt := 105) hx hb dX6_findNear_99 (by decide) (fun c37 => ?_) (fun c37 => ?_)
            · replace h := cz_t c37 h
              refine lv_iload hx hb dX6_findNear_105 (lv_at hl 0 rfl) ?_
              refine lv_istore_n (lv' := [(3, .int x35), (9, .int x35), (8, .int x34), (7, .int x31), (6, .int x19), (0, .ref a_o), (1, .int w1), (2, .int w2), (4, .int x2), (5, .int x3)]) hx hb dX6_findNear_107 rfl hl (by decide) rfl (fun ls hl => ?_)
              refine lv_iload hx hb dX6_findNear_108 (lv_at hl 9 rfl) ?_
              refine lv_istore (lv' := [(4, .int x3), (3, .int x35), (9, .int x35), (8, .int x34), (7, .int x31), (6, .int x19), (0, .ref a_o), (1, .int w1), (2, .int w2), (5, .int x3)]) hx hb dX6_findNear_110 hl (by decide) rfl (fun ls hl => ?_)
              exact hJ25 _ _ _ _ _ (cz_i h).symm hP hD hS (lv_sub hl [6, 7, 8, 1, 0, 9] rfl)
            · replace h := cz_f c37 h
              refine lv_goto (tgt := 112) hx hb dX6_findNear_102 (by decide) ?_
              exact hJ25 _ _ _ _ _ (cz_i h).symm hP hD hS (lv_sub hl [4, 5, 6, 7, 8, 9] rfl)
        · replace h := cz_t c28 h
          refine lv_goto (tgt := 112) hx hb dX6_findNear_33 (by decide) ?_
          exact hJ25 _ _ _ _ _ (cz_i h).symm hP hD hS (lv_sub hl [1, 2, 3, 4, 5, 6] rfl)
  exact hL8 n _ _ _ _ _ _ hE5 hP hD hS (lv_sub hl [3, 4, 5, 2, 1, 0] rfl)
set_option maxHeartbeats 4000000 in
set_option maxRecDepth 100000 in
theorem c_X6_whoseBy (l : Launch) (D : va_G) (cI : ClassId) (a_o a_o_s a_o_innerOf a_o_nearOf a_o_refusals a_o_image a_o_tape a_o_read a_o_whoseOf a_o_fromOf a_o_pieceOf a_o_kept a_o_claimOf a_o_row : Nat) (v_o_isImage : Int32) (v_o_taped : Int32) (v_o_pos : Int32) (v_o_readWide : Int32) (v_o_readHigh : Int32) (v_o_thirds : Int32) (v_o_rowed : Int32) (f_o_s : (Nat → Int32)) (f_o_innerOf : (Nat → Int32)) (f_o_nearOf : (Nat → Int32)) (w1 : Int32) (n : Nat) (r : Int32) (r_v_o_thirds : Int32) (h : f_X6_whoseBy n v_o_thirds f_o_s f_o_innerOf f_o_nearOf w1 = some (r, r_v_o_thirds)) : cz_M l yX6_whoseBy cX6_whoseBy 8 (some .int) 1 21 D cI [.ref a_o, .int w1] [oX6 a_o a_o_refusals a_o_s a_o_image v_o_isImage a_o_tape a_o_read v_o_taped v_o_pos v_o_readWide v_o_readHigh a_o_innerOf a_o_whoseOf a_o_nearOf a_o_fromOf v_o_thirds a_o_pieceOf a_o_kept a_o_claimOf a_o_row v_o_rowed, aI cI a_o_s 151 f_o_s, aI cI a_o_innerOf 120 f_o_innerOf, aI cI a_o_nearOf 360 f_o_nearOf] (some (.int r)) [oX6 a_o a_o_refusals a_o_s a_o_image v_o_isImage a_o_tape a_o_read v_o_taped v_o_pos v_o_readWide v_o_readHigh a_o_innerOf a_o_whoseOf a_o_nearOf a_o_fromOf r_v_o_thirds a_o_pieceOf a_o_kept a_o_claimOf a_o_row v_o_rowed, aI cI a_o_s 151 f_o_s, aI cI a_o_innerOf 120 f_o_innerOf, aI cI a_o_nearOf 360 f_o_nearOf] := by
  refine cz_startI (by decide) (Nat.le_of_ble_eq_true rfl) ?_
  intro p e s m ag below meth c A Q hx hb hml hown hts hK hN hQ H locs hP hD hS ls hl
  replace hown : s.vm.findClass RX6 = some m.cls := hown
  replace hl : lv_has ls 8 [(0, .ref a_o), (1, .int w1)] := hl
  unfold f_X6_whoseBy at h
  refine lv_aload_n hx hb dX6_whoseBy_0 rfl (lv_at hl 0 rfl) ?_
  refine lv_iload_n hx hb dX6_whoseBy_1 rfl (lv_at hl 1 rfl) ?_
  obtain ⟨x1, hc2, h⟩ := cz_e1 h
  refine cz_callV (As := [.int w1]) (rest := []) (is := [0, 1]) (isR := [2, 3]) (rs := [aI cI a_o_innerOf 120 f_o_innerOf, aI cI a_o_nearOf 360 f_o_nearOf]) (as := [a_o, a_o_s, a_o_innerOf, a_o_nearOf]) (ws1 := [oX6 a_o a_o_refusals a_o_s a_o_image v_o_isImage a_o_tape a_o_read v_o_taped v_o_pos v_o_readWide v_o_readHigh a_o_innerOf a_o_whoseOf a_o_nearOf a_o_fromOf v_o_thirds a_o_pieceOf a_o_kept a_o_claimOf a_o_row v_o_rowed, aI cI a_o_s 151 f_o_s, aI cI a_o_innerOf 120 f_o_innerOf, aI cI a_o_nearOf 360 f_o_nearOf]) (q0 := 0) (ci := 6) ⟨hx, hb, hml, hown, hts⟩ (c_X6_at l D cI a_o a_o_s a_o_refusals a_o_image a_o_tape a_o_read a_o_innerOf a_o_whoseOf a_o_nearOf a_o_fromOf a_o_pieceOf a_o_kept a_o_claimOf a_o_row v_o_isImage v_o_taped v_o_pos v_o_readWide v_o_readHigh v_o_thirds v_o_rowed f_o_s w1 n x1 hc2) mw_4_43 mw_4_45 mw_p_15 mw_1_8 mw_4_46 hd_X6_at ⟨Nat.le_of_ble_eq_true rfl, Nat.le_of_ble_eq_true rfl⟩ hK hN hP hD hS rfl rfl rfl rfl rfl rfl rfl rfl rfl rfl rfl rfl hl.1 rfl (Nat.le_of_ble_eq_true rfl) dX6_whoseBy_2 ⟨Nat.le_of_ble_eq_true rfl, Nat.le_of_ble_eq_true rfl⟩ (fun H locs hP hD hS => ?_)
  refine W.eq (g2 := F0 m 5 ls [.int x1]) rfl ?_
  refine lv_if_eq (tgt := 11) hx hb dX6_whoseBy_5 (by decide) (fun c3 => ?_) (fun c3 => ?_)
  · replace h := cz_t c3 h
    refine lv_aload_n hx hb dX6_whoseBy_11 rfl (lv_at hl 0 rfl) ?_
    refine va_get (D := D) (ci := 6) (v := .ref a_o_innerOf) (C := RX6) (T := TX6) (N := 20) hx hb hts in_X6 hown hK hP 0 rfl rfl 10 (by decide) (hts _ mw_3_196) (fun _ h9 => h9) rfl dX6_whoseBy_12 ?_
    refine lv_iload_n hx hb dX6_whoseBy_15 rfl (lv_at hl 1 rfl) ?_
    refine cz_iald hx hb hK hP 2 0 rfl rfl (cz_rdE h).1 dX6_whoseBy_16 (fun x4 ex4 => ?_)
    replace h := cz_rdK ex4 h
    refine lv_if_lt (tgt := 27) hx hb dX6_whoseBy_17 (by decide) (fun c5 => ?_) (fun c5 => ?_)
    · replace h := cz_t c5 h
      refine lv_bipush (v := (-3 : Int32)) hx hb dX6_whoseBy_27 (by decide) ?_
      refine lv_istore_n (lv' := [(2, .int (-3 : Int32)), (0, .ref a_o), (1, .int w1)]) hx hb dX6_whoseBy_29 rfl hl (by decide) rfl (fun ls hl => ?_)
      refine lv_iconst (v := (0 : Int32)) hx hb dX6_whoseBy_30 (by decide) ?_
      refine lv_istore_n (lv' := [(3, .int (0 : Int32)), (2, .int (-3 : Int32)), (0, .ref a_o), (1, .int w1)]) hx hb dX6_whoseBy_31 rfl hl (by decide) rfl (fun ls hl => ?_)
      refine lv_iconst (v := (0 : Int32)) hx hb dX6_whoseBy_32 (by decide) ?_
      refine lv_istore (lv' := [(4, .int (0 : Int32)), (3, .int (0 : Int32)), (2, .int (-3 : Int32)), (0, .ref a_o), (1, .int w1)]) hx hb dX6_whoseBy_33 hl (by decide) rfl (fun ls hl => ?_)
      refine lv_iconst (v := (0 : Int32)) hx hb dX6_whoseBy_35 (by decide) ?_
      refine lv_istore (lv' := [(5, .int (0 : Int32)), (4, .int (0 : Int32)), (3, .int (0 : Int32)), (2, .int (-3 : Int32)), (0, .ref a_o), (1, .int w1)]) hx hb dX6_whoseBy_36 hl (by decide) rfl (fun ls hl => ?_)
      obtain ⟨z10, hE11, hz12⟩ := cz_x4 h
      have hX13 : ∀ (y16 : Int32) (y17 : Int32) (y18 : Int32) (y19 : Int32) (H : Heap) (locs : List Loc) (ls : Array Slot), z10 = (y16, y17, y18, y19) → va_P D vwCl [oX6 a_o a_o_refusals a_o_s a_o_image v_o_isImage a_o_tape a_o_read v_o_taped v_o_pos v_o_readWide v_o_readHigh a_o_innerOf a_o_whoseOf a_o_nearOf a_o_fromOf v_o_thirds a_o_pieceOf a_o_kept a_o_claimOf a_o_row v_o_rowed, aI cI a_o_s 151 f_o_s, aI cI a_o_innerOf 120 f_o_innerOf, aI cI a_o_nearOf 360 f_o_nearOf] H → va_D A [oX6 a_o a_o_refusals a_o_s a_o_image v_o_isImage a_o_tape a_o_read v_o_taped v_o_pos v_o_readWide v_o_readHigh a_o_innerOf a_o_whoseOf a_o_nearOf a_o_fromOf v_o_thirds a_o_pieceOf a_o_kept a_o_claimOf a_o_row v_o_rowed, aI cI a_o_s 151 f_o_s, aI cI a_o_innerOf 120 f_o_innerOf, aI cI a_o_nearOf 360 f_o_nearOf] → va_S A s.heap H locs → lv_has ls 8 [(0, .ref a_o), (2, .int y16), (4, .int y18)] → W p l e (cz_rm 1 21) s m ag below meth c H locs 0 0 Q (F0 m 175 ls []) := by
        intro y16 y17 y18 y19 H locs ls h hP hD hS hl
        replace h := hz12 _ _ _ _ h
        refine lv_aload_n hx hb dX6_whoseBy_175 rfl (lv_at hl 0 rfl) ?_
        refine lv_dup hx hb dX6_whoseBy_176 rfl ?_
        refine va_get (D := D) (ci := 6) (v := .int v_o_thirds) (C := RX6) (T := TX6) (N := 20) hx hb hts in_X6 hown hK hP 0 rfl rfl 14 (by decide) (hts _ mw_3_200) (fun _ h9 => h9) rfl dX6_whoseBy_177 ?_
        refine lv_iload hx hb dX6_whoseBy_180 (lv_at hl 2 rfl) ?_
        refine lv_iconst (v := (3 : Int32)) hx hb dX6_whoseBy_182 (by decide) ?_
        obtain ⟨z24, hE22, hz21⟩ := cz_ltV h
        have hJ23 : ∀ (x20 : Int32) (H : Heap) (locs : List Loc) (ls : Array Slot), z24 = x20 → va_P D vwCl [oX6 a_o a_o_refusals a_o_s a_o_image v_o_isImage a_o_tape a_o_read v_o_taped v_o_pos v_o_readWide v_o_readHigh a_o_innerOf a_o_whoseOf a_o_nearOf a_o_fromOf v_o_thirds a_o_pieceOf a_o_kept a_o_claimOf a_o_row v_o_rowed, aI cI a_o_s 151 f_o_s, aI cI a_o_innerOf 120 f_o_innerOf, aI cI a_o_nearOf 360 f_o_nearOf] H → va_D A [oX6 a_o a_o_refusals a_o_s a_o_image v_o_isImage a_o_tape a_o_read v_o_taped v_o_pos v_o_readWide v_o_readHigh a_o_innerOf a_o_whoseOf a_o_nearOf a_o_fromOf v_o_thirds a_o_pieceOf a_o_kept a_o_claimOf a_o_row v_o_rowed, aI cI a_o_s 151 f_o_s, aI cI a_o_innerOf 120 f_o_innerOf, aI cI a_o_nearOf 360 f_o_nearOf] → va_S A s.heap H locs → lv_has ls 8 [(2, .int y16), (4, .int y18)] → W p l e (cz_rm 1 21) s m ag below meth c H locs 0 0 Q (F0 m 191 ls [.int x20, .int v_o_thirds, .ref a_o]) := by
          intro x20 H locs ls h hP hD hS hl
          replace h := hz21 _ h
          refine lv_iadd hx hb dX6_whoseBy_191 ?_
          refine lv_topi (fun x25 ex25 => ?_)
          replace h := cz_ltE ex25 h
          refine va_put (D := D) (ci := 6) (v := .int x25) (ty := .int) (C := RX6) (T := TX6) (N := 20) hx hb hts in_X6 tyX6 tyX6_ok nmX6 hown hK hP hD hS 0 rfl rfl 14 (by decide) (hts _ mw_3_200) (fun _ h9 => h9) rfl (by decide +kernel) rfl rfl (Nat.le_of_ble_eq_true rfl) dX6_whoseBy_192 (fun H locs hP hD hS => ?_)
          replace hP : va_P D vwCl [oX6 a_o a_o_refusals a_o_s a_o_image v_o_isImage a_o_tape a_o_read v_o_taped v_o_pos v_o_readWide v_o_readHigh a_o_innerOf a_o_whoseOf a_o_nearOf a_o_fromOf x25 a_o_pieceOf a_o_kept a_o_claimOf a_o_row v_o_rowed, aI cI a_o_s 151 f_o_s, aI cI a_o_innerOf 120 f_o_innerOf, aI cI a_o_nearOf 360 f_o_nearOf] H := hP
          replace hD : va_D A [oX6 a_o a_o_refusals a_o_s a_o_image v_o_isImage a_o_tape a_o_read v_o_taped v_o_pos v_o_readWide v_o_readHigh a_o_innerOf a_o_whoseOf a_o_nearOf a_o_fromOf x25 a_o_pieceOf a_o_kept a_o_claimOf a_o_row v_o_rowed, aI cI a_o_s 151 f_o_s, aI cI a_o_innerOf 120 f_o_innerOf, aI cI a_o_nearOf 360 f_o_nearOf] := hD
          refine lv_iload hx hb dX6_whoseBy_195 (lv_at hl 1 rfl) ?_
          refine lv_iconst (v := (1 : Int32)) hx hb dX6_whoseBy_197 (by decide) ?_
          refine lv_icmp_le (tgt := 206) hx hb dX6_whoseBy_198 (by decide) (fun c26 => ?_) (fun c26 => ?_)
          · replace h := cz_t c26 h
            refine lv_iload_n hx hb dX6_whoseBy_206 rfl (lv_at hl 0 rfl) ?_
            obtain ⟨rfl, rfl⟩ := cz_j2 (cz_i h)
            exact hQ _ _ _ _ hP hS dX6_whoseBy_207
          · replace h := cz_f c26 h
            refine lv_bipush (v := (-2 : Int32)) hx hb dX6_whoseBy_201 (by decide) ?_
            refine lv_goto (tgt := 207) hx hb dX6_whoseBy_203 (by decide) ?_
            obtain ⟨rfl, rfl⟩ := cz_j2 (cz_i h)
            exact hQ _ _ _ _ hP hS dX6_whoseBy_207
        clear h
        have h := hE22
        refine lv_icmp_ne (tgt := 190) hx hb dX6_whoseBy_183 (by decide) (fun c27 => ?_) (fun c27 => ?_)
        · replace h := cz_f c27 h
          refine lv_iconst (v := (0 : Int32)) hx hb dX6_whoseBy_190 (by decide) ?_
          exact hJ23 _ _ _ _ h.symm hP hD hS (lv_sub hl [1, 2] rfl)
        · replace h := cz_t c27 h
          refine lv_iconst (v := (1 : Int32)) hx hb dX6_whoseBy_186 (by decide) ?_
          refine lv_goto (tgt := 191) hx hb dX6_whoseBy_187 (by decide) ?_
          exact hJ23 _ _ _ _ h.symm hP hD hS (lv_sub hl [1, 2] rfl)
      clear h
      have hL14 : ∀ (k : Nat) (x6 : Int32) (x7 : Int32) (x8 : Int32) (x9 : Int32) (H : Heap) (locs : List Loc) (ls : Array Slot), f_X6_whoseBy_L38 n f_o_s f_o_nearOf w1 k x6 x7 x8 x9 = some z10 → va_P D vwCl [oX6 a_o a_o_refusals a_o_s a_o_image v_o_isImage a_o_tape a_o_read v_o_taped v_o_pos v_o_readWide v_o_readHigh a_o_innerOf a_o_whoseOf a_o_nearOf a_o_fromOf v_o_thirds a_o_pieceOf a_o_kept a_o_claimOf a_o_row v_o_rowed, aI cI a_o_s 151 f_o_s, aI cI a_o_innerOf 120 f_o_innerOf, aI cI a_o_nearOf 360 f_o_nearOf] H → va_D A [oX6 a_o a_o_refusals a_o_s a_o_image v_o_isImage a_o_tape a_o_read v_o_taped v_o_pos v_o_readWide v_o_readHigh a_o_innerOf a_o_whoseOf a_o_nearOf a_o_fromOf v_o_thirds a_o_pieceOf a_o_kept a_o_claimOf a_o_row v_o_rowed, aI cI a_o_s 151 f_o_s, aI cI a_o_innerOf 120 f_o_innerOf, aI cI a_o_nearOf 360 f_o_nearOf] → va_S A s.heap H locs → lv_has ls 8 [(0, .ref a_o), (1, .int w1), (2, .int x6), (3, .int x7), (4, .int x8), (5, .int x9)] → W p l e (cz_rm 1 21) s m ag below meth c H locs 0 0 Q (F0 m 38 ls []) := by
        intro k
        induction k with
        | zero =>
          intro x6 x7 x8 x9 H locs ls h
          rw [f_X6_whoseBy_L38] at h
          cases h
        | succ k ih28 =>
          intro x6 x7 x8 x9 H locs ls h hP hD hS hl
          rw [f_X6_whoseBy_L38] at h
          refine lv_iload hx hb dX6_whoseBy_38 (lv_at hl 5 rfl) ?_
          refine lv_iconst (v := (3 : Int32)) hx hb dX6_whoseBy_40 (by decide) ?_
          refine lv_icmp_ge (tgt := 175) hx hb dX6_whoseBy_41 (by decide) (fun c29 => ?_) (fun c29 => ?_)
          · replace h := cz_t c29 h
            exact hX13 _ _ _ _ _ _ _ (cz_i h).symm hP hD hS (lv_sub hl [0, 2, 4] rfl)
          · replace h := cz_f c29 h
            refine lv_aload_n hx hb dX6_whoseBy_44 rfl (lv_at hl 0 rfl) ?_
            refine va_get (D := D) (ci := 6) (v := .ref a_o_nearOf) (C := RX6) (T := TX6) (N := 20) hx hb hts in_X6 hown hK hP 0 rfl rfl 12 (by decide) (hts _ mw_3_198) (fun _ h9 => h9) rfl dX6_whoseBy_45 ?_
            refine lv_bipush (v := (120 : Int32)) hx hb dX6_whoseBy_48 (by decide) ?_
            refine lv_iload hx hb dX6_whoseBy_50 (lv_at hl 5 rfl) ?_
            refine lv_imul hx hb dX6_whoseBy_52 ?_
            refine lv_iload_n hx hb dX6_whoseBy_53 rfl (lv_at hl 1 rfl) ?_
            refine lv_iadd hx hb dX6_whoseBy_54 ?_
            refine cz_iald hx hb hK hP 3 0 rfl rfl (cz_rdE h).1 dX6_whoseBy_55 (fun x30 ex30 => ?_)
            replace h := cz_rdK ex30 h
            refine lv_istore (lv' := [(6, .int x30), (0, .ref a_o), (1, .int w1), (2, .int x6), (3, .int x7), (4, .int x8), (5, .int x9)]) hx hb dX6_whoseBy_56 hl (by decide) rfl (fun ls hl => ?_)
            refine lv_iload hx hb dX6_whoseBy_58 (lv_at hl 0 rfl) ?_
            obtain ⟨z37, hE35, hz34⟩ := cz_x3 h
            have hJ36 : ∀ (x31 : Int32) (x32 : Int32) (x33 : Int32) (H : Heap) (locs : List Loc) (ls : Array Slot), z37 = (x31, x32, x33) → va_P D vwCl [oX6 a_o a_o_refusals a_o_s a_o_image v_o_isImage a_o_tape a_o_read v_o_taped v_o_pos v_o_readWide v_o_readHigh a_o_innerOf a_o_whoseOf a_o_nearOf a_o_fromOf v_o_thirds a_o_pieceOf a_o_kept a_o_claimOf a_o_row v_o_rowed, aI cI a_o_s 151 f_o_s, aI cI a_o_innerOf 120 f_o_innerOf, aI cI a_o_nearOf 360 f_o_nearOf] H → va_D A [oX6 a_o a_o_refusals a_o_s a_o_image v_o_isImage a_o_tape a_o_read v_o_taped v_o_pos v_o_readWide v_o_readHigh a_o_innerOf a_o_whoseOf a_o_nearOf a_o_fromOf v_o_thirds a_o_pieceOf a_o_kept a_o_claimOf a_o_row v_o_rowed, aI cI a_o_s 151 f_o_s, aI cI a_o_innerOf 120 f_o_innerOf, aI cI a_o_nearOf 360 f_o_nearOf] → va_S A s.heap H locs → lv_has ls 8 [(0, .ref a_o), (1, .int w1), (2, .int x31), (3, .int x32), (4, .int x33), (5, .int x9)] → W p l e (cz_rm 1 21) s m ag below meth c H locs 0 0 Q (F0 m 169 ls []) := by
              intro x31 x32 x33 H locs ls h hP hD hS hl
              replace h := hz34 _ _ _ h
              obtain ⟨x38, ex38⟩ : ∃ z : Int32, z = x9 + (1 : Int32) := ⟨_, rfl⟩
              replace h := cz_ltE ex38 h
              refine lv_iinc (v := x38) (lv' := [(5, .int x38), (0, .ref a_o), (1, .int w1), (2, .int x31), (3, .int x32), (4, .int x33)]) hx hb dX6_whoseBy_169 hl (k := 5) rfl (by rw [ex38]; rfl) (by decide) rfl (fun ls hl => ?_)
              refine lv_goto (tgt := 38) hx hb dX6_whoseBy_172 (by decide) ?_
              exact ih28 _ _ _ _ _ _ _ h hP hD hS (lv_sub hl [1, 2, 3, 4, 5, 0] rfl)
            clear h
            have h := hE35
            refine lv_if_lt (tgt := 169) hx hb dX6_whoseBy_60 (by decide) (fun c39 => ?_) (fun c39 => ?_)
            · replace h := cz_t c39 h
              exact hJ36 _ _ _ _ _ _ (cz_i h).symm hP hD hS (lv_sub hl [1, 2, 3, 4, 5, 6] rfl)
            · replace h := cz_f c39 h
              refine lv_iload hx hb dX6_whoseBy_63 (lv_at hl 0 rfl) ?_
              refine lv_aload_n hx hb dX6_whoseBy_65 rfl (lv_at hl 1 rfl) ?_
              refine va_get (D := D) (ci := 6) (v := .ref a_o_s) (C := RX6) (T := TX6) (N := 20) hx hb hts in_X6 hown hK hP 0 rfl rfl 1 (by decide) (hts _ mw_3_187) (fun _ h9 => h9) rfl dX6_whoseBy_66 ?_
              refine lv_iconst (v := (4 : Int32)) hx hb dX6_whoseBy_69 (by decide) ?_
              refine cz_iald hx hb hK hP 1 0 rfl rfl (cz_rdE h).1 dX6_whoseBy_70 (fun x40 ex40 => ?_)
              replace h := cz_rdK ex40 h
              refine lv_aload_n hx hb dX6_whoseBy_71 rfl (lv_at hl 1 rfl) ?_
              refine va_get (D := D) (ci := 6) (v := .ref a_o_s) (C := RX6) (T := TX6) (N := 20) hx hb hts in_X6 hown hK hP 0 rfl rfl 1 (by decide) (hts _ mw_3_187) (fun _ h9 => h9) rfl dX6_whoseBy_72 ?_
              refine lv_iconst (v := (4 : Int32)) hx hb dX6_whoseBy_75 (by decide) ?_
              refine cz_iald hx hb hK hP 1 0 rfl rfl (cz_rdE h).1 dX6_whoseBy_76 (fun x41 ex41 => ?_)
              replace h := cz_rdK ex41 h
              refine lv_imul hx hb dX6_whoseBy_77 ?_
              refine lv_icmp_le (tgt := 84) hx hb dX6_whoseBy_78 (by decide) (fun c42 => ?_) (fun c42 => ?_)
              · replace h := cz_t c42 h
                refine lv_iload hx hb dX6_whoseBy_84 (lv_at hl 0 rfl) ?_
                refine lv_iload hx hb dX6_whoseBy_86 (lv_at hl 6 rfl) ?_
                obtain ⟨z47, hE45, hz44⟩ := cz_x1 h
                have hJ46 : ∀ (x43 : Int32) (H : Heap) (locs : List Loc) (ls : Array Slot), z47 = x43 → va_P D vwCl [oX6 a_o a_o_refusals a_o_s a_o_image v_o_isImage a_o_tape a_o_read v_o_taped v_o_pos v_o_readWide v_o_readHigh a_o_innerOf a_o_whoseOf a_o_nearOf a_o_fromOf v_o_thirds a_o_pieceOf a_o_kept a_o_claimOf a_o_row v_o_rowed, aI cI a_o_s 151 f_o_s, aI cI a_o_innerOf 120 f_o_innerOf, aI cI a_o_nearOf 360 f_o_nearOf] H → va_D A [oX6 a_o a_o_refusals a_o_s a_o_image v_o_isImage a_o_tape a_o_read v_o_taped v_o_pos v_o_readWide v_o_readHigh a_o_innerOf a_o_whoseOf a_o_nearOf a_o_fromOf v_o_thirds a_o_pieceOf a_o_kept a_o_claimOf a_o_row v_o_rowed, aI cI a_o_s 151 f_o_s, aI cI a_o_innerOf 120 f_o_innerOf, aI cI a_o_nearOf 360 f_o_nearOf] → va_S A s.heap H locs → lv_has ls 8 [(0, .ref a_o), (1, .int w1), (2, .int x6), (3, .int x7), (4, .int x8), (5, .int x9)] → W p l e (cz_rm 1 21) s m ag below meth c H locs 0 0 Q (F0 m 123 ls [.int x43, .int x30]) := by
                  intro x43 H locs ls h hP hD hS hl
                  replace h := hz44 _ h
                  refine lv_imul hx hb dX6_whoseBy_123 ?_
                  refine lv_topi (fun x48 ex48 => ?_)
                  replace h := cz_ltE ex48 h
                  refine lv_istore (lv' := [(7, .int x48), (0, .ref a_o), (1, .int w1), (2, .int x6), (3, .int x7), (4, .int x8), (5, .int x9)]) hx hb dX6_whoseBy_124 hl (by decide) rfl (fun ls hl => ?_)
                  refine lv_iload_n hx hb dX6_whoseBy_126 rfl (lv_at hl 3 rfl) ?_
                  refine lv_bipush (v := (-3 : Int32)) hx hb dX6_whoseBy_127 (by decide) ?_
                  refine lv_icmp_eq (tgt := 141) hx hb dX6_whoseBy_129 (by decide) (fun c49 => ?_) (fun c49 => ?_)
                  · replace h := cz_t c49 h
                    refine lv_iload_n hx hb dX6_whoseBy_141 rfl (lv_at hl 3 rfl) ?_
                    refine lv_bipush (v := (-3 : Int32)) hx hb dX6_whoseBy_142 (by decide) ?_
                    obtain ⟨z54, hE52, hz51⟩ := cz_ltV h
                    have hJ53 : ∀ (x50 : Int32) (H : Heap) (locs : List Loc) (ls : Array Slot), z54 = x50 → va_P D vwCl [oX6 a_o a_o_refusals a_o_s a_o_image v_o_isImage a_o_tape a_o_read v_o_taped v_o_pos v_o_readWide v_o_readHigh a_o_innerOf a_o_whoseOf a_o_nearOf a_o_fromOf v_o_thirds a_o_pieceOf a_o_kept a_o_claimOf a_o_row v_o_rowed, aI cI a_o_s 151 f_o_s, aI cI a_o_innerOf 120 f_o_innerOf, aI cI a_o_nearOf 360 f_o_nearOf] H → va_D A [oX6 a_o a_o_refusals a_o_s a_o_image v_o_isImage a_o_tape a_o_read v_o_taped v_o_pos v_o_readWide v_o_readHigh a_o_innerOf a_o_whoseOf a_o_nearOf a_o_fromOf v_o_thirds a_o_pieceOf a_o_kept a_o_claimOf a_o_row v_o_rowed, aI cI a_o_s 151 f_o_s, aI cI a_o_innerOf 120 f_o_innerOf, aI cI a_o_nearOf 360 f_o_nearOf] → va_S A s.heap H locs → lv_has ls 8 [(0, .ref a_o), (1, .int w1), (5, .int x9), (7, .int x48)] → W p l e (cz_rm 1 21) s m ag below meth c H locs 0 0 Q (F0 m 161 ls [.int x50]) := by
                      intro x50 H locs ls h hP hD hS hl
                      replace h := hz51 _ h
                      refine lv_istore (lv' := [(4, .int x50), (0, .ref a_o), (1, .int w1), (5, .int x9), (7, .int x48)]) hx hb dX6_whoseBy_161 hl (by decide) rfl (fun ls hl => ?_)
                      refine lv_iload hx hb dX6_whoseBy_163 (lv_at hl 3 rfl) ?_
                      refine lv_istore_n (lv' := [(2, .int x9), (4, .int x50), (0, .ref a_o), (1, .int w1), (5, .int x9), (7, .int x48)]) hx hb dX6_whoseBy_165 rfl hl (by decide) rfl (fun ls hl => ?_)
                      refine lv_iload hx hb dX6_whoseBy_166 (lv_at hl 5 rfl) ?_
                      refine lv_istore_n (lv' := [(3, .int x48), (2, .int x9), (4, .int x50), (0, .ref a_o), (1, .int w1), (5, .int x9), (7, .int x48)]) hx hb dX6_whoseBy_168 rfl hl (by decide) rfl (fun ls hl => ?_)
                      exact hJ36 _ _ _ _ _ _ (cz_i h).symm hP hD hS (lv_sub hl [3, 4, 1, 0, 2, 5] rfl)
                    clear h
                    have h := hE52
                    refine lv_icmp_eq (tgt := 160) hx hb dX6_whoseBy_144 (by decide) (fun c55 => ?_) (fun c55 => ?_)
                    · replace h := cz_t c55 h
                      refine lv_iconst (v := (1 : Int32)) hx hb dX6_whoseBy_160 (by decide) ?_
                      exact hJ53 _ _ _ _ h.symm hP hD hS (lv_sub hl [1, 2, 6, 0] rfl)
                    · replace h := cz_f c55 h
                      refine lv_iload hx hb dX6_whoseBy_147 (lv_at hl 0 rfl) ?_
                      refine lv_iload_n hx hb dX6_whoseBy_149 rfl (lv_at hl 4 rfl) ?_
                      refine lv_icmp_ne (tgt := 160) hx hb dX6_whoseBy_150 (by decide) (fun c56 => ?_) (fun c56 => ?_)
                      · replace h := cz_f c56 h
                        refine lv_iconst (v := (1 : Int32)) hx hb dX6_whoseBy_160 (by decide) ?_
                        exact hJ53 _ _ _ _ h.symm hP hD hS (lv_sub hl [1, 2, 6, 0] rfl)
                      · replace h := cz_t c56 h
                        refine lv_iload hx hb dX6_whoseBy_153 (lv_at hl 5 rfl) ?_
                        refine lv_iconst (v := (1 : Int32)) hx hb dX6_whoseBy_155 (by decide) ?_
                        refine lv_iadd hx hb dX6_whoseBy_156 ?_
                        refine lv_goto (tgt := 161) hx hb dX6_whoseBy_157 (by decide) ?_
                        exact hJ53 _ _ _ _ h.symm hP hD hS (lv_sub hl [1, 2, 6, 0] rfl)
                  · replace h := cz_f c49 h
                    refine lv_iload hx hb dX6_whoseBy_132 (lv_at hl 0 rfl) ?_
                    refine lv_iload_n hx hb dX6_whoseBy_134 rfl (lv_at hl 4 rfl) ?_
                    refine lv_icmp_le (tgt := 141) hx hb dX6_whoseBy_135 (by decide) (fun c57 => ?_) (fun c57 => ?_)
                    · replace h := cz_t c57 h
                      refine lv_iload_n hx hb dX6_whoseBy_141 rfl (lv_at hl 3 rfl) ?_
                      refine lv_bipush (v := (-3 : Int32)) hx hb dX6_whoseBy_142 (by decide) ?_
                      obtain ⟨z62, hE60, hz59⟩ := cz_ltV h
                      have hJ61 : ∀ (x58 : Int32) (H : Heap) (locs : List Loc) (ls : Array Slot), z62 = x58 → va_P D vwCl [oX6 a_o a_o_refusals a_o_s a_o_image v_o_isImage a_o_tape a_o_read v_o_taped v_o_pos v_o_readWide v_o_readHigh a_o_innerOf a_o_whoseOf a_o_nearOf a_o_fromOf v_o_thirds a_o_pieceOf a_o_kept a_o_claimOf a_o_row v_o_rowed, aI cI a_o_s 151 f_o_s, aI cI a_o_innerOf 120 f_o_innerOf, aI cI a_o_nearOf 360 f_o_nearOf] H → va_D A [oX6 a_o a_o_refusals a_o_s a_o_image v_o_isImage a_o_tape a_o_read v_o_taped v_o_pos v_o_readWide v_o_readHigh a_o_innerOf a_o_whoseOf a_o_nearOf a_o_fromOf v_o_thirds a_o_pieceOf a_o_kept a_o_claimOf a_o_row v_o_rowed, aI cI a_o_s 151 f_o_s, aI cI a_o_innerOf 120 f_o_innerOf, aI cI a_o_nearOf 360 f_o_nearOf] → va_S A s.heap H locs → lv_has ls 8 [(0, .ref a_o), (1, .int w1), (5, .int x9), (7, .int x48)] → W p l e (cz_rm 1 21) s m ag below meth c H locs 0 0 Q (F0 m 161 ls [.int x58]) := by
                        intro x58 H locs ls h hP hD hS hl
                        replace h := hz59 _ h
                        refine lv_istore (lv' := [(4, .int x58), (0, .ref a_o), (1, .int w1), (5, .int x9), (7, .int x48)]) hx hb dX6_whoseBy_161 hl (by decide) rfl (fun ls hl => ?_)
                        refine lv_iload hx hb dX6_whoseBy_163 (lv_at hl 3 rfl) ?_
                        refine lv_istore_n (lv' := [(2, .int x9), (4, .int x58), (0, .ref a_o), (1, .int w1), (5, .int x9), (7, .int x48)]) hx hb dX6_whoseBy_165 rfl hl (by decide) rfl (fun ls hl => ?_)
                        refine lv_iload hx hb dX6_whoseBy_166 (lv_at hl 5 rfl) ?_
                        refine lv_istore_n (lv' := [(3, .int x48), (2, .int x9), (4, .int x58), (0, .ref a_o), (1, .int w1), (5, .int x9), (7, .int x48)]) hx hb dX6_whoseBy_168 rfl hl (by decide) rfl (fun ls hl => ?_)
                        exact hJ36 _ _ _ _ _ _ (cz_i h).symm hP hD hS (lv_sub hl [3, 4, 1, 0, 2, 5] rfl)
                      clear h
                      have h := hE60
                      refine lv_icmp_eq (tgt := 160) hx hb dX6_whoseBy_144 (by decide) (fun c63 => ?_) (fun c63 => ?_)
                      · replace h := cz_t c63 h
                        refine lv_iconst (v := (1 : Int32)) hx hb dX6_whoseBy_160 (by decide) ?_
                        exact hJ61 _ _ _ _ h.symm hP hD hS (lv_sub hl [1, 2, 6, 0] rfl)
                      · replace h := cz_f c63 h
                        refine lv_iload hx hb dX6_whoseBy_147 (lv_at hl 0 rfl) ?_
                        refine lv_iload_n hx hb dX6_whoseBy_149 rfl (lv_at hl 4 rfl) ?_
                        refine lv_icmp_ne (tgt := 160) hx hb dX6_whoseBy_150 (by decide) (fun c64 => ?_) (fun c64 => ?_)
                        · replace h := cz_f c64 h
                          refine lv_iconst (v := (1 : Int32)) hx hb dX6_whoseBy_160 (by decide) ?_
                          exact hJ61 _ _ _ _ h.symm hP hD hS (lv_sub hl [1, 2, 6, 0] rfl)
                        · replace h := cz_t c64 h
                          refine lv_iload hx hb dX6_whoseBy_153 (lv_at hl 5 rfl) ?_
                          refine lv_iconst (v := (1 : Int32)) hx hb dX6_whoseBy_155 (by decide) ?_
                          refine lv_iadd hx hb dX6_whoseBy_156 ?_
                          refine lv_goto (tgt := 161) hx hb dX6_whoseBy_157 (by decide) ?_
                          exact hJ61 _ _ _ _ h.symm hP hD hS (lv_sub hl [1, 2, 6, 0] rfl)
                    · replace h := cz_f c57 h
                      refine lv_goto (tgt := 169) hx hb dX6_whoseBy_138 (by decide) ?_
                      exact hJ36 _ _ _ _ _ _ (cz_i h).symm hP hD hS (lv_sub hl [1, 2, 3, 4, 5, 6] rfl)
                clear h
                have h := hE45
                refine lv_if_ne (tgt := 103) hx hb dX6_whoseBy_88 (by decide) (fun c65 => ?_) (fun c65 => ?_)
                · replace h := cz_f c65 h
                  refine lv_iload hx hb dX6_whoseBy_103 (lv_at hl 6 rfl) ?_
                  refine lv_iconst (v := (1 : Int32)) hx hb dX6_whoseBy_105 (by decide) ?_
                  refine lv_icmp_ne (tgt := 121) hx hb dX6_whoseBy_106 (by decide) (fun c66 => ?_) (fun c66 => ?_)
                  · replace h := cz_f c66 h
                    refine lv_bipush (v := (100 : Int32)) hx hb dX6_whoseBy_121 (by decide) ?_
                    exact hJ46 _ _ _ _ (cz_i h).symm hP hD hS (lv_sub hl [1, 2, 3, 4, 5, 6] rfl)
                  · replace h := cz_t c66 h
                    refine lv_bipush (v := (100 : Int32)) hx hb dX6_whoseBy_109 (by decide) ?_
                    refine lv_aload_n hx hb dX6_whoseBy_111 rfl (lv_at hl 1 rfl) ?_
                    refine va_get (D := D) (ci := 6) (v := .ref a_o_s) (C := RX6) (T := TX6) (N := 20) hx hb hts in_X6 hown hK hP 0 rfl rfl 1 (by decide) (hts _ mw_3_187) (fun _ h9 => h9) rfl dX6_whoseBy_112 ?_
                    refine lv_iconst (v := (5 : Int32)) hx hb dX6_whoseBy_115 (by decide) ?_
                    refine cz_iald hx hb hK hP 1 0 rfl rfl (cz_rdE h).1 dX6_whoseBy_116 (fun x67 ex67 => ?_)
                    replace h := cz_rdK ex67 h
                    refine lv_iadd hx hb dX6_whoseBy_117 ?_
                    refine lv_goto (tgt := 123) hx hb dX6_whoseBy_118 (by decide) ?_
                    exact hJ46 _ _ _ _ (cz_i h).symm hP hD hS (lv_sub hl [1, 2, 3, 4, 5, 6] rfl)
                · replace h := cz_t c65 h
                  refine lv_bipush (v := (100 : Int32)) hx hb dX6_whoseBy_91 (by decide) ?_
                  refine lv_aload_n hx hb dX6_whoseBy_93 rfl (lv_at hl 1 rfl) ?_
                  refine va_get (D := D) (ci := 6) (v := .ref a_o_s) (C := RX6) (T := TX6) (N := 20) hx hb hts in_X6 hown hK hP 0 rfl rfl 1 (by decide) (hts _ mw_3_187) (fun _ h9 => h9) rfl dX6_whoseBy_94 ?_
                  refine lv_iconst (v := (5 : Int32)) hx hb dX6_whoseBy_97 (by decide) ?_
                  refine cz_iald hx hb hK hP 1 0 rfl rfl (cz_rdE h).1 dX6_whoseBy_98 (fun x68 ex68 => ?_)
                  replace h := cz_rdK ex68 h
                  refine lv_isub hx hb dX6_whoseBy_99 ?_
                  refine lv_goto (tgt := 123) hx hb dX6_whoseBy_100 (by decide) ?_
                  exact hJ46 _ _ _ _ (cz_i h).symm hP hD hS (lv_sub hl [1, 2, 3, 4, 5, 6] rfl)
              · replace h := cz_f c42 h
                refine lv_goto (tgt := 169) hx hb dX6_whoseBy_81 (by decide) ?_
                exact hJ36 _ _ _ _ _ _ (cz_i h).symm hP hD hS (lv_sub hl [1, 2, 3, 4, 5, 6] rfl)
      exact hL14 n _ _ _ _ _ _ _ hE11 hP hD hS (lv_sub hl [4, 5, 3, 2, 1, 0] rfl)
    · replace h := cz_f c5 h
      refine lv_aload_n hx hb dX6_whoseBy_20 rfl (lv_at hl 0 rfl) ?_
      refine va_get (D := D) (ci := 6) (v := .ref a_o_innerOf) (C := RX6) (T := TX6) (N := 20) hx hb hts in_X6 hown hK hP 0 rfl rfl 10 (by decide) (hts _ mw_3_196) (fun _ h9 => h9) rfl dX6_whoseBy_21 ?_
      refine lv_iload_n hx hb dX6_whoseBy_24 rfl (lv_at hl 1 rfl) ?_
      refine cz_iald hx hb hK hP 2 0 rfl rfl (cz_rdE h).1 dX6_whoseBy_25 (fun x70 ex70 => ?_)
      replace h := cz_rdK ex70 h
      obtain ⟨rfl, rfl⟩ := cz_j2 (cz_i h)
      exact hQ _ _ _ _ hP hS dX6_whoseBy_26
  · replace h := cz_f c3 h
    refine lv_bipush (v := (-9 : Int32)) hx hb dX6_whoseBy_8 (by decide) ?_
    obtain ⟨rfl, rfl⟩ := cz_j2 (cz_i h)
    exact hQ _ _ _ _ hP hS dX6_whoseBy_10
set_option maxHeartbeats 4000000 in
set_option maxRecDepth 100000 in
theorem c_X6_find (l : Launch) (D : va_G) (cI : ClassId) (a_o a_o_s a_o_innerOf a_o_whoseOf a_o_nearOf a_o_fromOf a_o_refusals a_o_image a_o_tape a_o_read a_o_pieceOf a_o_kept a_o_claimOf a_o_row : Nat) (v_o_isImage : Int32) (v_o_taped : Int32) (v_o_pos : Int32) (v_o_readWide : Int32) (v_o_readHigh : Int32) (v_o_thirds : Int32) (v_o_rowed : Int32) (f_o_s : (Nat → Int32)) (f_o_innerOf : (Nat → Int32)) (f_o_whoseOf : (Nat → Int32)) (f_o_nearOf : (Nat → Int32)) (f_o_fromOf : (Nat → Int32)) (n : Nat) (r_v_o_thirds : Int32) (r_f_o_innerOf : (Nat → Int32)) (r_f_o_whoseOf : (Nat → Int32)) (r_f_o_nearOf : (Nat → Int32)) (r_f_o_fromOf : (Nat → Int32)) (h : f_X6_find n v_o_thirds f_o_s f_o_innerOf f_o_whoseOf f_o_nearOf f_o_fromOf = some (r_v_o_thirds, r_f_o_innerOf, r_f_o_whoseOf, r_f_o_nearOf, r_f_o_fromOf)) : cz_M l yX6_find cX6_find 3 none 4 95 D cI [.ref a_o] [oX6 a_o a_o_refusals a_o_s a_o_image v_o_isImage a_o_tape a_o_read v_o_taped v_o_pos v_o_readWide v_o_readHigh a_o_innerOf a_o_whoseOf a_o_nearOf a_o_fromOf v_o_thirds a_o_pieceOf a_o_kept a_o_claimOf a_o_row v_o_rowed, aI cI a_o_s 151 f_o_s, aI cI a_o_innerOf 120 f_o_innerOf, aI cI a_o_whoseOf 120 f_o_whoseOf, aI cI a_o_nearOf 360 f_o_nearOf, aI cI a_o_fromOf 360 f_o_fromOf] none [oX6 a_o a_o_refusals a_o_s a_o_image v_o_isImage a_o_tape a_o_read v_o_taped v_o_pos v_o_readWide v_o_readHigh a_o_innerOf a_o_whoseOf a_o_nearOf a_o_fromOf r_v_o_thirds a_o_pieceOf a_o_kept a_o_claimOf a_o_row v_o_rowed, aI cI a_o_s 151 f_o_s, aI cI a_o_innerOf 120 r_f_o_innerOf, aI cI a_o_whoseOf 120 r_f_o_whoseOf, aI cI a_o_nearOf 360 r_f_o_nearOf, aI cI a_o_fromOf 360 r_f_o_fromOf] := by
  refine cz_startV (by decide) (Nat.le_of_ble_eq_true rfl) ?_
  intro p e s m ag below meth c A Q hx hb hml hown hts hK hN hQ H locs hP hD hS ls hl
  replace hown : s.vm.findClass RX6 = some m.cls := hown
  replace hl : lv_has ls 3 [(0, .ref a_o)] := hl
  unfold f_X6_find at h
  refine lv_aload_n hx hb dX6_find_0 rfl (lv_at hl 0 rfl) ?_
  refine lv_iconst (v := (0 : Int32)) hx hb dX6_find_1 (by decide) ?_
  refine va_put (D := D) (ci := 6) (v := .int (0 : Int32)) (ty := .int) (C := RX6) (T := TX6) (N := 20) hx hb hts in_X6 tyX6 tyX6_ok nmX6 hown hK hP hD hS 0 rfl rfl 14 (by decide) (hts _ mw_3_200) (fun _ h9 => h9) rfl (by decide +kernel) rfl rfl (Nat.le_of_ble_eq_true rfl) dX6_find_2 (fun H locs hP hD hS => ?_)
  replace hP : va_P D vwCl [oX6 a_o a_o_refusals a_o_s a_o_image v_o_isImage a_o_tape a_o_read v_o_taped v_o_pos v_o_readWide v_o_readHigh a_o_innerOf a_o_whoseOf a_o_nearOf a_o_fromOf (0 : Int32) a_o_pieceOf a_o_kept a_o_claimOf a_o_row v_o_rowed, aI cI a_o_s 151 f_o_s, aI cI a_o_innerOf 120 f_o_innerOf, aI cI a_o_whoseOf 120 f_o_whoseOf, aI cI a_o_nearOf 360 f_o_nearOf, aI cI a_o_fromOf 360 f_o_fromOf] H := hP
  replace hD : va_D A [oX6 a_o a_o_refusals a_o_s a_o_image v_o_isImage a_o_tape a_o_read v_o_taped v_o_pos v_o_readWide v_o_readHigh a_o_innerOf a_o_whoseOf a_o_nearOf a_o_fromOf (0 : Int32) a_o_pieceOf a_o_kept a_o_claimOf a_o_row v_o_rowed, aI cI a_o_s 151 f_o_s, aI cI a_o_innerOf 120 f_o_innerOf, aI cI a_o_whoseOf 120 f_o_whoseOf, aI cI a_o_nearOf 360 f_o_nearOf, aI cI a_o_fromOf 360 f_o_fromOf] := hD
  refine lv_iconst (v := (0 : Int32)) hx hb dX6_find_5 (by decide) ?_
  refine lv_istore_n (lv' := [(1, .int (0 : Int32)), (0, .ref a_o)]) hx hb dX6_find_6 rfl hl (by decide) rfl (fun ls hl => ?_)
  obtain ⟨z4, hE5, hz6⟩ := cz_x3 h
  have hX7 : ∀ (y10 : Int32) (y11 : Int32) (q12 : (Nat → Int32)) (H : Heap) (locs : List Loc) (ls : Array Slot), z4 = (y10, y11, q12) → va_P D vwCl [oX6 a_o a_o_refusals a_o_s a_o_image v_o_isImage a_o_tape a_o_read v_o_taped v_o_pos v_o_readWide v_o_readHigh a_o_innerOf a_o_whoseOf a_o_nearOf a_o_fromOf y11 a_o_pieceOf a_o_kept a_o_claimOf a_o_row v_o_rowed, aI cI a_o_s 151 f_o_s, aI cI a_o_innerOf 120 q12, aI cI a_o_whoseOf 120 f_o_whoseOf, aI cI a_o_nearOf 360 f_o_nearOf, aI cI a_o_fromOf 360 f_o_fromOf] H → va_D A [oX6 a_o a_o_refusals a_o_s a_o_image v_o_isImage a_o_tape a_o_read v_o_taped v_o_pos v_o_readWide v_o_readHigh a_o_innerOf a_o_whoseOf a_o_nearOf a_o_fromOf y11 a_o_pieceOf a_o_kept a_o_claimOf a_o_row v_o_rowed, aI cI a_o_s 151 f_o_s, aI cI a_o_innerOf 120 q12, aI cI a_o_whoseOf 120 f_o_whoseOf, aI cI a_o_nearOf 360 f_o_nearOf, aI cI a_o_fromOf 360 f_o_fromOf] → va_S A s.heap H locs → lv_has ls 3 [(0, .ref a_o)] → W p l e (cz_rm 4 95) s m ag below meth c H locs 0 0 Q (F0 m 32 ls []) := by
    intro y10 y11 q12 H locs ls h hP hD hS hl
    replace h := hz6 _ _ _ h
    refine lv_iconst (v := (0 : Int32)) hx hb dX6_find_32 (by decide) ?_
    refine lv_istore_n (lv' := [(1, .int (0 : Int32)), (0, .ref a_o)]) hx hb dX6_find_33 rfl hl (by decide) rfl (fun ls hl => ?_)
    obtain ⟨z16, hE17, hz18⟩ := cz_x3 h
    have hX19 : ∀ (y22 : Int32) (q23 : (Nat → Int32)) (q24 : (Nat → Int32)) (H : Heap) (locs : List Loc) (ls : Array Slot), z16 = (y22, q23, q24) → va_P D vwCl [oX6 a_o a_o_refusals a_o_s a_o_image v_o_isImage a_o_tape a_o_read v_o_taped v_o_pos v_o_readWide v_o_readHigh a_o_innerOf a_o_whoseOf a_o_nearOf a_o_fromOf y11 a_o_pieceOf a_o_kept a_o_claimOf a_o_row v_o_rowed, aI cI a_o_s 151 f_o_s, aI cI a_o_innerOf 120 q12, aI cI a_o_whoseOf 120 f_o_whoseOf, aI cI a_o_nearOf 360 q23, aI cI a_o_fromOf 360 q24] H → va_D A [oX6 a_o a_o_refusals a_o_s a_o_image v_o_isImage a_o_tape a_o_read v_o_taped v_o_pos v_o_readWide v_o_readHigh a_o_innerOf a_o_whoseOf a_o_nearOf a_o_fromOf y11 a_o_pieceOf a_o_kept a_o_claimOf a_o_row v_o_rowed, aI cI a_o_s 151 f_o_s, aI cI a_o_innerOf 120 q12, aI cI a_o_whoseOf 120 f_o_whoseOf, aI cI a_o_nearOf 360 q23, aI cI a_o_fromOf 360 q24] → va_S A s.heap H locs → lv_has ls 3 [(0, .ref a_o)] → W p l e (cz_rm 4 95) s m ag below meth c H locs 0 0 Q (F0 m 67 ls []) := by
      intro y22 q23 q24 H locs ls h hP hD hS hl
      replace h := hz18 _ _ _ h
      refine lv_iconst (v := (0 : Int32)) hx hb dX6_find_67 (by decide) ?_
      refine lv_istore_n (lv' := [(1, .int (0 : Int32)), (0, .ref a_o)]) hx hb dX6_find_68 rfl hl (by decide) rfl (fun ls hl => ?_)
      obtain ⟨z28, hE29, hz30⟩ := cz_x3 h
      have hX31 : ∀ (y34 : Int32) (y35 : Int32) (q36 : (Nat → Int32)) (H : Heap) (locs : List Loc) (ls : Array Slot), z28 = (y34, y35, q36) → va_P D vwCl [oX6 a_o a_o_refusals a_o_s a_o_image v_o_isImage a_o_tape a_o_read v_o_taped v_o_pos v_o_readWide v_o_readHigh a_o_innerOf a_o_whoseOf a_o_nearOf a_o_fromOf y35 a_o_pieceOf a_o_kept a_o_claimOf a_o_row v_o_rowed, aI cI a_o_s 151 f_o_s, aI cI a_o_innerOf 120 q12, aI cI a_o_whoseOf 120 q36, aI cI a_o_nearOf 360 q23, aI cI a_o_fromOf 360 q24] H → va_D A [oX6 a_o a_o_refusals a_o_s a_o_image v_o_isImage a_o_tape a_o_read v_o_taped v_o_pos v_o_readWide v_o_readHigh a_o_innerOf a_o_whoseOf a_o_nearOf a_o_fromOf y35 a_o_pieceOf a_o_kept a_o_claimOf a_o_row v_o_rowed, aI cI a_o_s 151 f_o_s, aI cI a_o_innerOf 120 q12, aI cI a_o_whoseOf 120 q36, aI cI a_o_nearOf 360 q23, aI cI a_o_fromOf 360 q24] → va_S A s.heap H locs → lv_has ls 3 [] → W p l e (cz_rm 4 95) s m ag below meth c H locs 0 0 Q (F0 m 94 ls []) := by
        intro y34 y35 q36 H locs ls h hP hD hS hl
        replace h := hz30 _ _ _ h
        obtain ⟨rfl, rfl, rfl, rfl, rfl⟩ := cz_j5 (cz_i h)
        exact hQ _ _ _ _ hP hS dX6_find_94
      clear h
      have hL32 : ∀ (k : Nat) (x25 : Int32) (x26 : Int32) (g27 : (Nat → Int32)) (H : Heap) (locs : List Loc) (ls : Array Slot), f_X6_find_L69 n f_o_s q12 q23 k x25 x26 g27 = some z28 → va_P D vwCl [oX6 a_o a_o_refusals a_o_s a_o_image v_o_isImage a_o_tape a_o_read v_o_taped v_o_pos v_o_readWide v_o_readHigh a_o_innerOf a_o_whoseOf a_o_nearOf a_o_fromOf x26 a_o_pieceOf a_o_kept a_o_claimOf a_o_row v_o_rowed, aI cI a_o_s 151 f_o_s, aI cI a_o_innerOf 120 q12, aI cI a_o_whoseOf 120 g27, aI cI a_o_nearOf 360 q23, aI cI a_o_fromOf 360 q24] H → va_D A [oX6 a_o a_o_refusals a_o_s a_o_image v_o_isImage a_o_tape a_o_read v_o_taped v_o_pos v_o_readWide v_o_readHigh a_o_innerOf a_o_whoseOf a_o_nearOf a_o_fromOf x26 a_o_pieceOf a_o_kept a_o_claimOf a_o_row v_o_rowed, aI cI a_o_s 151 f_o_s, aI cI a_o_innerOf 120 q12, aI cI a_o_whoseOf 120 g27, aI cI a_o_nearOf 360 q23, aI cI a_o_fromOf 360 q24] → va_S A s.heap H locs → lv_has ls 3 [(0, .ref a_o), (1, .int x25)] → W p l e (cz_rm 4 95) s m ag below meth c H locs 0 0 Q (F0 m 69 ls []) := by
        intro k
        induction k with
        | zero =>
          intro x25 x26 g27 H locs ls h
          rw [f_X6_find_L69] at h
          cases h
        | succ k ih37 =>
          intro x25 x26 g27 H locs ls h hP hD hS hl
          rw [f_X6_find_L69] at h
          refine lv_iload_n hx hb dX6_find_69 rfl (lv_at hl 1 rfl) ?_
          refine lv_aload_n hx hb dX6_find_70 rfl (lv_at hl 0 rfl) ?_
          obtain ⟨x38, hc39, h⟩ := cz_e1 h
          refine cz_callV (As := []) (rest := [.int x25]) (is := [0, 1]) (isR := [2, 3, 4, 5]) (rs := [aI cI a_o_innerOf 120 q12, aI cI a_o_whoseOf 120 g27, aI cI a_o_nearOf 360 q23, aI cI a_o_fromOf 360 q24]) (as := [a_o, a_o_s, a_o_innerOf, a_o_whoseOf, a_o_nearOf, a_o_fromOf]) (ws1 := [oX6 a_o a_o_refusals a_o_s a_o_image v_o_isImage a_o_tape a_o_read v_o_taped v_o_pos v_o_readWide v_o_readHigh a_o_innerOf a_o_whoseOf a_o_nearOf a_o_fromOf x26 a_o_pieceOf a_o_kept a_o_claimOf a_o_row v_o_rowed, aI cI a_o_s 151 f_o_s, aI cI a_o_innerOf 120 q12, aI cI a_o_whoseOf 120 g27, aI cI a_o_nearOf 360 q23, aI cI a_o_fromOf 360 q24]) (q0 := 0) (ci := 6) ⟨hx, hb, hml, hown, hts⟩ (c_X6_many l D cI a_o a_o_s a_o_refusals a_o_image a_o_tape a_o_read a_o_innerOf a_o_whoseOf a_o_nearOf a_o_fromOf a_o_pieceOf a_o_kept a_o_claimOf a_o_row v_o_isImage v_o_taped v_o_pos v_o_readWide v_o_readHigh x26 v_o_rowed f_o_s  n x38 hc39) mw_4_27 mw_4_29 mw_p_12 mw_1_8 mw_4_30 hd_X6_many ⟨Nat.le_of_ble_eq_true rfl, Nat.le_of_ble_eq_true rfl⟩ hK hN hP hD hS rfl rfl rfl rfl rfl rfl rfl rfl rfl rfl rfl rfl hl.1 rfl (Nat.le_of_ble_eq_true rfl) dX6_find_71 ⟨Nat.le_of_ble_eq_true rfl, Nat.le_of_ble_eq_true rfl⟩ (fun H locs hP hD hS => ?_)
          refine W.eq (g2 := F0 m 74 ls [.int x38, .int x25]) rfl ?_
          refine lv_icmp_ge (tgt := 94) hx hb dX6_find_74 (by decide) (fun c40 => ?_) (fun c40 => ?_)
          · replace h := cz_t c40 h
            exact hX31 _ _ _ _ _ _ (cz_i h).symm hP hD hS (lv_sub hl [] rfl)
          · replace h := cz_f c40 h
            refine lv_aload_n hx hb dX6_find_77 rfl (lv_at hl 0 rfl) ?_
            refine va_get (D := D) (ci := 6) (v := .ref a_o_whoseOf) (C := RX6) (T := TX6) (N := 20) hx hb hts in_X6 hown hK hP 0 rfl rfl 11 (by decide) (hts _ mw_3_197) (fun _ h9 => h9) rfl dX6_find_78 ?_
            refine lv_iload_n hx hb dX6_find_81 rfl (lv_at hl 1 rfl) ?_
            refine lv_aload_n hx hb dX6_find_82 rfl (lv_at hl 0 rfl) ?_
            refine lv_iload_n hx hb dX6_find_83 rfl (lv_at hl 1 rfl) ?_
            obtain ⟨x41, x42, hc43, h⟩ := cz_e2 h
            refine cz_callV (As := [.int x25]) (rest := [.int x25, .ref a_o_whoseOf]) (is := [0, 1, 2, 4]) (isR := [3, 5]) (rs := [aI cI a_o_whoseOf 120 g27, aI cI a_o_fromOf 360 q24]) (as := [a_o, a_o_s, a_o_innerOf, a_o_whoseOf, a_o_nearOf, a_o_fromOf]) (ws1 := [oX6 a_o a_o_refusals a_o_s a_o_image v_o_isImage a_o_tape a_o_read v_o_taped v_o_pos v_o_readWide v_o_readHigh a_o_innerOf a_o_whoseOf a_o_nearOf a_o_fromOf x42 a_o_pieceOf a_o_kept a_o_claimOf a_o_row v_o_rowed, aI cI a_o_s 151 f_o_s, aI cI a_o_innerOf 120 q12, aI cI a_o_whoseOf 120 g27, aI cI a_o_nearOf 360 q23, aI cI a_o_fromOf 360 q24]) (q0 := 0) (ci := 6) ⟨hx, hb, hml, hown, hts⟩ (c_X6_whoseBy l D cI a_o a_o_s a_o_innerOf a_o_nearOf a_o_refusals a_o_image a_o_tape a_o_read a_o_whoseOf a_o_fromOf a_o_pieceOf a_o_kept a_o_claimOf a_o_row v_o_isImage v_o_taped v_o_pos v_o_readWide v_o_readHigh x26 v_o_rowed f_o_s q12 q23 x25 n x41 x42 hc43) mw_4_92 mw_4_94 mw_p_22 mw_1_8 mw_4_95 hd_X6_whoseBy ⟨Nat.le_of_ble_eq_true rfl, Nat.le_of_ble_eq_true rfl⟩ hK hN hP hD hS rfl rfl rfl rfl rfl rfl rfl rfl rfl rfl rfl rfl hl.1 rfl (Nat.le_of_ble_eq_true rfl) dX6_find_84 ⟨Nat.le_of_ble_eq_true rfl, Nat.le_of_ble_eq_true rfl⟩ (fun H locs hP hD hS => ?_)
            refine W.eq (g2 := F0 m 87 ls [.int x41, .int x25, .ref a_o_whoseOf]) rfl ?_
            refine cz_iast hx hb hK hP hD hS 3 0 rfl rfl (cz_wrE h).1 dX6_find_87 (fun g44 H locs eg44 hP hD hS => ?_)
            replace h := cz_wrK eg44 h
            replace hP : va_P D vwCl [oX6 a_o a_o_refusals a_o_s a_o_image v_o_isImage a_o_tape a_o_read v_o_taped v_o_pos v_o_readWide v_o_readHigh a_o_innerOf a_o_whoseOf a_o_nearOf a_o_fromOf x42 a_o_pieceOf a_o_kept a_o_claimOf a_o_row v_o_rowed, aI cI a_o_s 151 f_o_s, aI cI a_o_innerOf 120 q12, aI cI a_o_whoseOf 120 g44, aI cI a_o_nearOf 360 q23, aI cI a_o_fromOf 360 q24] H := hP
            replace hD : va_D A [oX6 a_o a_o_refusals a_o_s a_o_image v_o_isImage a_o_tape a_o_read v_o_taped v_o_pos v_o_readWide v_o_readHigh a_o_innerOf a_o_whoseOf a_o_nearOf a_o_fromOf x42 a_o_pieceOf a_o_kept a_o_claimOf a_o_row v_o_rowed, aI cI a_o_s 151 f_o_s, aI cI a_o_innerOf 120 q12, aI cI a_o_whoseOf 120 g44, aI cI a_o_nearOf 360 q23, aI cI a_o_fromOf 360 q24] := hD
            obtain ⟨x45, ex45⟩ : ∃ z : Int32, z = x25 + (1 : Int32) := ⟨_, rfl⟩
            replace h := cz_ltE ex45 h
            refine lv_iinc (v := x45) (lv' := [(1, .int x45), (0, .ref a_o)]) hx hb dX6_find_88 hl (k := 1) rfl (by rw [ex45]; rfl) (by decide) rfl (fun ls hl => ?_)
            refine lv_goto (tgt := 69) hx hb dX6_find_91 (by decide) ?_
            exact ih37 _ _ _ _ _ _ h hP hD hS (lv_sub hl [1, 0] rfl)
      exact hL32 n _ _ _ _ _ _ hE29 hP hD hS (lv_sub hl [1, 0] rfl)
    clear h
    have hL20 : ∀ (k : Nat) (x13 : Int32) (g14 : (Nat → Int32)) (g15 : (Nat → Int32)) (H : Heap) (locs : List Loc) (ls : Array Slot), f_X6_find_L34 n f_o_s q12 k x13 g14 g15 = some z16 → va_P D vwCl [oX6 a_o a_o_refusals a_o_s a_o_image v_o_isImage a_o_tape a_o_read v_o_taped v_o_pos v_o_readWide v_o_readHigh a_o_innerOf a_o_whoseOf a_o_nearOf a_o_fromOf y11 a_o_pieceOf a_o_kept a_o_claimOf a_o_row v_o_rowed, aI cI a_o_s 151 f_o_s, aI cI a_o_innerOf 120 q12, aI cI a_o_whoseOf 120 f_o_whoseOf, aI cI a_o_nearOf 360 g14, aI cI a_o_fromOf 360 g15] H → va_D A [oX6 a_o a_o_refusals a_o_s a_o_image v_o_isImage a_o_tape a_o_read v_o_taped v_o_pos v_o_readWide v_o_readHigh a_o_innerOf a_o_whoseOf a_o_nearOf a_o_fromOf y11 a_o_pieceOf a_o_kept a_o_claimOf a_o_row v_o_rowed, aI cI a_o_s 151 f_o_s, aI cI a_o_innerOf 120 q12, aI cI a_o_whoseOf 120 f_o_whoseOf, aI cI a_o_nearOf 360 g14, aI cI a_o_fromOf 360 g15] → va_S A s.heap H locs → lv_has ls 3 [(0, .ref a_o), (1, .int x13)] → W p l e (cz_rm 4 95) s m ag below meth c H locs 0 0 Q (F0 m 34 ls []) := by
      intro k
      induction k with
      | zero =>
        intro x13 g14 g15 H locs ls h
        rw [f_X6_find_L34] at h
        cases h
      | succ k ih47 =>
        intro x13 g14 g15 H locs ls h hP hD hS hl
        rw [f_X6_find_L34] at h
        refine lv_iload_n hx hb dX6_find_34 rfl (lv_at hl 1 rfl) ?_
        refine lv_aload_n hx hb dX6_find_35 rfl (lv_at hl 0 rfl) ?_
        obtain ⟨x48, hc49, h⟩ := cz_e1 h
        refine cz_callV (As := []) (rest := [.int x13]) (is := [0, 1]) (isR := [2, 3, 4, 5]) (rs := [aI cI a_o_innerOf 120 q12, aI cI a_o_whoseOf 120 f_o_whoseOf, aI cI a_o_nearOf 360 g14, aI cI a_o_fromOf 360 g15]) (as := [a_o, a_o_s, a_o_innerOf, a_o_whoseOf, a_o_nearOf, a_o_fromOf]) (ws1 := [oX6 a_o a_o_refusals a_o_s a_o_image v_o_isImage a_o_tape a_o_read v_o_taped v_o_pos v_o_readWide v_o_readHigh a_o_innerOf a_o_whoseOf a_o_nearOf a_o_fromOf y11 a_o_pieceOf a_o_kept a_o_claimOf a_o_row v_o_rowed, aI cI a_o_s 151 f_o_s, aI cI a_o_innerOf 120 q12, aI cI a_o_whoseOf 120 f_o_whoseOf, aI cI a_o_nearOf 360 g14, aI cI a_o_fromOf 360 g15]) (q0 := 0) (ci := 6) ⟨hx, hb, hml, hown, hts⟩ (c_X6_many l D cI a_o a_o_s a_o_refusals a_o_image a_o_tape a_o_read a_o_innerOf a_o_whoseOf a_o_nearOf a_o_fromOf a_o_pieceOf a_o_kept a_o_claimOf a_o_row v_o_isImage v_o_taped v_o_pos v_o_readWide v_o_readHigh y11 v_o_rowed f_o_s  n x48 hc49) mw_4_27 mw_4_29 mw_p_12 mw_1_8 mw_4_30 hd_X6_many ⟨Nat.le_of_ble_eq_true rfl, Nat.le_of_ble_eq_true rfl⟩ hK hN hP hD hS rfl rfl rfl rfl rfl rfl rfl rfl rfl rfl rfl rfl hl.1 rfl (Nat.le_of_ble_eq_true rfl) dX6_find_36 ⟨Nat.le_of_ble_eq_true rfl, Nat.le_of_ble_eq_true rfl⟩ (fun H locs hP hD hS => ?_)
        refine W.eq (g2 := F0 m 39 ls [.int x48, .int x13]) rfl ?_
        refine lv_icmp_ge (tgt := 67) hx hb dX6_find_39 (by decide) (fun c50 => ?_) (fun c50 => ?_)
        · replace h := cz_t c50 h
          exact hX19 _ _ _ _ _ _ (cz_i h).symm hP hD hS (lv_sub hl [0] rfl)
        · replace h := cz_f c50 h
          refine lv_iconst (v := (0 : Int32)) hx hb dX6_find_42 (by decide) ?_
          refine lv_istore_n (lv' := [(2, .int (0 : Int32)), (0, .ref a_o), (1, .int x13)]) hx hb dX6_find_43 rfl hl (by decide) rfl (fun ls hl => ?_)
          obtain ⟨z54, hE55, hz56⟩ := cz_x3 h
          have hX57 : ∀ (y60 : Int32) (q61 : (Nat → Int32)) (q62 : (Nat → Int32)) (H : Heap) (locs : List Loc) (ls : Array Slot), z54 = (y60, q61, q62) → va_P D vwCl [oX6 a_o a_o_refusals a_o_s a_o_image v_o_isImage a_o_tape a_o_read v_o_taped v_o_pos v_o_readWide v_o_readHigh a_o_innerOf a_o_whoseOf a_o_nearOf a_o_fromOf y11 a_o_pieceOf a_o_kept a_o_claimOf a_o_row v_o_rowed, aI cI a_o_s 151 f_o_s, aI cI a_o_innerOf 120 q12, aI cI a_o_whoseOf 120 f_o_whoseOf, aI cI a_o_nearOf 360 q61, aI cI a_o_fromOf 360 q62] H → va_D A [oX6 a_o a_o_refusals a_o_s a_o_image v_o_isImage a_o_tape a_o_read v_o_taped v_o_pos v_o_readWide v_o_readHigh a_o_innerOf a_o_whoseOf a_o_nearOf a_o_fromOf y11 a_o_pieceOf a_o_kept a_o_claimOf a_o_row v_o_rowed, aI cI a_o_s 151 f_o_s, aI cI a_o_innerOf 120 q12, aI cI a_o_whoseOf 120 f_o_whoseOf, aI cI a_o_nearOf 360 q61, aI cI a_o_fromOf 360 q62] → va_S A s.heap H locs → lv_has ls 3 [(0, .ref a_o), (1, .int x13)] → W p l e (cz_rm 4 95) s m ag below meth c H locs 0 0 Q (F0 m 61 ls []) := by
            intro y60 q61 q62 H locs ls h hP hD hS hl
            replace h := hz56 _ _ _ h
            obtain ⟨x63, ex63⟩ : ∃ z : Int32, z = x13 + (1 : Int32) := ⟨_, rfl⟩
            replace h := cz_ltE ex63 h
            refine lv_iinc (v := x63) (lv' := [(1, .int x63), (0, .ref a_o)]) hx hb dX6_find_61 hl (k := 1) rfl (by rw [ex63]; rfl) (by decide) rfl (fun ls hl => ?_)
            refine lv_goto (tgt := 34) hx hb dX6_find_64 (by decide) ?_
            exact ih47 _ _ _ _ _ _ h hP hD hS (lv_sub hl [1, 0] rfl)
          clear h
          have hL58 : ∀ (k : Nat) (x51 : Int32) (g52 : (Nat → Int32)) (g53 : (Nat → Int32)) (H : Heap) (locs : List Loc) (ls : Array Slot), f_X6_find_L44 n f_o_s q12 x13 k x51 g52 g53 = some z54 → va_P D vwCl [oX6 a_o a_o_refusals a_o_s a_o_image v_o_isImage a_o_tape a_o_read v_o_taped v_o_pos v_o_readWide v_o_readHigh a_o_innerOf a_o_whoseOf a_o_nearOf a_o_fromOf y11 a_o_pieceOf a_o_kept a_o_claimOf a_o_row v_o_rowed, aI cI a_o_s 151 f_o_s, aI cI a_o_innerOf 120 q12, aI cI a_o_whoseOf 120 f_o_whoseOf, aI cI a_o_nearOf 360 g52, aI cI a_o_fromOf 360 g53] H → va_D A [oX6 a_o a_o_refusals a_o_s a_o_image v_o_isImage a_o_tape a_o_read v_o_taped v_o_pos v_o_readWide v_o_readHigh a_o_innerOf a_o_whoseOf a_o_nearOf a_o_fromOf y11 a_o_pieceOf a_o_kept a_o_claimOf a_o_row v_o_rowed, aI cI a_o_s 151 f_o_s, aI cI a_o_innerOf 120 q12, aI cI a_o_whoseOf 120 f_o_whoseOf, aI cI a_o_nearOf 360 g52, aI cI a_o_fromOf 360 g53] → va_S A s.heap H locs → lv_has ls 3 [(0, .ref a_o), (1, .int x13), (2, .int x51)] → W p l e (cz_rm 4 95) s m ag below meth c H locs 0 0 Q (F0 m 44 ls []) := by
            intro k
            induction k with
            | zero =>
              intro x51 g52 g53 H locs ls h
              rw [f_X6_find_L44] at h
              cases h
            | succ k ih64 =>
              intro x51 g52 g53 H locs ls h hP hD hS hl
              rw [f_X6_find_L44] at h
              refine lv_iload_n hx hb dX6_find_44 rfl (lv_at hl 2 rfl) ?_
              refine lv_iconst (v := (3 : Int32)) hx hb dX6_find_45 (by decide) ?_
              refine lv_icmp_ge (tgt := 61) hx hb dX6_find_46 (by decide) (fun c65 => ?_) (fun c65 => ?_)
              · replace h := cz_t c65 h
                exact hX57 _ _ _ _ _ _ (cz_i h).symm hP hD hS (lv_sub hl [0, 1] rfl)
              · replace h := cz_f c65 h
                refine lv_aload_n hx hb dX6_find_49 rfl (lv_at hl 0 rfl) ?_
                refine lv_iload_n hx hb dX6_find_50 rfl (lv_at hl 1 rfl) ?_
                refine lv_iload_n hx hb dX6_find_51 rfl (lv_at hl 2 rfl) ?_
                obtain ⟨g66, g67, hc68, h⟩ := cz_e2 h
                refine cz_callV (As := [.int x13, .int x51]) (rest := []) (is := [0, 1, 2, 4, 5]) (isR := [3]) (rs := [aI cI a_o_whoseOf 120 f_o_whoseOf]) (as := [a_o, a_o_s, a_o_innerOf, a_o_whoseOf, a_o_nearOf, a_o_fromOf]) (ws1 := [oX6 a_o a_o_refusals a_o_s a_o_image v_o_isImage a_o_tape a_o_read v_o_taped v_o_pos v_o_readWide v_o_readHigh a_o_innerOf a_o_whoseOf a_o_nearOf a_o_fromOf y11 a_o_pieceOf a_o_kept a_o_claimOf a_o_row v_o_rowed, aI cI a_o_s 151 f_o_s, aI cI a_o_innerOf 120 q12, aI cI a_o_whoseOf 120 f_o_whoseOf, aI cI a_o_nearOf 360 g66, aI cI a_o_fromOf 360 g67]) (q0 := 0) (ci := 6) ⟨hx, hb, hml, hown, hts⟩ (c_X6_findNear l D cI a_o a_o_s a_o_innerOf a_o_nearOf a_o_fromOf a_o_refusals a_o_image a_o_tape a_o_read a_o_whoseOf a_o_pieceOf a_o_kept a_o_claimOf a_o_row v_o_isImage v_o_taped v_o_pos v_o_readWide v_o_readHigh y11 v_o_rowed f_o_s q12 g52 g53 x13 x51 n g66 g67 hc68) mw_4_84 mw_4_86 mw_p_20 mw_1_8 mw_4_87 hd_X6_findNear ⟨Nat.le_of_ble_eq_true rfl, Nat.le_of_ble_eq_true rfl⟩ hK hN hP hD hS rfl rfl rfl rfl rfl rfl rfl rfl rfl rfl rfl rfl hl.1 rfl (Nat.le_of_ble_eq_true rfl) dX6_find_52 ⟨Nat.le_of_ble_eq_true rfl, Nat.le_of_ble_eq_true rfl⟩ (fun H locs hP hD hS => ?_)
                refine W.eq (g2 := F0 m 55 ls []) rfl ?_
                obtain ⟨x69, ex69⟩ : ∃ z : Int32, z = x51 + (1 : Int32) := ⟨_, rfl⟩
                replace h := cz_ltE ex69 h
                refine lv_iinc (v := x69) (lv' := [(2, .int x69), (0, .ref a_o), (1, .int x13)]) hx hb dX6_find_55 hl (k := 2) rfl (by rw [ex69]; rfl) (by decide) rfl (fun ls hl => ?_)
                refine lv_goto (tgt := 44) hx hb dX6_find_58 (by decide) ?_
                exact ih64 _ _ _ _ _ _ h hP hD hS (lv_sub hl [1, 2, 0] rfl)
          exact hL58 n _ _ _ _ _ _ hE55 hP hD hS (lv_sub hl [1, 2, 0] rfl)
    exact hL20 n _ _ _ _ _ _ hE17 hP hD hS (lv_sub hl [1, 0] rfl)
  clear h
  have hL8 : ∀ (k : Nat) (x1 : Int32) (x2 : Int32) (g3 : (Nat → Int32)) (H : Heap) (locs : List Loc) (ls : Array Slot), f_X6_find_L7 n f_o_s k x1 x2 g3 = some z4 → va_P D vwCl [oX6 a_o a_o_refusals a_o_s a_o_image v_o_isImage a_o_tape a_o_read v_o_taped v_o_pos v_o_readWide v_o_readHigh a_o_innerOf a_o_whoseOf a_o_nearOf a_o_fromOf x2 a_o_pieceOf a_o_kept a_o_claimOf a_o_row v_o_rowed, aI cI a_o_s 151 f_o_s, aI cI a_o_innerOf 120 g3, aI cI a_o_whoseOf 120 f_o_whoseOf, aI cI a_o_nearOf 360 f_o_nearOf, aI cI a_o_fromOf 360 f_o_fromOf] H → va_D A [oX6 a_o a_o_refusals a_o_s a_o_image v_o_isImage a_o_tape a_o_read v_o_taped v_o_pos v_o_readWide v_o_readHigh a_o_innerOf a_o_whoseOf a_o_nearOf a_o_fromOf x2 a_o_pieceOf a_o_kept a_o_claimOf a_o_row v_o_rowed, aI cI a_o_s 151 f_o_s, aI cI a_o_innerOf 120 g3, aI cI a_o_whoseOf 120 f_o_whoseOf, aI cI a_o_nearOf 360 f_o_nearOf, aI cI a_o_fromOf 360 f_o_fromOf] → va_S A s.heap H locs → lv_has ls 3 [(0, .ref a_o), (1, .int x1)] → W p l e (cz_rm 4 95) s m ag below meth c H locs 0 0 Q (F0 m 7 ls []) := by
    intro k
    induction k with
    | zero =>
      intro x1 x2 g3 H locs ls h
      rw [f_X6_find_L7] at h
      cases h
    | succ k ih72 =>
      intro x1 x2 g3 H locs ls h hP hD hS hl
      rw [f_X6_find_L7] at h
      refine lv_iload_n hx hb dX6_find_7 rfl (lv_at hl 1 rfl) ?_
      refine lv_aload_n hx hb dX6_find_8 rfl (lv_at hl 0 rfl) ?_
      obtain ⟨x73, hc74, h⟩ := cz_e1 h
      refine cz_callV (As := []) (rest := [.int x1]) (is := [0, 1]) (isR := [2, 3, 4, 5]) (rs := [aI cI a_o_innerOf 120 g3, aI cI a_o_whoseOf 120 f_o_whoseOf, aI cI a_o_nearOf 360 f_o_nearOf, aI cI a_o_fromOf 360 f_o_fromOf]) (as := [a_o, a_o_s, a_o_innerOf, a_o_whoseOf, a_o_nearOf, a_o_fromOf]) (ws1 := [oX6 a_o a_o_refusals a_o_s a_o_image v_o_isImage a_o_tape a_o_read v_o_taped v_o_pos v_o_readWide v_o_readHigh a_o_innerOf a_o_whoseOf a_o_nearOf a_o_fromOf x2 a_o_pieceOf a_o_kept a_o_claimOf a_o_row v_o_rowed, aI cI a_o_s 151 f_o_s, aI cI a_o_innerOf 120 g3, aI cI a_o_whoseOf 120 f_o_whoseOf, aI cI a_o_nearOf 360 f_o_nearOf, aI cI a_o_fromOf 360 f_o_fromOf]) (q0 := 0) (ci := 6) ⟨hx, hb, hml, hown, hts⟩ (c_X6_many l D cI a_o a_o_s a_o_refusals a_o_image a_o_tape a_o_read a_o_innerOf a_o_whoseOf a_o_nearOf a_o_fromOf a_o_pieceOf a_o_kept a_o_claimOf a_o_row v_o_isImage v_o_taped v_o_pos v_o_readWide v_o_readHigh x2 v_o_rowed f_o_s  n x73 hc74) mw_4_27 mw_4_29 mw_p_12 mw_1_8 mw_4_30 hd_X6_many ⟨Nat.le_of_ble_eq_true rfl, Nat.le_of_ble_eq_true rfl⟩ hK hN hP hD hS rfl rfl rfl rfl rfl rfl rfl rfl rfl rfl rfl rfl hl.1 rfl (Nat.le_of_ble_eq_true rfl) dX6_find_9 ⟨Nat.le_of_ble_eq_true rfl, Nat.le_of_ble_eq_true rfl⟩ (fun H locs hP hD hS => ?_)
      refine W.eq (g2 := F0 m 12 ls [.int x73, .int x1]) rfl ?_
      refine lv_icmp_ge (tgt := 32) hx hb dX6_find_12 (by decide) (fun c75 => ?_) (fun c75 => ?_)
      · replace h := cz_t c75 h
        exact hX7 _ _ _ _ _ _ (cz_i h).symm hP hD hS (lv_sub hl [0] rfl)
      · replace h := cz_f c75 h
        refine lv_aload_n hx hb dX6_find_15 rfl (lv_at hl 0 rfl) ?_
        refine va_get (D := D) (ci := 6) (v := .ref a_o_innerOf) (C := RX6) (T := TX6) (N := 20) hx hb hts in_X6 hown hK hP 0 rfl rfl 10 (by decide) (hts _ mw_3_196) (fun _ h9 => h9) rfl dX6_find_16 ?_
        refine lv_iload_n hx hb dX6_find_19 rfl (lv_at hl 1 rfl) ?_
        refine lv_aload_n hx hb dX6_find_20 rfl (lv_at hl 0 rfl) ?_
        refine lv_iload_n hx hb dX6_find_21 rfl (lv_at hl 1 rfl) ?_
        obtain ⟨x76, hc77, h⟩ := cz_e1 h
        refine cz_callV (As := [.int x1]) (rest := [.int x1, .ref a_o_innerOf]) (is := [0, 1]) (isR := [2, 3, 4, 5]) (rs := [aI cI a_o_innerOf 120 g3, aI cI a_o_whoseOf 120 f_o_whoseOf, aI cI a_o_nearOf 360 f_o_nearOf, aI cI a_o_fromOf 360 f_o_fromOf]) (as := [a_o, a_o_s, a_o_innerOf, a_o_whoseOf, a_o_nearOf, a_o_fromOf]) (ws1 := [oX6 a_o a_o_refusals a_o_s a_o_image v_o_isImage a_o_tape a_o_read v_o_taped v_o_pos v_o_readWide v_o_readHigh a_o_innerOf a_o_whoseOf a_o_nearOf a_o_fromOf x2 a_o_pieceOf a_o_kept a_o_claimOf a_o_row v_o_rowed, aI cI a_o_s 151 f_o_s, aI cI a_o_innerOf 120 g3, aI cI a_o_whoseOf 120 f_o_whoseOf, aI cI a_o_nearOf 360 f_o_nearOf, aI cI a_o_fromOf 360 f_o_fromOf]) (q0 := 0) (ci := 6) ⟨hx, hb, hml, hown, hts⟩ (c_X6_innerBy l D cI a_o a_o_s a_o_refusals a_o_image a_o_tape a_o_read a_o_innerOf a_o_whoseOf a_o_nearOf a_o_fromOf a_o_pieceOf a_o_kept a_o_claimOf a_o_row v_o_isImage v_o_taped v_o_pos v_o_readWide v_o_readHigh x2 v_o_rowed f_o_s x1 n x76 hc77) mw_4_72 mw_4_74 mw_p_17 mw_1_8 mw_4_75 hd_X6_innerBy ⟨Nat.le_of_ble_eq_true rfl, Nat.le_of_ble_eq_true rfl⟩ hK hN hP hD hS rfl rfl rfl rfl rfl rfl rfl rfl rfl rfl rfl rfl hl.1 rfl (Nat.le_of_ble_eq_true rfl) dX6_find_22 ⟨Nat.le_of_ble_eq_true rfl, Nat.le_of_ble_eq_true rfl⟩ (fun H locs hP hD hS => ?_)
        refine W.eq (g2 := F0 m 25 ls [.int x76, .int x1, .ref a_o_innerOf]) rfl ?_
        refine cz_iast hx hb hK hP hD hS 2 0 rfl rfl (cz_wrE h).1 dX6_find_25 (fun g78 H locs eg78 hP hD hS => ?_)
        replace h := cz_wrK eg78 h
        replace hP : va_P D vwCl [oX6 a_o a_o_refusals a_o_s a_o_image v_o_isImage a_o_tape a_o_read v_o_taped v_o_pos v_o_readWide v_o_readHigh a_o_innerOf a_o_whoseOf a_o_nearOf a_o_fromOf x2 a_o_pieceOf a_o_kept a_o_claimOf a_o_row v_o_rowed, aI cI a_o_s 151 f_o_s, aI cI a_o_innerOf 120 g78, aI cI a_o_whoseOf 120 f_o_whoseOf, aI cI a_o_nearOf 360 f_o_nearOf, aI cI a_o_fromOf 360 f_o_fromOf] H := hP
        replace hD : va_D A [oX6 a_o a_o_refusals a_o_s a_o_image v_o_isImage a_o_tape a_o_read v_o_taped v_o_pos v_o_readWide v_o_readHigh a_o_innerOf a_o_whoseOf a_o_nearOf a_o_fromOf x2 a_o_pieceOf a_o_kept a_o_claimOf a_o_row v_o_rowed, aI cI a_o_s 151 f_o_s, aI cI a_o_innerOf 120 g78, aI cI a_o_whoseOf 120 f_o_whoseOf, aI cI a_o_nearOf 360 f_o_nearOf, aI cI a_o_fromOf 360 f_o_fromOf] := hD
        obtain ⟨x79, ex79⟩ : ∃ z : Int32, z = x1 + (1 : Int32) := ⟨_, rfl⟩
        replace h := cz_ltE ex79 h
        refine lv_iinc (v := x79) (lv' := [(1, .int x79), (0, .ref a_o)]) hx hb dX6_find_26 hl (k := 1) rfl (by rw [ex79]; rfl) (by decide) rfl (fun ls hl => ?_)
        refine lv_goto (tgt := 7) hx hb dX6_find_29 (by decide) ?_
        exact ih72 _ _ _ _ _ _ h hP hD hS (lv_sub hl [1, 0] rfl)
  exact hL8 n _ _ _ _ _ _ hE5 hP hD hS (lv_sub hl [1, 0] rfl)
set_option maxHeartbeats 4000000 in
set_option maxRecDepth 100000 in
theorem c_X6_inner (l : Launch) (D : va_G) (cI : ClassId) (a_o a_o_refusals a_o_s a_o_innerOf a_o_whoseOf a_o_nearOf a_o_fromOf a_o_image a_o_tape a_o_read a_o_pieceOf a_o_kept a_o_claimOf a_o_row : Nat) (v_o_isImage : Int32) (v_o_taped : Int32) (v_o_pos : Int32) (v_o_readWide : Int32) (v_o_readHigh : Int32) (v_o_thirds : Int32) (v_o_rowed : Int32) (f_o_refusals : (Nat → Int32)) (f_o_s : (Nat → Int32)) (f_o_innerOf : (Nat → Int32)) (f_o_whoseOf : (Nat → Int32)) (f_o_nearOf : (Nat → Int32)) (f_o_fromOf : (Nat → Int32)) (w1 : Int32) (n : Nat) (r : Int32) (r_v_o_thirds : Int32) (r_f_o_refusals : (Nat → Int32)) (r_f_o_innerOf : (Nat → Int32)) (r_f_o_whoseOf : (Nat → Int32)) (r_f_o_nearOf : (Nat → Int32)) (r_f_o_fromOf : (Nat → Int32)) (h : f_X6_inner n v_o_thirds f_o_refusals f_o_s f_o_innerOf f_o_whoseOf f_o_nearOf f_o_fromOf w1 = some (r, r_v_o_thirds, r_f_o_refusals, r_f_o_innerOf, r_f_o_whoseOf, r_f_o_nearOf, r_f_o_fromOf)) : cz_M l yX6_inner cX6_inner 2 (some .int) 5 117 D cI [.ref a_o, .int w1] [oX6 a_o a_o_refusals a_o_s a_o_image v_o_isImage a_o_tape a_o_read v_o_taped v_o_pos v_o_readWide v_o_readHigh a_o_innerOf a_o_whoseOf a_o_nearOf a_o_fromOf v_o_thirds a_o_pieceOf a_o_kept a_o_claimOf a_o_row v_o_rowed, aI cI a_o_refusals 7 f_o_refusals, aI cI a_o_s 151 f_o_s, aI cI a_o_innerOf 120 f_o_innerOf, aI cI a_o_whoseOf 120 f_o_whoseOf, aI cI a_o_nearOf 360 f_o_nearOf, aI cI a_o_fromOf 360 f_o_fromOf] (some (.int r)) [oX6 a_o a_o_refusals a_o_s a_o_image v_o_isImage a_o_tape a_o_read v_o_taped v_o_pos v_o_readWide v_o_readHigh a_o_innerOf a_o_whoseOf a_o_nearOf a_o_fromOf r_v_o_thirds a_o_pieceOf a_o_kept a_o_claimOf a_o_row v_o_rowed, aI cI a_o_refusals 7 r_f_o_refusals, aI cI a_o_s 151 f_o_s, aI cI a_o_innerOf 120 r_f_o_innerOf, aI cI a_o_whoseOf 120 r_f_o_whoseOf, aI cI a_o_nearOf 360 r_f_o_nearOf, aI cI a_o_fromOf 360 r_f_o_fromOf] := by
  refine cz_startI (by decide) (Nat.le_of_ble_eq_true rfl) ?_
  intro p e s m ag below meth c A Q hx hb hml hown hts hK hN hQ H locs hP hD hS ls hl
  replace hown : s.vm.findClass RX6 = some m.cls := hown
  replace hl : lv_has ls 2 [(0, .ref a_o), (1, .int w1)] := hl
  unfold f_X6_inner at h
  refine lv_aload_n hx hb dX6_inner_0 rfl (lv_at hl 0 rfl) ?_
  refine lv_iload_n hx hb dX6_inner_1 rfl (lv_at hl 1 rfl) ?_
  obtain ⟨x1, hc2, h⟩ := cz_e1 h
  refine cz_callV (As := [.int w1]) (rest := []) (is := [0, 2]) (isR := [1, 3, 4, 5, 6]) (rs := [aI cI a_o_refusals 7 f_o_refusals, aI cI a_o_innerOf 120 f_o_innerOf, aI cI a_o_whoseOf 120 f_o_whoseOf, aI cI a_o_nearOf 360 f_o_nearOf, aI cI a_o_fromOf 360 f_o_fromOf]) (as := [a_o, a_o_refusals, a_o_s, a_o_innerOf, a_o_whoseOf, a_o_nearOf, a_o_fromOf]) (ws1 := [oX6 a_o a_o_refusals a_o_s a_o_image v_o_isImage a_o_tape a_o_read v_o_taped v_o_pos v_o_readWide v_o_readHigh a_o_innerOf a_o_whoseOf a_o_nearOf a_o_fromOf v_o_thirds a_o_pieceOf a_o_kept a_o_claimOf a_o_row v_o_rowed, aI cI a_o_refusals 7 f_o_refusals, aI cI a_o_s 151 f_o_s, aI cI a_o_innerOf 120 f_o_innerOf, aI cI a_o_whoseOf 120 f_o_whoseOf, aI cI a_o_nearOf 360 f_o_nearOf, aI cI a_o_fromOf 360 f_o_fromOf]) (q0 := 0) (ci := 6) ⟨hx, hb, hml, hown, hts⟩ (c_X6_isCell l D cI a_o a_o_s a_o_refusals a_o_image a_o_tape a_o_read a_o_innerOf a_o_whoseOf a_o_nearOf a_o_fromOf a_o_pieceOf a_o_kept a_o_claimOf a_o_row v_o_isImage v_o_taped v_o_pos v_o_readWide v_o_readHigh v_o_thirds v_o_rowed f_o_s w1 n x1 hc2) mw_4_35 mw_4_37 mw_p_13 mw_1_8 mw_4_38 hd_X6_isCell ⟨Nat.le_of_ble_eq_true rfl, Nat.le_of_ble_eq_true rfl⟩ hK hN hP hD hS rfl rfl rfl rfl rfl rfl rfl rfl rfl rfl rfl rfl hl.1 rfl (Nat.le_of_ble_eq_true rfl) dX6_inner_2 ⟨Nat.le_of_ble_eq_true rfl, Nat.le_of_ble_eq_true rfl⟩ (fun H locs hP hD hS => ?_)
  refine W.eq (g2 := F0 m 5 ls [.int x1]) rfl ?_
  refine lv_if_ne (tgt := 14) hx hb dX6_inner_5 (by decide) (fun c3 => ?_) (fun c3 => ?_)
  · replace h := cz_f c3 h
    refine lv_aload_n hx hb dX6_inner_14 rfl (lv_at hl 0 rfl) ?_
    obtain ⟨x4, g5, g6, g7, g8, hc9, h⟩ := cz_e5 h
    refine cz_callV (As := []) (rest := []) (is := [0, 2, 3, 4, 5, 6]) (isR := [1]) (rs := [aI cI a_o_refusals 7 f_o_refusals]) (as := [a_o, a_o_refusals, a_o_s, a_o_innerOf, a_o_whoseOf, a_o_nearOf, a_o_fromOf]) (ws1 := [oX6 a_o a_o_refusals a_o_s a_o_image v_o_isImage a_o_tape a_o_read v_o_taped v_o_pos v_o_readWide v_o_readHigh a_o_innerOf a_o_whoseOf a_o_nearOf a_o_fromOf x4 a_o_pieceOf a_o_kept a_o_claimOf a_o_row v_o_rowed, aI cI a_o_refusals 7 f_o_refusals, aI cI a_o_s 151 f_o_s, aI cI a_o_innerOf 120 g5, aI cI a_o_whoseOf 120 g6, aI cI a_o_nearOf 360 g7, aI cI a_o_fromOf 360 g8]) (q0 := 0) (ci := 6) ⟨hx, hb, hml, hown, hts⟩ (c_X6_find l D cI a_o a_o_s a_o_innerOf a_o_whoseOf a_o_nearOf a_o_fromOf a_o_refusals a_o_image a_o_tape a_o_read a_o_pieceOf a_o_kept a_o_claimOf a_o_row v_o_isImage v_o_taped v_o_pos v_o_readWide v_o_readHigh v_o_thirds v_o_rowed f_o_s f_o_innerOf f_o_whoseOf f_o_nearOf f_o_fromOf  n x4 g5 g6 g7 g8 hc9) mw_4_68 mw_4_70 mw_p_16 mw_1_8 mw_4_71 hd_X6_find ⟨Nat.le_of_ble_eq_true rfl, Nat.le_of_ble_eq_true rfl⟩ hK hN hP hD hS rfl rfl rfl rfl rfl rfl rfl rfl rfl rfl rfl rfl hl.1 rfl (Nat.le_of_ble_eq_true rfl) dX6_inner_15 ⟨Nat.le_of_ble_eq_true rfl, Nat.le_of_ble_eq_true rfl⟩ (fun H locs hP hD hS => ?_)
    refine W.eq (g2 := F0 m 18 ls []) rfl ?_
    refine lv_aload_n hx hb dX6_inner_18 rfl (lv_at hl 0 rfl) ?_
    refine va_get (D := D) (ci := 6) (v := .ref a_o_innerOf) (C := RX6) (T := TX6) (N := 20) hx hb hts in_X6 hown hK hP 0 rfl rfl 10 (by decide) (hts _ mw_3_196) (fun _ h9 => h9) rfl dX6_inner_19 ?_
    refine lv_aload_n hx hb dX6_inner_22 rfl (lv_at hl 0 rfl) ?_
    refine lv_iload_n hx hb dX6_inner_23 rfl (lv_at hl 1 rfl) ?_
    obtain ⟨x10, hc11, h⟩ := cz_e1 h
    refine cz_callV (As := [.int w1]) (rest := [.ref a_o_innerOf]) (is := [0, 2]) (isR := [1, 3, 4, 5, 6]) (rs := [aI cI a_o_refusals 7 f_o_refusals, aI cI a_o_innerOf 120 g5, aI cI a_o_whoseOf 120 g6, aI cI a_o_nearOf 360 g7, aI cI a_o_fromOf 360 g8]) (as := [a_o, a_o_refusals, a_o_s, a_o_innerOf, a_o_whoseOf, a_o_nearOf, a_o_fromOf]) (ws1 := [oX6 a_o a_o_refusals a_o_s a_o_image v_o_isImage a_o_tape a_o_read v_o_taped v_o_pos v_o_readWide v_o_readHigh a_o_innerOf a_o_whoseOf a_o_nearOf a_o_fromOf x4 a_o_pieceOf a_o_kept a_o_claimOf a_o_row v_o_rowed, aI cI a_o_refusals 7 f_o_refusals, aI cI a_o_s 151 f_o_s, aI cI a_o_innerOf 120 g5, aI cI a_o_whoseOf 120 g6, aI cI a_o_nearOf 360 g7, aI cI a_o_fromOf 360 g8]) (q0 := 0) (ci := 6) ⟨hx, hb, hml, hown, hts⟩ (c_X6_of l D cI a_o a_o_s a_o_refusals a_o_image a_o_tape a_o_read a_o_innerOf a_o_whoseOf a_o_nearOf a_o_fromOf a_o_pieceOf a_o_kept a_o_claimOf a_o_row v_o_isImage v_o_taped v_o_pos v_o_readWide v_o_readHigh x4 v_o_rowed f_o_s w1 n x10 hc11) mw_4_39 mw_4_41 mw_p_14 mw_1_8 mw_4_42 hd_X6_of ⟨Nat.le_of_ble_eq_true rfl, Nat.le_of_ble_eq_true rfl⟩ hK hN hP hD hS rfl rfl rfl rfl rfl rfl rfl rfl rfl rfl rfl rfl hl.1 rfl (Nat.le_of_ble_eq_true rfl) dX6_inner_24 ⟨Nat.le_of_ble_eq_true rfl, Nat.le_of_ble_eq_true rfl⟩ (fun H locs hP hD hS => ?_)
    refine W.eq (g2 := F0 m 27 ls [.int x10, .ref a_o_innerOf]) rfl ?_
    refine cz_iald hx hb hK hP 3 0 rfl rfl (cz_rdE h).1 dX6_inner_27 (fun x12 ex12 => ?_)
    replace h := cz_rdK ex12 h
    obtain ⟨rfl, rfl, rfl, rfl, rfl, rfl, rfl⟩ := cz_j7 (cz_i h)
    exact hQ _ _ _ _ hP hS dX6_inner_28
  · replace h := cz_t c3 h
    refine lv_aload_n hx hb dX6_inner_8 rfl (lv_at hl 0 rfl) ?_
    refine lv_iconst (v := (-1 : Int32)) hx hb dX6_inner_9 (by decide) ?_
    obtain ⟨x13, g14, hc15, h⟩ := cz_e2 h
    refine cz_callV (As := [.int (-1 : Int32)]) (rest := []) (is := [0, 1]) (isR := [2, 3, 4, 5, 6]) (rs := [aI cI a_o_s 151 f_o_s, aI cI a_o_innerOf 120 f_o_innerOf, aI cI a_o_whoseOf 120 f_o_whoseOf, aI cI a_o_nearOf 360 f_o_nearOf, aI cI a_o_fromOf 360 f_o_fromOf]) (as := [a_o, a_o_refusals, a_o_s, a_o_innerOf, a_o_whoseOf, a_o_nearOf, a_o_fromOf]) (ws1 := [oX6 a_o a_o_refusals a_o_s a_o_image v_o_isImage a_o_tape a_o_read v_o_taped v_o_pos v_o_readWide v_o_readHigh a_o_innerOf a_o_whoseOf a_o_nearOf a_o_fromOf v_o_thirds a_o_pieceOf a_o_kept a_o_claimOf a_o_row v_o_rowed, aI cI a_o_refusals 7 g14, aI cI a_o_s 151 f_o_s, aI cI a_o_innerOf 120 f_o_innerOf, aI cI a_o_whoseOf 120 f_o_whoseOf, aI cI a_o_nearOf 360 f_o_nearOf, aI cI a_o_fromOf 360 f_o_fromOf]) (q0 := 0) (ci := 6) ⟨hx, hb, hml, hown, hts⟩ (c_X6_refuse l D cI a_o a_o_refusals a_o_s a_o_image a_o_tape a_o_read a_o_innerOf a_o_whoseOf a_o_nearOf a_o_fromOf a_o_pieceOf a_o_kept a_o_claimOf a_o_row v_o_isImage v_o_taped v_o_pos v_o_readWide v_o_readHigh v_o_thirds v_o_rowed f_o_refusals (-1 : Int32) n x13 g14 hc15) mw_4_11 mw_4_13 mw_p_10 mw_1_8 mw_4_14 hd_X6_refuse ⟨Nat.le_of_ble_eq_true rfl, Nat.le_of_ble_eq_true rfl⟩ hK hN hP hD hS rfl rfl rfl rfl rfl rfl rfl rfl rfl rfl rfl rfl hl.1 rfl (Nat.le_of_ble_eq_true rfl) dX6_inner_10 ⟨Nat.le_of_ble_eq_true rfl, Nat.le_of_ble_eq_true rfl⟩ (fun H locs hP hD hS => ?_)
    refine W.eq (g2 := F0 m 13 ls [.int x13]) rfl ?_
    obtain ⟨rfl, rfl, rfl, rfl, rfl, rfl, rfl⟩ := cz_j7 (cz_i h)
    exact hQ _ _ _ _ hP hS dX6_inner_13
set_option maxHeartbeats 4000000 in
set_option maxRecDepth 100000 in
theorem c_X6_near (l : Launch) (D : va_G) (cI : ClassId) (a_o a_o_refusals a_o_s a_o_innerOf a_o_whoseOf a_o_nearOf a_o_fromOf a_o_image a_o_tape a_o_read a_o_pieceOf a_o_kept a_o_claimOf a_o_row : Nat) (v_o_isImage : Int32) (v_o_taped : Int32) (v_o_pos : Int32) (v_o_readWide : Int32) (v_o_readHigh : Int32) (v_o_thirds : Int32) (v_o_rowed : Int32) (f_o_refusals : (Nat → Int32)) (f_o_s : (Nat → Int32)) (f_o_innerOf : (Nat → Int32)) (f_o_whoseOf : (Nat → Int32)) (f_o_nearOf : (Nat → Int32)) (f_o_fromOf : (Nat → Int32)) (w1 : Int32) (w2 : Int32) (n : Nat) (r : Int32) (r_v_o_thirds : Int32) (r_f_o_refusals : (Nat → Int32)) (r_f_o_innerOf : (Nat → Int32)) (r_f_o_whoseOf : (Nat → Int32)) (r_f_o_nearOf : (Nat → Int32)) (r_f_o_fromOf : (Nat → Int32)) (h : f_X6_near n v_o_thirds f_o_refusals f_o_s f_o_innerOf f_o_whoseOf f_o_nearOf f_o_fromOf w1 w2 = some (r, r_v_o_thirds, r_f_o_refusals, r_f_o_innerOf, r_f_o_whoseOf, r_f_o_nearOf, r_f_o_fromOf)) : cz_M l yX6_near cX6_near 3 (some .int) 5 117 D cI [.ref a_o, .int w1, .int w2] [oX6 a_o a_o_refusals a_o_s a_o_image v_o_isImage a_o_tape a_o_read v_o_taped v_o_pos v_o_readWide v_o_readHigh a_o_innerOf a_o_whoseOf a_o_nearOf a_o_fromOf v_o_thirds a_o_pieceOf a_o_kept a_o_claimOf a_o_row v_o_rowed, aI cI a_o_refusals 7 f_o_refusals, aI cI a_o_s 151 f_o_s, aI cI a_o_innerOf 120 f_o_innerOf, aI cI a_o_whoseOf 120 f_o_whoseOf, aI cI a_o_nearOf 360 f_o_nearOf, aI cI a_o_fromOf 360 f_o_fromOf] (some (.int r)) [oX6 a_o a_o_refusals a_o_s a_o_image v_o_isImage a_o_tape a_o_read v_o_taped v_o_pos v_o_readWide v_o_readHigh a_o_innerOf a_o_whoseOf a_o_nearOf a_o_fromOf r_v_o_thirds a_o_pieceOf a_o_kept a_o_claimOf a_o_row v_o_rowed, aI cI a_o_refusals 7 r_f_o_refusals, aI cI a_o_s 151 f_o_s, aI cI a_o_innerOf 120 r_f_o_innerOf, aI cI a_o_whoseOf 120 r_f_o_whoseOf, aI cI a_o_nearOf 360 r_f_o_nearOf, aI cI a_o_fromOf 360 r_f_o_fromOf] := by
  refine cz_startI (by decide) (Nat.le_of_ble_eq_true rfl) ?_
  intro p e s m ag below meth c A Q hx hb hml hown hts hK hN hQ H locs hP hD hS ls hl
  replace hown : s.vm.findClass RX6 = some m.cls := hown
  replace hl : lv_has ls 3 [(0, .ref a_o), (1, .int w1), (2, .int w2)] := hl
  unfold f_X6_near at h
  refine lv_aload_n hx hb dX6_near_0 rfl (lv_at hl 0 rfl) ?_
  refine lv_iload_n hx hb dX6_near_1 rfl (lv_at hl 1 rfl) ?_
  obtain ⟨x1, hc2, h⟩ := cz_e1 h
  refine cz_callV (As := [.int w1]) (rest := []) (is := [0, 2]) (isR := [1, 3, 4, 5, 6]) (rs := [aI cI a_o_refusals 7 f_o_refusals, aI cI a_o_innerOf 120 f_o_innerOf, aI cI a_o_whoseOf 120 f_o_whoseOf, aI cI a_o_nearOf 360 f_o_nearOf, aI cI a_o_fromOf 360 f_o_fromOf]) (as := [a_o, a_o_refusals, a_o_s, a_o_innerOf, a_o_whoseOf, a_o_nearOf, a_o_fromOf]) (ws1 := [oX6 a_o a_o_refusals a_o_s a_o_image v_o_isImage a_o_tape a_o_read v_o_taped v_o_pos v_o_readWide v_o_readHigh a_o_innerOf a_o_whoseOf a_o_nearOf a_o_fromOf v_o_thirds a_o_pieceOf a_o_kept a_o_claimOf a_o_row v_o_rowed, aI cI a_o_refusals 7 f_o_refusals, aI cI a_o_s 151 f_o_s, aI cI a_o_innerOf 120 f_o_innerOf, aI cI a_o_whoseOf 120 f_o_whoseOf, aI cI a_o_nearOf 360 f_o_nearOf, aI cI a_o_fromOf 360 f_o_fromOf]) (q0 := 0) (ci := 6) ⟨hx, hb, hml, hown, hts⟩ (c_X6_isCell l D cI a_o a_o_s a_o_refusals a_o_image a_o_tape a_o_read a_o_innerOf a_o_whoseOf a_o_nearOf a_o_fromOf a_o_pieceOf a_o_kept a_o_claimOf a_o_row v_o_isImage v_o_taped v_o_pos v_o_readWide v_o_readHigh v_o_thirds v_o_rowed f_o_s w1 n x1 hc2) mw_4_35 mw_4_37 mw_p_13 mw_1_8 mw_4_38 hd_X6_isCell ⟨Nat.le_of_ble_eq_true rfl, Nat.le_of_ble_eq_true rfl⟩ hK hN hP hD hS rfl rfl rfl rfl rfl rfl rfl rfl rfl rfl rfl rfl hl.1 rfl (Nat.le_of_ble_eq_true rfl) dX6_near_2 ⟨Nat.le_of_ble_eq_true rfl, Nat.le_of_ble_eq_true rfl⟩ (fun H locs hP hD hS => ?_)
  refine W.eq (g2 := F0 m 5 ls [.int x1]) rfl ?_
  refine lv_if_eq (tgt := 16) hx hb dX6_near_5 (by decide) (fun c3 => ?_) (fun c3 => ?_)
  · replace h := cz_t c3 h
    refine lv_aload_n hx hb dX6_near_16 rfl (lv_at hl 0 rfl) ?_
    refine lv_iconst (v := (-1 : Int32)) hx hb dX6_near_17 (by decide) ?_
    obtain ⟨x4, g5, hc6, h⟩ := cz_e2 h
    refine cz_callV (As := [.int (-1 : Int32)]) (rest := []) (is := [0, 1]) (isR := [2, 3, 4, 5, 6]) (rs := [aI cI a_o_s 151 f_o_s, aI cI a_o_innerOf 120 f_o_innerOf, aI cI a_o_whoseOf 120 f_o_whoseOf, aI cI a_o_nearOf 360 f_o_nearOf, aI cI a_o_fromOf 360 f_o_fromOf]) (as := [a_o, a_o_refusals, a_o_s, a_o_innerOf, a_o_whoseOf, a_o_nearOf, a_o_fromOf]) (ws1 := [oX6 a_o a_o_refusals a_o_s a_o_image v_o_isImage a_o_tape a_o_read v_o_taped v_o_pos v_o_readWide v_o_readHigh a_o_innerOf a_o_whoseOf a_o_nearOf a_o_fromOf v_o_thirds a_o_pieceOf a_o_kept a_o_claimOf a_o_row v_o_rowed, aI cI a_o_refusals 7 g5, aI cI a_o_s 151 f_o_s, aI cI a_o_innerOf 120 f_o_innerOf, aI cI a_o_whoseOf 120 f_o_whoseOf, aI cI a_o_nearOf 360 f_o_nearOf, aI cI a_o_fromOf 360 f_o_fromOf]) (q0 := 0) (ci := 6) ⟨hx, hb, hml, hown, hts⟩ (c_X6_refuse l D cI a_o a_o_refusals a_o_s a_o_image a_o_tape a_o_read a_o_innerOf a_o_whoseOf a_o_nearOf a_o_fromOf a_o_pieceOf a_o_kept a_o_claimOf a_o_row v_o_isImage v_o_taped v_o_pos v_o_readWide v_o_readHigh v_o_thirds v_o_rowed f_o_refusals (-1 : Int32) n x4 g5 hc6) mw_4_11 mw_4_13 mw_p_10 mw_1_8 mw_4_14 hd_X6_refuse ⟨Nat.le_of_ble_eq_true rfl, Nat.le_of_ble_eq_true rfl⟩ hK hN hP hD hS rfl rfl rfl rfl rfl rfl rfl rfl rfl rfl rfl rfl hl.1 rfl (Nat.le_of_ble_eq_true rfl) dX6_near_18 ⟨Nat.le_of_ble_eq_true rfl, Nat.le_of_ble_eq_true rfl⟩ (fun H locs hP hD hS => ?_)
    refine W.eq (g2 := F0 m 21 ls [.int x4]) rfl ?_
    obtain ⟨rfl, rfl, rfl, rfl, rfl, rfl, rfl⟩ := cz_j7 (cz_i h)
    exact hQ _ _ _ _ hP hS dX6_near_21
  · replace h := cz_f c3 h
    refine lv_iload_n hx hb dX6_near_8 rfl (lv_at hl 2 rfl) ?_
    refine lv_iconst (v := (3 : Int32)) hx hb dX6_near_9 (by decide) ?_
    obtain ⟨x7, hc8, h⟩ := cz_e1 h
    refine cz_callS (As := [.int w2, .int (3 : Int32)]) (rest := []) (is := []) (isR := [0, 1, 2, 3, 4, 5, 6]) (rs := [oX6 a_o a_o_refusals a_o_s a_o_image v_o_isImage a_o_tape a_o_read v_o_taped v_o_pos v_o_readWide v_o_readHigh a_o_innerOf a_o_whoseOf a_o_nearOf a_o_fromOf v_o_thirds a_o_pieceOf a_o_kept a_o_claimOf a_o_row v_o_rowed, aI cI a_o_refusals 7 f_o_refusals, aI cI a_o_s 151 f_o_s, aI cI a_o_innerOf 120 f_o_innerOf, aI cI a_o_whoseOf 120 f_o_whoseOf, aI cI a_o_nearOf 360 f_o_nearOf, aI cI a_o_fromOf 360 f_o_fromOf]) (as := [a_o, a_o_refusals, a_o_s, a_o_innerOf, a_o_whoseOf, a_o_nearOf, a_o_fromOf]) (ws1 := [oX6 a_o a_o_refusals a_o_s a_o_image v_o_isImage a_o_tape a_o_read v_o_taped v_o_pos v_o_readWide v_o_readHigh a_o_innerOf a_o_whoseOf a_o_nearOf a_o_fromOf v_o_thirds a_o_pieceOf a_o_kept a_o_claimOf a_o_row v_o_rowed, aI cI a_o_refusals 7 f_o_refusals, aI cI a_o_s 151 f_o_s, aI cI a_o_innerOf 120 f_o_innerOf, aI cI a_o_whoseOf 120 f_o_whoseOf, aI cI a_o_nearOf 360 f_o_nearOf, aI cI a_o_fromOf 360 f_o_fromOf]) ⟨hx, hb, hml, hown, hts⟩ (c_X6_isIn l D cI   w2 (3 : Int32) n x7 hc8) mw_4_51 mw_4_52 mw_1_8 mw_4_53 hd_X6_isIn ⟨Nat.le_of_ble_eq_true rfl, Nat.le_of_ble_eq_true rfl⟩ hK hN hP hD hS rfl rfl rfl rfl rfl rfl rfl rfl rfl hl.1 rfl (Nat.le_of_ble_eq_true rfl) dX6_near_10 ⟨Nat.le_of_ble_eq_true rfl, Nat.le_of_ble_eq_true rfl⟩ (fun H locs hP hD hS => ?_)
    refine W.eq (g2 := F0 m 13 ls [.int x7]) rfl ?_
    refine lv_if_ne (tgt := 22) hx hb dX6_near_13 (by decide) (fun c9 => ?_) (fun c9 => ?_)
    · replace h := cz_f c9 h
      refine lv_aload_n hx hb dX6_near_22 rfl (lv_at hl 0 rfl) ?_
      obtain ⟨x10, g11, g12, g13, g14, hc15, h⟩ := cz_e5 h
      refine cz_callV (As := []) (rest := []) (is := [0, 2, 3, 4, 5, 6]) (isR := [1]) (rs := [aI cI a_o_refusals 7 f_o_refusals]) (as := [a_o, a_o_refusals, a_o_s, a_o_innerOf, a_o_whoseOf, a_o_nearOf, a_o_fromOf]) (ws1 := [oX6 a_o a_o_refusals a_o_s a_o_image v_o_isImage a_o_tape a_o_read v_o_taped v_o_pos v_o_readWide v_o_readHigh a_o_innerOf a_o_whoseOf a_o_nearOf a_o_fromOf x10 a_o_pieceOf a_o_kept a_o_claimOf a_o_row v_o_rowed, aI cI a_o_refusals 7 f_o_refusals, aI cI a_o_s 151 f_o_s, aI cI a_o_innerOf 120 g11, aI cI a_o_whoseOf 120 g12, aI cI a_o_nearOf 360 g13, aI cI a_o_fromOf 360 g14]) (q0 := 0) (ci := 6) ⟨hx, hb, hml, hown, hts⟩ (c_X6_find l D cI a_o a_o_s a_o_innerOf a_o_whoseOf a_o_nearOf a_o_fromOf a_o_refusals a_o_image a_o_tape a_o_read a_o_pieceOf a_o_kept a_o_claimOf a_o_row v_o_isImage v_o_taped v_o_pos v_o_readWide v_o_readHigh v_o_thirds v_o_rowed f_o_s f_o_innerOf f_o_whoseOf f_o_nearOf f_o_fromOf  n x10 g11 g12 g13 g14 hc15) mw_4_68 mw_4_70 mw_p_16 mw_1_8 mw_4_71 hd_X6_find ⟨Nat.le_of_ble_eq_true rfl, Nat.le_of_ble_eq_true rfl⟩ hK hN hP hD hS rfl rfl rfl rfl rfl rfl rfl rfl rfl rfl rfl rfl hl.1 rfl (Nat.le_of_ble_eq_true rfl) dX6_near_23 ⟨Nat.le_of_ble_eq_true rfl, Nat.le_of_ble_eq_true rfl⟩ (fun H locs hP hD hS => ?_)
      refine W.eq (g2 := F0 m 26 ls []) rfl ?_
      refine lv_aload_n hx hb dX6_near_26 rfl (lv_at hl 0 rfl) ?_
      refine va_get (D := D) (ci := 6) (v := .ref a_o_nearOf) (C := RX6) (T := TX6) (N := 20) hx hb hts in_X6 hown hK hP 0 rfl rfl 12 (by decide) (hts _ mw_3_198) (fun _ h9 => h9) rfl dX6_near_27 ?_
      refine lv_bipush (v := (120 : Int32)) hx hb dX6_near_30 (by decide) ?_
      refine lv_iload_n hx hb dX6_near_32 rfl (lv_at hl 2 rfl) ?_
      refine lv_imul hx hb dX6_near_33 ?_
      refine lv_aload_n hx hb dX6_near_34 rfl (lv_at hl 0 rfl) ?_
      refine lv_iload_n hx hb dX6_near_35 rfl (lv_at hl 1 rfl) ?_
      obtain ⟨x16, hc17, h⟩ := cz_e1 h
      refine cz_callV (As := [.int w1]) (rest := [.int ((120 : Int32) * w2), .ref a_o_nearOf]) (is := [0, 2]) (isR := [1, 3, 4, 5, 6]) (rs := [aI cI a_o_refusals 7 f_o_refusals, aI cI a_o_innerOf 120 g11, aI cI a_o_whoseOf 120 g12, aI cI a_o_nearOf 360 g13, aI cI a_o_fromOf 360 g14]) (as := [a_o, a_o_refusals, a_o_s, a_o_innerOf, a_o_whoseOf, a_o_nearOf, a_o_fromOf]) (ws1 := [oX6 a_o a_o_refusals a_o_s a_o_image v_o_isImage a_o_tape a_o_read v_o_taped v_o_pos v_o_readWide v_o_readHigh a_o_innerOf a_o_whoseOf a_o_nearOf a_o_fromOf x10 a_o_pieceOf a_o_kept a_o_claimOf a_o_row v_o_rowed, aI cI a_o_refusals 7 f_o_refusals, aI cI a_o_s 151 f_o_s, aI cI a_o_innerOf 120 g11, aI cI a_o_whoseOf 120 g12, aI cI a_o_nearOf 360 g13, aI cI a_o_fromOf 360 g14]) (q0 := 0) (ci := 6) ⟨hx, hb, hml, hown, hts⟩ (c_X6_of l D cI a_o a_o_s a_o_refusals a_o_image a_o_tape a_o_read a_o_innerOf a_o_whoseOf a_o_nearOf a_o_fromOf a_o_pieceOf a_o_kept a_o_claimOf a_o_row v_o_isImage v_o_taped v_o_pos v_o_readWide v_o_readHigh x10 v_o_rowed f_o_s w1 n x16 hc17) mw_4_39 mw_4_41 mw_p_14 mw_1_8 mw_4_42 hd_X6_of ⟨Nat.le_of_ble_eq_true rfl, Nat.le_of_ble_eq_true rfl⟩ hK hN hP hD hS rfl rfl rfl rfl rfl rfl rfl rfl rfl rfl rfl rfl hl.1 rfl (Nat.le_of_ble_eq_true rfl) dX6_near_36 ⟨Nat.le_of_ble_eq_true rfl, Nat.le_of_ble_eq_true rfl⟩ (fun H locs hP hD hS => ?_)
      refine W.eq (g2 := F0 m 39 ls [.int x16, .int ((120 : Int32) * w2), .ref a_o_nearOf]) rfl ?_
      refine lv_iadd hx hb dX6_near_39 ?_
      refine cz_iald hx hb hK hP 5 0 rfl rfl (cz_rdE h).1 dX6_near_40 (fun x18 ex18 => ?_)
      replace h := cz_rdK ex18 h
      obtain ⟨rfl, rfl, rfl, rfl, rfl, rfl, rfl⟩ := cz_j7 (cz_i h)
      exact hQ _ _ _ _ hP hS dX6_near_41
    · replace h := cz_t c9 h
      refine lv_aload_n hx hb dX6_near_16 rfl (lv_at hl 0 rfl) ?_
      refine lv_iconst (v := (-1 : Int32)) hx hb dX6_near_17 (by decide) ?_
      obtain ⟨x19, g20, hc21, h⟩ := cz_e2 h
      refine cz_callV (As := [.int (-1 : Int32)]) (rest := []) (is := [0, 1]) (isR := [2, 3, 4, 5, 6]) (rs := [aI cI a_o_s 151 f_o_s, aI cI a_o_innerOf 120 f_o_innerOf, aI cI a_o_whoseOf 120 f_o_whoseOf, aI cI a_o_nearOf 360 f_o_nearOf, aI cI a_o_fromOf 360 f_o_fromOf]) (as := [a_o, a_o_refusals, a_o_s, a_o_innerOf, a_o_whoseOf, a_o_nearOf, a_o_fromOf]) (ws1 := [oX6 a_o a_o_refusals a_o_s a_o_image v_o_isImage a_o_tape a_o_read v_o_taped v_o_pos v_o_readWide v_o_readHigh a_o_innerOf a_o_whoseOf a_o_nearOf a_o_fromOf v_o_thirds a_o_pieceOf a_o_kept a_o_claimOf a_o_row v_o_rowed, aI cI a_o_refusals 7 g20, aI cI a_o_s 151 f_o_s, aI cI a_o_innerOf 120 f_o_innerOf, aI cI a_o_whoseOf 120 f_o_whoseOf, aI cI a_o_nearOf 360 f_o_nearOf, aI cI a_o_fromOf 360 f_o_fromOf]) (q0 := 0) (ci := 6) ⟨hx, hb, hml, hown, hts⟩ (c_X6_refuse l D cI a_o a_o_refusals a_o_s a_o_image a_o_tape a_o_read a_o_innerOf a_o_whoseOf a_o_nearOf a_o_fromOf a_o_pieceOf a_o_kept a_o_claimOf a_o_row v_o_isImage v_o_taped v_o_pos v_o_readWide v_o_readHigh v_o_thirds v_o_rowed f_o_refusals (-1 : Int32) n x19 g20 hc21) mw_4_11 mw_4_13 mw_p_10 mw_1_8 mw_4_14 hd_X6_refuse ⟨Nat.le_of_ble_eq_true rfl, Nat.le_of_ble_eq_true rfl⟩ hK hN hP hD hS rfl rfl rfl rfl rfl rfl rfl rfl rfl rfl rfl rfl hl.1 rfl (Nat.le_of_ble_eq_true rfl) dX6_near_18 ⟨Nat.le_of_ble_eq_true rfl, Nat.le_of_ble_eq_true rfl⟩ (fun H locs hP hD hS => ?_)
      refine W.eq (g2 := F0 m 21 ls [.int x19]) rfl ?_
      obtain ⟨rfl, rfl, rfl, rfl, rfl, rfl, rfl⟩ := cz_j7 (cz_i h)
      exact hQ _ _ _ _ hP hS dX6_near_21
set_option maxHeartbeats 4000000 in
set_option maxRecDepth 100000 in
theorem c_X6_from (l : Launch) (D : va_G) (cI : ClassId) (a_o a_o_refusals a_o_s a_o_innerOf a_o_whoseOf a_o_nearOf a_o_fromOf a_o_image a_o_tape a_o_read a_o_pieceOf a_o_kept a_o_claimOf a_o_row : Nat) (v_o_isImage : Int32) (v_o_taped : Int32) (v_o_pos : Int32) (v_o_readWide : Int32) (v_o_readHigh : Int32) (v_o_thirds : Int32) (v_o_rowed : Int32) (f_o_refusals : (Nat → Int32)) (f_o_s : (Nat → Int32)) (f_o_innerOf : (Nat → Int32)) (f_o_whoseOf : (Nat → Int32)) (f_o_nearOf : (Nat → Int32)) (f_o_fromOf : (Nat → Int32)) (w1 : Int32) (w2 : Int32) (n : Nat) (r : Int32) (r_v_o_thirds : Int32) (r_f_o_refusals : (Nat → Int32)) (r_f_o_innerOf : (Nat → Int32)) (r_f_o_whoseOf : (Nat → Int32)) (r_f_o_nearOf : (Nat → Int32)) (r_f_o_fromOf : (Nat → Int32)) (h : f_X6_from n v_o_thirds f_o_refusals f_o_s f_o_innerOf f_o_whoseOf f_o_nearOf f_o_fromOf w1 w2 = some (r, r_v_o_thirds, r_f_o_refusals, r_f_o_innerOf, r_f_o_whoseOf, r_f_o_nearOf, r_f_o_fromOf)) : cz_M l yX6_from cX6_from 4 (some .int) 5 117 D cI [.ref a_o, .int w1, .int w2] [oX6 a_o a_o_refusals a_o_s a_o_image v_o_isImage a_o_tape a_o_read v_o_taped v_o_pos v_o_readWide v_o_readHigh a_o_innerOf a_o_whoseOf a_o_nearOf a_o_fromOf v_o_thirds a_o_pieceOf a_o_kept a_o_claimOf a_o_row v_o_rowed, aI cI a_o_refusals 7 f_o_refusals, aI cI a_o_s 151 f_o_s, aI cI a_o_innerOf 120 f_o_innerOf, aI cI a_o_whoseOf 120 f_o_whoseOf, aI cI a_o_nearOf 360 f_o_nearOf, aI cI a_o_fromOf 360 f_o_fromOf] (some (.int r)) [oX6 a_o a_o_refusals a_o_s a_o_image v_o_isImage a_o_tape a_o_read v_o_taped v_o_pos v_o_readWide v_o_readHigh a_o_innerOf a_o_whoseOf a_o_nearOf a_o_fromOf r_v_o_thirds a_o_pieceOf a_o_kept a_o_claimOf a_o_row v_o_rowed, aI cI a_o_refusals 7 r_f_o_refusals, aI cI a_o_s 151 f_o_s, aI cI a_o_innerOf 120 r_f_o_innerOf, aI cI a_o_whoseOf 120 r_f_o_whoseOf, aI cI a_o_nearOf 360 r_f_o_nearOf, aI cI a_o_fromOf 360 r_f_o_fromOf] := by
  refine cz_startI (by decide) (Nat.le_of_ble_eq_true rfl) ?_
  intro p e s m ag below meth c A Q hx hb hml hown hts hK hN hQ H locs hP hD hS ls hl
  replace hown : s.vm.findClass RX6 = some m.cls := hown
  replace hl : lv_has ls 4 [(0, .ref a_o), (1, .int w1), (2, .int w2)] := hl
  unfold f_X6_from at h
  refine lv_aload_n hx hb dX6_from_0 rfl (lv_at hl 0 rfl) ?_
  refine lv_iload_n hx hb dX6_from_1 rfl (lv_at hl 1 rfl) ?_
  obtain ⟨x1, hc2, h⟩ := cz_e1 h
  refine cz_callV (As := [.int w1]) (rest := []) (is := [0, 2]) (isR := [1, 3, 4, 5, 6]) (rs := [aI cI a_o_refusals 7 f_o_refusals, aI cI a_o_innerOf 120 f_o_innerOf, aI cI a_o_whoseOf 120 f_o_whoseOf, aI cI a_o_nearOf 360 f_o_nearOf, aI cI a_o_fromOf 360 f_o_fromOf]) (as := [a_o, a_o_refusals, a_o_s, a_o_innerOf, a_o_whoseOf, a_o_nearOf, a_o_fromOf]) (ws1 := [oX6 a_o a_o_refusals a_o_s a_o_image v_o_isImage a_o_tape a_o_read v_o_taped v_o_pos v_o_readWide v_o_readHigh a_o_innerOf a_o_whoseOf a_o_nearOf a_o_fromOf v_o_thirds a_o_pieceOf a_o_kept a_o_claimOf a_o_row v_o_rowed, aI cI a_o_refusals 7 f_o_refusals, aI cI a_o_s 151 f_o_s, aI cI a_o_innerOf 120 f_o_innerOf, aI cI a_o_whoseOf 120 f_o_whoseOf, aI cI a_o_nearOf 360 f_o_nearOf, aI cI a_o_fromOf 360 f_o_fromOf]) (q0 := 0) (ci := 6) ⟨hx, hb, hml, hown, hts⟩ (c_X6_isCell l D cI a_o a_o_s a_o_refusals a_o_image a_o_tape a_o_read a_o_innerOf a_o_whoseOf a_o_nearOf a_o_fromOf a_o_pieceOf a_o_kept a_o_claimOf a_o_row v_o_isImage v_o_taped v_o_pos v_o_readWide v_o_readHigh v_o_thirds v_o_rowed f_o_s w1 n x1 hc2) mw_4_35 mw_4_37 mw_p_13 mw_1_8 mw_4_38 hd_X6_isCell ⟨Nat.le_of_ble_eq_true rfl, Nat.le_of_ble_eq_true rfl⟩ hK hN hP hD hS rfl rfl rfl rfl rfl rfl rfl rfl rfl rfl rfl rfl hl.1 rfl (Nat.le_of_ble_eq_true rfl) dX6_from_2 ⟨Nat.le_of_ble_eq_true rfl, Nat.le_of_ble_eq_true rfl⟩ (fun H locs hP hD hS => ?_)
  refine W.eq (g2 := F0 m 5 ls [.int x1]) rfl ?_
  refine lv_if_eq (tgt := 16) hx hb dX6_from_5 (by decide) (fun c3 => ?_) (fun c3 => ?_)
  · replace h := cz_t c3 h
    refine lv_aload_n hx hb dX6_from_16 rfl (lv_at hl 0 rfl) ?_
    refine lv_iconst (v := (-1 : Int32)) hx hb dX6_from_17 (by decide) ?_
    obtain ⟨x4, g5, hc6, h⟩ := cz_e2 h
    refine cz_callV (As := [.int (-1 : Int32)]) (rest := []) (is := [0, 1]) (isR := [2, 3, 4, 5, 6]) (rs := [aI cI a_o_s 151 f_o_s, aI cI a_o_innerOf 120 f_o_innerOf, aI cI a_o_whoseOf 120 f_o_whoseOf, aI cI a_o_nearOf 360 f_o_nearOf, aI cI a_o_fromOf 360 f_o_fromOf]) (as := [a_o, a_o_refusals, a_o_s, a_o_innerOf, a_o_whoseOf, a_o_nearOf, a_o_fromOf]) (ws1 := [oX6 a_o a_o_refusals a_o_s a_o_image v_o_isImage a_o_tape a_o_read v_o_taped v_o_pos v_o_readWide v_o_readHigh a_o_innerOf a_o_whoseOf a_o_nearOf a_o_fromOf v_o_thirds a_o_pieceOf a_o_kept a_o_claimOf a_o_row v_o_rowed, aI cI a_o_refusals 7 g5, aI cI a_o_s 151 f_o_s, aI cI a_o_innerOf 120 f_o_innerOf, aI cI a_o_whoseOf 120 f_o_whoseOf, aI cI a_o_nearOf 360 f_o_nearOf, aI cI a_o_fromOf 360 f_o_fromOf]) (q0 := 0) (ci := 6) ⟨hx, hb, hml, hown, hts⟩ (c_X6_refuse l D cI a_o a_o_refusals a_o_s a_o_image a_o_tape a_o_read a_o_innerOf a_o_whoseOf a_o_nearOf a_o_fromOf a_o_pieceOf a_o_kept a_o_claimOf a_o_row v_o_isImage v_o_taped v_o_pos v_o_readWide v_o_readHigh v_o_thirds v_o_rowed f_o_refusals (-1 : Int32) n x4 g5 hc6) mw_4_11 mw_4_13 mw_p_10 mw_1_8 mw_4_14 hd_X6_refuse ⟨Nat.le_of_ble_eq_true rfl, Nat.le_of_ble_eq_true rfl⟩ hK hN hP hD hS rfl rfl rfl rfl rfl rfl rfl rfl rfl rfl rfl rfl hl.1 rfl (Nat.le_of_ble_eq_true rfl) dX6_from_18 ⟨Nat.le_of_ble_eq_true rfl, Nat.le_of_ble_eq_true rfl⟩ (fun H locs hP hD hS => ?_)
    refine W.eq (g2 := F0 m 21 ls [.int x4]) rfl ?_
    obtain ⟨rfl, rfl, rfl, rfl, rfl, rfl, rfl⟩ := cz_j7 (cz_i h)
    exact hQ _ _ _ _ hP hS dX6_from_21
  · replace h := cz_f c3 h
    refine lv_iload_n hx hb dX6_from_8 rfl (lv_at hl 2 rfl) ?_
    refine lv_iconst (v := (3 : Int32)) hx hb dX6_from_9 (by decide) ?_
    obtain ⟨x7, hc8, h⟩ := cz_e1 h
    refine cz_callS (As := [.int w2, .int (3 : Int32)]) (rest := []) (is := []) (isR := [0, 1, 2, 3, 4, 5, 6]) (rs := [oX6 a_o a_o_refusals a_o_s a_o_image v_o_isImage a_o_tape a_o_read v_o_taped v_o_pos v_o_readWide v_o_readHigh a_o_innerOf a_o_whoseOf a_o_nearOf a_o_fromOf v_o_thirds a_o_pieceOf a_o_kept a_o_claimOf a_o_row v_o_rowed, aI cI a_o_refusals 7 f_o_refusals, aI cI a_o_s 151 f_o_s, aI cI a_o_innerOf 120 f_o_innerOf, aI cI a_o_whoseOf 120 f_o_whoseOf, aI cI a_o_nearOf 360 f_o_nearOf, aI cI a_o_fromOf 360 f_o_fromOf]) (as := [a_o, a_o_refusals, a_o_s, a_o_innerOf, a_o_whoseOf, a_o_nearOf, a_o_fromOf]) (ws1 := [oX6 a_o a_o_refusals a_o_s a_o_image v_o_isImage a_o_tape a_o_read v_o_taped v_o_pos v_o_readWide v_o_readHigh a_o_innerOf a_o_whoseOf a_o_nearOf a_o_fromOf v_o_thirds a_o_pieceOf a_o_kept a_o_claimOf a_o_row v_o_rowed, aI cI a_o_refusals 7 f_o_refusals, aI cI a_o_s 151 f_o_s, aI cI a_o_innerOf 120 f_o_innerOf, aI cI a_o_whoseOf 120 f_o_whoseOf, aI cI a_o_nearOf 360 f_o_nearOf, aI cI a_o_fromOf 360 f_o_fromOf]) ⟨hx, hb, hml, hown, hts⟩ (c_X6_isIn l D cI   w2 (3 : Int32) n x7 hc8) mw_4_51 mw_4_52 mw_1_8 mw_4_53 hd_X6_isIn ⟨Nat.le_of_ble_eq_true rfl, Nat.le_of_ble_eq_true rfl⟩ hK hN hP hD hS rfl rfl rfl rfl rfl rfl rfl rfl rfl hl.1 rfl (Nat.le_of_ble_eq_true rfl) dX6_from_10 ⟨Nat.le_of_ble_eq_true rfl, Nat.le_of_ble_eq_true rfl⟩ (fun H locs hP hD hS => ?_)
    refine W.eq (g2 := F0 m 13 ls [.int x7]) rfl ?_
    refine lv_if_ne (tgt := 22) hx hb dX6_from_13 (by decide) (fun c9 => ?_) (fun c9 => ?_)
    · replace h := cz_f c9 h
      refine lv_aload_n hx hb dX6_from_22 rfl (lv_at hl 0 rfl) ?_
      obtain ⟨x10, g11, g12, g13, g14, hc15, h⟩ := cz_e5 h
      refine cz_callV (As := []) (rest := []) (is := [0, 2, 3, 4, 5, 6]) (isR := [1]) (rs := [aI cI a_o_refusals 7 f_o_refusals]) (as := [a_o, a_o_refusals, a_o_s, a_o_innerOf, a_o_whoseOf, a_o_nearOf, a_o_fromOf]) (ws1 := [oX6 a_o a_o_refusals a_o_s a_o_image v_o_isImage a_o_tape a_o_read v_o_taped v_o_pos v_o_readWide v_o_readHigh a_o_innerOf a_o_whoseOf a_o_nearOf a_o_fromOf x10 a_o_pieceOf a_o_kept a_o_claimOf a_o_row v_o_rowed, aI cI a_o_refusals 7 f_o_refusals, aI cI a_o_s 151 f_o_s, aI cI a_o_innerOf 120 g11, aI cI a_o_whoseOf 120 g12, aI cI a_o_nearOf 360 g13, aI cI a_o_fromOf 360 g14]) (q0 := 0) (ci := 6) ⟨hx, hb, hml, hown, hts⟩ (c_X6_find l D cI a_o a_o_s a_o_innerOf a_o_whoseOf a_o_nearOf a_o_fromOf a_o_refusals a_o_image a_o_tape a_o_read a_o_pieceOf a_o_kept a_o_claimOf a_o_row v_o_isImage v_o_taped v_o_pos v_o_readWide v_o_readHigh v_o_thirds v_o_rowed f_o_s f_o_innerOf f_o_whoseOf f_o_nearOf f_o_fromOf  n x10 g11 g12 g13 g14 hc15) mw_4_68 mw_4_70 mw_p_16 mw_1_8 mw_4_71 hd_X6_find ⟨Nat.le_of_ble_eq_true rfl, Nat.le_of_ble_eq_true rfl⟩ hK hN hP hD hS rfl rfl rfl rfl rfl rfl rfl rfl rfl rfl rfl rfl hl.1 rfl (Nat.le_of_ble_eq_true rfl) dX6_from_23 ⟨Nat.le_of_ble_eq_true rfl, Nat.le_of_ble_eq_true rfl⟩ (fun H locs hP hD hS => ?_)
      refine W.eq (g2 := F0 m 26 ls []) rfl ?_
      refine lv_aload_n hx hb dX6_from_26 rfl (lv_at hl 0 rfl) ?_
      refine va_get (D := D) (ci := 6) (v := .ref a_o_fromOf) (C := RX6) (T := TX6) (N := 20) hx hb hts in_X6 hown hK hP 0 rfl rfl 13 (by decide) (hts _ mw_3_199) (fun _ h9 => h9) rfl dX6_from_27 ?_
      refine lv_bipush (v := (120 : Int32)) hx hb dX6_from_30 (by decide) ?_
      refine lv_iload_n hx hb dX6_from_32 rfl (lv_at hl 2 rfl) ?_
      refine lv_imul hx hb dX6_from_33 ?_
      refine lv_aload_n hx hb dX6_from_34 rfl (lv_at hl 0 rfl) ?_
      refine lv_iload_n hx hb dX6_from_35 rfl (lv_at hl 1 rfl) ?_
      obtain ⟨x16, hc17, h⟩ := cz_e1 h
      refine cz_callV (As := [.int w1]) (rest := [.int ((120 : Int32) * w2), .ref a_o_fromOf]) (is := [0, 2]) (isR := [1, 3, 4, 5, 6]) (rs := [aI cI a_o_refusals 7 f_o_refusals, aI cI a_o_innerOf 120 g11, aI cI a_o_whoseOf 120 g12, aI cI a_o_nearOf 360 g13, aI cI a_o_fromOf 360 g14]) (as := [a_o, a_o_refusals, a_o_s, a_o_innerOf, a_o_whoseOf, a_o_nearOf, a_o_fromOf]) (ws1 := [oX6 a_o a_o_refusals a_o_s a_o_image v_o_isImage a_o_tape a_o_read v_o_taped v_o_pos v_o_readWide v_o_readHigh a_o_innerOf a_o_whoseOf a_o_nearOf a_o_fromOf x10 a_o_pieceOf a_o_kept a_o_claimOf a_o_row v_o_rowed, aI cI a_o_refusals 7 f_o_refusals, aI cI a_o_s 151 f_o_s, aI cI a_o_innerOf 120 g11, aI cI a_o_whoseOf 120 g12, aI cI a_o_nearOf 360 g13, aI cI a_o_fromOf 360 g14]) (q0 := 0) (ci := 6) ⟨hx, hb, hml, hown, hts⟩ (c_X6_of l D cI a_o a_o_s a_o_refusals a_o_image a_o_tape a_o_read a_o_innerOf a_o_whoseOf a_o_nearOf a_o_fromOf a_o_pieceOf a_o_kept a_o_claimOf a_o_row v_o_isImage v_o_taped v_o_pos v_o_readWide v_o_readHigh x10 v_o_rowed f_o_s w1 n x16 hc17) mw_4_39 mw_4_41 mw_p_14 mw_1_8 mw_4_42 hd_X6_of ⟨Nat.le_of_ble_eq_true rfl, Nat.le_of_ble_eq_true rfl⟩ hK hN hP hD hS rfl rfl rfl rfl rfl rfl rfl rfl rfl rfl rfl rfl hl.1 rfl (Nat.le_of_ble_eq_true rfl) dX6_from_36 ⟨Nat.le_of_ble_eq_true rfl, Nat.le_of_ble_eq_true rfl⟩ (fun H locs hP hD hS => ?_)
      refine W.eq (g2 := F0 m 39 ls [.int x16, .int ((120 : Int32) * w2), .ref a_o_fromOf]) rfl ?_
      refine lv_iadd hx hb dX6_from_39 ?_
      refine cz_iald hx hb hK hP 6 0 rfl rfl (cz_rdE h).1 dX6_from_40 (fun x18 ex18 => ?_)
      replace h := cz_rdK ex18 h
      refine lv_istore_n (lv' := [(3, .int x18), (0, .ref a_o), (1, .int w1), (2, .int w2)]) hx hb dX6_from_41 rfl hl (by decide) rfl (fun ls hl => ?_)
      refine lv_iload_n hx hb dX6_from_42 rfl (lv_at hl 0 rfl) ?_
      refine lv_if_ge (tgt := 51) hx hb dX6_from_43 (by decide) (fun c19 => ?_) (fun c19 => ?_)
      · replace h := cz_t c19 h
        refine lv_aload_n hx hb dX6_from_51 rfl (lv_at hl 1 rfl) ?_
        refine lv_iload_n hx hb dX6_from_52 rfl (lv_at hl 0 rfl) ?_
        obtain ⟨x20, hc21, h⟩ := cz_e1 h
        refine cz_callV (As := [.int x18]) (rest := []) (is := [0, 2]) (isR := [1, 3, 4, 5, 6]) (rs := [aI cI a_o_refusals 7 f_o_refusals, aI cI a_o_innerOf 120 g11, aI cI a_o_whoseOf 120 g12, aI cI a_o_nearOf 360 g13, aI cI a_o_fromOf 360 g14]) (as := [a_o, a_o_refusals, a_o_s, a_o_innerOf, a_o_whoseOf, a_o_nearOf, a_o_fromOf]) (ws1 := [oX6 a_o a_o_refusals a_o_s a_o_image v_o_isImage a_o_tape a_o_read v_o_taped v_o_pos v_o_readWide v_o_readHigh a_o_innerOf a_o_whoseOf a_o_nearOf a_o_fromOf x10 a_o_pieceOf a_o_kept a_o_claimOf a_o_row v_o_rowed, aI cI a_o_refusals 7 f_o_refusals, aI cI a_o_s 151 f_o_s, aI cI a_o_innerOf 120 g11, aI cI a_o_whoseOf 120 g12, aI cI a_o_nearOf 360 g13, aI cI a_o_fromOf 360 g14]) (q0 := 0) (ci := 6) ⟨hx, hb, hml, hown, hts⟩ (c_X6_told l D cI a_o a_o_s a_o_refusals a_o_image a_o_tape a_o_read a_o_innerOf a_o_whoseOf a_o_nearOf a_o_fromOf a_o_pieceOf a_o_kept a_o_claimOf a_o_row v_o_isImage v_o_taped v_o_pos v_o_readWide v_o_readHigh x10 v_o_rowed f_o_s x18 n x20 hc21) mw_4_104 mw_4_106 mw_p_23 mw_1_8 mw_4_107 hd_X6_told ⟨Nat.le_of_ble_eq_true rfl, Nat.le_of_ble_eq_true rfl⟩ hK hN hP hD hS rfl rfl rfl rfl rfl rfl rfl rfl rfl rfl rfl rfl hl.1 rfl (Nat.le_of_ble_eq_true rfl) dX6_from_53 ⟨Nat.le_of_ble_eq_true rfl, Nat.le_of_ble_eq_true rfl⟩ (fun H locs hP hD hS => ?_)
        refine W.eq (g2 := F0 m 56 ls [.int x20]) rfl ?_
        obtain ⟨rfl, rfl, rfl, rfl, rfl, rfl, rfl⟩ := cz_j7 (cz_i h)
        exact hQ _ _ _ _ hP hS dX6_from_56
      · replace h := cz_f c19 h
        refine lv_bipush (v := (-9 : Int32)) hx hb dX6_from_46 (by decide) ?_
        refine lv_goto (tgt := 56) hx hb dX6_from_48 (by decide) ?_
        obtain ⟨rfl, rfl, rfl, rfl, rfl, rfl, rfl⟩ := cz_j7 (cz_i h)
        exact hQ _ _ _ _ hP hS dX6_from_56
    · replace h := cz_t c9 h
      refine lv_aload_n hx hb dX6_from_16 rfl (lv_at hl 0 rfl) ?_
      refine lv_iconst (v := (-1 : Int32)) hx hb dX6_from_17 (by decide) ?_
      obtain ⟨x22, g23, hc24, h⟩ := cz_e2 h
      refine cz_callV (As := [.int (-1 : Int32)]) (rest := []) (is := [0, 1]) (isR := [2, 3, 4, 5, 6]) (rs := [aI cI a_o_s 151 f_o_s, aI cI a_o_innerOf 120 f_o_innerOf, aI cI a_o_whoseOf 120 f_o_whoseOf, aI cI a_o_nearOf 360 f_o_nearOf, aI cI a_o_fromOf 360 f_o_fromOf]) (as := [a_o, a_o_refusals, a_o_s, a_o_innerOf, a_o_whoseOf, a_o_nearOf, a_o_fromOf]) (ws1 := [oX6 a_o a_o_refusals a_o_s a_o_image v_o_isImage a_o_tape a_o_read v_o_taped v_o_pos v_o_readWide v_o_readHigh a_o_innerOf a_o_whoseOf a_o_nearOf a_o_fromOf v_o_thirds a_o_pieceOf a_o_kept a_o_claimOf a_o_row v_o_rowed, aI cI a_o_refusals 7 g23, aI cI a_o_s 151 f_o_s, aI cI a_o_innerOf 120 f_o_innerOf, aI cI a_o_whoseOf 120 f_o_whoseOf, aI cI a_o_nearOf 360 f_o_nearOf, aI cI a_o_fromOf 360 f_o_fromOf]) (q0 := 0) (ci := 6) ⟨hx, hb, hml, hown, hts⟩ (c_X6_refuse l D cI a_o a_o_refusals a_o_s a_o_image a_o_tape a_o_read a_o_innerOf a_o_whoseOf a_o_nearOf a_o_fromOf a_o_pieceOf a_o_kept a_o_claimOf a_o_row v_o_isImage v_o_taped v_o_pos v_o_readWide v_o_readHigh v_o_thirds v_o_rowed f_o_refusals (-1 : Int32) n x22 g23 hc24) mw_4_11 mw_4_13 mw_p_10 mw_1_8 mw_4_14 hd_X6_refuse ⟨Nat.le_of_ble_eq_true rfl, Nat.le_of_ble_eq_true rfl⟩ hK hN hP hD hS rfl rfl rfl rfl rfl rfl rfl rfl rfl rfl rfl rfl hl.1 rfl (Nat.le_of_ble_eq_true rfl) dX6_from_18 ⟨Nat.le_of_ble_eq_true rfl, Nat.le_of_ble_eq_true rfl⟩ (fun H locs hP hD hS => ?_)
      refine W.eq (g2 := F0 m 21 ls [.int x22]) rfl ?_
      obtain ⟨rfl, rfl, rfl, rfl, rfl, rfl, rfl⟩ := cz_j7 (cz_i h)
      exact hQ _ _ _ _ hP hS dX6_from_21
