set_option maxHeartbeats 4000000 in
set_option maxRecDepth 100000 in
theorem c_X6_of (l : Launch) (D : va_G) (cI : ClassId) (a_o a_o_s a_o_refusals a_o_image a_o_tape a_o_read a_o_innerOf a_o_whoseOf a_o_nearOf a_o_fromOf a_o_pieceOf a_o_kept a_o_claimOf a_o_row : Nat) (v_o_isImage : Int32) (v_o_taped : Int32) (v_o_pos : Int32) (v_o_readWide : Int32) (v_o_readHigh : Int32) (v_o_thirds : Int32) (v_o_rowed : Int32) (f_o_s : (Nat → Int32)) (w1 : Int32) (n : Nat) (r : Int32) (h : f_X6_of n f_o_s w1 = some r) : cz_M l yX6_of cX6_of 2 (some .int) 0 0 D cI [.ref a_o, .int w1] [oX6 a_o a_o_refusals a_o_s a_o_image v_o_isImage a_o_tape a_o_read v_o_taped v_o_pos v_o_readWide v_o_readHigh a_o_innerOf a_o_whoseOf a_o_nearOf a_o_fromOf v_o_thirds a_o_pieceOf a_o_kept a_o_claimOf a_o_row v_o_rowed, aI cI a_o_s 151 f_o_s] (some (.int r)) [oX6 a_o a_o_refusals a_o_s a_o_image v_o_isImage a_o_tape a_o_read v_o_taped v_o_pos v_o_readWide v_o_readHigh a_o_innerOf a_o_whoseOf a_o_nearOf a_o_fromOf v_o_thirds a_o_pieceOf a_o_kept a_o_claimOf a_o_row v_o_rowed, aI cI a_o_s 151 f_o_s] := by
  refine cz_startI (by decide) (Nat.le_of_ble_eq_true rfl) ?_
  intro p e s m ag below meth c A Q hx hb hml hown hts hK hN hQ H locs hP hD hS ls hl
  replace hown : s.vm.findClass RX6 = some m.cls := hown
  replace hl : lv_has ls 2 [(0, .ref a_o), (1, .int w1)] := hl
  unfold f_X6_of at h
  refine lv_iload_n hx hb dX6_of_0 rfl (lv_at hl 1 rfl) ?_
  refine lv_bipush (v := (100 : Int32)) hx hb dX6_of_1 (by decide) ?_
  refine lv_irem hx hb dX6_of_3 (by decide) ?_
  refine lv_aload_n hx hb dX6_of_4 rfl (lv_at hl 0 rfl) ?_
  refine va_get (D := D) (ci := 6) (v := .ref a_o_s) (C := RX6) (T := TX6) (N := 20) hx hb hts in_X6 hown hK hP 0 rfl rfl 1 (by decide) (hts _ mw_3_187) (fun _ h9 => h9) rfl dX6_of_5 ?_
  refine lv_iconst (v := (0 : Int32)) hx hb dX6_of_8 (by decide) ?_
  refine cz_iald hx hb hK hP 1 0 rfl rfl (cz_rdE h).1 dX6_of_9 (fun x1 ex1 => ?_)
  replace h := cz_rdK ex1 h
  refine lv_imul hx hb dX6_of_10 ?_
  refine lv_iload_n hx hb dX6_of_11 rfl (lv_at hl 1 rfl) ?_
  refine lv_bipush (v := (100 : Int32)) hx hb dX6_of_12 (by decide) ?_
  refine lv_idiv hx hb dX6_of_14 (by decide) ?_
  refine lv_iadd hx hb dX6_of_15 ?_
  obtain rfl := cz_i h
  exact hQ _ _ _ _ hP hS dX6_of_16
set_option maxHeartbeats 4000000 in
set_option maxRecDepth 100000 in
theorem c_X6_told (l : Launch) (D : va_G) (cI : ClassId) (a_o a_o_s a_o_refusals a_o_image a_o_tape a_o_read a_o_innerOf a_o_whoseOf a_o_nearOf a_o_fromOf a_o_pieceOf a_o_kept a_o_claimOf a_o_row : Nat) (v_o_isImage : Int32) (v_o_taped : Int32) (v_o_pos : Int32) (v_o_readWide : Int32) (v_o_readHigh : Int32) (v_o_thirds : Int32) (v_o_rowed : Int32) (f_o_s : (Nat → Int32)) (w1 : Int32) (n : Nat) (r : Int32) (h : f_X6_told n f_o_s w1 = some r) : cz_M l yX6_told cX6_told 2 (some .int) 0 0 D cI [.ref a_o, .int w1] [oX6 a_o a_o_refusals a_o_s a_o_image v_o_isImage a_o_tape a_o_read v_o_taped v_o_pos v_o_readWide v_o_readHigh a_o_innerOf a_o_whoseOf a_o_nearOf a_o_fromOf v_o_thirds a_o_pieceOf a_o_kept a_o_claimOf a_o_row v_o_rowed, aI cI a_o_s 151 f_o_s] (some (.int r)) [oX6 a_o a_o_refusals a_o_s a_o_image v_o_isImage a_o_tape a_o_read v_o_taped v_o_pos v_o_readWide v_o_readHigh a_o_innerOf a_o_whoseOf a_o_nearOf a_o_fromOf v_o_thirds a_o_pieceOf a_o_kept a_o_claimOf a_o_row v_o_rowed, aI cI a_o_s 151 f_o_s] := by
  refine cz_startI (by decide) (Nat.le_of_ble_eq_true rfl) ?_
  intro p e s m ag below meth c A Q hx hb hml hown hts hK hN hQ H locs hP hD hS ls hl
  replace hown : s.vm.findClass RX6 = some m.cls := hown
  replace hl : lv_has ls 2 [(0, .ref a_o), (1, .int w1)] := hl
  unfold f_X6_told at h
  refine lv_bipush (v := (100 : Int32)) hx hb dX6_told_0 (by decide) ?_
  refine lv_iload_n hx hb dX6_told_2 rfl (lv_at hl 1 rfl) ?_
  refine lv_aload_n hx hb dX6_told_3 rfl (lv_at hl 0 rfl) ?_
  refine va_get (D := D) (ci := 6) (v := .ref a_o_s) (C := RX6) (T := TX6) (N := 20) hx hb hts in_X6 hown hK hP 0 rfl rfl 1 (by decide) (hts _ mw_3_187) (fun _ h9 => h9) rfl dX6_told_4 ?_
  refine lv_iconst (v := (0 : Int32)) hx hb dX6_told_7 (by decide) ?_
  refine cz_iald hx hb hK hP 1 0 rfl rfl (cz_rdE h).1 dX6_told_8 (fun x1 ex1 => ?_)
  replace h := cz_rdK ex1 h
  refine lv_irem hx hb dX6_told_9 (cz_nzE h).1 ?_
  replace h := (cz_nzE h).2
  refine lv_imul hx hb dX6_told_10 ?_
  refine lv_iload_n hx hb dX6_told_11 rfl (lv_at hl 1 rfl) ?_
  refine lv_aload_n hx hb dX6_told_12 rfl (lv_at hl 0 rfl) ?_
  refine va_get (D := D) (ci := 6) (v := .ref a_o_s) (C := RX6) (T := TX6) (N := 20) hx hb hts in_X6 hown hK hP 0 rfl rfl 1 (by decide) (hts _ mw_3_187) (fun _ h9 => h9) rfl dX6_told_13 ?_
  refine lv_iconst (v := (0 : Int32)) hx hb dX6_told_16 (by decide) ?_
  refine cz_iald hx hb hK hP 1 0 rfl rfl (cz_rdE h).1 dX6_told_17 (fun x2 ex2 => ?_)
  replace h := cz_rdK ex2 h
  refine lv_idiv hx hb dX6_told_18 (cz_nzE h).1 ?_
  replace h := (cz_nzE h).2
  refine lv_iadd hx hb dX6_told_19 ?_
  obtain rfl := cz_i h
  exact hQ _ _ _ _ hP hS dX6_told_20
set_option maxHeartbeats 4000000 in
set_option maxRecDepth 100000 in
theorem c_X6_at (l : Launch) (D : va_G) (cI : ClassId) (a_o a_o_s a_o_refusals a_o_image a_o_tape a_o_read a_o_innerOf a_o_whoseOf a_o_nearOf a_o_fromOf a_o_pieceOf a_o_kept a_o_claimOf a_o_row : Nat) (v_o_isImage : Int32) (v_o_taped : Int32) (v_o_pos : Int32) (v_o_readWide : Int32) (v_o_readHigh : Int32) (v_o_thirds : Int32) (v_o_rowed : Int32) (f_o_s : (Nat → Int32)) (w1 : Int32) (n : Nat) (r : Int32) (h : f_X6_at n f_o_s w1 = some r) : cz_M l yX6_at cX6_at 2 (some .int) 0 0 D cI [.ref a_o, .int w1] [oX6 a_o a_o_refusals a_o_s a_o_image v_o_isImage a_o_tape a_o_read v_o_taped v_o_pos v_o_readWide v_o_readHigh a_o_innerOf a_o_whoseOf a_o_nearOf a_o_fromOf v_o_thirds a_o_pieceOf a_o_kept a_o_claimOf a_o_row v_o_rowed, aI cI a_o_s 151 f_o_s] (some (.int r)) [oX6 a_o a_o_refusals a_o_s a_o_image v_o_isImage a_o_tape a_o_read v_o_taped v_o_pos v_o_readWide v_o_readHigh a_o_innerOf a_o_whoseOf a_o_nearOf a_o_fromOf v_o_thirds a_o_pieceOf a_o_kept a_o_claimOf a_o_row v_o_rowed, aI cI a_o_s 151 f_o_s] := by
  refine cz_startI (by decide) (Nat.le_of_ble_eq_true rfl) ?_
  intro p e s m ag below meth c A Q hx hb hml hown hts hK hN hQ H locs hP hD hS ls hl
  replace hown : s.vm.findClass RX6 = some m.cls := hown
  replace hl : lv_has ls 2 [(0, .ref a_o), (1, .int w1)] := hl
  unfold f_X6_at at h
  refine lv_aload_n hx hb dX6_at_0 rfl (lv_at hl 0 rfl) ?_
  refine va_get (D := D) (ci := 6) (v := .ref a_o_s) (C := RX6) (T := TX6) (N := 20) hx hb hts in_X6 hown hK hP 0 rfl rfl 1 (by decide) (hts _ mw_3_187) (fun _ h9 => h9) rfl dX6_at_1 ?_
  refine lv_bipush (v := (7 : Int32)) hx hb dX6_at_4 (by decide) ?_
  refine lv_iload_n hx hb dX6_at_6 rfl (lv_at hl 1 rfl) ?_
  refine lv_iadd hx hb dX6_at_7 ?_
  refine cz_iald hx hb hK hP 1 0 rfl rfl (cz_rdE h).1 dX6_at_8 (fun x1 ex1 => ?_)
  replace h := cz_rdK ex1 h
  obtain rfl := cz_i h
  exact hQ _ _ _ _ hP hS dX6_at_9
set_option maxHeartbeats 4000000 in
set_option maxRecDepth 100000 in
theorem c_X6_feed (l : Launch) (D : va_G) (cI : ClassId) (a_o a_o_refusals a_o_tape a_o_s a_o_image a_o_read a_o_innerOf a_o_whoseOf a_o_nearOf a_o_fromOf a_o_pieceOf a_o_kept a_o_claimOf a_o_row : Nat) (v_o_isImage : Int32) (v_o_taped : Int32) (v_o_pos : Int32) (v_o_readWide : Int32) (v_o_readHigh : Int32) (v_o_thirds : Int32) (v_o_rowed : Int32) (f_o_refusals : (Nat → Int32)) (f_o_tape : (Nat → Int32)) (w1 : Int32) (w2 : Int64) (n : Nat) (r : Int32) (r_v_o_taped : Int32) (r_f_o_refusals : (Nat → Int32)) (r_f_o_tape : (Nat → Int32)) (h : f_X6_feed n v_o_taped f_o_refusals f_o_tape w1 w2 = some (r, r_v_o_taped, r_f_o_refusals, r_f_o_tape)) : cz_M l yX6_feed cX6_feed 5 (some .int) 1 21 D cI [.ref a_o, .int w1, .long w2] [oX6 a_o a_o_refusals a_o_s a_o_image v_o_isImage a_o_tape a_o_read v_o_taped v_o_pos v_o_readWide v_o_readHigh a_o_innerOf a_o_whoseOf a_o_nearOf a_o_fromOf v_o_thirds a_o_pieceOf a_o_kept a_o_claimOf a_o_row v_o_rowed, aI cI a_o_refusals 7 f_o_refusals, aI cI a_o_tape 129 f_o_tape] (some (.int r)) [oX6 a_o a_o_refusals a_o_s a_o_image v_o_isImage a_o_tape a_o_read r_v_o_taped v_o_pos v_o_readWide v_o_readHigh a_o_innerOf a_o_whoseOf a_o_nearOf a_o_fromOf v_o_thirds a_o_pieceOf a_o_kept a_o_claimOf a_o_row v_o_rowed, aI cI a_o_refusals 7 r_f_o_refusals, aI cI a_o_tape 129 r_f_o_tape] := by
  refine cz_startI (by decide) (Nat.le_of_ble_eq_true rfl) ?_
  intro p e s m ag below meth c A Q hx hb hml hown hts hK hN hQ H locs hP hD hS ls hl
  replace hown : s.vm.findClass RX6 = some m.cls := hown
  replace hl : lv_has ls 5 [(0, .ref a_o), (1, .int w1), (2, .long w2)] := hl
  unfold f_X6_feed at h
  refine lv_iload_n hx hb dX6_feed_0 rfl (lv_at hl 1 rfl) ?_
  refine lv_iconst (v := (1 : Int32)) hx hb dX6_feed_1 (by decide) ?_
  refine lv_icmp_ge (tgt := 12) hx hb dX6_feed_2 (by decide) (fun c1 => ?_) (fun c1 => ?_)
  · replace h := cz_t c1 h
    refine lv_iload_n hx hb dX6_feed_12 rfl (lv_at hl 1 rfl) ?_
    refine lv_bipush (v := (8 : Int32)) hx hb dX6_feed_13 (by decide) ?_
    refine lv_icmp_gt (tgt := 30) hx hb dX6_feed_15 (by decide) (fun c2 => ?_) (fun c2 => ?_)
    · replace h := cz_t c2 h
      refine lv_aload_n hx hb dX6_feed_30 rfl (lv_at hl 0 rfl) ?_
      refine lv_bipush (v := (-6 : Int32)) hx hb dX6_feed_31 (by decide) ?_
      obtain ⟨x3, g4, hc5, h⟩ := cz_e2 h
      refine cz_callV (As := [.int (-6 : Int32)]) (rest := []) (is := [0, 1]) (isR := [2]) (rs := [aI cI a_o_tape 129 f_o_tape]) (as := [a_o, a_o_refusals, a_o_tape]) (ws1 := [oX6 a_o a_o_refusals a_o_s a_o_image v_o_isImage a_o_tape a_o_read v_o_taped v_o_pos v_o_readWide v_o_readHigh a_o_innerOf a_o_whoseOf a_o_nearOf a_o_fromOf v_o_thirds a_o_pieceOf a_o_kept a_o_claimOf a_o_row v_o_rowed, aI cI a_o_refusals 7 g4, aI cI a_o_tape 129 f_o_tape]) (q0 := 0) (ci := 6) ⟨hx, hb, hml, hown, hts⟩ (c_X6_refuse l D cI a_o a_o_refusals a_o_s a_o_image a_o_tape a_o_read a_o_innerOf a_o_whoseOf a_o_nearOf a_o_fromOf a_o_pieceOf a_o_kept a_o_claimOf a_o_row v_o_isImage v_o_taped v_o_pos v_o_readWide v_o_readHigh v_o_thirds v_o_rowed f_o_refusals (-6 : Int32) n x3 g4 hc5) mw_4_11 mw_4_13 mw_p_10 mw_1_8 mw_4_14 hd_X6_refuse ⟨Nat.le_of_ble_eq_true rfl, Nat.le_of_ble_eq_true rfl⟩ hK hN hP hD hS rfl rfl rfl rfl rfl rfl rfl rfl rfl rfl rfl rfl hl.1 rfl (Nat.le_of_ble_eq_true rfl) dX6_feed_33 ⟨Nat.le_of_ble_eq_true rfl, Nat.le_of_ble_eq_true rfl⟩ (fun H locs hP hD hS => ?_)
      refine W.eq (g2 := F0 m 36 ls [.int x3]) rfl ?_
      obtain ⟨rfl, rfl, rfl, rfl⟩ := cz_j4 (cz_i h)
      exact hQ _ _ _ _ hP hS dX6_feed_36
    · replace h := cz_f c2 h
      refine lv_aload_n hx hb dX6_feed_18 rfl (lv_at hl 0 rfl) ?_
      refine va_get (D := D) (ci := 6) (v := .int v_o_taped) (C := RX6) (T := TX6) (N := 20) hx hb hts in_X6 hown hK hP 0 rfl rfl 6 (by decide) (hts _ mw_3_192) (fun _ h9 => h9) rfl dX6_feed_19 ?_
      refine lv_iload_n hx hb dX6_feed_22 rfl (lv_at hl 1 rfl) ?_
      refine lv_iadd hx hb dX6_feed_23 ?_
      refine lv_sipush (v := (129 : Int32)) hx hb dX6_feed_24 (by decide) ?_
      refine lv_icmp_le (tgt := 37) hx hb dX6_feed_27 (by decide) (fun c6 => ?_) (fun c6 => ?_)
      · replace h := cz_t c6 h
        refine lv_iconst (v := (0 : Int32)) hx hb dX6_feed_37 (by decide) ?_
        refine lv_istore (lv' := [(4, .int (0 : Int32)), (0, .ref a_o), (1, .int w1), (2, .long w2)]) hx hb dX6_feed_38 hl (by decide) rfl (fun ls hl => ?_)
        obtain ⟨z10, hE11, hz12⟩ := cz_x3 h
        have hX13 : ∀ (y16 : Int32) (y17 : Int32) (q18 : (Nat → Int32)) (H : Heap) (locs : List Loc) (ls : Array Slot), z10 = (y16, y17, q18) → va_P D vwCl [oX6 a_o a_o_refusals a_o_s a_o_image v_o_isImage a_o_tape a_o_read y17 v_o_pos v_o_readWide v_o_readHigh a_o_innerOf a_o_whoseOf a_o_nearOf a_o_fromOf v_o_thirds a_o_pieceOf a_o_kept a_o_claimOf a_o_row v_o_rowed, aI cI a_o_refusals 7 f_o_refusals, aI cI a_o_tape 129 q18] H → va_D A [oX6 a_o a_o_refusals a_o_s a_o_image v_o_isImage a_o_tape a_o_read y17 v_o_pos v_o_readWide v_o_readHigh a_o_innerOf a_o_whoseOf a_o_nearOf a_o_fromOf v_o_thirds a_o_pieceOf a_o_kept a_o_claimOf a_o_row v_o_rowed, aI cI a_o_refusals 7 f_o_refusals, aI cI a_o_tape 129 q18] → va_S A s.heap H locs → lv_has ls 5 [(0, .ref a_o)] → W p l e (cz_rm 1 21) s m ag below meth c H locs 0 0 Q (F0 m 83 ls []) := by
          intro y16 y17 q18 H locs ls h hP hD hS hl
          replace h := hz12 _ _ _ h
          refine lv_aload_n hx hb dX6_feed_83 rfl (lv_at hl 0 rfl) ?_
          refine va_get (D := D) (ci := 6) (v := .int y17) (C := RX6) (T := TX6) (N := 20) hx hb hts in_X6 hown hK hP 0 rfl rfl 6 (by decide) (hts _ mw_3_192) (fun _ h9 => h9) rfl dX6_feed_84 ?_
          obtain ⟨rfl, rfl, rfl, rfl⟩ := cz_j4 (cz_i h)
          exact hQ _ _ _ _ hP hS dX6_feed_87
        clear h
        have hL14 : ∀ (k : Nat) (x7 : Int32) (x8 : Int32) (g9 : (Nat → Int32)) (H : Heap) (locs : List Loc) (ls : Array Slot), f_X6_feed_L40 n w1 w2 k x7 x8 g9 = some z10 → va_P D vwCl [oX6 a_o a_o_refusals a_o_s a_o_image v_o_isImage a_o_tape a_o_read x8 v_o_pos v_o_readWide v_o_readHigh a_o_innerOf a_o_whoseOf a_o_nearOf a_o_fromOf v_o_thirds a_o_pieceOf a_o_kept a_o_claimOf a_o_row v_o_rowed, aI cI a_o_refusals 7 f_o_refusals, aI cI a_o_tape 129 g9] H → va_D A [oX6 a_o a_o_refusals a_o_s a_o_image v_o_isImage a_o_tape a_o_read x8 v_o_pos v_o_readWide v_o_readHigh a_o_innerOf a_o_whoseOf a_o_nearOf a_o_fromOf v_o_thirds a_o_pieceOf a_o_kept a_o_claimOf a_o_row v_o_rowed, aI cI a_o_refusals 7 f_o_refusals, aI cI a_o_tape 129 g9] → va_S A s.heap H locs → lv_has ls 5 [(0, .ref a_o), (1, .int w1), (2, .long w2), (4, .int x7)] → W p l e (cz_rm 1 21) s m ag below meth c H locs 0 0 Q (F0 m 40 ls []) := by
          intro k
          induction k with
          | zero =>
            intro x7 x8 g9 H locs ls h
            rw [f_X6_feed_L40] at h
            cases h
          | succ k ih19 =>
            intro x7 x8 g9 H locs ls h hP hD hS hl
            rw [f_X6_feed_L40] at h
            refine lv_iload hx hb dX6_feed_40 (lv_at hl 3 rfl) ?_
            refine lv_iload_n hx hb dX6_feed_42 rfl (lv_at hl 1 rfl) ?_
            refine lv_icmp_ge (tgt := 83) hx hb dX6_feed_43 (by decide) (fun c20 => ?_) (fun c20 => ?_)
            · replace h := cz_t c20 h
              exact hX13 _ _ _ _ _ _ (cz_i h).symm hP hD hS (lv_sub hl [0] rfl)
            · replace h := cz_f c20 h
              refine lv_aload_n hx hb dX6_feed_46 rfl (lv_at hl 0 rfl) ?_
              refine va_get (D := D) (ci := 6) (v := .ref a_o_tape) (C := RX6) (T := TX6) (N := 20) hx hb hts in_X6 hown hK hP 0 rfl rfl 4 (by decide) (hts _ mw_3_190) (fun _ h9 => h9) rfl dX6_feed_47 ?_
              refine lv_aload_n hx hb dX6_feed_50 rfl (lv_at hl 0 rfl) ?_
              refine va_get (D := D) (ci := 6) (v := .int x8) (C := RX6) (T := TX6) (N := 20) hx hb hts in_X6 hown hK hP 0 rfl rfl 6 (by decide) (hts _ mw_3_192) (fun _ h9 => h9) rfl dX6_feed_51 ?_
              refine lv_lload_n hx hb dX6_feed_54 rfl (lv_at hl 2 rfl) ?_
              refine lv_bipush (v := (8 : Int32)) hx hb dX6_feed_55 (by decide) ?_
              refine lv_iload hx hb dX6_feed_57 (lv_at hl 3 rfl) ?_
              refine lv_imul hx hb dX6_feed_59 ?_
              refine lv_lshr hx hb dX6_feed_60 rfl ?_
              refine lv_ldc2 (v := (255 : Int64)) hx hb hown (hts _ mw_4_15) dX6_feed_61 ?_
              refine lv_land hx hb dX6_feed_64 ?_
              refine lv_l2i hx hb dX6_feed_65 rfl ?_
              refine cz_iast hx hb hK hP hD hS 2 0 rfl rfl (cz_wrE h).1 dX6_feed_66 (fun g21 H locs eg21 hP hD hS => ?_)
              replace h := cz_wrK eg21 h
              replace hP : va_P D vwCl [oX6 a_o a_o_refusals a_o_s a_o_image v_o_isImage a_o_tape a_o_read x8 v_o_pos v_o_readWide v_o_readHigh a_o_innerOf a_o_whoseOf a_o_nearOf a_o_fromOf v_o_thirds a_o_pieceOf a_o_kept a_o_claimOf a_o_row v_o_rowed, aI cI a_o_refusals 7 f_o_refusals, aI cI a_o_tape 129 g21] H := hP
              replace hD : va_D A [oX6 a_o a_o_refusals a_o_s a_o_image v_o_isImage a_o_tape a_o_read x8 v_o_pos v_o_readWide v_o_readHigh a_o_innerOf a_o_whoseOf a_o_nearOf a_o_fromOf v_o_thirds a_o_pieceOf a_o_kept a_o_claimOf a_o_row v_o_rowed, aI cI a_o_refusals 7 f_o_refusals, aI cI a_o_tape 129 g21] := hD
              refine lv_aload_n hx hb dX6_feed_67 rfl (lv_at hl 0 rfl) ?_
              refine lv_dup hx hb dX6_feed_68 rfl ?_
              refine va_get (D := D) (ci := 6) (v := .int x8) (C := RX6) (T := TX6) (N := 20) hx hb hts in_X6 hown hK hP 0 rfl rfl 6 (by decide) (hts _ mw_3_192) (fun _ h9 => h9) rfl dX6_feed_69 ?_
              refine lv_iconst (v := (1 : Int32)) hx hb dX6_feed_72 (by decide) ?_
              refine lv_iadd hx hb dX6_feed_73 ?_
              refine lv_topi (fun x22 ex22 => ?_)
              replace h := cz_ltE ex22 h
              refine va_put (D := D) (ci := 6) (v := .int x22) (ty := .int) (C := RX6) (T := TX6) (N := 20) hx hb hts in_X6 tyX6 tyX6_ok nmX6 hown hK hP hD hS 0 rfl rfl 6 (by decide) (hts _ mw_3_192) (fun _ h9 => h9) rfl (by decide +kernel) rfl rfl (Nat.le_of_ble_eq_true rfl) dX6_feed_74 (fun H locs hP hD hS => ?_)
              replace hP : va_P D vwCl [oX6 a_o a_o_refusals a_o_s a_o_image v_o_isImage a_o_tape a_o_read x22 v_o_pos v_o_readWide v_o_readHigh a_o_innerOf a_o_whoseOf a_o_nearOf a_o_fromOf v_o_thirds a_o_pieceOf a_o_kept a_o_claimOf a_o_row v_o_rowed, aI cI a_o_refusals 7 f_o_refusals, aI cI a_o_tape 129 g21] H := hP
              replace hD : va_D A [oX6 a_o a_o_refusals a_o_s a_o_image v_o_isImage a_o_tape a_o_read x22 v_o_pos v_o_readWide v_o_readHigh a_o_innerOf a_o_whoseOf a_o_nearOf a_o_fromOf v_o_thirds a_o_pieceOf a_o_kept a_o_claimOf a_o_row v_o_rowed, aI cI a_o_refusals 7 f_o_refusals, aI cI a_o_tape 129 g21] := hD
              obtain ⟨x23, ex23⟩ : ∃ z : Int32, z = x7 + (1 : Int32) := ⟨_, rfl⟩
              replace h := cz_ltE ex23 h
              refine lv_iinc (v := x23) (lv' := [(4, .int x23), (0, .ref a_o), (1, .int w1), (2, .long w2)]) hx hb dX6_feed_77 hl (k := 3) rfl (by rw [ex23]; rfl) (by decide) rfl (fun ls hl => ?_)
              refine lv_goto (tgt := 40) hx hb dX6_feed_80 (by decide) ?_
              exact ih19 _ _ _ _ _ _ h hP hD hS (lv_sub hl [1, 2, 3, 0] rfl)
        exact hL14 n _ _ _ _ _ _ hE11 hP hD hS (lv_sub hl [1, 2, 3, 0] rfl)
      · replace h := cz_f c6 h
        refine lv_aload_n hx hb dX6_feed_30 rfl (lv_at hl 0 rfl) ?_
        refine lv_bipush (v := (-6 : Int32)) hx hb dX6_feed_31 (by decide) ?_
        obtain ⟨x25, g26, hc27, h⟩ := cz_e2 h
        refine cz_callV (As := [.int (-6 : Int32)]) (rest := []) (is := [0, 1]) (isR := [2]) (rs := [aI cI a_o_tape 129 f_o_tape]) (as := [a_o, a_o_refusals, a_o_tape]) (ws1 := [oX6 a_o a_o_refusals a_o_s a_o_image v_o_isImage a_o_tape a_o_read v_o_taped v_o_pos v_o_readWide v_o_readHigh a_o_innerOf a_o_whoseOf a_o_nearOf a_o_fromOf v_o_thirds a_o_pieceOf a_o_kept a_o_claimOf a_o_row v_o_rowed, aI cI a_o_refusals 7 g26, aI cI a_o_tape 129 f_o_tape]) (q0 := 0) (ci := 6) ⟨hx, hb, hml, hown, hts⟩ (c_X6_refuse l D cI a_o a_o_refusals a_o_s a_o_image a_o_tape a_o_read a_o_innerOf a_o_whoseOf a_o_nearOf a_o_fromOf a_o_pieceOf a_o_kept a_o_claimOf a_o_row v_o_isImage v_o_taped v_o_pos v_o_readWide v_o_readHigh v_o_thirds v_o_rowed f_o_refusals (-6 : Int32) n x25 g26 hc27) mw_4_11 mw_4_13 mw_p_10 mw_1_8 mw_4_14 hd_X6_refuse ⟨Nat.le_of_ble_eq_true rfl, Nat.le_of_ble_eq_true rfl⟩ hK hN hP hD hS rfl rfl rfl rfl rfl rfl rfl rfl rfl rfl rfl rfl hl.1 rfl (Nat.le_of_ble_eq_true rfl) dX6_feed_33 ⟨Nat.le_of_ble_eq_true rfl, Nat.le_of_ble_eq_true rfl⟩ (fun H locs hP hD hS => ?_)
        refine W.eq (g2 := F0 m 36 ls [.int x25]) rfl ?_
        obtain ⟨rfl, rfl, rfl, rfl⟩ := cz_j4 (cz_i h)
        exact hQ _ _ _ _ hP hS dX6_feed_36
  · replace h := cz_f c1 h
    refine lv_aload_n hx hb dX6_feed_5 rfl (lv_at hl 0 rfl) ?_
    refine lv_bipush (v := (-4 : Int32)) hx hb dX6_feed_6 (by decide) ?_
    obtain ⟨x28, g29, hc30, h⟩ := cz_e2 h
    refine cz_callV (As := [.int (-4 : Int32)]) (rest := []) (is := [0, 1]) (isR := [2]) (rs := [aI cI a_o_tape 129 f_o_tape]) (as := [a_o, a_o_refusals, a_o_tape]) (ws1 := [oX6 a_o a_o_refusals a_o_s a_o_image v_o_isImage a_o_tape a_o_read v_o_taped v_o_pos v_o_readWide v_o_readHigh a_o_innerOf a_o_whoseOf a_o_nearOf a_o_fromOf v_o_thirds a_o_pieceOf a_o_kept a_o_claimOf a_o_row v_o_rowed, aI cI a_o_refusals 7 g29, aI cI a_o_tape 129 f_o_tape]) (q0 := 0) (ci := 6) ⟨hx, hb, hml, hown, hts⟩ (c_X6_refuse l D cI a_o a_o_refusals a_o_s a_o_image a_o_tape a_o_read a_o_innerOf a_o_whoseOf a_o_nearOf a_o_fromOf a_o_pieceOf a_o_kept a_o_claimOf a_o_row v_o_isImage v_o_taped v_o_pos v_o_readWide v_o_readHigh v_o_thirds v_o_rowed f_o_refusals (-4 : Int32) n x28 g29 hc30) mw_4_11 mw_4_13 mw_p_10 mw_1_8 mw_4_14 hd_X6_refuse ⟨Nat.le_of_ble_eq_true rfl, Nat.le_of_ble_eq_true rfl⟩ hK hN hP hD hS rfl rfl rfl rfl rfl rfl rfl rfl rfl rfl rfl rfl hl.1 rfl (Nat.le_of_ble_eq_true rfl) dX6_feed_8 ⟨Nat.le_of_ble_eq_true rfl, Nat.le_of_ble_eq_true rfl⟩ (fun H locs hP hD hS => ?_)
    refine W.eq (g2 := F0 m 11 ls [.int x28]) rfl ?_
    obtain ⟨rfl, rfl, rfl, rfl⟩ := cz_j4 (cz_i h)
    exact hQ _ _ _ _ hP hS dX6_feed_11
set_option maxHeartbeats 4000000 in
set_option maxRecDepth 100000 in
theorem c_X6_kindOf (l : Launch) (D : va_G) (cI : ClassId)  (w1 : Int32) (n : Nat) (r : Int32) (h : f_X6_kindOf n w1 = some r) : cz_M l yX6_kindOf cX6_kindOf 1 (some .int) 0 0 D cI [.int w1] [] (some (.int r)) [] := by
  refine cz_startI (by decide) (Nat.le_of_ble_eq_true rfl) ?_
  intro p e s m ag below meth c A Q hx hb hml hown hts hK hN hQ H locs hP hD hS ls hl
  replace hown : s.vm.findClass RX6 = some m.cls := hown
  replace hl : lv_has ls 1 [(0, .int w1)] := hl
  unfold f_X6_kindOf at h
  refine lv_iload_n hx hb dX6_kindOf_0 rfl (lv_at hl 0 rfl) ?_
  by_cases c1 : w1 = (46 : Int32)
  · replace h := cz_t c1 h
    refine lv_lookup (tgt := 76) (off := 75) hx hb dX6_kindOf_1 (by decide) (by rw [c1]; decide) (by decide) ?_
    refine lv_iconst (v := (0 : Int32)) hx hb dX6_kindOf_76 (by decide) ?_
    obtain rfl := cz_i h
    exact hQ _ _ _ _ hP hS dX6_kindOf_77
  · replace h := cz_f c1 h
    by_cases c2 : w1 = (65 : Int32)
    · replace h := cz_t c2 h
      refine lv_lookup (tgt := 78) (off := 77) hx hb dX6_kindOf_1 (by decide) (by rw [c2]; decide) (by decide) ?_
      refine lv_iconst (v := (1 : Int32)) hx hb dX6_kindOf_78 (by decide) ?_
      obtain rfl := cz_i h
      exact hQ _ _ _ _ hP hS dX6_kindOf_79
    · replace h := cz_f c2 h
      by_cases c3 : w1 = (66 : Int32)
      · replace h := cz_t c3 h
        refine lv_lookup (tgt := 80) (off := 79) hx hb dX6_kindOf_1 (by decide) (by rw [c3]; decide) (by decide) ?_
        refine lv_iconst (v := (2 : Int32)) hx hb dX6_kindOf_80 (by decide) ?_
        obtain rfl := cz_i h
        exact hQ _ _ _ _ hP hS dX6_kindOf_81
      · replace h := cz_f c3 h
        by_cases c4 : w1 = (67 : Int32)
        · replace h := cz_t c4 h
          refine lv_lookup (tgt := 82) (off := 81) hx hb dX6_kindOf_1 (by decide) (by rw [c4]; decide) (by decide) ?_
          refine lv_iconst (v := (3 : Int32)) hx hb dX6_kindOf_82 (by decide) ?_
          obtain rfl := cz_i h
          exact hQ _ _ _ _ hP hS dX6_kindOf_83
        · replace h := cz_f c4 h
          by_cases c5 : w1 = (97 : Int32)
          · replace h := cz_t c5 h
            refine lv_lookup (tgt := 84) (off := 83) hx hb dX6_kindOf_1 (by decide) (by rw [c5]; decide) (by decide) ?_
            refine lv_iconst (v := (4 : Int32)) hx hb dX6_kindOf_84 (by decide) ?_
            obtain rfl := cz_i h
            exact hQ _ _ _ _ hP hS dX6_kindOf_85
          · replace h := cz_f c5 h
            by_cases c6 : w1 = (98 : Int32)
            · replace h := cz_t c6 h
              refine lv_lookup (tgt := 86) (off := 85) hx hb dX6_kindOf_1 (by decide) (by rw [c6]; decide) (by decide) ?_
              refine lv_iconst (v := (5 : Int32)) hx hb dX6_kindOf_86 (by decide) ?_
              obtain rfl := cz_i h
              exact hQ _ _ _ _ hP hS dX6_kindOf_87
            · replace h := cz_f c6 h
              by_cases c7 : w1 = (99 : Int32)
              · replace h := cz_t c7 h
                refine lv_lookup (tgt := 88) (off := 87) hx hb dX6_kindOf_1 (by decide) (by rw [c7]; decide) (by decide) ?_
                refine lv_bipush (v := (6 : Int32)) hx hb dX6_kindOf_88 (by decide) ?_
                obtain rfl := cz_i h
                exact hQ _ _ _ _ hP hS dX6_kindOf_90
              · replace h := cz_f c7 h
                by_cases c8 : w1 = (114 : Int32)
                · replace h := cz_t c8 h
                  refine lv_lookup (tgt := 91) (off := 90) hx hb dX6_kindOf_1 (by decide) (by rw [c8]; decide) (by decide) ?_
                  refine lv_bipush (v := (7 : Int32)) hx hb dX6_kindOf_91 (by decide) ?_
                  obtain rfl := cz_i h
                  exact hQ _ _ _ _ hP hS dX6_kindOf_93
                · replace h := cz_f c8 h
                  refine lv_lookup (tgt := 94) (off := 93) hx hb dX6_kindOf_1 (by decide) (cz_lkOut c1 c2 c3 c4 c5 c6 c7 c8) (by decide) ?_
                  refine lv_iconst (v := (-1 : Int32)) hx hb dX6_kindOf_94 (by decide) ?_
                  obtain rfl := cz_i h
                  exact hQ _ _ _ _ hP hS dX6_kindOf_95
set_option maxHeartbeats 4000000 in
set_option maxRecDepth 100000 in
theorem c_X6_reads (l : Launch) (D : va_G) (cI : ClassId) (a_o a_o_tape a_o_read a_o_refusals a_o_s a_o_image a_o_innerOf a_o_whoseOf a_o_nearOf a_o_fromOf a_o_pieceOf a_o_kept a_o_claimOf a_o_row : Nat) (v_o_isImage : Int32) (v_o_taped : Int32) (v_o_pos : Int32) (v_o_readWide : Int32) (v_o_readHigh : Int32) (v_o_thirds : Int32) (v_o_rowed : Int32) (f_o_tape : (Nat → Int32)) (f_o_read : (Nat → Int32)) (n : Nat) (r : Int32) (r_v_o_pos : Int32) (r_v_o_readWide : Int32) (r_v_o_readHigh : Int32) (r_f_o_read : (Nat → Int32)) (h : f_X6_reads n v_o_taped v_o_pos v_o_readWide v_o_readHigh f_o_tape f_o_read = some (r, r_v_o_pos, r_v_o_readWide, r_v_o_readHigh, r_f_o_read)) : cz_M l yX6_reads cX6_reads 4 (some .boolean) 1 20 D cI [.ref a_o] [oX6 a_o a_o_refusals a_o_s a_o_image v_o_isImage a_o_tape a_o_read v_o_taped v_o_pos v_o_readWide v_o_readHigh a_o_innerOf a_o_whoseOf a_o_nearOf a_o_fromOf v_o_thirds a_o_pieceOf a_o_kept a_o_claimOf a_o_row v_o_rowed, aI cI a_o_tape 129 f_o_tape, aI cI a_o_read 120 f_o_read] (some (.int r)) [oX6 a_o a_o_refusals a_o_s a_o_image v_o_isImage a_o_tape a_o_read v_o_taped r_v_o_pos r_v_o_readWide r_v_o_readHigh a_o_innerOf a_o_whoseOf a_o_nearOf a_o_fromOf v_o_thirds a_o_pieceOf a_o_kept a_o_claimOf a_o_row v_o_rowed, aI cI a_o_tape 129 f_o_tape, aI cI a_o_read 120 r_f_o_read] := by
  refine cz_startZ (by decide) (Nat.le_of_ble_eq_true rfl) ?_
  intro p e s m ag below meth c A Q hx hb hml hown hts hK hN hQ H locs hP hD hS ls hl
  replace hown : s.vm.findClass RX6 = some m.cls := hown
  replace hl : lv_has ls 4 [(0, .ref a_o)] := hl
  unfold f_X6_reads at h
  refine lv_iconst (v := (0 : Int32)) hx hb dX6_reads_0 (by decide) ?_
  refine lv_istore_n (lv' := [(1, .int (0 : Int32)), (0, .ref a_o)]) hx hb dX6_reads_1 rfl hl (by decide) rfl (fun ls hl => ?_)
  refine lv_iconst (v := (0 : Int32)) hx hb dX6_reads_2 (by decide) ?_
  refine lv_istore_n (lv' := [(2, .int (0 : Int32)), (1, .int (0 : Int32)), (0, .ref a_o)]) hx hb dX6_reads_3 rfl hl (by decide) rfl (fun ls hl => ?_)
  refine lv_aload_n hx hb dX6_reads_4 rfl (lv_at hl 2 rfl) ?_
  refine lv_iconst (v := (0 : Int32)) hx hb dX6_reads_5 (by decide) ?_
  refine va_put (D := D) (ci := 6) (v := .int (0 : Int32)) (ty := .int) (C := RX6) (T := TX6) (N := 20) hx hb hts in_X6 tyX6 tyX6_ok nmX6 hown hK hP hD hS 0 rfl rfl 8 (by decide) (hts _ mw_3_194) (fun _ h9 => h9) rfl (by decide +kernel) rfl rfl (Nat.le_of_ble_eq_true rfl) dX6_reads_6 (fun H locs hP hD hS => ?_)
  replace hP : va_P D vwCl [oX6 a_o a_o_refusals a_o_s a_o_image v_o_isImage a_o_tape a_o_read v_o_taped v_o_pos (0 : Int32) v_o_readHigh a_o_innerOf a_o_whoseOf a_o_nearOf a_o_fromOf v_o_thirds a_o_pieceOf a_o_kept a_o_claimOf a_o_row v_o_rowed, aI cI a_o_tape 129 f_o_tape, aI cI a_o_read 120 f_o_read] H := hP
  replace hD : va_D A [oX6 a_o a_o_refusals a_o_s a_o_image v_o_isImage a_o_tape a_o_read v_o_taped v_o_pos (0 : Int32) v_o_readHigh a_o_innerOf a_o_whoseOf a_o_nearOf a_o_fromOf v_o_thirds a_o_pieceOf a_o_kept a_o_claimOf a_o_row v_o_rowed, aI cI a_o_tape 129 f_o_tape, aI cI a_o_read 120 f_o_read] := hD
  refine lv_aload_n hx hb dX6_reads_9 rfl (lv_at hl 2 rfl) ?_
  refine lv_iconst (v := (0 : Int32)) hx hb dX6_reads_10 (by decide) ?_
  refine va_put (D := D) (ci := 6) (v := .int (0 : Int32)) (ty := .int) (C := RX6) (T := TX6) (N := 20) hx hb hts in_X6 tyX6 tyX6_ok nmX6 hown hK hP hD hS 0 rfl rfl 7 (by decide) (hts _ mw_3_193) (fun _ h9 => h9) rfl (by decide +kernel) rfl rfl (Nat.le_of_ble_eq_true rfl) dX6_reads_11 (fun H locs hP hD hS => ?_)
  replace hP : va_P D vwCl [oX6 a_o a_o_refusals a_o_s a_o_image v_o_isImage a_o_tape a_o_read v_o_taped (0 : Int32) (0 : Int32) v_o_readHigh a_o_innerOf a_o_whoseOf a_o_nearOf a_o_fromOf v_o_thirds a_o_pieceOf a_o_kept a_o_claimOf a_o_row v_o_rowed, aI cI a_o_tape 129 f_o_tape, aI cI a_o_read 120 f_o_read] H := hP
  replace hD : va_D A [oX6 a_o a_o_refusals a_o_s a_o_image v_o_isImage a_o_tape a_o_read v_o_taped (0 : Int32) (0 : Int32) v_o_readHigh a_o_innerOf a_o_whoseOf a_o_nearOf a_o_fromOf v_o_thirds a_o_pieceOf a_o_kept a_o_claimOf a_o_row v_o_rowed, aI cI a_o_tape 129 f_o_tape, aI cI a_o_read 120 f_o_read] := hD
  obtain ⟨z6, hE7, hR11, hz8⟩ := cz_y5 h
  have hX9 : ∀ (y12 : Int32) (y13 : Int32) (y14 : Int32) (y15 : Int32) (q16 : (Nat → Int32)) (H : Heap) (locs : List Loc) (ls : Array Slot), z6 = Sum.inr (y12, y13, y14, y15, q16) → va_P D vwCl [oX6 a_o a_o_refusals a_o_s a_o_image v_o_isImage a_o_tape a_o_read v_o_taped y14 y15 v_o_readHigh a_o_innerOf a_o_whoseOf a_o_nearOf a_o_fromOf v_o_thirds a_o_pieceOf a_o_kept a_o_claimOf a_o_row v_o_rowed, aI cI a_o_tape 129 f_o_tape, aI cI a_o_read 120 q16] H → va_D A [oX6 a_o a_o_refusals a_o_s a_o_image v_o_isImage a_o_tape a_o_read v_o_taped y14 y15 v_o_readHigh a_o_innerOf a_o_whoseOf a_o_nearOf a_o_fromOf v_o_thirds a_o_pieceOf a_o_kept a_o_claimOf a_o_row v_o_rowed, aI cI a_o_tape 129 f_o_tape, aI cI a_o_read 120 q16] → va_S A s.heap H locs → lv_has ls 4 [(0, .ref a_o), (1, .int y12), (2, .int y13)] → W p l e (cz_rm 1 20) s m ag below meth c H locs 0 0 Q (F0 m 146 ls []) := by
    intro y12 y13 y14 y15 q16 H locs ls h hP hD hS hl
    replace h := hz8 _ _ _ _ _ h
    refine lv_iload_n hx hb dX6_reads_146 rfl (lv_at hl 1 rfl) ?_
    refine lv_if_eq (tgt := 162) hx hb dX6_reads_147 (by decide) (fun c17 => ?_) (fun c17 => ?_)
    · replace h := cz_t c17 h
      refine lv_iconst (v := (0 : Int32)) hx hb dX6_reads_162 (by decide) ?_
      obtain ⟨rfl, rfl, rfl, rfl, rfl⟩ := cz_j5 (cz_i h)
      exact hQ _ _ _ _ (by decide) hP hS dX6_reads_163
    · replace h := cz_f c17 h
      refine lv_iload_n hx hb dX6_reads_150 rfl (lv_at hl 2 rfl) ?_
      refine lv_if_le (tgt := 164) hx hb dX6_reads_151 (by decide) (fun c18 => ?_) (fun c18 => ?_)
      · replace h := cz_t c18 h
        refine lv_aload_n hx hb dX6_reads_164 rfl (lv_at hl 0 rfl) ?_
        refine lv_iload_n hx hb dX6_reads_165 rfl (lv_at hl 1 rfl) ?_
        refine va_put (D := D) (ci := 6) (v := .int y12) (ty := .int) (C := RX6) (T := TX6) (N := 20) hx hb hts in_X6 tyX6 tyX6_ok nmX6 hown hK hP hD hS 0 rfl rfl 8 (by decide) (hts _ mw_3_194) (fun _ h9 => h9) rfl (by decide +kernel) rfl rfl (Nat.le_of_ble_eq_true rfl) dX6_reads_166 (fun H locs hP hD hS => ?_)
        replace hP : va_P D vwCl [oX6 a_o a_o_refusals a_o_s a_o_image v_o_isImage a_o_tape a_o_read v_o_taped y14 y12 v_o_readHigh a_o_innerOf a_o_whoseOf a_o_nearOf a_o_fromOf v_o_thirds a_o_pieceOf a_o_kept a_o_claimOf a_o_row v_o_rowed, aI cI a_o_tape 129 f_o_tape, aI cI a_o_read 120 q16] H := hP
        replace hD : va_D A [oX6 a_o a_o_refusals a_o_s a_o_image v_o_isImage a_o_tape a_o_read v_o_taped y14 y12 v_o_readHigh a_o_innerOf a_o_whoseOf a_o_nearOf a_o_fromOf v_o_thirds a_o_pieceOf a_o_kept a_o_claimOf a_o_row v_o_rowed, aI cI a_o_tape 129 f_o_tape, aI cI a_o_read 120 q16] := hD
        refine lv_aload_n hx hb dX6_reads_169 rfl (lv_at hl 0 rfl) ?_
        refine lv_iload_n hx hb dX6_reads_170 rfl (lv_at hl 2 rfl) ?_
        refine lv_iconst (v := (1 : Int32)) hx hb dX6_reads_171 (by decide) ?_
        refine lv_iadd hx hb dX6_reads_172 ?_
        refine lv_topi (fun x19 ex19 => ?_)
        replace h := cz_ltE ex19 h
        refine va_put (D := D) (ci := 6) (v := .int x19) (ty := .int) (C := RX6) (T := TX6) (N := 20) hx hb hts in_X6 tyX6 tyX6_ok nmX6 hown hK hP hD hS 0 rfl rfl 9 (by decide) (hts _ mw_3_195) (fun _ h9 => h9) rfl (by decide +kernel) rfl rfl (Nat.le_of_ble_eq_true rfl) dX6_reads_173 (fun H locs hP hD hS => ?_)
        replace hP : va_P D vwCl [oX6 a_o a_o_refusals a_o_s a_o_image v_o_isImage a_o_tape a_o_read v_o_taped y14 y12 x19 a_o_innerOf a_o_whoseOf a_o_nearOf a_o_fromOf v_o_thirds a_o_pieceOf a_o_kept a_o_claimOf a_o_row v_o_rowed, aI cI a_o_tape 129 f_o_tape, aI cI a_o_read 120 q16] H := hP
        replace hD : va_D A [oX6 a_o a_o_refusals a_o_s a_o_image v_o_isImage a_o_tape a_o_read v_o_taped y14 y12 x19 a_o_innerOf a_o_whoseOf a_o_nearOf a_o_fromOf v_o_thirds a_o_pieceOf a_o_kept a_o_claimOf a_o_row v_o_rowed, aI cI a_o_tape 129 f_o_tape, aI cI a_o_read 120 q16] := hD
        refine lv_iconst (v := (1 : Int32)) hx hb dX6_reads_176 (by decide) ?_
        obtain ⟨rfl, rfl, rfl, rfl, rfl⟩ := cz_j5 (cz_i h)
        exact hQ _ _ _ _ (by decide) hP hS dX6_reads_177
      · replace h := cz_f c18 h
        refine lv_iload_n hx hb dX6_reads_154 rfl (lv_at hl 1 rfl) ?_
        refine lv_aload_n hx hb dX6_reads_155 rfl (lv_at hl 0 rfl) ?_
        refine va_get (D := D) (ci := 6) (v := .int y15) (C := RX6) (T := TX6) (N := 20) hx hb hts in_X6 hown hK hP 0 rfl rfl 8 (by decide) (hts _ mw_3_194) (fun _ h9 => h9) rfl dX6_reads_156 ?_
        refine lv_icmp_ge (tgt := 164) hx hb dX6_reads_159 (by decide) (fun c20 => ?_) (fun c20 => ?_)
        · replace h := cz_t c20 h
          refine lv_aload_n hx hb dX6_reads_164 rfl (lv_at hl 0 rfl) ?_
          refine lv_iload_n hx hb dX6_reads_165 rfl (lv_at hl 1 rfl) ?_
          refine va_put (D := D) (ci := 6) (v := .int y12) (ty := .int) (C := RX6) (T := TX6) (N := 20) hx hb hts in_X6 tyX6 tyX6_ok nmX6 hown hK hP hD hS 0 rfl rfl 8 (by decide) (hts _ mw_3_194) (fun _ h9 => h9) rfl (by decide +kernel) rfl rfl (Nat.le_of_ble_eq_true rfl) dX6_reads_166 (fun H locs hP hD hS => ?_)
          replace hP : va_P D vwCl [oX6 a_o a_o_refusals a_o_s a_o_image v_o_isImage a_o_tape a_o_read v_o_taped y14 y12 v_o_readHigh a_o_innerOf a_o_whoseOf a_o_nearOf a_o_fromOf v_o_thirds a_o_pieceOf a_o_kept a_o_claimOf a_o_row v_o_rowed, aI cI a_o_tape 129 f_o_tape, aI cI a_o_read 120 q16] H := hP
          replace hD : va_D A [oX6 a_o a_o_refusals a_o_s a_o_image v_o_isImage a_o_tape a_o_read v_o_taped y14 y12 v_o_readHigh a_o_innerOf a_o_whoseOf a_o_nearOf a_o_fromOf v_o_thirds a_o_pieceOf a_o_kept a_o_claimOf a_o_row v_o_rowed, aI cI a_o_tape 129 f_o_tape, aI cI a_o_read 120 q16] := hD
          refine lv_aload_n hx hb dX6_reads_169 rfl (lv_at hl 0 rfl) ?_
          refine lv_iload_n hx hb dX6_reads_170 rfl (lv_at hl 2 rfl) ?_
          refine lv_iconst (v := (1 : Int32)) hx hb dX6_reads_171 (by decide) ?_
          refine lv_iadd hx hb dX6_reads_172 ?_
          refine lv_topi (fun x21 ex21 => ?_)
          replace h := cz_ltE ex21 h
          refine va_put (D := D) (ci := 6) (v := .int x21) (ty := .int) (C := RX6) (T := TX6) (N := 20) hx hb hts in_X6 tyX6 tyX6_ok nmX6 hown hK hP hD hS 0 rfl rfl 9 (by decide) (hts _ mw_3_195) (fun _ h9 => h9) rfl (by decide +kernel) rfl rfl (Nat.le_of_ble_eq_true rfl) dX6_reads_173 (fun H locs hP hD hS => ?_)
          replace hP : va_P D vwCl [oX6 a_o a_o_refusals a_o_s a_o_image v_o_isImage a_o_tape a_o_read v_o_taped y14 y12 x21 a_o_innerOf a_o_whoseOf a_o_nearOf a_o_fromOf v_o_thirds a_o_pieceOf a_o_kept a_o_claimOf a_o_row v_o_rowed, aI cI a_o_tape 129 f_o_tape, aI cI a_o_read 120 q16] H := hP
          replace hD : va_D A [oX6 a_o a_o_refusals a_o_s a_o_image v_o_isImage a_o_tape a_o_read v_o_taped y14 y12 x21 a_o_innerOf a_o_whoseOf a_o_nearOf a_o_fromOf v_o_thirds a_o_pieceOf a_o_kept a_o_claimOf a_o_row v_o_rowed, aI cI a_o_tape 129 f_o_tape, aI cI a_o_read 120 q16] := hD
          refine lv_iconst (v := (1 : Int32)) hx hb dX6_reads_176 (by decide) ?_
          obtain ⟨rfl, rfl, rfl, rfl, rfl⟩ := cz_j5 (cz_i h)
          exact hQ _ _ _ _ (by decide) hP hS dX6_reads_177
        · replace h := cz_f c20 h
          refine lv_iconst (v := (0 : Int32)) hx hb dX6_reads_162 (by decide) ?_
          obtain ⟨rfl, rfl, rfl, rfl, rfl⟩ := cz_j5 (cz_i h)
          exact hQ _ _ _ _ (by decide) hP hS dX6_reads_163
  clear h
  have hL10 : ∀ (k : Nat) (x1 : Int32) (x2 : Int32) (x3 : Int32) (x4 : Int32) (g5 : (Nat → Int32)) (H : Heap) (locs : List Loc) (ls : Array Slot), f_X6_reads_L14 n v_o_taped v_o_readHigh f_o_tape k x1 x2 x3 x4 g5 = some z6 → va_P D vwCl [oX6 a_o a_o_refusals a_o_s a_o_image v_o_isImage a_o_tape a_o_read v_o_taped x3 x4 v_o_readHigh a_o_innerOf a_o_whoseOf a_o_nearOf a_o_fromOf v_o_thirds a_o_pieceOf a_o_kept a_o_claimOf a_o_row v_o_rowed, aI cI a_o_tape 129 f_o_tape, aI cI a_o_read 120 g5] H → va_D A [oX6 a_o a_o_refusals a_o_s a_o_image v_o_isImage a_o_tape a_o_read v_o_taped x3 x4 v_o_readHigh a_o_innerOf a_o_whoseOf a_o_nearOf a_o_fromOf v_o_thirds a_o_pieceOf a_o_kept a_o_claimOf a_o_row v_o_rowed, aI cI a_o_tape 129 f_o_tape, aI cI a_o_read 120 g5] → va_S A s.heap H locs → lv_has ls 4 [(0, .ref a_o), (1, .int x1), (2, .int x2)] → W p l e (cz_rm 1 20) s m ag below meth c H locs 0 0 Q (F0 m 14 ls []) := by
    intro k
    induction k with
    | zero =>
      intro x1 x2 x3 x4 g5 H locs ls h
      rw [f_X6_reads_L14] at h
      cases h
    | succ k ih22 =>
      intro x1 x2 x3 x4 g5 H locs ls h hP hD hS hl
      rw [f_X6_reads_L14] at h
      refine lv_aload_n hx hb dX6_reads_14 rfl (lv_at hl 0 rfl) ?_
      refine va_get (D := D) (ci := 6) (v := .int x3) (C := RX6) (T := TX6) (N := 20) hx hb hts in_X6 hown hK hP 0 rfl rfl 7 (by decide) (hts _ mw_3_193) (fun _ h9 => h9) rfl dX6_reads_15 ?_
      refine lv_aload_n hx hb dX6_reads_18 rfl (lv_at hl 0 rfl) ?_
      refine va_get (D := D) (ci := 6) (v := .int v_o_taped) (C := RX6) (T := TX6) (N := 20) hx hb hts in_X6 hown hK hP 0 rfl rfl 6 (by decide) (hts _ mw_3_192) (fun _ h9 => h9) rfl dX6_reads_19 ?_
      refine lv_icmp_ge (tgt := 146) hx hb dX6_reads_22 (by decide) (fun c23 => ?_) (fun c23 => ?_)
      · replace h := cz_t c23 h
        exact hX9 _ _ _ _ _ _ _ _ (cz_i h).symm hP hD hS (lv_sub hl [0, 1, 2] rfl)
      · replace h := cz_f c23 h
        refine lv_aload_n hx hb dX6_reads_25 rfl (lv_at hl 0 rfl) ?_
        refine va_get (D := D) (ci := 6) (v := .ref a_o_tape) (C := RX6) (T := TX6) (N := 20) hx hb hts in_X6 hown hK hP 0 rfl rfl 4 (by decide) (hts _ mw_3_190) (fun _ h9 => h9) rfl dX6_reads_26 ?_
        refine lv_aload_n hx hb dX6_reads_29 rfl (lv_at hl 0 rfl) ?_
        refine va_get (D := D) (ci := 6) (v := .int x3) (C := RX6) (T := TX6) (N := 20) hx hb hts in_X6 hown hK hP 0 rfl rfl 7 (by decide) (hts _ mw_3_193) (fun _ h9 => h9) rfl dX6_reads_30 ?_
        refine cz_iald hx hb hK hP 1 0 rfl rfl (cz_rdE h).1 dX6_reads_33 (fun x24 ex24 => ?_)
        replace h := cz_rdK ex24 h
        refine lv_istore_n (lv' := [(3, .int x24), (0, .ref a_o), (1, .int x1), (2, .int x2)]) hx hb dX6_reads_34 rfl hl (by decide) rfl (fun ls hl => ?_)
        refine lv_iload_n hx hb dX6_reads_35 rfl (lv_at hl 0 rfl) ?_
        refine lv_bipush (v := (47 : Int32)) hx hb dX6_reads_36 (by decide) ?_
        refine lv_icmp_ne (tgt := 78) hx hb dX6_reads_38 (by decide) (fun c25 => ?_) (fun c25 => ?_)
        · replace h := cz_f c25 h
          refine lv_iload_n hx hb dX6_reads_78 rfl (lv_at hl 2 rfl) ?_
          refine lv_bipush (v := (12 : Int32)) hx hb dX6_reads_79 (by decide) ?_
          refine lv_icmp_eq (tgt := 103) hx hb dX6_reads_81 (by decide) (fun c26 => ?_) (fun c26 => ?_)
          · replace h := cz_t c26 h
            refine lv_iconst (v := (0 : Int32)) hx hb dX6_reads_103 (by decide) ?_
            replace h := hR11 _ (cz_i h).symm
            obtain ⟨rfl, rfl, rfl, rfl, rfl⟩ := cz_j5 (cz_i h)
            exact hQ _ _ _ _ (by decide) hP hS dX6_reads_104
          · replace h := cz_f c26 h
            refine lv_iload_n hx hb dX6_reads_84 rfl (lv_at hl 3 rfl) ?_
            refine lv_if_le (tgt := 96) hx hb dX6_reads_85 (by decide) (fun c27 => ?_) (fun c27 => ?_)
            · replace h := cz_t c27 h
              refine lv_iload_n hx hb dX6_reads_96 rfl (lv_at hl 0 rfl) ?_
              obtain ⟨x28, hc29, h⟩ := cz_e1 h
              refine cz_callS (As := [.int x24]) (rest := []) (is := []) (isR := [0, 1, 2]) (rs := [oX6 a_o a_o_refusals a_o_s a_o_image v_o_isImage a_o_tape a_o_read v_o_taped x3 x4 v_o_readHigh a_o_innerOf a_o_whoseOf a_o_nearOf a_o_fromOf v_o_thirds a_o_pieceOf a_o_kept a_o_claimOf a_o_row v_o_rowed, aI cI a_o_tape 129 f_o_tape, aI cI a_o_read 120 g5]) (as := [a_o, a_o_tape, a_o_read]) (ws1 := [oX6 a_o a_o_refusals a_o_s a_o_image v_o_isImage a_o_tape a_o_read v_o_taped x3 x4 v_o_readHigh a_o_innerOf a_o_whoseOf a_o_nearOf a_o_fromOf v_o_thirds a_o_pieceOf a_o_kept a_o_claimOf a_o_row v_o_rowed, aI cI a_o_tape 129 f_o_tape, aI cI a_o_read 120 g5]) ⟨hx, hb, hml, hown, hts⟩ (c_X6_kindOf l D cI   x24 n x28 hc29) mw_4_24 mw_4_25 mw_1_8 mw_4_26 hd_X6_kindOf ⟨Nat.le_of_ble_eq_true rfl, Nat.le_of_ble_eq_true rfl⟩ hK hN hP hD hS rfl rfl rfl rfl rfl rfl rfl rfl rfl hl.1 rfl (Nat.le_of_ble_eq_true rfl) dX6_reads_97 ⟨Nat.le_of_ble_eq_true rfl, Nat.le_of_ble_eq_true rfl⟩ (fun H locs hP hD hS => ?_)
              refine W.eq (g2 := F0 m 100 ls [.int x28]) rfl ?_
              refine lv_if_ge (tgt := 105) hx hb dX6_reads_100 (by decide) (fun c30 => ?_) (fun c30 => ?_)
              · replace h := cz_t c30 h
                refine lv_aload_n hx hb dX6_reads_105 rfl (lv_at hl 1 rfl) ?_
                refine va_get (D := D) (ci := 6) (v := .ref a_o_read) (C := RX6) (T := TX6) (N := 20) hx hb hts in_X6 hown hK hP 0 rfl rfl 5 (by decide) (hts _ mw_3_191) (fun _ h9 => h9) rfl dX6_reads_106 ?_
                refine lv_iload_n hx hb dX6_reads_109 rfl (lv_at hl 3 rfl) ?_
                obtain ⟨z35, hE33, hz32⟩ := cz_ltV h
                have hJ34 : ∀ (x31 : Int32) (H : Heap) (locs : List Loc) (ls : Array Slot), z35 = x31 → va_P D vwCl [oX6 a_o a_o_refusals a_o_s a_o_image v_o_isImage a_o_tape a_o_read v_o_taped x3 x4 v_o_readHigh a_o_innerOf a_o_whoseOf a_o_nearOf a_o_fromOf v_o_thirds a_o_pieceOf a_o_kept a_o_claimOf a_o_row v_o_rowed, aI cI a_o_tape 129 f_o_tape, aI cI a_o_read 120 g5] H → va_D A [oX6 a_o a_o_refusals a_o_s a_o_image v_o_isImage a_o_tape a_o_read v_o_taped x3 x4 v_o_readHigh a_o_innerOf a_o_whoseOf a_o_nearOf a_o_fromOf v_o_thirds a_o_pieceOf a_o_kept a_o_claimOf a_o_row v_o_rowed, aI cI a_o_tape 129 f_o_tape, aI cI a_o_read 120 g5] → va_S A s.heap H locs → lv_has ls 4 [(0, .ref a_o), (1, .int x1), (2, .int x2), (3, .int x24)] → W p l e (cz_rm 1 20) s m ag below meth c H locs 0 0 Q (F0 m 123 ls [.int x31, .ref a_o_read]) := by
                  intro x31 H locs ls h hP hD hS hl
                  replace h := hz32 _ h
                  refine lv_iload_n hx hb dX6_reads_123 rfl (lv_at hl 1 rfl) ?_
                  refine lv_iadd hx hb dX6_reads_124 ?_
                  refine lv_iload_n hx hb dX6_reads_125 rfl (lv_at hl 3 rfl) ?_
                  obtain ⟨x36, hc37, h⟩ := cz_e1 h
                  refine cz_callS (As := [.int x24]) (rest := [.int (x31 + x1), .ref a_o_read]) (is := []) (isR := [0, 1, 2]) (rs := [oX6 a_o a_o_refusals a_o_s a_o_image v_o_isImage a_o_tape a_o_read v_o_taped x3 x4 v_o_readHigh a_o_innerOf a_o_whoseOf a_o_nearOf a_o_fromOf v_o_thirds a_o_pieceOf a_o_kept a_o_claimOf a_o_row v_o_rowed, aI cI a_o_tape 129 f_o_tape, aI cI a_o_read 120 g5]) (as := [a_o, a_o_tape, a_o_read]) (ws1 := [oX6 a_o a_o_refusals a_o_s a_o_image v_o_isImage a_o_tape a_o_read v_o_taped x3 x4 v_o_readHigh a_o_innerOf a_o_whoseOf a_o_nearOf a_o_fromOf v_o_thirds a_o_pieceOf a_o_kept a_o_claimOf a_o_row v_o_rowed, aI cI a_o_tape 129 f_o_tape, aI cI a_o_read 120 g5]) ⟨hx, hb, hml, hown, hts⟩ (c_X6_kindOf l D cI   x24 n x36 hc37) mw_4_24 mw_4_25 mw_1_8 mw_4_26 hd_X6_kindOf ⟨Nat.le_of_ble_eq_true rfl, Nat.le_of_ble_eq_true rfl⟩ hK hN hP hD hS rfl rfl rfl rfl rfl rfl rfl rfl rfl hl.1 rfl (Nat.le_of_ble_eq_true rfl) dX6_reads_126 ⟨Nat.le_of_ble_eq_true rfl, Nat.le_of_ble_eq_true rfl⟩ (fun H locs hP hD hS => ?_)
                  refine W.eq (g2 := F0 m 129 ls [.int x36, .int (x31 + x1), .ref a_o_read]) rfl ?_
                  refine cz_iast hx hb hK hP hD hS 2 0 rfl rfl (cz_wrE h).1 dX6_reads_129 (fun g38 H locs eg38 hP hD hS => ?_)
                  replace h := cz_wrK eg38 h
                  replace hP : va_P D vwCl [oX6 a_o a_o_refusals a_o_s a_o_image v_o_isImage a_o_tape a_o_read v_o_taped x3 x4 v_o_readHigh a_o_innerOf a_o_whoseOf a_o_nearOf a_o_fromOf v_o_thirds a_o_pieceOf a_o_kept a_o_claimOf a_o_row v_o_rowed, aI cI a_o_tape 129 f_o_tape, aI cI a_o_read 120 g38] H := hP
                  replace hD : va_D A [oX6 a_o a_o_refusals a_o_s a_o_image v_o_isImage a_o_tape a_o_read v_o_taped x3 x4 v_o_readHigh a_o_innerOf a_o_whoseOf a_o_nearOf a_o_fromOf v_o_thirds a_o_pieceOf a_o_kept a_o_claimOf a_o_row v_o_rowed, aI cI a_o_tape 129 f_o_tape, aI cI a_o_read 120 g38] := hD
                  obtain ⟨x39, ex39⟩ : ∃ z : Int32, z = x1 + (1 : Int32) := ⟨_, rfl⟩
                  replace h := cz_ltE ex39 h
                  refine lv_iinc (v := x39) (lv' := [(1, .int x39), (0, .ref a_o), (2, .int x2), (3, .int x24)]) hx hb dX6_reads_130 hl (k := 1) rfl (by rw [ex39]; rfl) (by decide) rfl (fun ls hl => ?_)
                  refine lv_aload_n hx hb dX6_reads_133 rfl (lv_at hl 1 rfl) ?_
                  refine lv_dup hx hb dX6_reads_134 rfl ?_
                  refine va_get (D := D) (ci := 6) (v := .int x3) (C := RX6) (T := TX6) (N := 20) hx hb hts in_X6 hown hK hP 0 rfl rfl 7 (by decide) (hts _ mw_3_193) (fun _ h9 => h9) rfl dX6_reads_135 ?_
                  refine lv_iconst (v := (1 : Int32)) hx hb dX6_reads_138 (by decide) ?_
                  refine lv_iadd hx hb dX6_reads_139 ?_
                  refine lv_topi (fun x40 ex40 => ?_)
                  replace h := cz_ltE ex40 h
                  refine va_put (D := D) (ci := 6) (v := .int x40) (ty := .int) (C := RX6) (T := TX6) (N := 20) hx hb hts in_X6 tyX6 tyX6_ok nmX6 hown hK hP hD hS 0 rfl rfl 7 (by decide) (hts _ mw_3_193) (fun _ h9 => h9) rfl (by decide +kernel) rfl rfl (Nat.le_of_ble_eq_true rfl) dX6_reads_140 (fun H locs hP hD hS => ?_)
                  replace hP : va_P D vwCl [oX6 a_o a_o_refusals a_o_s a_o_image v_o_isImage a_o_tape a_o_read v_o_taped x40 x4 v_o_readHigh a_o_innerOf a_o_whoseOf a_o_nearOf a_o_fromOf v_o_thirds a_o_pieceOf a_o_kept a_o_claimOf a_o_row v_o_rowed, aI cI a_o_tape 129 f_o_tape, aI cI a_o_read 120 g38] H := hP
                  replace hD : va_D A [oX6 a_o a_o_refusals a_o_s a_o_image v_o_isImage a_o_tape a_o_read v_o_taped x40 x4 v_o_readHigh a_o_innerOf a_o_whoseOf a_o_nearOf a_o_fromOf v_o_thirds a_o_pieceOf a_o_kept a_o_claimOf a_o_row v_o_rowed, aI cI a_o_tape 129 f_o_tape, aI cI a_o_read 120 g38] := hD
                  refine lv_goto (tgt := 14) hx hb dX6_reads_143 (by decide) ?_
                  exact ih22 _ _ _ _ _ _ _ _ h hP hD hS (lv_sub hl [1, 0, 2] rfl)
                clear h
                have h := hE33
                refine lv_if_ne (tgt := 117) hx hb dX6_reads_110 (by decide) (fun c41 => ?_) (fun c41 => ?_)
                · replace h := cz_f c41 h
                  refine lv_iload_n hx hb dX6_reads_117 rfl (lv_at hl 3 rfl) ?_
                  refine lv_aload_n hx hb dX6_reads_118 rfl (lv_at hl 1 rfl) ?_
                  refine va_get (D := D) (ci := 6) (v := .int x4) (C := RX6) (T := TX6) (N := 20) hx hb hts in_X6 hown hK hP 0 rfl rfl 8 (by decide) (hts _ mw_3_194) (fun _ h9 => h9) rfl dX6_reads_119 ?_
                  refine lv_imul hx hb dX6_reads_122 ?_
                  exact hJ34 _ _ _ _ h.symm hP hD hS (lv_sub hl [1, 2, 3, 0] rfl)
                · replace h := cz_t c41 h
                  refine lv_iconst (v := (0 : Int32)) hx hb dX6_reads_113 (by decide) ?_
                  refine lv_goto (tgt := 123) hx hb dX6_reads_114 (by decide) ?_
                  exact hJ34 _ _ _ _ h.symm hP hD hS (lv_sub hl [1, 2, 3, 0] rfl)
              · replace h := cz_f c30 h
                refine lv_iconst (v := (0 : Int32)) hx hb dX6_reads_103 (by decide) ?_
                replace h := hR11 _ (cz_i h).symm
                obtain ⟨rfl, rfl, rfl, rfl, rfl⟩ := cz_j5 (cz_i h)
                exact hQ _ _ _ _ (by decide) hP hS dX6_reads_104
            · replace h := cz_f c27 h
              refine lv_iload_n hx hb dX6_reads_88 rfl (lv_at hl 2 rfl) ?_
              refine lv_aload_n hx hb dX6_reads_89 rfl (lv_at hl 1 rfl) ?_
              refine va_get (D := D) (ci := 6) (v := .int x4) (C := RX6) (T := TX6) (N := 20) hx hb hts in_X6 hown hK hP 0 rfl rfl 8 (by decide) (hts _ mw_3_194) (fun _ h9 => h9) rfl dX6_reads_90 ?_
              refine lv_icmp_eq (tgt := 103) hx hb dX6_reads_93 (by decide) (fun c42 => ?_) (fun c42 => ?_)
              · replace h := cz_t c42 h
                refine lv_iconst (v := (0 : Int32)) hx hb dX6_reads_103 (by decide) ?_
                replace h := hR11 _ (cz_i h).symm
                obtain ⟨rfl, rfl, rfl, rfl, rfl⟩ := cz_j5 (cz_i h)
                exact hQ _ _ _ _ (by decide) hP hS dX6_reads_104
              · replace h := cz_f c42 h
                refine lv_iload_n hx hb dX6_reads_96 rfl (lv_at hl 0 rfl) ?_
                obtain ⟨x43, hc44, h⟩ := cz_e1 h
                refine cz_callS (As := [.int x24]) (rest := []) (is := []) (isR := [0, 1, 2]) (rs := [oX6 a_o a_o_refusals a_o_s a_o_image v_o_isImage a_o_tape a_o_read v_o_taped x3 x4 v_o_readHigh a_o_innerOf a_o_whoseOf a_o_nearOf a_o_fromOf v_o_thirds a_o_pieceOf a_o_kept a_o_claimOf a_o_row v_o_rowed, aI cI a_o_tape 129 f_o_tape, aI cI a_o_read 120 g5]) (as := [a_o, a_o_tape, a_o_read]) (ws1 := [oX6 a_o a_o_refusals a_o_s a_o_image v_o_isImage a_o_tape a_o_read v_o_taped x3 x4 v_o_readHigh a_o_innerOf a_o_whoseOf a_o_nearOf a_o_fromOf v_o_thirds a_o_pieceOf a_o_kept a_o_claimOf a_o_row v_o_rowed, aI cI a_o_tape 129 f_o_tape, aI cI a_o_read 120 g5]) ⟨hx, hb, hml, hown, hts⟩ (c_X6_kindOf l D cI   x24 n x43 hc44) mw_4_24 mw_4_25 mw_1_8 mw_4_26 hd_X6_kindOf ⟨Nat.le_of_ble_eq_true rfl, Nat.le_of_ble_eq_true rfl⟩ hK hN hP hD hS rfl rfl rfl rfl rfl rfl rfl rfl rfl hl.1 rfl (Nat.le_of_ble_eq_true rfl) dX6_reads_97 ⟨Nat.le_of_ble_eq_true rfl, Nat.le_of_ble_eq_true rfl⟩ (fun H locs hP hD hS => ?_)
                refine W.eq (g2 := F0 m 100 ls [.int x43]) rfl ?_
                refine lv_if_ge (tgt := 105) hx hb dX6_reads_100 (by decide) (fun c45 => ?_) (fun c45 => ?_)
                · replace h := cz_t c45 h
                  refine lv_aload_n hx hb dX6_reads_105 rfl (lv_at hl 1 rfl) ?_
                  refine va_get (D := D) (ci := 6) (v := .ref a_o_read) (C := RX6) (T := TX6) (N := 20) hx hb hts in_X6 hown hK hP 0 rfl rfl 5 (by decide) (hts _ mw_3_191) (fun _ h9 => h9) rfl dX6_reads_106 ?_
                  refine lv_iload_n hx hb dX6_reads_109 rfl (lv_at hl 3 rfl) ?_
                  obtain ⟨z50, hE48, hz47⟩ := cz_ltV h
                  have hJ49 : ∀ (x46 : Int32) (H : Heap) (locs : List Loc) (ls : Array Slot), z50 = x46 → va_P D vwCl [oX6 a_o a_o_refusals a_o_s a_o_image v_o_isImage a_o_tape a_o_read v_o_taped x3 x4 v_o_readHigh a_o_innerOf a_o_whoseOf a_o_nearOf a_o_fromOf v_o_thirds a_o_pieceOf a_o_kept a_o_claimOf a_o_row v_o_rowed, aI cI a_o_tape 129 f_o_tape, aI cI a_o_read 120 g5] H → va_D A [oX6 a_o a_o_refusals a_o_s a_o_image v_o_isImage a_o_tape a_o_read v_o_taped x3 x4 v_o_readHigh a_o_innerOf a_o_whoseOf a_o_nearOf a_o_fromOf v_o_thirds a_o_pieceOf a_o_kept a_o_claimOf a_o_row v_o_rowed, aI cI a_o_tape 129 f_o_tape, aI cI a_o_read 120 g5] → va_S A s.heap H locs → lv_has ls 4 [(0, .ref a_o), (1, .int x1), (2, .int x2), (3, .int x24)] → W p l e (cz_rm 1 20) s m ag below meth c H locs 0 0 Q (F0 m 123 ls [.int x46, .ref a_o_read]) := by
                    intro x46 H locs ls h hP hD hS hl
                    replace h := hz47 _ h
                    refine lv_iload_n hx hb dX6_reads_123 rfl (lv_at hl 1 rfl) ?_
                    refine lv_iadd hx hb dX6_reads_124 ?_
                    refine lv_iload_n hx hb dX6_reads_125 rfl (lv_at hl 3 rfl) ?_
                    obtain ⟨x51, hc52, h⟩ := cz_e1 h
                    refine cz_callS (As := [.int x24]) (rest := [.int (x46 + x1), .ref a_o_read]) (is := []) (isR := [0, 1, 2]) (rs := [oX6 a_o a_o_refusals a_o_s a_o_image v_o_isImage a_o_tape a_o_read v_o_taped x3 x4 v_o_readHigh a_o_innerOf a_o_whoseOf a_o_nearOf a_o_fromOf v_o_thirds a_o_pieceOf a_o_kept a_o_claimOf a_o_row v_o_rowed, aI cI a_o_tape 129 f_o_tape, aI cI a_o_read 120 g5]) (as := [a_o, a_o_tape, a_o_read]) (ws1 := [oX6 a_o a_o_refusals a_o_s a_o_image v_o_isImage a_o_tape a_o_read v_o_taped x3 x4 v_o_readHigh a_o_innerOf a_o_whoseOf a_o_nearOf a_o_fromOf v_o_thirds a_o_pieceOf a_o_kept a_o_claimOf a_o_row v_o_rowed, aI cI a_o_tape 129 f_o_tape, aI cI a_o_read 120 g5]) ⟨hx, hb, hml, hown, hts⟩ (c_X6_kindOf l D cI   x24 n x51 hc52) mw_4_24 mw_4_25 mw_1_8 mw_4_26 hd_X6_kindOf ⟨Nat.le_of_ble_eq_true rfl, Nat.le_of_ble_eq_true rfl⟩ hK hN hP hD hS rfl rfl rfl rfl rfl rfl rfl rfl rfl hl.1 rfl (Nat.le_of_ble_eq_true rfl) dX6_reads_126 ⟨Nat.le_of_ble_eq_true rfl, Nat.le_of_ble_eq_true rfl⟩ (fun H locs hP hD hS => ?_)
                    refine W.eq (g2 := F0 m 129 ls [.int x51, .int (x46 + x1), .ref a_o_read]) rfl ?_
                    refine cz_iast hx hb hK hP hD hS 2 0 rfl rfl (cz_wrE h).1 dX6_reads_129 (fun g53 H locs eg53 hP hD hS => ?_)
                    replace h := cz_wrK eg53 h
                    replace hP : va_P D vwCl [oX6 a_o a_o_refusals a_o_s a_o_image v_o_isImage a_o_tape a_o_read v_o_taped x3 x4 v_o_readHigh a_o_innerOf a_o_whoseOf a_o_nearOf a_o_fromOf v_o_thirds a_o_pieceOf a_o_kept a_o_claimOf a_o_row v_o_rowed, aI cI a_o_tape 129 f_o_tape, aI cI a_o_read 120 g53] H := hP
                    replace hD : va_D A [oX6 a_o a_o_refusals a_o_s a_o_image v_o_isImage a_o_tape a_o_read v_o_taped x3 x4 v_o_readHigh a_o_innerOf a_o_whoseOf a_o_nearOf a_o_fromOf v_o_thirds a_o_pieceOf a_o_kept a_o_claimOf a_o_row v_o_rowed, aI cI a_o_tape 129 f_o_tape, aI cI a_o_read 120 g53] := hD
                    obtain ⟨x54, ex54⟩ : ∃ z : Int32, z = x1 + (1 : Int32) := ⟨_, rfl⟩
                    replace h := cz_ltE ex54 h
                    refine lv_iinc (v := x54) (lv' := [(1, .int x54), (0, .ref a_o), (2, .int x2), (3, .int x24)]) hx hb dX6_reads_130 hl (k := 1) rfl (by rw [ex54]; rfl) (by decide) rfl (fun ls hl => ?_)
                    refine lv_aload_n hx hb dX6_reads_133 rfl (lv_at hl 1 rfl) ?_
                    refine lv_dup hx hb dX6_reads_134 rfl ?_
                    refine va_get (D := D) (ci := 6) (v := .int x3) (C := RX6) (T := TX6) (N := 20) hx hb hts in_X6 hown hK hP 0 rfl rfl 7 (by decide) (hts _ mw_3_193) (fun _ h9 => h9) rfl dX6_reads_135 ?_
                    refine lv_iconst (v := (1 : Int32)) hx hb dX6_reads_138 (by decide) ?_
                    refine lv_iadd hx hb dX6_reads_139 ?_
                    refine lv_topi (fun x55 ex55 => ?_)
                    replace h := cz_ltE ex55 h
                    refine va_put (D := D) (ci := 6) (v := .int x55) (ty := .int) (C := RX6) (T := TX6) (N := 20) hx hb hts in_X6 tyX6 tyX6_ok nmX6 hown hK hP hD hS 0 rfl rfl 7 (by decide) (hts _ mw_3_193) (fun _ h9 => h9) rfl (by decide +kernel) rfl rfl (Nat.le_of_ble_eq_true rfl) dX6_reads_140 (fun H locs hP hD hS => ?_)
                    replace hP : va_P D vwCl [oX6 a_o a_o_refusals a_o_s a_o_image v_o_isImage a_o_tape a_o_read v_o_taped x55 x4 v_o_readHigh a_o_innerOf a_o_whoseOf a_o_nearOf a_o_fromOf v_o_thirds a_o_pieceOf a_o_kept a_o_claimOf a_o_row v_o_rowed, aI cI a_o_tape 129 f_o_tape, aI cI a_o_read 120 g53] H := hP
                    replace hD : va_D A [oX6 a_o a_o_refusals a_o_s a_o_image v_o_isImage a_o_tape a_o_read v_o_taped x55 x4 v_o_readHigh a_o_innerOf a_o_whoseOf a_o_nearOf a_o_fromOf v_o_thirds a_o_pieceOf a_o_kept a_o_claimOf a_o_row v_o_rowed, aI cI a_o_tape 129 f_o_tape, aI cI a_o_read 120 g53] := hD
                    refine lv_goto (tgt := 14) hx hb dX6_reads_143 (by decide) ?_
                    exact ih22 _ _ _ _ _ _ _ _ h hP hD hS (lv_sub hl [1, 0, 2] rfl)
                  clear h
                  have h := hE48
                  refine lv_if_ne (tgt := 117) hx hb dX6_reads_110 (by decide) (fun c56 => ?_) (fun c56 => ?_)
                  · replace h := cz_f c56 h
                    refine lv_iload_n hx hb dX6_reads_117 rfl (lv_at hl 3 rfl) ?_
                    refine lv_aload_n hx hb dX6_reads_118 rfl (lv_at hl 1 rfl) ?_
                    refine va_get (D := D) (ci := 6) (v := .int x4) (C := RX6) (T := TX6) (N := 20) hx hb hts in_X6 hown hK hP 0 rfl rfl 8 (by decide) (hts _ mw_3_194) (fun _ h9 => h9) rfl dX6_reads_119 ?_
                    refine lv_imul hx hb dX6_reads_122 ?_
                    exact hJ49 _ _ _ _ h.symm hP hD hS (lv_sub hl [1, 2, 3, 0] rfl)
                  · replace h := cz_t c56 h
                    refine lv_iconst (v := (0 : Int32)) hx hb dX6_reads_113 (by decide) ?_
                    refine lv_goto (tgt := 123) hx hb dX6_reads_114 (by decide) ?_
                    exact hJ49 _ _ _ _ h.symm hP hD hS (lv_sub hl [1, 2, 3, 0] rfl)
                · replace h := cz_f c45 h
                  refine lv_iconst (v := (0 : Int32)) hx hb dX6_reads_103 (by decide) ?_
                  replace h := hR11 _ (cz_i h).symm
                  obtain ⟨rfl, rfl, rfl, rfl, rfl⟩ := cz_j5 (cz_i h)
                  exact hQ _ _ _ _ (by decide) hP hS dX6_reads_104
        · replace h := cz_t c25 h
          refine lv_iload_n hx hb dX6_reads_41 rfl (lv_at hl 2 rfl) ?_
          refine lv_if_eq (tgt := 63) hx hb dX6_reads_42 (by decide) (fun c57 => ?_) (fun c57 => ?_)
          · replace h := cz_t c57 h
            refine lv_iconst (v := (0 : Int32)) hx hb dX6_reads_63 (by decide) ?_
            replace h := hR11 _ (cz_i h).symm
            obtain ⟨rfl, rfl, rfl, rfl, rfl⟩ := cz_j5 (cz_i h)
            exact hQ _ _ _ _ (by decide) hP hS dX6_reads_64
          · replace h := cz_f c57 h
            refine lv_iload_n hx hb dX6_reads_45 rfl (lv_at hl 3 rfl) ?_
            refine lv_if_le (tgt := 57) hx hb dX6_reads_46 (by decide) (fun c58 => ?_) (fun c58 => ?_)
            · replace h := cz_t c58 h
              refine lv_iload_n hx hb dX6_reads_57 rfl (lv_at hl 3 rfl) ?_
              refine lv_bipush (v := (9 : Int32)) hx hb dX6_reads_58 (by decide) ?_
              refine lv_icmp_ne (tgt := 65) hx hb dX6_reads_60 (by decide) (fun c59 => ?_) (fun c59 => ?_)
              · replace h := cz_f c59 h
                refine lv_aload_n hx hb dX6_reads_65 rfl (lv_at hl 1 rfl) ?_
                refine lv_iload_n hx hb dX6_reads_66 rfl (lv_at hl 2 rfl) ?_
                refine va_put (D := D) (ci := 6) (v := .int x1) (ty := .int) (C := RX6) (T := TX6) (N := 20) hx hb hts in_X6 tyX6 tyX6_ok nmX6 hown hK hP hD hS 0 rfl rfl 8 (by decide) (hts _ mw_3_194) (fun _ h9 => h9) rfl (by decide +kernel) rfl rfl (Nat.le_of_ble_eq_true rfl) dX6_reads_67 (fun H locs hP hD hS => ?_)
                replace hP : va_P D vwCl [oX6 a_o a_o_refusals a_o_s a_o_image v_o_isImage a_o_tape a_o_read v_o_taped x3 x1 v_o_readHigh a_o_innerOf a_o_whoseOf a_o_nearOf a_o_fromOf v_o_thirds a_o_pieceOf a_o_kept a_o_claimOf a_o_row v_o_rowed, aI cI a_o_tape 129 f_o_tape, aI cI a_o_read 120 g5] H := hP
                replace hD : va_D A [oX6 a_o a_o_refusals a_o_s a_o_image v_o_isImage a_o_tape a_o_read v_o_taped x3 x1 v_o_readHigh a_o_innerOf a_o_whoseOf a_o_nearOf a_o_fromOf v_o_thirds a_o_pieceOf a_o_kept a_o_claimOf a_o_row v_o_rowed, aI cI a_o_tape 129 f_o_tape, aI cI a_o_read 120 g5] := hD
                refine lv_iconst (v := (0 : Int32)) hx hb dX6_reads_70 (by decide) ?_
                refine lv_istore_n (lv' := [(1, .int (0 : Int32)), (3, .int x24), (0, .ref a_o), (2, .int x2)]) hx hb dX6_reads_71 rfl hl (by decide) rfl (fun ls hl => ?_)
                obtain ⟨x60, ex60⟩ : ∃ z : Int32, z = x2 + (1 : Int32) := ⟨_, rfl⟩
                replace h := cz_ltE ex60 h
                refine lv_iinc (v := x60) (lv' := [(2, .int x60), (1, .int (0 : Int32)), (3, .int x24), (0, .ref a_o)]) hx hb dX6_reads_72 hl (k := 3) rfl (by rw [ex60]; rfl) (by decide) rfl (fun ls hl => ?_)
                refine lv_goto (tgt := 133) hx hb dX6_reads_75 (by decide) ?_
                refine lv_aload_n hx hb dX6_reads_133 rfl (lv_at hl 3 rfl) ?_
                refine lv_dup hx hb dX6_reads_134 rfl ?_
                refine va_get (D := D) (ci := 6) (v := .int x3) (C := RX6) (T := TX6) (N := 20) hx hb hts in_X6 hown hK hP 0 rfl rfl 7 (by decide) (hts _ mw_3_193) (fun _ h9 => h9) rfl dX6_reads_135 ?_
                refine lv_iconst (v := (1 : Int32)) hx hb dX6_reads_138 (by decide) ?_
                refine lv_iadd hx hb dX6_reads_139 ?_
                refine lv_topi (fun x61 ex61 => ?_)
                replace h := cz_ltE ex61 h
                refine va_put (D := D) (ci := 6) (v := .int x61) (ty := .int) (C := RX6) (T := TX6) (N := 20) hx hb hts in_X6 tyX6 tyX6_ok nmX6 hown hK hP hD hS 0 rfl rfl 7 (by decide) (hts _ mw_3_193) (fun _ h9 => h9) rfl (by decide +kernel) rfl rfl (Nat.le_of_ble_eq_true rfl) dX6_reads_140 (fun H locs hP hD hS => ?_)
                replace hP : va_P D vwCl [oX6 a_o a_o_refusals a_o_s a_o_image v_o_isImage a_o_tape a_o_read v_o_taped x61 x1 v_o_readHigh a_o_innerOf a_o_whoseOf a_o_nearOf a_o_fromOf v_o_thirds a_o_pieceOf a_o_kept a_o_claimOf a_o_row v_o_rowed, aI cI a_o_tape 129 f_o_tape, aI cI a_o_read 120 g5] H := hP
                replace hD : va_D A [oX6 a_o a_o_refusals a_o_s a_o_image v_o_isImage a_o_tape a_o_read v_o_taped x61 x1 v_o_readHigh a_o_innerOf a_o_whoseOf a_o_nearOf a_o_fromOf v_o_thirds a_o_pieceOf a_o_kept a_o_claimOf a_o_row v_o_rowed, aI cI a_o_tape 129 f_o_tape, aI cI a_o_read 120 g5] := hD
                refine lv_goto (tgt := 14) hx hb dX6_reads_143 (by decide) ?_
                exact ih22 _ _ _ _ _ _ _ _ h hP hD hS (lv_sub hl [3, 1, 0] rfl)
              · replace h := cz_t c59 h
                refine lv_iconst (v := (0 : Int32)) hx hb dX6_reads_63 (by decide) ?_
                replace h := hR11 _ (cz_i h).symm
                obtain ⟨rfl, rfl, rfl, rfl, rfl⟩ := cz_j5 (cz_i h)
                exact hQ _ _ _ _ (by decide) hP hS dX6_reads_64
            · replace h := cz_f c58 h
              refine lv_iload_n hx hb dX6_reads_49 rfl (lv_at hl 2 rfl) ?_
              refine lv_aload_n hx hb dX6_reads_50 rfl (lv_at hl 1 rfl) ?_
              refine va_get (D := D) (ci := 6) (v := .int x4) (C := RX6) (T := TX6) (N := 20) hx hb hts in_X6 hown hK hP 0 rfl rfl 8 (by decide) (hts _ mw_3_194) (fun _ h9 => h9) rfl dX6_reads_51 ?_
              refine lv_icmp_lt (tgt := 63) hx hb dX6_reads_54 (by decide) (fun c62 => ?_) (fun c62 => ?_)
              · replace h := cz_t c62 h
                refine lv_iconst (v := (0 : Int32)) hx hb dX6_reads_63 (by decide) ?_
                replace h := hR11 _ (cz_i h).symm
                obtain ⟨rfl, rfl, rfl, rfl, rfl⟩ := cz_j5 (cz_i h)
                exact hQ _ _ _ _ (by decide) hP hS dX6_reads_64
              · replace h := cz_f c62 h
                refine lv_iload_n hx hb dX6_reads_57 rfl (lv_at hl 3 rfl) ?_
                refine lv_bipush (v := (9 : Int32)) hx hb dX6_reads_58 (by decide) ?_
                refine lv_icmp_ne (tgt := 65) hx hb dX6_reads_60 (by decide) (fun c63 => ?_) (fun c63 => ?_)
                · replace h := cz_f c63 h
                  refine lv_aload_n hx hb dX6_reads_65 rfl (lv_at hl 1 rfl) ?_
                  refine lv_iload_n hx hb dX6_reads_66 rfl (lv_at hl 2 rfl) ?_
                  refine va_put (D := D) (ci := 6) (v := .int x1) (ty := .int) (C := RX6) (T := TX6) (N := 20) hx hb hts in_X6 tyX6 tyX6_ok nmX6 hown hK hP hD hS 0 rfl rfl 8 (by decide) (hts _ mw_3_194) (fun _ h9 => h9) rfl (by decide +kernel) rfl rfl (Nat.le_of_ble_eq_true rfl) dX6_reads_67 (fun H locs hP hD hS => ?_)
                  replace hP : va_P D vwCl [oX6 a_o a_o_refusals a_o_s a_o_image v_o_isImage a_o_tape a_o_read v_o_taped x3 x1 v_o_readHigh a_o_innerOf a_o_whoseOf a_o_nearOf a_o_fromOf v_o_thirds a_o_pieceOf a_o_kept a_o_claimOf a_o_row v_o_rowed, aI cI a_o_tape 129 f_o_tape, aI cI a_o_read 120 g5] H := hP
                  replace hD : va_D A [oX6 a_o a_o_refusals a_o_s a_o_image v_o_isImage a_o_tape a_o_read v_o_taped x3 x1 v_o_readHigh a_o_innerOf a_o_whoseOf a_o_nearOf a_o_fromOf v_o_thirds a_o_pieceOf a_o_kept a_o_claimOf a_o_row v_o_rowed, aI cI a_o_tape 129 f_o_tape, aI cI a_o_read 120 g5] := hD
                  refine lv_iconst (v := (0 : Int32)) hx hb dX6_reads_70 (by decide) ?_
                  refine lv_istore_n (lv' := [(1, .int (0 : Int32)), (3, .int x24), (0, .ref a_o), (2, .int x2)]) hx hb dX6_reads_71 rfl hl (by decide) rfl (fun ls hl => ?_)
                  obtain ⟨x64, ex64⟩ : ∃ z : Int32, z = x2 + (1 : Int32) := ⟨_, rfl⟩
                  replace h := cz_ltE ex64 h
                  refine lv_iinc (v := x64) (lv' := [(2, .int x64), (1, .int (0 : Int32)), (3, .int x24), (0, .ref a_o)]) hx hb dX6_reads_72 hl (k := 3) rfl (by rw [ex64]; rfl) (by decide) rfl (fun ls hl => ?_)
                  refine lv_goto (tgt := 133) hx hb dX6_reads_75 (by decide) ?_
                  refine lv_aload_n hx hb dX6_reads_133 rfl (lv_at hl 3 rfl) ?_
                  refine lv_dup hx hb dX6_reads_134 rfl ?_
                  refine va_get (D := D) (ci := 6) (v := .int x3) (C := RX6) (T := TX6) (N := 20) hx hb hts in_X6 hown hK hP 0 rfl rfl 7 (by decide) (hts _ mw_3_193) (fun _ h9 => h9) rfl dX6_reads_135 ?_
                  refine lv_iconst (v := (1 : Int32)) hx hb dX6_reads_138 (by decide) ?_
                  refine lv_iadd hx hb dX6_reads_139 ?_
                  refine lv_topi (fun x65 ex65 => ?_)
                  replace h := cz_ltE ex65 h
                  refine va_put (D := D) (ci := 6) (v := .int x65) (ty := .int) (C := RX6) (T := TX6) (N := 20) hx hb hts in_X6 tyX6 tyX6_ok nmX6 hown hK hP hD hS 0 rfl rfl 7 (by decide) (hts _ mw_3_193) (fun _ h9 => h9) rfl (by decide +kernel) rfl rfl (Nat.le_of_ble_eq_true rfl) dX6_reads_140 (fun H locs hP hD hS => ?_)
                  replace hP : va_P D vwCl [oX6 a_o a_o_refusals a_o_s a_o_image v_o_isImage a_o_tape a_o_read v_o_taped x65 x1 v_o_readHigh a_o_innerOf a_o_whoseOf a_o_nearOf a_o_fromOf v_o_thirds a_o_pieceOf a_o_kept a_o_claimOf a_o_row v_o_rowed, aI cI a_o_tape 129 f_o_tape, aI cI a_o_read 120 g5] H := hP
                  replace hD : va_D A [oX6 a_o a_o_refusals a_o_s a_o_image v_o_isImage a_o_tape a_o_read v_o_taped x65 x1 v_o_readHigh a_o_innerOf a_o_whoseOf a_o_nearOf a_o_fromOf v_o_thirds a_o_pieceOf a_o_kept a_o_claimOf a_o_row v_o_rowed, aI cI a_o_tape 129 f_o_tape, aI cI a_o_read 120 g5] := hD
                  refine lv_goto (tgt := 14) hx hb dX6_reads_143 (by decide) ?_
                  exact ih22 _ _ _ _ _ _ _ _ h hP hD hS (lv_sub hl [3, 1, 0] rfl)
                · replace h := cz_t c63 h
                  refine lv_iconst (v := (0 : Int32)) hx hb dX6_reads_63 (by decide) ?_
                  replace h := hR11 _ (cz_i h).symm
                  obtain ⟨rfl, rfl, rfl, rfl, rfl⟩ := cz_j5 (cz_i h)
                  exact hQ _ _ _ _ (by decide) hP hS dX6_reads_64
  exact hL10 n _ _ _ _ _ _ _ _ hE7 hP hD hS (lv_sub hl [2, 1, 0] rfl)
set_option maxHeartbeats 4000000 in
set_option maxRecDepth 100000 in
theorem c_X6_read (l : Launch) (D : va_G) (cI : ClassId) (a_o a_o_s a_o_tape a_o_read a_o_refusals a_o_image a_o_innerOf a_o_whoseOf a_o_nearOf a_o_fromOf a_o_pieceOf a_o_kept a_o_claimOf a_o_row : Nat) (v_o_isImage : Int32) (v_o_taped : Int32) (v_o_pos : Int32) (v_o_readWide : Int32) (v_o_readHigh : Int32) (v_o_thirds : Int32) (v_o_rowed : Int32) (f_o_s : (Nat → Int32)) (f_o_tape : (Nat → Int32)) (f_o_read : (Nat → Int32)) (n : Nat) (r : Int32) (r_v_o_taped : Int32) (r_v_o_pos : Int32) (r_v_o_readWide : Int32) (r_v_o_readHigh : Int32) (r_f_o_s : (Nat → Int32)) (r_f_o_read : (Nat → Int32)) (h : f_X6_read n v_o_taped v_o_pos v_o_readWide v_o_readHigh f_o_s f_o_tape f_o_read = some (r, r_v_o_taped, r_v_o_pos, r_v_o_readWide, r_v_o_readHigh, r_f_o_s, r_f_o_read)) : cz_M l yX6_read cX6_read 3 (some .int) 2 43 D cI [.ref a_o] [oX6 a_o a_o_refusals a_o_s a_o_image v_o_isImage a_o_tape a_o_read v_o_taped v_o_pos v_o_readWide v_o_readHigh a_o_innerOf a_o_whoseOf a_o_nearOf a_o_fromOf v_o_thirds a_o_pieceOf a_o_kept a_o_claimOf a_o_row v_o_rowed, aI cI a_o_s 151 f_o_s, aI cI a_o_tape 129 f_o_tape, aI cI a_o_read 120 f_o_read] (some (.int r)) [oX6 a_o a_o_refusals a_o_s a_o_image v_o_isImage a_o_tape a_o_read r_v_o_taped r_v_o_pos r_v_o_readWide r_v_o_readHigh a_o_innerOf a_o_whoseOf a_o_nearOf a_o_fromOf v_o_thirds a_o_pieceOf a_o_kept a_o_claimOf a_o_row v_o_rowed, aI cI a_o_s 151 r_f_o_s, aI cI a_o_tape 129 f_o_tape, aI cI a_o_read 120 r_f_o_read] := by
  refine cz_startI (by decide) (Nat.le_of_ble_eq_true rfl) ?_
  intro p e s m ag below meth c A Q hx hb hml hown hts hK hN hQ H locs hP hD hS ls hl
  replace hown : s.vm.findClass RX6 = some m.cls := hown
  replace hl : lv_has ls 3 [(0, .ref a_o)] := hl
  unfold f_X6_read at h
  refine lv_aload_n hx hb dX6_read_0 rfl (lv_at hl 0 rfl) ?_
  obtain ⟨x1, x2, x3, x4, g5, hc6, h⟩ := cz_e5 h
  refine cz_callV (As := []) (rest := []) (is := [0, 2, 3]) (isR := [1]) (rs := [aI cI a_o_s 151 f_o_s]) (as := [a_o, a_o_s, a_o_tape, a_o_read]) (ws1 := [oX6 a_o a_o_refusals a_o_s a_o_image v_o_isImage a_o_tape a_o_read v_o_taped x2 x3 x4 a_o_innerOf a_o_whoseOf a_o_nearOf a_o_fromOf v_o_thirds a_o_pieceOf a_o_kept a_o_claimOf a_o_row v_o_rowed, aI cI a_o_s 151 f_o_s, aI cI a_o_tape 129 f_o_tape, aI cI a_o_read 120 g5]) (q0 := 0) (ci := 6) ⟨hx, hb, hml, hown, hts⟩ (c_X6_reads l D cI a_o a_o_tape a_o_read a_o_refusals a_o_s a_o_image a_o_innerOf a_o_whoseOf a_o_nearOf a_o_fromOf a_o_pieceOf a_o_kept a_o_claimOf a_o_row v_o_isImage v_o_taped v_o_pos v_o_readWide v_o_readHigh v_o_thirds v_o_rowed f_o_tape f_o_read  n x1 x2 x3 x4 g5 hc6) mw_4_20 mw_4_22 mw_p_11 mw_1_8 mw_4_23 hd_X6_reads ⟨Nat.le_of_ble_eq_true rfl, Nat.le_of_ble_eq_true rfl⟩ hK hN hP hD hS rfl rfl rfl rfl rfl rfl rfl rfl rfl rfl rfl rfl hl.1 rfl (Nat.le_of_ble_eq_true rfl) dX6_read_1 ⟨Nat.le_of_ble_eq_true rfl, Nat.le_of_ble_eq_true rfl⟩ (fun H locs hP hD hS => ?_)
  refine W.eq (g2 := F0 m 4 ls [.int x1]) rfl ?_
  refine lv_istore_n (lv' := [(1, .int x1), (0, .ref a_o)]) hx hb dX6_read_4 rfl hl (by decide) rfl (fun ls hl => ?_)
  refine lv_aload_n hx hb dX6_read_5 rfl (lv_at hl 1 rfl) ?_
  refine lv_iconst (v := (0 : Int32)) hx hb dX6_read_6 (by decide) ?_
  refine va_put (D := D) (ci := 6) (v := .int (0 : Int32)) (ty := .int) (C := RX6) (T := TX6) (N := 20) hx hb hts in_X6 tyX6 tyX6_ok nmX6 hown hK hP hD hS 0 rfl rfl 6 (by decide) (hts _ mw_3_192) (fun _ h9 => h9) rfl (by decide +kernel) rfl rfl (Nat.le_of_ble_eq_true rfl) dX6_read_7 (fun H locs hP hD hS => ?_)
  replace hP : va_P D vwCl [oX6 a_o a_o_refusals a_o_s a_o_image v_o_isImage a_o_tape a_o_read (0 : Int32) x2 x3 x4 a_o_innerOf a_o_whoseOf a_o_nearOf a_o_fromOf v_o_thirds a_o_pieceOf a_o_kept a_o_claimOf a_o_row v_o_rowed, aI cI a_o_s 151 f_o_s, aI cI a_o_tape 129 f_o_tape, aI cI a_o_read 120 g5] H := hP
  replace hD : va_D A [oX6 a_o a_o_refusals a_o_s a_o_image v_o_isImage a_o_tape a_o_read (0 : Int32) x2 x3 x4 a_o_innerOf a_o_whoseOf a_o_nearOf a_o_fromOf v_o_thirds a_o_pieceOf a_o_kept a_o_claimOf a_o_row v_o_rowed, aI cI a_o_s 151 f_o_s, aI cI a_o_tape 129 f_o_tape, aI cI a_o_read 120 g5] := hD
  refine lv_iload_n hx hb dX6_read_10 rfl (lv_at hl 0 rfl) ?_
  refine lv_if_ne (tgt := 22) hx hb dX6_read_11 (by decide) (fun c7 => ?_) (fun c7 => ?_)
  · replace h := cz_f c7 h
    refine lv_aload_n hx hb dX6_read_22 rfl (lv_at hl 1 rfl) ?_
    refine va_get (D := D) (ci := 6) (v := .ref a_o_s) (C := RX6) (T := TX6) (N := 20) hx hb hts in_X6 hown hK hP 0 rfl rfl 1 (by decide) (hts _ mw_3_187) (fun _ h9 => h9) rfl dX6_read_23 ?_
    refine lv_iconst (v := (0 : Int32)) hx hb dX6_read_26 (by decide) ?_
    refine lv_aload_n hx hb dX6_read_27 rfl (lv_at hl 1 rfl) ?_
    refine va_get (D := D) (ci := 6) (v := .int x3) (C := RX6) (T := TX6) (N := 20) hx hb hts in_X6 hown hK hP 0 rfl rfl 8 (by decide) (hts _ mw_3_194) (fun _ h9 => h9) rfl dX6_read_28 ?_
    refine cz_iast hx hb hK hP hD hS 1 0 rfl rfl (cz_wrE h).1 dX6_read_31 (fun g8 H locs eg8 hP hD hS => ?_)
    replace h := cz_wrK eg8 h
    replace hP : va_P D vwCl [oX6 a_o a_o_refusals a_o_s a_o_image v_o_isImage a_o_tape a_o_read (0 : Int32) x2 x3 x4 a_o_innerOf a_o_whoseOf a_o_nearOf a_o_fromOf v_o_thirds a_o_pieceOf a_o_kept a_o_claimOf a_o_row v_o_rowed, aI cI a_o_s 151 g8, aI cI a_o_tape 129 f_o_tape, aI cI a_o_read 120 g5] H := hP
    replace hD : va_D A [oX6 a_o a_o_refusals a_o_s a_o_image v_o_isImage a_o_tape a_o_read (0 : Int32) x2 x3 x4 a_o_innerOf a_o_whoseOf a_o_nearOf a_o_fromOf v_o_thirds a_o_pieceOf a_o_kept a_o_claimOf a_o_row v_o_rowed, aI cI a_o_s 151 g8, aI cI a_o_tape 129 f_o_tape, aI cI a_o_read 120 g5] := hD
    refine lv_aload_n hx hb dX6_read_32 rfl (lv_at hl 1 rfl) ?_
    refine va_get (D := D) (ci := 6) (v := .ref a_o_s) (C := RX6) (T := TX6) (N := 20) hx hb hts in_X6 hown hK hP 0 rfl rfl 1 (by decide) (hts _ mw_3_187) (fun _ h9 => h9) rfl dX6_read_33 ?_
    refine lv_iconst (v := (1 : Int32)) hx hb dX6_read_36 (by decide) ?_
    refine lv_aload_n hx hb dX6_read_37 rfl (lv_at hl 1 rfl) ?_
    refine va_get (D := D) (ci := 6) (v := .int x4) (C := RX6) (T := TX6) (N := 20) hx hb hts in_X6 hown hK hP 0 rfl rfl 9 (by decide) (hts _ mw_3_195) (fun _ h9 => h9) rfl dX6_read_38 ?_
    refine cz_iast hx hb hK hP hD hS 1 0 rfl rfl (cz_wrE h).1 dX6_read_41 (fun g9 H locs eg9 hP hD hS => ?_)
    replace h := cz_wrK eg9 h
    replace hP : va_P D vwCl [oX6 a_o a_o_refusals a_o_s a_o_image v_o_isImage a_o_tape a_o_read (0 : Int32) x2 x3 x4 a_o_innerOf a_o_whoseOf a_o_nearOf a_o_fromOf v_o_thirds a_o_pieceOf a_o_kept a_o_claimOf a_o_row v_o_rowed, aI cI a_o_s 151 g9, aI cI a_o_tape 129 f_o_tape, aI cI a_o_read 120 g5] H := hP
    replace hD : va_D A [oX6 a_o a_o_refusals a_o_s a_o_image v_o_isImage a_o_tape a_o_read (0 : Int32) x2 x3 x4 a_o_innerOf a_o_whoseOf a_o_nearOf a_o_fromOf v_o_thirds a_o_pieceOf a_o_kept a_o_claimOf a_o_row v_o_rowed, aI cI a_o_s 151 g9, aI cI a_o_tape 129 f_o_tape, aI cI a_o_read 120 g5] := hD
    refine lv_aload_n hx hb dX6_read_42 rfl (lv_at hl 1 rfl) ?_
    refine va_get (D := D) (ci := 6) (v := .ref a_o_s) (C := RX6) (T := TX6) (N := 20) hx hb hts in_X6 hown hK hP 0 rfl rfl 1 (by decide) (hts _ mw_3_187) (fun _ h9 => h9) rfl dX6_read_43 ?_
    refine lv_bipush (v := (6 : Int32)) hx hb dX6_read_46 (by decide) ?_
    refine lv_iconst (v := (0 : Int32)) hx hb dX6_read_48 (by decide) ?_
    refine cz_iast hx hb hK hP hD hS 1 0 rfl rfl (cz_wrE h).1 dX6_read_49 (fun g10 H locs eg10 hP hD hS => ?_)
    replace h := cz_wrK eg10 h
    replace hP : va_P D vwCl [oX6 a_o a_o_refusals a_o_s a_o_image v_o_isImage a_o_tape a_o_read (0 : Int32) x2 x3 x4 a_o_innerOf a_o_whoseOf a_o_nearOf a_o_fromOf v_o_thirds a_o_pieceOf a_o_kept a_o_claimOf a_o_row v_o_rowed, aI cI a_o_s 151 g10, aI cI a_o_tape 129 f_o_tape, aI cI a_o_read 120 g5] H := hP
    replace hD : va_D A [oX6 a_o a_o_refusals a_o_s a_o_image v_o_isImage a_o_tape a_o_read (0 : Int32) x2 x3 x4 a_o_innerOf a_o_whoseOf a_o_nearOf a_o_fromOf v_o_thirds a_o_pieceOf a_o_kept a_o_claimOf a_o_row v_o_rowed, aI cI a_o_s 151 g10, aI cI a_o_tape 129 f_o_tape, aI cI a_o_read 120 g5] := hD
    refine lv_iconst (v := (0 : Int32)) hx hb dX6_read_50 (by decide) ?_
    refine lv_istore_n (lv' := [(2, .int (0 : Int32)), (1, .int x1), (0, .ref a_o)]) hx hb dX6_read_51 rfl hl (by decide) rfl (fun ls hl => ?_)
    obtain ⟨z14, hE15, hz16⟩ := cz_x3 h
    have hX17 : ∀ (y20 : Int32) (y21 : Int32) (q22 : (Nat → Int32)) (H : Heap) (locs : List Loc) (ls : Array Slot), z14 = (y20, y21, q22) → va_P D vwCl [oX6 a_o a_o_refusals a_o_s a_o_image v_o_isImage a_o_tape a_o_read y21 x2 x3 x4 a_o_innerOf a_o_whoseOf a_o_nearOf a_o_fromOf v_o_thirds a_o_pieceOf a_o_kept a_o_claimOf a_o_row v_o_rowed, aI cI a_o_s 151 q22, aI cI a_o_tape 129 f_o_tape, aI cI a_o_read 120 g5] H → va_D A [oX6 a_o a_o_refusals a_o_s a_o_image v_o_isImage a_o_tape a_o_read y21 x2 x3 x4 a_o_innerOf a_o_whoseOf a_o_nearOf a_o_fromOf v_o_thirds a_o_pieceOf a_o_kept a_o_claimOf a_o_row v_o_rowed, aI cI a_o_s 151 q22, aI cI a_o_tape 129 f_o_tape, aI cI a_o_read 120 g5] → va_S A s.heap H locs → lv_has ls 3 [(0, .ref a_o)] → W p l e (cz_rm 2 43) s m ag below meth c H locs 0 0 Q (F0 m 81 ls []) := by
      intro y20 y21 q22 H locs ls h hP hD hS hl
      replace h := hz16 _ _ _ h
      refine lv_aload_n hx hb dX6_read_81 rfl (lv_at hl 0 rfl) ?_
      obtain ⟨x23, hc24, h⟩ := cz_e1 h
      refine cz_callV (As := []) (rest := []) (is := [0, 1]) (isR := [2, 3]) (rs := [aI cI a_o_tape 129 f_o_tape, aI cI a_o_read 120 g5]) (as := [a_o, a_o_s, a_o_tape, a_o_read]) (ws1 := [oX6 a_o a_o_refusals a_o_s a_o_image v_o_isImage a_o_tape a_o_read y21 x2 x3 x4 a_o_innerOf a_o_whoseOf a_o_nearOf a_o_fromOf v_o_thirds a_o_pieceOf a_o_kept a_o_claimOf a_o_row v_o_rowed, aI cI a_o_s 151 q22, aI cI a_o_tape 129 f_o_tape, aI cI a_o_read 120 g5]) (q0 := 0) (ci := 6) ⟨hx, hb, hml, hown, hts⟩ (c_X6_many l D cI a_o a_o_s a_o_refusals a_o_image a_o_tape a_o_read a_o_innerOf a_o_whoseOf a_o_nearOf a_o_fromOf a_o_pieceOf a_o_kept a_o_claimOf a_o_row v_o_isImage y21 x2 x3 x4 v_o_thirds v_o_rowed q22  n x23 hc24) mw_4_27 mw_4_29 mw_p_12 mw_1_8 mw_4_30 hd_X6_many ⟨Nat.le_of_ble_eq_true rfl, Nat.le_of_ble_eq_true rfl⟩ hK hN hP hD hS rfl rfl rfl rfl rfl rfl rfl rfl rfl rfl rfl rfl hl.1 rfl (Nat.le_of_ble_eq_true rfl) dX6_read_82 ⟨Nat.le_of_ble_eq_true rfl, Nat.le_of_ble_eq_true rfl⟩ (fun H locs hP hD hS => ?_)
      refine W.eq (g2 := F0 m 85 ls [.int x23]) rfl ?_
      obtain ⟨rfl, rfl, rfl, rfl, rfl, rfl, rfl⟩ := cz_j7 (cz_i h)
      exact hQ _ _ _ _ hP hS dX6_read_85
    clear h
    have hL18 : ∀ (k : Nat) (x11 : Int32) (x12 : Int32) (g13 : (Nat → Int32)) (H : Heap) (locs : List Loc) (ls : Array Slot), f_X6_read_L52 n g5 k x11 x12 g13 = some z14 → va_P D vwCl [oX6 a_o a_o_refusals a_o_s a_o_image v_o_isImage a_o_tape a_o_read x12 x2 x3 x4 a_o_innerOf a_o_whoseOf a_o_nearOf a_o_fromOf v_o_thirds a_o_pieceOf a_o_kept a_o_claimOf a_o_row v_o_rowed, aI cI a_o_s 151 g13, aI cI a_o_tape 129 f_o_tape, aI cI a_o_read 120 g5] H → va_D A [oX6 a_o a_o_refusals a_o_s a_o_image v_o_isImage a_o_tape a_o_read x12 x2 x3 x4 a_o_innerOf a_o_whoseOf a_o_nearOf a_o_fromOf v_o_thirds a_o_pieceOf a_o_kept a_o_claimOf a_o_row v_o_rowed, aI cI a_o_s 151 g13, aI cI a_o_tape 129 f_o_tape, aI cI a_o_read 120 g5] → va_S A s.heap H locs → lv_has ls 3 [(0, .ref a_o), (2, .int x11)] → W p l e (cz_rm 2 43) s m ag below meth c H locs 0 0 Q (F0 m 52 ls []) := by
      intro k
      induction k with
      | zero =>
        intro x11 x12 g13 H locs ls h
        rw [f_X6_read_L52] at h
        cases h
      | succ k ih25 =>
        intro x11 x12 g13 H locs ls h hP hD hS hl
        rw [f_X6_read_L52] at h
        refine lv_iload_n hx hb dX6_read_52 rfl (lv_at hl 1 rfl) ?_
        refine lv_aload_n hx hb dX6_read_53 rfl (lv_at hl 0 rfl) ?_
        obtain ⟨x26, hc27, h⟩ := cz_e1 h
        refine cz_callV (As := []) (rest := [.int x11]) (is := [0, 1]) (isR := [2, 3]) (rs := [aI cI a_o_tape 129 f_o_tape, aI cI a_o_read 120 g5]) (as := [a_o, a_o_s, a_o_tape, a_o_read]) (ws1 := [oX6 a_o a_o_refusals a_o_s a_o_image v_o_isImage a_o_tape a_o_read x12 x2 x3 x4 a_o_innerOf a_o_whoseOf a_o_nearOf a_o_fromOf v_o_thirds a_o_pieceOf a_o_kept a_o_claimOf a_o_row v_o_rowed, aI cI a_o_s 151 g13, aI cI a_o_tape 129 f_o_tape, aI cI a_o_read 120 g5]) (q0 := 0) (ci := 6) ⟨hx, hb, hml, hown, hts⟩ (c_X6_many l D cI a_o a_o_s a_o_refusals a_o_image a_o_tape a_o_read a_o_innerOf a_o_whoseOf a_o_nearOf a_o_fromOf a_o_pieceOf a_o_kept a_o_claimOf a_o_row v_o_isImage x12 x2 x3 x4 v_o_thirds v_o_rowed g13  n x26 hc27) mw_4_27 mw_4_29 mw_p_12 mw_1_8 mw_4_30 hd_X6_many ⟨Nat.le_of_ble_eq_true rfl, Nat.le_of_ble_eq_true rfl⟩ hK hN hP hD hS rfl rfl rfl rfl rfl rfl rfl rfl rfl rfl rfl rfl hl.1 rfl (Nat.le_of_ble_eq_true rfl) dX6_read_54 ⟨Nat.le_of_ble_eq_true rfl, Nat.le_of_ble_eq_true rfl⟩ (fun H locs hP hD hS => ?_)
        refine W.eq (g2 := F0 m 57 ls [.int x26, .int x11]) rfl ?_
        refine lv_icmp_ge (tgt := 81) hx hb dX6_read_57 (by decide) (fun c28 => ?_) (fun c28 => ?_)
        · replace h := cz_t c28 h
          exact hX17 _ _ _ _ _ _ (cz_i h).symm hP hD hS (lv_sub hl [0] rfl)
        · replace h := cz_f c28 h
          refine lv_aload_n hx hb dX6_read_60 rfl (lv_at hl 0 rfl) ?_
          refine va_get (D := D) (ci := 6) (v := .ref a_o_s) (C := RX6) (T := TX6) (N := 20) hx hb hts in_X6 hown hK hP 0 rfl rfl 1 (by decide) (hts _ mw_3_187) (fun _ h9 => h9) rfl dX6_read_61 ?_
          refine lv_bipush (v := (7 : Int32)) hx hb dX6_read_64 (by decide) ?_
          refine lv_iload_n hx hb dX6_read_66 rfl (lv_at hl 1 rfl) ?_
          refine lv_iadd hx hb dX6_read_67 ?_
          refine lv_aload_n hx hb dX6_read_68 rfl (lv_at hl 0 rfl) ?_
          refine va_get (D := D) (ci := 6) (v := .ref a_o_read) (C := RX6) (T := TX6) (N := 20) hx hb hts in_X6 hown hK hP 0 rfl rfl 5 (by decide) (hts _ mw_3_191) (fun _ h9 => h9) rfl dX6_read_69 ?_
          refine lv_iload_n hx hb dX6_read_72 rfl (lv_at hl 1 rfl) ?_
          refine cz_iald hx hb hK hP 3 0 rfl rfl (cz_rdE h).1 dX6_read_73 (fun x29 ex29 => ?_)
          replace h := cz_rdK ex29 h
          refine cz_iast hx hb hK hP hD hS 1 0 rfl rfl (cz_wrE h).1 dX6_read_74 (fun g30 H locs eg30 hP hD hS => ?_)
          replace h := cz_wrK eg30 h
          replace hP : va_P D vwCl [oX6 a_o a_o_refusals a_o_s a_o_image v_o_isImage a_o_tape a_o_read x12 x2 x3 x4 a_o_innerOf a_o_whoseOf a_o_nearOf a_o_fromOf v_o_thirds a_o_pieceOf a_o_kept a_o_claimOf a_o_row v_o_rowed, aI cI a_o_s 151 g30, aI cI a_o_tape 129 f_o_tape, aI cI a_o_read 120 g5] H := hP
          replace hD : va_D A [oX6 a_o a_o_refusals a_o_s a_o_image v_o_isImage a_o_tape a_o_read x12 x2 x3 x4 a_o_innerOf a_o_whoseOf a_o_nearOf a_o_fromOf v_o_thirds a_o_pieceOf a_o_kept a_o_claimOf a_o_row v_o_rowed, aI cI a_o_s 151 g30, aI cI a_o_tape 129 f_o_tape, aI cI a_o_read 120 g5] := hD
          obtain ⟨x31, ex31⟩ : ∃ z : Int32, z = x11 + (1 : Int32) := ⟨_, rfl⟩
          replace h := cz_ltE ex31 h
          refine lv_iinc (v := x31) (lv' := [(2, .int x31), (0, .ref a_o)]) hx hb dX6_read_75 hl (k := 1) rfl (by rw [ex31]; rfl) (by decide) rfl (fun ls hl => ?_)
          refine lv_goto (tgt := 52) hx hb dX6_read_78 (by decide) ?_
          exact ih25 _ _ _ _ _ _ h hP hD hS (lv_sub hl [1, 0] rfl)
    exact hL18 n _ _ _ _ _ _ hE15 hP hD hS (lv_sub hl [2, 0] rfl)
  · replace h := cz_t c7 h
    refine lv_bipush (v := (-20 : Int32)) hx hb dX6_read_14 (by decide) ?_
    refine lv_aload_n hx hb dX6_read_16 rfl (lv_at hl 1 rfl) ?_
    refine va_get (D := D) (ci := 6) (v := .int x2) (C := RX6) (T := TX6) (N := 20) hx hb hts in_X6 hown hK hP 0 rfl rfl 7 (by decide) (hts _ mw_3_193) (fun _ h9 => h9) rfl dX6_read_17 ?_
    refine lv_isub hx hb dX6_read_20 ?_
    obtain ⟨rfl, rfl, rfl, rfl, rfl, rfl, rfl⟩ := cz_j7 (cz_i h)
    exact hQ _ _ _ _ hP hS dX6_read_21
set_option maxHeartbeats 4000000 in
set_option maxRecDepth 100000 in
theorem c_X6_cell (l : Launch) (D : va_G) (cI : ClassId) (a_o a_o_refusals a_o_s a_o_image a_o_tape a_o_read a_o_innerOf a_o_whoseOf a_o_nearOf a_o_fromOf a_o_pieceOf a_o_kept a_o_claimOf a_o_row : Nat) (v_o_isImage : Int32) (v_o_taped : Int32) (v_o_pos : Int32) (v_o_readWide : Int32) (v_o_readHigh : Int32) (v_o_thirds : Int32) (v_o_rowed : Int32) (f_o_refusals : (Nat → Int32)) (f_o_s : (Nat → Int32)) (w1 : Int32) (n : Nat) (r : Int32) (r_f_o_refusals : (Nat → Int32)) (h : f_X6_cell n f_o_refusals f_o_s w1 = some (r, r_f_o_refusals)) : cz_M l yX6_cell cX6_cell 2 (some .int) 1 21 D cI [.ref a_o, .int w1] [oX6 a_o a_o_refusals a_o_s a_o_image v_o_isImage a_o_tape a_o_read v_o_taped v_o_pos v_o_readWide v_o_readHigh a_o_innerOf a_o_whoseOf a_o_nearOf a_o_fromOf v_o_thirds a_o_pieceOf a_o_kept a_o_claimOf a_o_row v_o_rowed, aI cI a_o_refusals 7 f_o_refusals, aI cI a_o_s 151 f_o_s] (some (.int r)) [oX6 a_o a_o_refusals a_o_s a_o_image v_o_isImage a_o_tape a_o_read v_o_taped v_o_pos v_o_readWide v_o_readHigh a_o_innerOf a_o_whoseOf a_o_nearOf a_o_fromOf v_o_thirds a_o_pieceOf a_o_kept a_o_claimOf a_o_row v_o_rowed, aI cI a_o_refusals 7 r_f_o_refusals, aI cI a_o_s 151 f_o_s] := by
  refine cz_startI (by decide) (Nat.le_of_ble_eq_true rfl) ?_
  intro p e s m ag below meth c A Q hx hb hml hown hts hK hN hQ H locs hP hD hS ls hl
  replace hown : s.vm.findClass RX6 = some m.cls := hown
  replace hl : lv_has ls 2 [(0, .ref a_o), (1, .int w1)] := hl
  unfold f_X6_cell at h
  refine lv_aload_n hx hb dX6_cell_0 rfl (lv_at hl 0 rfl) ?_
  refine lv_iload_n hx hb dX6_cell_1 rfl (lv_at hl 1 rfl) ?_
  obtain ⟨x1, hc2, h⟩ := cz_e1 h
  refine cz_callV (As := [.int w1]) (rest := []) (is := [0, 2]) (isR := [1]) (rs := [aI cI a_o_refusals 7 f_o_refusals]) (as := [a_o, a_o_refusals, a_o_s]) (ws1 := [oX6 a_o a_o_refusals a_o_s a_o_image v_o_isImage a_o_tape a_o_read v_o_taped v_o_pos v_o_readWide v_o_readHigh a_o_innerOf a_o_whoseOf a_o_nearOf a_o_fromOf v_o_thirds a_o_pieceOf a_o_kept a_o_claimOf a_o_row v_o_rowed, aI cI a_o_refusals 7 f_o_refusals, aI cI a_o_s 151 f_o_s]) (q0 := 0) (ci := 6) ⟨hx, hb, hml, hown, hts⟩ (c_X6_isCell l D cI a_o a_o_s a_o_refusals a_o_image a_o_tape a_o_read a_o_innerOf a_o_whoseOf a_o_nearOf a_o_fromOf a_o_pieceOf a_o_kept a_o_claimOf a_o_row v_o_isImage v_o_taped v_o_pos v_o_readWide v_o_readHigh v_o_thirds v_o_rowed f_o_s w1 n x1 hc2) mw_4_35 mw_4_37 mw_p_13 mw_1_8 mw_4_38 hd_X6_isCell ⟨Nat.le_of_ble_eq_true rfl, Nat.le_of_ble_eq_true rfl⟩ hK hN hP hD hS rfl rfl rfl rfl rfl rfl rfl rfl rfl rfl rfl rfl hl.1 rfl (Nat.le_of_ble_eq_true rfl) dX6_cell_2 ⟨Nat.le_of_ble_eq_true rfl, Nat.le_of_ble_eq_true rfl⟩ (fun H locs hP hD hS => ?_)
  refine W.eq (g2 := F0 m 5 ls [.int x1]) rfl ?_
  refine lv_if_eq (tgt := 20) hx hb dX6_cell_5 (by decide) (fun c3 => ?_) (fun c3 => ?_)
  · replace h := cz_t c3 h
    refine lv_aload_n hx hb dX6_cell_20 rfl (lv_at hl 0 rfl) ?_
    refine lv_iconst (v := (-1 : Int32)) hx hb dX6_cell_21 (by decide) ?_
    obtain ⟨x4, g5, hc6, h⟩ := cz_e2 h
    refine cz_callV (As := [.int (-1 : Int32)]) (rest := []) (is := [0, 1]) (isR := [2]) (rs := [aI cI a_o_s 151 f_o_s]) (as := [a_o, a_o_refusals, a_o_s]) (ws1 := [oX6 a_o a_o_refusals a_o_s a_o_image v_o_isImage a_o_tape a_o_read v_o_taped v_o_pos v_o_readWide v_o_readHigh a_o_innerOf a_o_whoseOf a_o_nearOf a_o_fromOf v_o_thirds a_o_pieceOf a_o_kept a_o_claimOf a_o_row v_o_rowed, aI cI a_o_refusals 7 g5, aI cI a_o_s 151 f_o_s]) (q0 := 0) (ci := 6) ⟨hx, hb, hml, hown, hts⟩ (c_X6_refuse l D cI a_o a_o_refusals a_o_s a_o_image a_o_tape a_o_read a_o_innerOf a_o_whoseOf a_o_nearOf a_o_fromOf a_o_pieceOf a_o_kept a_o_claimOf a_o_row v_o_isImage v_o_taped v_o_pos v_o_readWide v_o_readHigh v_o_thirds v_o_rowed f_o_refusals (-1 : Int32) n x4 g5 hc6) mw_4_11 mw_4_13 mw_p_10 mw_1_8 mw_4_14 hd_X6_refuse ⟨Nat.le_of_ble_eq_true rfl, Nat.le_of_ble_eq_true rfl⟩ hK hN hP hD hS rfl rfl rfl rfl rfl rfl rfl rfl rfl rfl rfl rfl hl.1 rfl (Nat.le_of_ble_eq_true rfl) dX6_cell_22 ⟨Nat.le_of_ble_eq_true rfl, Nat.le_of_ble_eq_true rfl⟩ (fun H locs hP hD hS => ?_)
    refine W.eq (g2 := F0 m 25 ls [.int x4]) rfl ?_
    obtain ⟨rfl, rfl⟩ := cz_j2 (cz_i h)
    exact hQ _ _ _ _ hP hS dX6_cell_25
  · replace h := cz_f c3 h
    refine lv_aload_n hx hb dX6_cell_8 rfl (lv_at hl 0 rfl) ?_
    refine lv_aload_n hx hb dX6_cell_9 rfl (lv_at hl 0 rfl) ?_
    refine lv_iload_n hx hb dX6_cell_10 rfl (lv_at hl 1 rfl) ?_
    obtain ⟨x7, hc8, h⟩ := cz_e1 h
    refine cz_callV (As := [.int w1]) (rest := [.ref a_o]) (is := [0, 2]) (isR := [1]) (rs := [aI cI a_o_refusals 7 f_o_refusals]) (as := [a_o, a_o_refusals, a_o_s]) (ws1 := [oX6 a_o a_o_refusals a_o_s a_o_image v_o_isImage a_o_tape a_o_read v_o_taped v_o_pos v_o_readWide v_o_readHigh a_o_innerOf a_o_whoseOf a_o_nearOf a_o_fromOf v_o_thirds a_o_pieceOf a_o_kept a_o_claimOf a_o_row v_o_rowed, aI cI a_o_refusals 7 f_o_refusals, aI cI a_o_s 151 f_o_s]) (q0 := 0) (ci := 6) ⟨hx, hb, hml, hown, hts⟩ (c_X6_of l D cI a_o a_o_s a_o_refusals a_o_image a_o_tape a_o_read a_o_innerOf a_o_whoseOf a_o_nearOf a_o_fromOf a_o_pieceOf a_o_kept a_o_claimOf a_o_row v_o_isImage v_o_taped v_o_pos v_o_readWide v_o_readHigh v_o_thirds v_o_rowed f_o_s w1 n x7 hc8) mw_4_39 mw_4_41 mw_p_14 mw_1_8 mw_4_42 hd_X6_of ⟨Nat.le_of_ble_eq_true rfl, Nat.le_of_ble_eq_true rfl⟩ hK hN hP hD hS rfl rfl rfl rfl rfl rfl rfl rfl rfl rfl rfl rfl hl.1 rfl (Nat.le_of_ble_eq_true rfl) dX6_cell_11 ⟨Nat.le_of_ble_eq_true rfl, Nat.le_of_ble_eq_true rfl⟩ (fun H locs hP hD hS => ?_)
    refine W.eq (g2 := F0 m 14 ls [.int x7, .ref a_o]) rfl ?_
    obtain ⟨x9, hc10, h⟩ := cz_e1 h
    refine cz_callV (As := [.int x7]) (rest := []) (is := [0, 2]) (isR := [1]) (rs := [aI cI a_o_refusals 7 f_o_refusals]) (as := [a_o, a_o_refusals, a_o_s]) (ws1 := [oX6 a_o a_o_refusals a_o_s a_o_image v_o_isImage a_o_tape a_o_read v_o_taped v_o_pos v_o_readWide v_o_readHigh a_o_innerOf a_o_whoseOf a_o_nearOf a_o_fromOf v_o_thirds a_o_pieceOf a_o_kept a_o_claimOf a_o_row v_o_rowed, aI cI a_o_refusals 7 f_o_refusals, aI cI a_o_s 151 f_o_s]) (q0 := 0) (ci := 6) ⟨hx, hb, hml, hown, hts⟩ (c_X6_at l D cI a_o a_o_s a_o_refusals a_o_image a_o_tape a_o_read a_o_innerOf a_o_whoseOf a_o_nearOf a_o_fromOf a_o_pieceOf a_o_kept a_o_claimOf a_o_row v_o_isImage v_o_taped v_o_pos v_o_readWide v_o_readHigh v_o_thirds v_o_rowed f_o_s x7 n x9 hc10) mw_4_43 mw_4_45 mw_p_15 mw_1_8 mw_4_46 hd_X6_at ⟨Nat.le_of_ble_eq_true rfl, Nat.le_of_ble_eq_true rfl⟩ hK hN hP hD hS rfl rfl rfl rfl rfl rfl rfl rfl rfl rfl rfl rfl hl.1 rfl (Nat.le_of_ble_eq_true rfl) dX6_cell_14 ⟨Nat.le_of_ble_eq_true rfl, Nat.le_of_ble_eq_true rfl⟩ (fun H locs hP hD hS => ?_)
    refine W.eq (g2 := F0 m 17 ls [.int x9]) rfl ?_
    refine lv_goto (tgt := 25) hx hb dX6_cell_17 (by decide) ?_
    obtain ⟨rfl, rfl⟩ := cz_j2 (cz_i h)
    exact hQ _ _ _ _ hP hS dX6_cell_25
set_option maxHeartbeats 4000000 in
set_option maxRecDepth 100000 in
theorem c_X6_least (l : Launch) (D : va_G) (cI : ClassId)  (w1 : Int32) (n : Nat) (r : Int32) (h : f_X6_least n w1 = some r) : cz_M l yX6_least cX6_least 1 (some .int) 0 0 D cI [.int w1] [] (some (.int r)) [] := by
  refine cz_startI (by decide) (Nat.le_of_ble_eq_true rfl) ?_
  intro p e s m ag below meth c A Q hx hb hml hown hts hK hN hQ H locs hP hD hS ls hl
  replace hown : s.vm.findClass RX6 = some m.cls := hown
  replace hl : lv_has ls 1 [(0, .int w1)] := hl
  unfold f_X6_least at h
  refine lv_iload_n hx hb dX6_least_0 rfl (lv_at hl 0 rfl) ?_
  refine lv_iconst (v := (3 : Int32)) hx hb dX6_least_1 (by decide) ?_
  refine lv_icmp_ne (tgt := 10) hx hb dX6_least_2 (by decide) (fun c1 => ?_) (fun c1 => ?_)
  · replace h := cz_f c1 h
    refine lv_iconst (v := (0 : Int32)) hx hb dX6_least_10 (by decide) ?_
    obtain rfl := cz_i h
    exact hQ _ _ _ _ hP hS dX6_least_11
  · replace h := cz_t c1 h
    refine lv_bipush (v := (-50 : Int32)) hx hb dX6_least_5 (by decide) ?_
    refine lv_goto (tgt := 11) hx hb dX6_least_7 (by decide) ?_
    obtain rfl := cz_i h
    exact hQ _ _ _ _ hP hS dX6_least_11
set_option maxHeartbeats 4000000 in
set_option maxRecDepth 100000 in
theorem c_X6_most (l : Launch) (D : va_G) (cI : ClassId)  (w1 : Int32) (n : Nat) (r : Int32) (h : f_X6_most n w1 = some r) : cz_M l yX6_most cX6_most 1 (some .int) 0 0 D cI [.int w1] [] (some (.int r)) [] := by
  refine cz_startI (by decide) (Nat.le_of_ble_eq_true rfl) ?_
  intro p e s m ag below meth c A Q hx hb hml hown hts hK hN hQ H locs hP hD hS ls hl
  replace hown : s.vm.findClass RX6 = some m.cls := hown
  replace hl : lv_has ls 1 [(0, .int w1)] := hl
  unfold f_X6_most at h
  refine lv_iload_n hx hb dX6_most_0 rfl (lv_at hl 0 rfl) ?_
  refine lv_if_ne (tgt := 9) hx hb dX6_most_1 (by decide) (fun c1 => ?_) (fun c1 => ?_)
  · replace h := cz_f c1 h
    refine lv_iload_n hx hb dX6_most_9 rfl (lv_at hl 0 rfl) ?_
    refine lv_iconst (v := (1 : Int32)) hx hb dX6_most_10 (by decide) ?_
    refine lv_icmp_ne (tgt := 18) hx hb dX6_most_11 (by decide) (fun c2 => ?_) (fun c2 => ?_)
    · replace h := cz_f c2 h
      refine lv_iload_n hx hb dX6_most_18 rfl (lv_at hl 0 rfl) ?_
      refine lv_iconst (v := (2 : Int32)) hx hb dX6_most_19 (by decide) ?_
      refine lv_icmp_ne (tgt := 28) hx hb dX6_most_20 (by decide) (fun c3 => ?_) (fun c3 => ?_)
      · replace h := cz_f c3 h
        refine lv_bipush (v := (50 : Int32)) hx hb dX6_most_28 (by decide) ?_
        obtain rfl := cz_i h
        exact hQ _ _ _ _ hP hS dX6_most_30
      · replace h := cz_t c3 h
        refine lv_bipush (v := (20 : Int32)) hx hb dX6_most_23 (by decide) ?_
        refine lv_goto (tgt := 30) hx hb dX6_most_25 (by decide) ?_
        obtain rfl := cz_i h
        exact hQ _ _ _ _ hP hS dX6_most_30
    · replace h := cz_t c2 h
      refine lv_iconst (v := (2 : Int32)) hx hb dX6_most_14 (by decide) ?_
      refine lv_goto (tgt := 30) hx hb dX6_most_15 (by decide) ?_
      obtain rfl := cz_i h
      exact hQ _ _ _ _ hP hS dX6_most_30
  · replace h := cz_t c1 h
    refine lv_bipush (v := (9 : Int32)) hx hb dX6_most_4 (by decide) ?_
    refine lv_goto (tgt := 30) hx hb dX6_most_6 (by decide) ?_
    obtain rfl := cz_i h
    exact hQ _ _ _ _ hP hS dX6_most_30
set_option maxHeartbeats 4000000 in
set_option maxRecDepth 100000 in
theorem c_X6_rule (l : Launch) (D : va_G) (cI : ClassId) (a_o a_o_refusals a_o_s a_o_image a_o_tape a_o_read a_o_innerOf a_o_whoseOf a_o_nearOf a_o_fromOf a_o_pieceOf a_o_kept a_o_claimOf a_o_row : Nat) (v_o_isImage : Int32) (v_o_taped : Int32) (v_o_pos : Int32) (v_o_readWide : Int32) (v_o_readHigh : Int32) (v_o_thirds : Int32) (v_o_rowed : Int32) (f_o_refusals : (Nat → Int32)) (f_o_s : (Nat → Int32)) (w1 : Int32) (w2 : Int32) (n : Nat) (r : Int32) (r_f_o_refusals : (Nat → Int32)) (r_f_o_s : (Nat → Int32)) (h : f_X6_rule n f_o_refusals f_o_s w1 w2 = some (r, r_f_o_refusals, r_f_o_s)) : cz_M l yX6_rule cX6_rule 5 (some .int) 1 22 D cI [.ref a_o, .int w1, .int w2] [oX6 a_o a_o_refusals a_o_s a_o_image v_o_isImage a_o_tape a_o_read v_o_taped v_o_pos v_o_readWide v_o_readHigh a_o_innerOf a_o_whoseOf a_o_nearOf a_o_fromOf v_o_thirds a_o_pieceOf a_o_kept a_o_claimOf a_o_row v_o_rowed, aI cI a_o_refusals 7 f_o_refusals, aI cI a_o_s 151 f_o_s] (some (.int r)) [oX6 a_o a_o_refusals a_o_s a_o_image v_o_isImage a_o_tape a_o_read v_o_taped v_o_pos v_o_readWide v_o_readHigh a_o_innerOf a_o_whoseOf a_o_nearOf a_o_fromOf v_o_thirds a_o_pieceOf a_o_kept a_o_claimOf a_o_row v_o_rowed, aI cI a_o_refusals 7 r_f_o_refusals, aI cI a_o_s 151 r_f_o_s] := by
  refine cz_startI (by decide) (Nat.le_of_ble_eq_true rfl) ?_
  intro p e s m ag below meth c A Q hx hb hml hown hts hK hN hQ H locs hP hD hS ls hl
  replace hown : s.vm.findClass RX6 = some m.cls := hown
  replace hl : lv_has ls 5 [(0, .ref a_o), (1, .int w1), (2, .int w2)] := hl
  unfold f_X6_rule at h
  refine lv_iload_n hx hb dX6_rule_0 rfl (lv_at hl 1 rfl) ?_
  refine lv_iconst (v := (4 : Int32)) hx hb dX6_rule_1 (by decide) ?_
  obtain ⟨x1, hc2, h⟩ := cz_e1 h
  refine cz_callS (As := [.int w1, .int (4 : Int32)]) (rest := []) (is := []) (isR := [0, 1, 2]) (rs := [oX6 a_o a_o_refusals a_o_s a_o_image v_o_isImage a_o_tape a_o_read v_o_taped v_o_pos v_o_readWide v_o_readHigh a_o_innerOf a_o_whoseOf a_o_nearOf a_o_fromOf v_o_thirds a_o_pieceOf a_o_kept a_o_claimOf a_o_row v_o_rowed, aI cI a_o_refusals 7 f_o_refusals, aI cI a_o_s 151 f_o_s]) (as := [a_o, a_o_refusals, a_o_s]) (ws1 := [oX6 a_o a_o_refusals a_o_s a_o_image v_o_isImage a_o_tape a_o_read v_o_taped v_o_pos v_o_readWide v_o_readHigh a_o_innerOf a_o_whoseOf a_o_nearOf a_o_fromOf v_o_thirds a_o_pieceOf a_o_kept a_o_claimOf a_o_row v_o_rowed, aI cI a_o_refusals 7 f_o_refusals, aI cI a_o_s 151 f_o_s]) ⟨hx, hb, hml, hown, hts⟩ (c_X6_isIn l D cI   w1 (4 : Int32) n x1 hc2) mw_4_51 mw_4_52 mw_1_8 mw_4_53 hd_X6_isIn ⟨Nat.le_of_ble_eq_true rfl, Nat.le_of_ble_eq_true rfl⟩ hK hN hP hD hS rfl rfl rfl rfl rfl rfl rfl rfl rfl hl.1 rfl (Nat.le_of_ble_eq_true rfl) dX6_rule_2 ⟨Nat.le_of_ble_eq_true rfl, Nat.le_of_ble_eq_true rfl⟩ (fun H locs hP hD hS => ?_)
  refine W.eq (g2 := F0 m 5 ls [.int x1]) rfl ?_
  obtain ⟨z7, hE5, hz4⟩ := cz_x1 h
  have hJ6 : ∀ (x3 : Int32) (H : Heap) (locs : List Loc) (ls : Array Slot), z7 = x3 → va_P D vwCl [oX6 a_o a_o_refusals a_o_s a_o_image v_o_isImage a_o_tape a_o_read v_o_taped v_o_pos v_o_readWide v_o_readHigh a_o_innerOf a_o_whoseOf a_o_nearOf a_o_fromOf v_o_thirds a_o_pieceOf a_o_kept a_o_claimOf a_o_row v_o_rowed, aI cI a_o_refusals 7 f_o_refusals, aI cI a_o_s 151 f_o_s] H → va_D A [oX6 a_o a_o_refusals a_o_s a_o_image v_o_isImage a_o_tape a_o_read v_o_taped v_o_pos v_o_readWide v_o_readHigh a_o_innerOf a_o_whoseOf a_o_nearOf a_o_fromOf v_o_thirds a_o_pieceOf a_o_kept a_o_claimOf a_o_row v_o_rowed, aI cI a_o_refusals 7 f_o_refusals, aI cI a_o_s 151 f_o_s] → va_S A s.heap H locs → lv_has ls 5 [(0, .ref a_o), (1, .int w1), (2, .int w2)] → W p l e (cz_rm 1 22) s m ag below meth c H locs 0 0 Q (F0 m 24 ls [.int x3]) := by
    intro x3 H locs ls h hP hD hS hl
    replace h := hz4 _ h
    refine lv_istore_n (lv' := [(3, .int x3), (0, .ref a_o), (1, .int w1), (2, .int w2)]) hx hb dX6_rule_24 rfl hl (by decide) rfl (fun ls hl => ?_)
    refine lv_iload_n hx hb dX6_rule_25 rfl (lv_at hl 0 rfl) ?_
    refine lv_if_eq (tgt := 38) hx hb dX6_rule_26 (by decide) (fun c8 => ?_) (fun c8 => ?_)
    · replace h := cz_t c8 h
      refine lv_aload_n hx hb dX6_rule_38 rfl (lv_at hl 1 rfl) ?_
      refine va_get (D := D) (ci := 6) (v := .ref a_o_s) (C := RX6) (T := TX6) (N := 20) hx hb hts in_X6 hown hK hP 0 rfl rfl 1 (by decide) (hts _ mw_3_187) (fun _ h9 => h9) rfl dX6_rule_39 ?_
      refine lv_iconst (v := (2 : Int32)) hx hb dX6_rule_42 (by decide) ?_
      refine lv_iload_n hx hb dX6_rule_43 rfl (lv_at hl 2 rfl) ?_
      refine lv_iadd hx hb dX6_rule_44 ?_
      refine cz_iald hx hb hK hP 2 0 rfl rfl (cz_rdE h).1 dX6_rule_45 (fun x9 ex9 => ?_)
      replace h := cz_rdK ex9 h
      refine lv_istore (lv' := [(4, .int x9), (3, .int x3), (0, .ref a_o), (1, .int w1), (2, .int w2)]) hx hb dX6_rule_46 hl (by decide) rfl (fun ls hl => ?_)
      refine lv_aload_n hx hb dX6_rule_48 rfl (lv_at hl 2 rfl) ?_
      refine va_get (D := D) (ci := 6) (v := .ref a_o_s) (C := RX6) (T := TX6) (N := 20) hx hb hts in_X6 hown hK hP 0 rfl rfl 1 (by decide) (hts _ mw_3_187) (fun _ h9 => h9) rfl dX6_rule_49 ?_
      refine lv_iconst (v := (2 : Int32)) hx hb dX6_rule_52 (by decide) ?_
      refine lv_iload_n hx hb dX6_rule_53 rfl (lv_at hl 3 rfl) ?_
      refine lv_iadd hx hb dX6_rule_54 ?_
      refine lv_iload_n hx hb dX6_rule_55 rfl (lv_at hl 4 rfl) ?_
      refine cz_iast hx hb hK hP hD hS 2 0 rfl rfl (cz_wrE h).1 dX6_rule_56 (fun g10 H locs eg10 hP hD hS => ?_)
      replace h := cz_wrK eg10 h
      replace hP : va_P D vwCl [oX6 a_o a_o_refusals a_o_s a_o_image v_o_isImage a_o_tape a_o_read v_o_taped v_o_pos v_o_readWide v_o_readHigh a_o_innerOf a_o_whoseOf a_o_nearOf a_o_fromOf v_o_thirds a_o_pieceOf a_o_kept a_o_claimOf a_o_row v_o_rowed, aI cI a_o_refusals 7 f_o_refusals, aI cI a_o_s 151 g10] H := hP
      replace hD : va_D A [oX6 a_o a_o_refusals a_o_s a_o_image v_o_isImage a_o_tape a_o_read v_o_taped v_o_pos v_o_readWide v_o_readHigh a_o_innerOf a_o_whoseOf a_o_nearOf a_o_fromOf v_o_thirds a_o_pieceOf a_o_kept a_o_claimOf a_o_row v_o_rowed, aI cI a_o_refusals 7 f_o_refusals, aI cI a_o_s 151 g10] := hD
      refine lv_iload hx hb dX6_rule_57 (lv_at hl 0 rfl) ?_
      obtain ⟨rfl, rfl, rfl⟩ := cz_j3 (cz_i h)
      exact hQ _ _ _ _ hP hS dX6_rule_59
    · replace h := cz_f c8 h
      refine lv_ldc (v := (1000000000 : Int32)) hx hb hown (hts _ mw_4_63) dX6_rule_29 ?_
      refine lv_aload_n hx hb dX6_rule_31 rfl (lv_at hl 1 rfl) ?_
      refine lv_iload_n hx hb dX6_rule_32 rfl (lv_at hl 0 rfl) ?_
      obtain ⟨x11, g12, hc13, h⟩ := cz_e2 h
      refine cz_callV (As := [.int x3]) (rest := [.int (1000000000 : Int32)]) (is := [0, 1]) (isR := [2]) (rs := [aI cI a_o_s 151 f_o_s]) (as := [a_o, a_o_refusals, a_o_s]) (ws1 := [oX6 a_o a_o_refusals a_o_s a_o_image v_o_isImage a_o_tape a_o_read v_o_taped v_o_pos v_o_readWide v_o_readHigh a_o_innerOf a_o_whoseOf a_o_nearOf a_o_fromOf v_o_thirds a_o_pieceOf a_o_kept a_o_claimOf a_o_row v_o_rowed, aI cI a_o_refusals 7 g12, aI cI a_o_s 151 f_o_s]) (q0 := 0) (ci := 6) ⟨hx, hb, hml, hown, hts⟩ (c_X6_refuse l D cI a_o a_o_refusals a_o_s a_o_image a_o_tape a_o_read a_o_innerOf a_o_whoseOf a_o_nearOf a_o_fromOf a_o_pieceOf a_o_kept a_o_claimOf a_o_row v_o_isImage v_o_taped v_o_pos v_o_readWide v_o_readHigh v_o_thirds v_o_rowed f_o_refusals x3 n x11 g12 hc13) mw_4_11 mw_4_13 mw_p_10 mw_1_8 mw_4_14 hd_X6_refuse ⟨Nat.le_of_ble_eq_true rfl, Nat.le_of_ble_eq_true rfl⟩ hK hN hP hD hS rfl rfl rfl rfl rfl rfl rfl rfl rfl rfl rfl rfl hl.1 rfl (Nat.le_of_ble_eq_true rfl) dX6_rule_33 ⟨Nat.le_of_ble_eq_true rfl, Nat.le_of_ble_eq_true rfl⟩ (fun H locs hP hD hS => ?_)
      refine W.eq (g2 := F0 m 36 ls [.int x11, .int (1000000000 : Int32)]) rfl ?_
      refine lv_isub hx hb dX6_rule_36 ?_
      obtain ⟨rfl, rfl, rfl⟩ := cz_j3 (cz_i h)
      exact hQ _ _ _ _ hP hS dX6_rule_37
  clear h
  have h := hE5
  refine lv_if_eq (tgt := 23) hx hb dX6_rule_5 (by decide) (fun c14 => ?_) (fun c14 => ?_)
  · replace h := cz_t c14 h
    refine lv_iconst (v := (-1 : Int32)) hx hb dX6_rule_23 (by decide) ?_
    exact hJ6 _ _ _ _ (cz_i h).symm hP hD hS (lv_sub hl [0, 1, 2] rfl)
  · replace h := cz_f c14 h
    refine lv_iload_n hx hb dX6_rule_8 rfl (lv_at hl 2 rfl) ?_
    refine lv_iload_n hx hb dX6_rule_9 rfl (lv_at hl 1 rfl) ?_
    obtain ⟨x15, hc16, h⟩ := cz_e1 h
    refine cz_callS (As := [.int w1]) (rest := [.int w2]) (is := []) (isR := [0, 1, 2]) (rs := [oX6 a_o a_o_refusals a_o_s a_o_image v_o_isImage a_o_tape a_o_read v_o_taped v_o_pos v_o_readWide v_o_readHigh a_o_innerOf a_o_whoseOf a_o_nearOf a_o_fromOf v_o_thirds a_o_pieceOf a_o_kept a_o_claimOf a_o_row v_o_rowed, aI cI a_o_refusals 7 f_o_refusals, aI cI a_o_s 151 f_o_s]) (as := [a_o, a_o_refusals, a_o_s]) (ws1 := [oX6 a_o a_o_refusals a_o_s a_o_image v_o_isImage a_o_tape a_o_read v_o_taped v_o_pos v_o_readWide v_o_readHigh a_o_innerOf a_o_whoseOf a_o_nearOf a_o_fromOf v_o_thirds a_o_pieceOf a_o_kept a_o_claimOf a_o_row v_o_rowed, aI cI a_o_refusals 7 f_o_refusals, aI cI a_o_s 151 f_o_s]) ⟨hx, hb, hml, hown, hts⟩ (c_X6_least l D cI   w1 n x15 hc16) mw_4_54 mw_4_55 mw_1_8 mw_4_56 hd_X6_least ⟨Nat.le_of_ble_eq_true rfl, Nat.le_of_ble_eq_true rfl⟩ hK hN hP hD hS rfl rfl rfl rfl rfl rfl rfl rfl rfl hl.1 rfl (Nat.le_of_ble_eq_true rfl) dX6_rule_10 ⟨Nat.le_of_ble_eq_true rfl, Nat.le_of_ble_eq_true rfl⟩ (fun H locs hP hD hS => ?_)
    refine W.eq (g2 := F0 m 13 ls [.int x15, .int w2]) rfl ?_
    refine lv_iload_n hx hb dX6_rule_13 rfl (lv_at hl 1 rfl) ?_
    obtain ⟨x17, hc18, h⟩ := cz_e1 h
    refine cz_callS (As := [.int w1]) (rest := [.int x15, .int w2]) (is := []) (isR := [0, 1, 2]) (rs := [oX6 a_o a_o_refusals a_o_s a_o_image v_o_isImage a_o_tape a_o_read v_o_taped v_o_pos v_o_readWide v_o_readHigh a_o_innerOf a_o_whoseOf a_o_nearOf a_o_fromOf v_o_thirds a_o_pieceOf a_o_kept a_o_claimOf a_o_row v_o_rowed, aI cI a_o_refusals 7 f_o_refusals, aI cI a_o_s 151 f_o_s]) (as := [a_o, a_o_refusals, a_o_s]) (ws1 := [oX6 a_o a_o_refusals a_o_s a_o_image v_o_isImage a_o_tape a_o_read v_o_taped v_o_pos v_o_readWide v_o_readHigh a_o_innerOf a_o_whoseOf a_o_nearOf a_o_fromOf v_o_thirds a_o_pieceOf a_o_kept a_o_claimOf a_o_row v_o_rowed, aI cI a_o_refusals 7 f_o_refusals, aI cI a_o_s 151 f_o_s]) ⟨hx, hb, hml, hown, hts⟩ (c_X6_most l D cI   w1 n x17 hc18) mw_4_57 mw_4_58 mw_1_8 mw_4_59 hd_X6_most ⟨Nat.le_of_ble_eq_true rfl, Nat.le_of_ble_eq_true rfl⟩ hK hN hP hD hS rfl rfl rfl rfl rfl rfl rfl rfl rfl hl.1 rfl (Nat.le_of_ble_eq_true rfl) dX6_rule_14 ⟨Nat.le_of_ble_eq_true rfl, Nat.le_of_ble_eq_true rfl⟩ (fun H locs hP hD hS => ?_)
    refine W.eq (g2 := F0 m 17 ls [.int x17, .int x15, .int w2]) rfl ?_
    obtain ⟨x19, hc20, h⟩ := cz_e1 h
    refine cz_callS (As := [.int w2, .int x15, .int x17]) (rest := []) (is := []) (isR := [0, 1, 2]) (rs := [oX6 a_o a_o_refusals a_o_s a_o_image v_o_isImage a_o_tape a_o_read v_o_taped v_o_pos v_o_readWide v_o_readHigh a_o_innerOf a_o_whoseOf a_o_nearOf a_o_fromOf v_o_thirds a_o_pieceOf a_o_kept a_o_claimOf a_o_row v_o_rowed, aI cI a_o_refusals 7 f_o_refusals, aI cI a_o_s 151 f_o_s]) (as := [a_o, a_o_refusals, a_o_s]) (ws1 := [oX6 a_o a_o_refusals a_o_s a_o_image v_o_isImage a_o_tape a_o_read v_o_taped v_o_pos v_o_readWide v_o_readHigh a_o_innerOf a_o_whoseOf a_o_nearOf a_o_fromOf v_o_thirds a_o_pieceOf a_o_kept a_o_claimOf a_o_row v_o_rowed, aI cI a_o_refusals 7 f_o_refusals, aI cI a_o_s 151 f_o_s]) ⟨hx, hb, hml, hown, hts⟩ (c_X6_within l D cI   w2 x15 x17 n x19 hc20) mw_4_60 mw_4_61 mw_1_8 mw_4_62 hd_X6_within ⟨Nat.le_of_ble_eq_true rfl, Nat.le_of_ble_eq_true rfl⟩ hK hN hP hD hS rfl rfl rfl rfl rfl rfl rfl rfl rfl hl.1 rfl (Nat.le_of_ble_eq_true rfl) dX6_rule_17 ⟨Nat.le_of_ble_eq_true rfl, Nat.le_of_ble_eq_true rfl⟩ (fun H locs hP hD hS => ?_)
    refine W.eq (g2 := F0 m 20 ls [.int x19]) rfl ?_
    refine lv_goto (tgt := 24) hx hb dX6_rule_20 (by decide) ?_
    exact hJ6 _ _ _ _ (cz_i h).symm hP hD hS (lv_sub hl [0, 1, 2] rfl)
set_option maxHeartbeats 4000000 in
set_option maxRecDepth 100000 in
theorem c_X6_shoreFrom (l : Launch) (D : va_G) (cI : ClassId) (a_o a_o_s a_o_refusals a_o_image a_o_tape a_o_read a_o_innerOf a_o_whoseOf a_o_nearOf a_o_fromOf a_o_pieceOf a_o_kept a_o_claimOf a_o_row : Nat) (v_o_isImage : Int32) (v_o_taped : Int32) (v_o_pos : Int32) (v_o_readWide : Int32) (v_o_readHigh : Int32) (v_o_thirds : Int32) (v_o_rowed : Int32) (f_o_s : (Nat → Int32)) (w1 : Int32) (w2 : Int32) (w3 : Int32) (n : Nat) (r : Int32) (h : f_X6_shoreFrom n f_o_s w1 w2 w3 = some r) : cz_M l yX6_shoreFrom cX6_shoreFrom 7 (some .int) 1 21 D cI [.ref a_o, .int w1, .int w2, .int w3] [oX6 a_o a_o_refusals a_o_s a_o_image v_o_isImage a_o_tape a_o_read v_o_taped v_o_pos v_o_readWide v_o_readHigh a_o_innerOf a_o_whoseOf a_o_nearOf a_o_fromOf v_o_thirds a_o_pieceOf a_o_kept a_o_claimOf a_o_row v_o_rowed, aI cI a_o_s 151 f_o_s] (some (.int r)) [oX6 a_o a_o_refusals a_o_s a_o_image v_o_isImage a_o_tape a_o_read v_o_taped v_o_pos v_o_readWide v_o_readHigh a_o_innerOf a_o_whoseOf a_o_nearOf a_o_fromOf v_o_thirds a_o_pieceOf a_o_kept a_o_claimOf a_o_row v_o_rowed, aI cI a_o_s 151 f_o_s] := by
  refine cz_startI (by decide) (Nat.le_of_ble_eq_true rfl) ?_
  intro p e s m ag below meth c A Q hx hb hml hown hts hK hN hQ H locs hP hD hS ls hl
  replace hown : s.vm.findClass RX6 = some m.cls := hown
  replace hl : lv_has ls 7 [(0, .ref a_o), (1, .int w1), (2, .int w2), (3, .int w3)] := hl
  unfold f_X6_shoreFrom at h
  refine lv_iload_n hx hb dX6_shoreFrom_0 rfl (lv_at hl 1 rfl) ?_
  refine lv_aload_n hx hb dX6_shoreFrom_1 rfl (lv_at hl 0 rfl) ?_
  refine va_get (D := D) (ci := 6) (v := .ref a_o_s) (C := RX6) (T := TX6) (N := 20) hx hb hts in_X6 hown hK hP 0 rfl rfl 1 (by decide) (hts _ mw_3_187) (fun _ h9 => h9) rfl dX6_shoreFrom_2 ?_
  refine lv_iconst (v := (0 : Int32)) hx hb dX6_shoreFrom_5 (by decide) ?_
  refine cz_iald hx hb hK hP 1 0 rfl rfl (cz_rdE h).1 dX6_shoreFrom_6 (fun x1 ex1 => ?_)
  replace h := cz_rdK ex1 h
  refine lv_irem hx hb dX6_shoreFrom_7 (cz_nzE h).1 ?_
  replace h := (cz_nzE h).2
  refine lv_iload_n hx hb dX6_shoreFrom_8 rfl (lv_at hl 2 rfl) ?_
  refine lv_iadd hx hb dX6_shoreFrom_9 ?_
  refine lv_topi (fun x2 ex2 => ?_)
  replace h := cz_ltE ex2 h
  refine lv_istore (lv' := [(4, .int x2), (0, .ref a_o), (1, .int w1), (2, .int w2), (3, .int w3)]) hx hb dX6_shoreFrom_10 hl (by decide) rfl (fun ls hl => ?_)
  refine lv_iload_n hx hb dX6_shoreFrom_12 rfl (lv_at hl 2 rfl) ?_
  refine lv_aload_n hx hb dX6_shoreFrom_13 rfl (lv_at hl 1 rfl) ?_
  refine va_get (D := D) (ci := 6) (v := .ref a_o_s) (C := RX6) (T := TX6) (N := 20) hx hb hts in_X6 hown hK hP 0 rfl rfl 1 (by decide) (hts _ mw_3_187) (fun _ h9 => h9) rfl dX6_shoreFrom_14 ?_
  refine lv_iconst (v := (0 : Int32)) hx hb dX6_shoreFrom_17 (by decide) ?_
  refine cz_iald hx hb hK hP 1 0 rfl rfl (cz_rdE h).1 dX6_shoreFrom_18 (fun x3 ex3 => ?_)
  replace h := cz_rdK ex3 h
  refine lv_idiv hx hb dX6_shoreFrom_19 (cz_nzE h).1 ?_
  replace h := (cz_nzE h).2
  refine lv_iload_n hx hb dX6_shoreFrom_20 rfl (lv_at hl 4 rfl) ?_
  refine lv_iadd hx hb dX6_shoreFrom_21 ?_
  refine lv_topi (fun x4 ex4 => ?_)
  replace h := cz_ltE ex4 h
  refine lv_istore (lv' := [(5, .int x4), (4, .int x2), (0, .ref a_o), (1, .int w1), (2, .int w2), (3, .int w3)]) hx hb dX6_shoreFrom_22 hl (by decide) rfl (fun ls hl => ?_)
  obtain ⟨z7, hE8, hR12, hz9⟩ := cz_y2 h
  have hX10 : ∀ (y13 : Int32) (y14 : Int32) (H : Heap) (locs : List Loc) (ls : Array Slot), z7 = Sum.inr (y13, y14) → va_P D vwCl [oX6 a_o a_o_refusals a_o_s a_o_image v_o_isImage a_o_tape a_o_read v_o_taped v_o_pos v_o_readWide v_o_readHigh a_o_innerOf a_o_whoseOf a_o_nearOf a_o_fromOf v_o_thirds a_o_pieceOf a_o_kept a_o_claimOf a_o_row v_o_rowed, aI cI a_o_s 151 f_o_s] H → va_D A [oX6 a_o a_o_refusals a_o_s a_o_image v_o_isImage a_o_tape a_o_read v_o_taped v_o_pos v_o_readWide v_o_readHigh a_o_innerOf a_o_whoseOf a_o_nearOf a_o_fromOf v_o_thirds a_o_pieceOf a_o_kept a_o_claimOf a_o_row v_o_rowed, aI cI a_o_s 151 f_o_s] → va_S A s.heap H locs → lv_has ls 7 [] → W p l e (cz_rm 1 21) s m ag below meth c H locs 0 0 Q (F0 m 97 ls []) := by
    intro y13 y14 H locs ls h hP hD hS hl
    replace h := hz9 _ _ h
    refine lv_bipush (v := (-9 : Int32)) hx hb dX6_shoreFrom_97 (by decide) ?_
    obtain rfl := cz_i h
    exact hQ _ _ _ _ hP hS dX6_shoreFrom_99
  clear h
  have hL11 : ∀ (k : Nat) (x5 : Int32) (x6 : Int32) (H : Heap) (locs : List Loc) (ls : Array Slot), f_X6_shoreFrom_L24 n f_o_s w2 w3 k x5 x6 = some z7 → va_P D vwCl [oX6 a_o a_o_refusals a_o_s a_o_image v_o_isImage a_o_tape a_o_read v_o_taped v_o_pos v_o_readWide v_o_readHigh a_o_innerOf a_o_whoseOf a_o_nearOf a_o_fromOf v_o_thirds a_o_pieceOf a_o_kept a_o_claimOf a_o_row v_o_rowed, aI cI a_o_s 151 f_o_s] H → va_D A [oX6 a_o a_o_refusals a_o_s a_o_image v_o_isImage a_o_tape a_o_read v_o_taped v_o_pos v_o_readWide v_o_readHigh a_o_innerOf a_o_whoseOf a_o_nearOf a_o_fromOf v_o_thirds a_o_pieceOf a_o_kept a_o_claimOf a_o_row v_o_rowed, aI cI a_o_s 151 f_o_s] → va_S A s.heap H locs → lv_has ls 7 [(0, .ref a_o), (2, .int w2), (3, .int w3), (4, .int x5), (5, .int x6)] → W p l e (cz_rm 1 21) s m ag below meth c H locs 0 0 Q (F0 m 24 ls []) := by
    intro k
    induction k with
    | zero =>
      intro x5 x6 H locs ls h
      rw [f_X6_shoreFrom_L24] at h
      cases h
    | succ k ih15 =>
      intro x5 x6 H locs ls h hP hD hS hl
      rw [f_X6_shoreFrom_L24] at h
      refine lv_iload hx hb dX6_shoreFrom_24 (lv_at hl 3 rfl) ?_
      refine lv_if_lt (tgt := 97) hx hb dX6_shoreFrom_26 (by decide) (fun c16 => ?_) (fun c16 => ?_)
      · replace h := cz_t c16 h
        exact hX10 _ _ _ _ _ (cz_i h).symm hP hD hS (lv_sub hl [] rfl)
      · replace h := cz_f c16 h
        refine lv_iload hx hb dX6_shoreFrom_29 (lv_at hl 3 rfl) ?_
        refine lv_aload_n hx hb dX6_shoreFrom_31 rfl (lv_at hl 0 rfl) ?_
        refine va_get (D := D) (ci := 6) (v := .ref a_o_s) (C := RX6) (T := TX6) (N := 20) hx hb hts in_X6 hown hK hP 0 rfl rfl 1 (by decide) (hts _ mw_3_187) (fun _ h9 => h9) rfl dX6_shoreFrom_32 ?_
        refine lv_iconst (v := (0 : Int32)) hx hb dX6_shoreFrom_35 (by decide) ?_
        refine cz_iald hx hb hK hP 1 0 rfl rfl (cz_rdE h).1 dX6_shoreFrom_36 (fun x17 ex17 => ?_)
        replace h := cz_rdK ex17 h
        refine lv_icmp_ge (tgt := 97) hx hb dX6_shoreFrom_37 (by decide) (fun c18 => ?_) (fun c18 => ?_)
        · replace h := cz_t c18 h
          exact hX10 _ _ _ _ _ (cz_i h).symm hP hD hS (lv_sub hl [] rfl)
        · replace h := cz_f c18 h
          refine lv_iload hx hb dX6_shoreFrom_40 (lv_at hl 4 rfl) ?_
          refine lv_if_lt (tgt := 97) hx hb dX6_shoreFrom_42 (by decide) (fun c19 => ?_) (fun c19 => ?_)
          · replace h := cz_t c19 h
            exact hX10 _ _ _ _ _ (cz_i h).symm hP hD hS (lv_sub hl [] rfl)
          · replace h := cz_f c19 h
            refine lv_iload hx hb dX6_shoreFrom_45 (lv_at hl 4 rfl) ?_
            refine lv_aload_n hx hb dX6_shoreFrom_47 rfl (lv_at hl 0 rfl) ?_
            refine va_get (D := D) (ci := 6) (v := .ref a_o_s) (C := RX6) (T := TX6) (N := 20) hx hb hts in_X6 hown hK hP 0 rfl rfl 1 (by decide) (hts _ mw_3_187) (fun _ h9 => h9) rfl dX6_shoreFrom_48 ?_
            refine lv_iconst (v := (1 : Int32)) hx hb dX6_shoreFrom_51 (by decide) ?_
            refine cz_iald hx hb hK hP 1 0 rfl rfl (cz_rdE h).1 dX6_shoreFrom_52 (fun x20 ex20 => ?_)
            replace h := cz_rdK ex20 h
            refine lv_icmp_ge (tgt := 97) hx hb dX6_shoreFrom_53 (by decide) (fun c21 => ?_) (fun c21 => ?_)
            · replace h := cz_t c21 h
              exact hX10 _ _ _ _ _ (cz_i h).symm hP hD hS (lv_sub hl [] rfl)
            · replace h := cz_f c21 h
              refine lv_iload hx hb dX6_shoreFrom_56 (lv_at hl 4 rfl) ?_
              refine lv_aload_n hx hb dX6_shoreFrom_58 rfl (lv_at hl 0 rfl) ?_
              refine va_get (D := D) (ci := 6) (v := .ref a_o_s) (C := RX6) (T := TX6) (N := 20) hx hb hts in_X6 hown hK hP 0 rfl rfl 1 (by decide) (hts _ mw_3_187) (fun _ h9 => h9) rfl dX6_shoreFrom_59 ?_
              refine lv_iconst (v := (0 : Int32)) hx hb dX6_shoreFrom_62 (by decide) ?_
              refine cz_iald hx hb hK hP 1 0 rfl rfl (cz_rdE h).1 dX6_shoreFrom_63 (fun x22 ex22 => ?_)
              replace h := cz_rdK ex22 h
              refine lv_imul hx hb dX6_shoreFrom_64 ?_
              refine lv_iload hx hb dX6_shoreFrom_65 (lv_at hl 3 rfl) ?_
              refine lv_iadd hx hb dX6_shoreFrom_67 ?_
              refine lv_topi (fun x23 ex23 => ?_)
              replace h := cz_ltE ex23 h
              refine lv_istore (lv' := [(6, .int x23), (0, .ref a_o), (2, .int w2), (3, .int w3), (4, .int x5), (5, .int x6)]) hx hb dX6_shoreFrom_68 hl (by decide) rfl (fun ls hl => ?_)
              refine lv_aload_n hx hb dX6_shoreFrom_70 rfl (lv_at hl 1 rfl) ?_
              refine lv_iload hx hb dX6_shoreFrom_71 (lv_at hl 0 rfl) ?_
              obtain ⟨x24, hc25, h⟩ := cz_e1 h
              refine cz_callV (As := [.int x23]) (rest := []) (is := [0, 1]) (isR := []) (rs := []) (as := [a_o, a_o_s]) (ws1 := [oX6 a_o a_o_refusals a_o_s a_o_image v_o_isImage a_o_tape a_o_read v_o_taped v_o_pos v_o_readWide v_o_readHigh a_o_innerOf a_o_whoseOf a_o_nearOf a_o_fromOf v_o_thirds a_o_pieceOf a_o_kept a_o_claimOf a_o_row v_o_rowed, aI cI a_o_s 151 f_o_s]) (q0 := 0) (ci := 6) ⟨hx, hb, hml, hown, hts⟩ (c_X6_at l D cI a_o a_o_s a_o_refusals a_o_image a_o_tape a_o_read a_o_innerOf a_o_whoseOf a_o_nearOf a_o_fromOf a_o_pieceOf a_o_kept a_o_claimOf a_o_row v_o_isImage v_o_taped v_o_pos v_o_readWide v_o_readHigh v_o_thirds v_o_rowed f_o_s x23 n x24 hc25) mw_4_43 mw_4_45 mw_p_15 mw_1_8 mw_4_46 hd_X6_at ⟨Nat.le_of_ble_eq_true rfl, Nat.le_of_ble_eq_true rfl⟩ hK hN hP hD hS rfl rfl rfl rfl rfl rfl rfl rfl rfl rfl rfl rfl hl.1 rfl (Nat.le_of_ble_eq_true rfl) dX6_shoreFrom_73 ⟨Nat.le_of_ble_eq_true rfl, Nat.le_of_ble_eq_true rfl⟩ (fun H locs hP hD hS => ?_)
              refine W.eq (g2 := F0 m 76 ls [.int x24]) rfl ?_
              refine lv_if_eq (tgt := 82) hx hb dX6_shoreFrom_76 (by decide) (fun c26 => ?_) (fun c26 => ?_)
              · replace h := cz_t c26 h
                refine lv_iload hx hb dX6_shoreFrom_82 (lv_at hl 4 rfl) ?_
                refine lv_iload_n hx hb dX6_shoreFrom_84 rfl (lv_at hl 2 rfl) ?_
                refine lv_iadd hx hb dX6_shoreFrom_85 ?_
                refine lv_topi (fun x27 ex27 => ?_)
                replace h := cz_ltE ex27 h
                refine lv_istore (lv' := [(4, .int x27), (6, .int x23), (0, .ref a_o), (2, .int w2), (3, .int w3), (5, .int x6)]) hx hb dX6_shoreFrom_86 hl (by decide) rfl (fun ls hl => ?_)
                refine lv_iload hx hb dX6_shoreFrom_88 (lv_at hl 5 rfl) ?_
                refine lv_iload_n hx hb dX6_shoreFrom_90 rfl (lv_at hl 4 rfl) ?_
                refine lv_iadd hx hb dX6_shoreFrom_91 ?_
                refine lv_topi (fun x28 ex28 => ?_)
                replace h := cz_ltE ex28 h
                refine lv_istore (lv' := [(5, .int x28), (4, .int x27), (6, .int x23), (0, .ref a_o), (2, .int w2), (3, .int w3)]) hx hb dX6_shoreFrom_92 hl (by decide) rfl (fun ls hl => ?_)
                refine lv_goto (tgt := 24) hx hb dX6_shoreFrom_94 (by decide) ?_
                exact ih15 _ _ _ _ _ h hP hD hS (lv_sub hl [3, 4, 5, 1, 0] rfl)
              · replace h := cz_f c26 h
                refine lv_iload hx hb dX6_shoreFrom_79 (lv_at hl 0 rfl) ?_
                replace h := hR12 _ (cz_i h).symm
                obtain rfl := cz_i h
                exact hQ _ _ _ _ hP hS dX6_shoreFrom_81
  exact hL11 n _ _ _ _ _ hE8 hP hD hS (lv_sub hl [2, 4, 5, 1, 0] rfl)
set_option maxHeartbeats 4000000 in
set_option maxRecDepth 100000 in
theorem c_X6_isClosed (l : Launch) (D : va_G) (cI : ClassId) (a_o a_o_s a_o_refusals a_o_image a_o_tape a_o_read a_o_innerOf a_o_whoseOf a_o_nearOf a_o_fromOf a_o_pieceOf a_o_kept a_o_claimOf a_o_row : Nat) (v_o_isImage : Int32) (v_o_taped : Int32) (v_o_pos : Int32) (v_o_readWide : Int32) (v_o_readHigh : Int32) (v_o_thirds : Int32) (v_o_rowed : Int32) (f_o_s : (Nat → Int32)) (w1 : Int32) (w2 : Int32) (w3 : Int32) (w4 : Int32) (n : Nat) (r : Int32) (h : f_X6_isClosed n f_o_s w1 w2 w3 w4 = some r) : cz_M l yX6_isClosed cX6_isClosed 7 (some .boolean) 2 47 D cI [.ref a_o, .int w1, .int w2, .int w3, .int w4] [oX6 a_o a_o_refusals a_o_s a_o_image v_o_isImage a_o_tape a_o_read v_o_taped v_o_pos v_o_readWide v_o_readHigh a_o_innerOf a_o_whoseOf a_o_nearOf a_o_fromOf v_o_thirds a_o_pieceOf a_o_kept a_o_claimOf a_o_row v_o_rowed, aI cI a_o_s 151 f_o_s] (some (.int r)) [oX6 a_o a_o_refusals a_o_s a_o_image v_o_isImage a_o_tape a_o_read v_o_taped v_o_pos v_o_readWide v_o_readHigh a_o_innerOf a_o_whoseOf a_o_nearOf a_o_fromOf v_o_thirds a_o_pieceOf a_o_kept a_o_claimOf a_o_row v_o_rowed, aI cI a_o_s 151 f_o_s] := by
  refine cz_startZ (by decide) (Nat.le_of_ble_eq_true rfl) ?_
  intro p e s m ag below meth c A Q hx hb hml hown hts hK hN hQ H locs hP hD hS ls hl
  replace hown : s.vm.findClass RX6 = some m.cls := hown
  replace hl : lv_has ls 7 [(0, .ref a_o), (1, .int w1), (2, .int w2), (3, .int w3), (4, .int w4)] := hl
  unfold f_X6_isClosed at h
  refine lv_aload_n hx hb dX6_isClosed_0 rfl (lv_at hl 0 rfl) ?_
  refine lv_iload_n hx hb dX6_isClosed_1 rfl (lv_at hl 1 rfl) ?_
  refine lv_iload_n hx hb dX6_isClosed_2 rfl (lv_at hl 2 rfl) ?_
  refine lv_ineg hx hb dX6_isClosed_3 ?_
  refine lv_iload_n hx hb dX6_isClosed_4 rfl (lv_at hl 3 rfl) ?_
  refine lv_ineg hx hb dX6_isClosed_5 ?_
  obtain ⟨x1, hc2, h⟩ := cz_e1 h
  refine cz_callV (As := [.int w1, .int (-w2), .int (-w3)]) (rest := []) (is := [0, 1]) (isR := []) (rs := []) (as := [a_o, a_o_s]) (ws1 := [oX6 a_o a_o_refusals a_o_s a_o_image v_o_isImage a_o_tape a_o_read v_o_taped v_o_pos v_o_readWide v_o_readHigh a_o_innerOf a_o_whoseOf a_o_nearOf a_o_fromOf v_o_thirds a_o_pieceOf a_o_kept a_o_claimOf a_o_row v_o_rowed, aI cI a_o_s 151 f_o_s]) (q0 := 0) (ci := 6) ⟨hx, hb, hml, hown, hts⟩ (c_X6_shoreFrom l D cI a_o a_o_s a_o_refusals a_o_image a_o_tape a_o_read a_o_innerOf a_o_whoseOf a_o_nearOf a_o_fromOf a_o_pieceOf a_o_kept a_o_claimOf a_o_row v_o_isImage v_o_taped v_o_pos v_o_readWide v_o_readHigh v_o_thirds v_o_rowed f_o_s w1 (-w2) (-w3) n x1 hc2) mw_4_80 mw_4_82 mw_p_19 mw_1_8 mw_4_83 hd_X6_shoreFrom ⟨Nat.le_of_ble_eq_true rfl, Nat.le_of_ble_eq_true rfl⟩ hK hN hP hD hS rfl rfl rfl rfl rfl rfl rfl rfl rfl rfl rfl rfl hl.1 rfl (Nat.le_of_ble_eq_true rfl) dX6_isClosed_6 ⟨Nat.le_of_ble_eq_true rfl, Nat.le_of_ble_eq_true rfl⟩ (fun H locs hP hD hS => ?_)
  refine W.eq (g2 := F0 m 9 ls [.int x1]) rfl ?_
  refine lv_istore (lv' := [(5, .int x1), (0, .ref a_o), (1, .int w1), (2, .int w2), (3, .int w3), (4, .int w4)]) hx hb dX6_isClosed_9 hl (by decide) rfl (fun ls hl => ?_)
  refine lv_aload_n hx hb dX6_isClosed_11 rfl (lv_at hl 1 rfl) ?_
  refine lv_iload_n hx hb dX6_isClosed_12 rfl (lv_at hl 2 rfl) ?_
  refine lv_iload_n hx hb dX6_isClosed_13 rfl (lv_at hl 3 rfl) ?_
  refine lv_iload_n hx hb dX6_isClosed_14 rfl (lv_at hl 4 rfl) ?_
  obtain ⟨x3, hc4, h⟩ := cz_e1 h
  refine cz_callV (As := [.int w1, .int w2, .int w3]) (rest := []) (is := [0, 1]) (isR := []) (rs := []) (as := [a_o, a_o_s]) (ws1 := [oX6 a_o a_o_refusals a_o_s a_o_image v_o_isImage a_o_tape a_o_read v_o_taped v_o_pos v_o_readWide v_o_readHigh a_o_innerOf a_o_whoseOf a_o_nearOf a_o_fromOf v_o_thirds a_o_pieceOf a_o_kept a_o_claimOf a_o_row v_o_rowed, aI cI a_o_s 151 f_o_s]) (q0 := 0) (ci := 6) ⟨hx, hb, hml, hown, hts⟩ (c_X6_shoreFrom l D cI a_o a_o_s a_o_refusals a_o_image a_o_tape a_o_read a_o_innerOf a_o_whoseOf a_o_nearOf a_o_fromOf a_o_pieceOf a_o_kept a_o_claimOf a_o_row v_o_isImage v_o_taped v_o_pos v_o_readWide v_o_readHigh v_o_thirds v_o_rowed f_o_s w1 w2 w3 n x3 hc4) mw_4_80 mw_4_82 mw_p_19 mw_1_8 mw_4_83 hd_X6_shoreFrom ⟨Nat.le_of_ble_eq_true rfl, Nat.le_of_ble_eq_true rfl⟩ hK hN hP hD hS rfl rfl rfl rfl rfl rfl rfl rfl rfl rfl rfl rfl hl.1 rfl (Nat.le_of_ble_eq_true rfl) dX6_isClosed_15 ⟨Nat.le_of_ble_eq_true rfl, Nat.le_of_ble_eq_true rfl⟩ (fun H locs hP hD hS => ?_)
  refine W.eq (g2 := F0 m 18 ls [.int x3]) rfl ?_
  refine lv_istore (lv' := [(6, .int x3), (5, .int x1), (0, .ref a_o), (1, .int w1), (2, .int w2), (3, .int w3), (4, .int w4)]) hx hb dX6_isClosed_18 hl (by decide) rfl (fun ls hl => ?_)
  refine lv_iload hx hb dX6_isClosed_20 (lv_at hl 1 rfl) ?_
  refine lv_if_lt (tgt := 56) hx hb dX6_isClosed_22 (by decide) (fun c5 => ?_) (fun c5 => ?_)
  · replace h := cz_t c5 h
    refine lv_iconst (v := (0 : Int32)) hx hb dX6_isClosed_56 (by decide) ?_
    obtain rfl := cz_i h
    exact hQ _ _ _ _ (by decide) hP hS dX6_isClosed_57
  · replace h := cz_f c5 h
    refine lv_iload hx hb dX6_isClosed_25 (lv_at hl 0 rfl) ?_
    refine lv_if_lt (tgt := 56) hx hb dX6_isClosed_27 (by decide) (fun c6 => ?_) (fun c6 => ?_)
    · replace h := cz_t c6 h
      refine lv_iconst (v := (0 : Int32)) hx hb dX6_isClosed_56 (by decide) ?_
      obtain rfl := cz_i h
      exact hQ _ _ _ _ (by decide) hP hS dX6_isClosed_57
    · replace h := cz_f c6 h
      refine lv_aload_n hx hb dX6_isClosed_30 rfl (lv_at hl 2 rfl) ?_
      refine lv_iload hx hb dX6_isClosed_31 (lv_at hl 1 rfl) ?_
      obtain ⟨x7, hc8, h⟩ := cz_e1 h
      refine cz_callV (As := [.int x1]) (rest := []) (is := [0, 1]) (isR := []) (rs := []) (as := [a_o, a_o_s]) (ws1 := [oX6 a_o a_o_refusals a_o_s a_o_image v_o_isImage a_o_tape a_o_read v_o_taped v_o_pos v_o_readWide v_o_readHigh a_o_innerOf a_o_whoseOf a_o_nearOf a_o_fromOf v_o_thirds a_o_pieceOf a_o_kept a_o_claimOf a_o_row v_o_rowed, aI cI a_o_s 151 f_o_s]) (q0 := 0) (ci := 6) ⟨hx, hb, hml, hown, hts⟩ (c_X6_at l D cI a_o a_o_s a_o_refusals a_o_image a_o_tape a_o_read a_o_innerOf a_o_whoseOf a_o_nearOf a_o_fromOf a_o_pieceOf a_o_kept a_o_claimOf a_o_row v_o_isImage v_o_taped v_o_pos v_o_readWide v_o_readHigh v_o_thirds v_o_rowed f_o_s x1 n x7 hc8) mw_4_43 mw_4_45 mw_p_15 mw_1_8 mw_4_46 hd_X6_at ⟨Nat.le_of_ble_eq_true rfl, Nat.le_of_ble_eq_true rfl⟩ hK hN hP hD hS rfl rfl rfl rfl rfl rfl rfl rfl rfl rfl rfl rfl hl.1 rfl (Nat.le_of_ble_eq_true rfl) dX6_isClosed_33 ⟨Nat.le_of_ble_eq_true rfl, Nat.le_of_ble_eq_true rfl⟩ (fun H locs hP hD hS => ?_)
      refine W.eq (g2 := F0 m 36 ls [.int x7]) rfl ?_
      refine lv_iload hx hb dX6_isClosed_36 (lv_at hl 6 rfl) ?_
      refine lv_iconst (v := (1 : Int32)) hx hb dX6_isClosed_38 (by decide) ?_
      refine lv_iadd hx hb dX6_isClosed_39 ?_
      refine lv_icmp_ne (tgt := 56) hx hb dX6_isClosed_40 (by decide) (fun c9 => ?_) (fun c9 => ?_)
      · replace h := cz_f c9 h
        refine lv_iconst (v := (0 : Int32)) hx hb dX6_isClosed_56 (by decide) ?_
        obtain rfl := cz_i h
        exact hQ _ _ _ _ (by decide) hP hS dX6_isClosed_57
      · replace h := cz_t c9 h
        refine lv_aload_n hx hb dX6_isClosed_43 rfl (lv_at hl 2 rfl) ?_
        refine lv_iload hx hb dX6_isClosed_44 (lv_at hl 0 rfl) ?_
        obtain ⟨x10, hc11, h⟩ := cz_e1 h
        refine cz_callV (As := [.int x3]) (rest := []) (is := [0, 1]) (isR := []) (rs := []) (as := [a_o, a_o_s]) (ws1 := [oX6 a_o a_o_refusals a_o_s a_o_image v_o_isImage a_o_tape a_o_read v_o_taped v_o_pos v_o_readWide v_o_readHigh a_o_innerOf a_o_whoseOf a_o_nearOf a_o_fromOf v_o_thirds a_o_pieceOf a_o_kept a_o_claimOf a_o_row v_o_rowed, aI cI a_o_s 151 f_o_s]) (q0 := 0) (ci := 6) ⟨hx, hb, hml, hown, hts⟩ (c_X6_at l D cI a_o a_o_s a_o_refusals a_o_image a_o_tape a_o_read a_o_innerOf a_o_whoseOf a_o_nearOf a_o_fromOf a_o_pieceOf a_o_kept a_o_claimOf a_o_row v_o_isImage v_o_taped v_o_pos v_o_readWide v_o_readHigh v_o_thirds v_o_rowed f_o_s x3 n x10 hc11) mw_4_43 mw_4_45 mw_p_15 mw_1_8 mw_4_46 hd_X6_at ⟨Nat.le_of_ble_eq_true rfl, Nat.le_of_ble_eq_true rfl⟩ hK hN hP hD hS rfl rfl rfl rfl rfl rfl rfl rfl rfl rfl rfl rfl hl.1 rfl (Nat.le_of_ble_eq_true rfl) dX6_isClosed_46 ⟨Nat.le_of_ble_eq_true rfl, Nat.le_of_ble_eq_true rfl⟩ (fun H locs hP hD hS => ?_)
        refine W.eq (g2 := F0 m 49 ls [.int x10]) rfl ?_
        refine lv_iload hx hb dX6_isClosed_49 (lv_at hl 6 rfl) ?_
        refine lv_iconst (v := (1 : Int32)) hx hb dX6_isClosed_51 (by decide) ?_
        refine lv_iadd hx hb dX6_isClosed_52 ?_
        refine lv_icmp_eq (tgt := 58) hx hb dX6_isClosed_53 (by decide) (fun c12 => ?_) (fun c12 => ?_)
        · replace h := cz_t c12 h
          refine lv_iload_n hx hb dX6_isClosed_58 rfl (lv_at hl 4 rfl) ?_
          refine lv_iconst (v := (1 : Int32)) hx hb dX6_isClosed_59 (by decide) ?_
          obtain ⟨z17, hE15, hz14⟩ := cz_x1 h
          have hJ16 : ∀ (x13 : Int32) (H : Heap) (locs : List Loc) (ls : Array Slot), z17 = x13 → va_P D vwCl [oX6 a_o a_o_refusals a_o_s a_o_image v_o_isImage a_o_tape a_o_read v_o_taped v_o_pos v_o_readWide v_o_readHigh a_o_innerOf a_o_whoseOf a_o_nearOf a_o_fromOf v_o_thirds a_o_pieceOf a_o_kept a_o_claimOf a_o_row v_o_rowed, aI cI a_o_s 151 f_o_s] H → va_D A [oX6 a_o a_o_refusals a_o_s a_o_image v_o_isImage a_o_tape a_o_read v_o_taped v_o_pos v_o_readWide v_o_readHigh a_o_innerOf a_o_whoseOf a_o_nearOf a_o_fromOf v_o_thirds a_o_pieceOf a_o_kept a_o_claimOf a_o_row v_o_rowed, aI cI a_o_s 151 f_o_s] → va_S A s.heap H locs → lv_has ls 7 [(0, .ref a_o)] → W p l e (cz_rm 2 47) s m ag below meth c H locs 0 0 Q (F0 m 83 ls [.int x13]) := by
            intro x13 H locs ls h hP hD hS hl
            replace h := hz14 _ h
            refine lv_iconst (v := (1 : Int32)) hx hb dX6_isClosed_83 (by decide) ?_
            refine lv_isub hx hb dX6_isClosed_84 ?_
            refine lv_aload_n hx hb dX6_isClosed_85 rfl (lv_at hl 0 rfl) ?_
            refine va_get (D := D) (ci := 6) (v := .ref a_o_s) (C := RX6) (T := TX6) (N := 20) hx hb hts in_X6 hown hK hP 0 rfl rfl 1 (by decide) (hts _ mw_3_187) (fun _ h9 => h9) rfl dX6_isClosed_86 ?_
            refine lv_iconst (v := (2 : Int32)) hx hb dX6_isClosed_89 (by decide) ?_
            refine cz_iald hx hb hK hP 1 0 rfl rfl (cz_rdE h).1 dX6_isClosed_90 (fun x18 ex18 => ?_)
            replace h := cz_rdK ex18 h
            refine lv_icmp_gt (tgt := 98) hx hb dX6_isClosed_91 (by decide) (fun c19 => ?_) (fun c19 => ?_)
            · replace h := cz_t c19 h
              refine lv_iconst (v := (0 : Int32)) hx hb dX6_isClosed_98 (by decide) ?_
              obtain rfl := cz_i h
              exact hQ _ _ _ _ (by decide) hP hS dX6_isClosed_99
            · replace h := cz_f c19 h
              refine lv_iconst (v := (1 : Int32)) hx hb dX6_isClosed_94 (by decide) ?_
              refine lv_goto (tgt := 99) hx hb dX6_isClosed_95 (by decide) ?_
              obtain rfl := cz_i h
              exact hQ _ _ _ _ (by decide) hP hS dX6_isClosed_99
          clear h
          have h := hE15
          refine lv_icmp_ne (tgt := 71) hx hb dX6_isClosed_60 (by decide) (fun c20 => ?_) (fun c20 => ?_)
          · replace h := cz_f c20 h
            refine lv_iload hx hb dX6_isClosed_71 (lv_at hl 0 rfl) ?_
            refine lv_iload hx hb dX6_isClosed_73 (lv_at hl 1 rfl) ?_
            refine lv_isub hx hb dX6_isClosed_75 ?_
            refine lv_aload_n hx hb dX6_isClosed_76 rfl (lv_at hl 2 rfl) ?_
            refine va_get (D := D) (ci := 6) (v := .ref a_o_s) (C := RX6) (T := TX6) (N := 20) hx hb hts in_X6 hown hK hP 0 rfl rfl 1 (by decide) (hts _ mw_3_187) (fun _ h9 => h9) rfl dX6_isClosed_77 ?_
            refine lv_iconst (v := (0 : Int32)) hx hb dX6_isClosed_80 (by decide) ?_
            refine cz_iald hx hb hK hP 1 0 rfl rfl (cz_rdE h).1 dX6_isClosed_81 (fun x21 ex21 => ?_)
            replace h := cz_rdK ex21 h
            refine lv_idiv hx hb dX6_isClosed_82 (cz_nzE h).1 ?_
            replace h := (cz_nzE h).2
            refine lv_topi (fun x22 ex22 => ?_)
            replace h := cz_ltE ex22 h
            exact hJ16 _ _ _ _ (cz_i h).symm hP hD hS (lv_sub hl [2] rfl)
          · replace h := cz_t c20 h
            refine lv_iload hx hb dX6_isClosed_63 (lv_at hl 0 rfl) ?_
            refine lv_iload hx hb dX6_isClosed_65 (lv_at hl 1 rfl) ?_
            refine lv_isub hx hb dX6_isClosed_67 ?_
            refine lv_goto (tgt := 83) hx hb dX6_isClosed_68 (by decide) ?_
            exact hJ16 _ _ _ _ (cz_i h).symm hP hD hS (lv_sub hl [2] rfl)
        · replace h := cz_f c12 h
          refine lv_iconst (v := (0 : Int32)) hx hb dX6_isClosed_56 (by decide) ?_
          obtain rfl := cz_i h
          exact hQ _ _ _ _ (by decide) hP hS dX6_isClosed_57
