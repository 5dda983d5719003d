set_option maxHeartbeats 4000000 in
set_option maxRecDepth 100000 in
theorem c_X6_closes (l : Launch) (D : va_G) (cI : ClassId) (a_o a_o_s a_o_refusals a_o_image a_o_tape a_o_read a_o_innerOf a_o_whoseOf a_o_nearOf a_o_fromOf a_o_pieceOf a_o_kept a_o_claimOf a_o_row : Nat) (v_o_isImage : Int32) (v_o_taped : Int32) (v_o_pos : Int32) (v_o_readWide : Int32) (v_o_readHigh : Int32) (v_o_thirds : Int32) (v_o_rowed : Int32) (f_o_s : (Nat → Int32)) (w1 : Int32) (n : Nat) (r_f_o_s : (Nat → Int32)) (h : f_X6_closes n f_o_s w1 = some r_f_o_s) : cz_M l yX6_closes cX6_closes 4 none 0 0 D cI [.ref a_o, .int w1] [oX6 a_o a_o_refusals a_o_s a_o_image v_o_isImage a_o_tape a_o_read v_o_taped v_o_pos v_o_readWide v_o_readHigh a_o_innerOf a_o_whoseOf a_o_nearOf a_o_fromOf v_o_thirds a_o_pieceOf a_o_kept a_o_claimOf a_o_row v_o_rowed, aI cI a_o_s 151 f_o_s] none [oX6 a_o a_o_refusals a_o_s a_o_image v_o_isImage a_o_tape a_o_read v_o_taped v_o_pos v_o_readWide v_o_readHigh a_o_innerOf a_o_whoseOf a_o_nearOf a_o_fromOf v_o_thirds a_o_pieceOf a_o_kept a_o_claimOf a_o_row v_o_rowed, aI cI a_o_s 151 r_f_o_s] := by
  refine cz_startV (by decide) (Nat.le_of_ble_eq_true rfl) ?_
  intro p e s m ag below meth c A Q hx hb hml hown hts hK hN hQ H locs hP hD hS ls hl
  replace hown : s.vm.findClass RX6 = some m.cls := hown
  replace hl : lv_has ls 4 [(0, .ref a_o), (1, .int w1)] := hl
  unfold f_X6_closes at h
  refine lv_iconst (v := (0 : Int32)) hx hb dX6_closes_0 (by decide) ?_
  refine lv_istore_n (lv' := [(2, .int (0 : Int32)), (0, .ref a_o), (1, .int w1)]) hx hb dX6_closes_1 rfl hl (by decide) rfl (fun ls hl => ?_)
  refine lv_iconst (v := (0 : Int32)) hx hb dX6_closes_2 (by decide) ?_
  refine lv_istore_n (lv' := [(3, .int (0 : Int32)), (2, .int (0 : Int32)), (0, .ref a_o), (1, .int w1)]) hx hb dX6_closes_3 rfl hl (by decide) rfl (fun ls hl => ?_)
  obtain ⟨z4, hE5, hz6⟩ := cz_x3 h
  have hX7 : ∀ (y10 : Int32) (y11 : Int32) (q12 : (Nat → Int32)) (H : Heap) (locs : List Loc) (ls : Array Slot), z4 = (y10, y11, q12) → va_P D vwCl [oX6 a_o a_o_refusals a_o_s a_o_image v_o_isImage a_o_tape a_o_read v_o_taped v_o_pos v_o_readWide v_o_readHigh a_o_innerOf a_o_whoseOf a_o_nearOf a_o_fromOf v_o_thirds a_o_pieceOf a_o_kept a_o_claimOf a_o_row v_o_rowed, aI cI a_o_s 151 q12] H → va_D A [oX6 a_o a_o_refusals a_o_s a_o_image v_o_isImage a_o_tape a_o_read v_o_taped v_o_pos v_o_readWide v_o_readHigh a_o_innerOf a_o_whoseOf a_o_nearOf a_o_fromOf v_o_thirds a_o_pieceOf a_o_kept a_o_claimOf a_o_row v_o_rowed, aI cI a_o_s 151 q12] → va_S A s.heap H locs → lv_has ls 4 [(0, .ref a_o), (2, .int y10)] → W p l e (cz_rm 0 0) s m ag below meth c H locs 0 0 Q (F0 m 90 ls []) := by
    intro y10 y11 q12 H locs ls h hP hD hS hl
    replace h := hz6 _ _ _ h
    refine lv_aload_n hx hb dX6_closes_90 rfl (lv_at hl 0 rfl) ?_
    refine va_get (D := D) (ci := 6) (v := .ref a_o_s) (C := RX6) (T := TX6) (N := 20) hx hb hts in_X6 hown hK hP 0 rfl rfl 1 (by decide) (hts _ mw_3_187) (fun _ h9 => h9) rfl dX6_closes_91 ?_
    refine lv_bipush (v := (6 : Int32)) hx hb dX6_closes_94 (by decide) ?_
    refine lv_iload_n hx hb dX6_closes_96 rfl (lv_at hl 1 rfl) ?_
    refine cz_iast hx hb hK hP hD hS 1 0 rfl rfl (cz_wrE h).1 dX6_closes_97 (fun g13 H locs eg13 hP hD hS => ?_)
    replace h := cz_wrK eg13 h
    replace hP : va_P D vwCl [oX6 a_o a_o_refusals a_o_s a_o_image v_o_isImage a_o_tape a_o_read v_o_taped v_o_pos v_o_readWide v_o_readHigh a_o_innerOf a_o_whoseOf a_o_nearOf a_o_fromOf v_o_thirds a_o_pieceOf a_o_kept a_o_claimOf a_o_row v_o_rowed, aI cI a_o_s 151 g13] H := hP
    replace hD : va_D A [oX6 a_o a_o_refusals a_o_s a_o_image v_o_isImage a_o_tape a_o_read v_o_taped v_o_pos v_o_readWide v_o_readHigh a_o_innerOf a_o_whoseOf a_o_nearOf a_o_fromOf v_o_thirds a_o_pieceOf a_o_kept a_o_claimOf a_o_row v_o_rowed, aI cI a_o_s 151 g13] := hD
    obtain rfl := cz_i h
    exact hQ _ _ _ _ hP hS dX6_closes_98
  clear h
  have hL8 : ∀ (k : Nat) (x1 : Int32) (x2 : Int32) (g3 : (Nat → Int32)) (H : Heap) (locs : List Loc) (ls : Array Slot), f_X6_closes_L4 n w1 k x1 x2 g3 = some z4 → va_P D vwCl [oX6 a_o a_o_refusals a_o_s a_o_image v_o_isImage a_o_tape a_o_read v_o_taped v_o_pos v_o_readWide v_o_readHigh a_o_innerOf a_o_whoseOf a_o_nearOf a_o_fromOf v_o_thirds a_o_pieceOf a_o_kept a_o_claimOf a_o_row v_o_rowed, aI cI a_o_s 151 g3] H → va_D A [oX6 a_o a_o_refusals a_o_s a_o_image v_o_isImage a_o_tape a_o_read v_o_taped v_o_pos v_o_readWide v_o_readHigh a_o_innerOf a_o_whoseOf a_o_nearOf a_o_fromOf v_o_thirds a_o_pieceOf a_o_kept a_o_claimOf a_o_row v_o_rowed, aI cI a_o_s 151 g3] → va_S A s.heap H locs → lv_has ls 4 [(0, .ref a_o), (1, .int w1), (2, .int x1), (3, .int x2)] → W p l e (cz_rm 0 0) s m ag below meth c H locs 0 0 Q (F0 m 4 ls []) := by
    intro k
    induction k with
    | zero =>
      intro x1 x2 g3 H locs ls h
      rw [f_X6_closes_L4] at h
      cases h
    | succ k ih14 =>
      intro x1 x2 g3 H locs ls h hP hD hS hl
      rw [f_X6_closes_L4] at h
      refine lv_iload_n hx hb dX6_closes_4 rfl (lv_at hl 3 rfl) ?_
      refine lv_aload_n hx hb dX6_closes_5 rfl (lv_at hl 0 rfl) ?_
      refine va_get (D := D) (ci := 6) (v := .ref a_o_s) (C := RX6) (T := TX6) (N := 20) hx hb hts in_X6 hown hK hP 0 rfl rfl 1 (by decide) (hts _ mw_3_187) (fun _ h9 => h9) rfl dX6_closes_6 ?_
      refine lv_bipush (v := (6 : Int32)) hx hb dX6_closes_9 (by decide) ?_
      refine cz_iald hx hb hK hP 1 0 rfl rfl (cz_rdE h).1 dX6_closes_11 (fun x15 ex15 => ?_)
      replace h := cz_rdK ex15 h
      refine lv_icmp_ge (tgt := 90) hx hb dX6_closes_12 (by decide) (fun c16 => ?_) (fun c16 => ?_)
      · replace h := cz_t c16 h
        exact hX7 _ _ _ _ _ _ (cz_i h).symm hP hD hS (lv_sub hl [0, 2] rfl)
      · replace h := cz_f c16 h
        refine lv_aload_n hx hb dX6_closes_15 rfl (lv_at hl 0 rfl) ?_
        refine va_get (D := D) (ci := 6) (v := .ref a_o_s) (C := RX6) (T := TX6) (N := 20) hx hb hts in_X6 hown hK hP 0 rfl rfl 1 (by decide) (hts _ mw_3_187) (fun _ h9 => h9) rfl dX6_closes_16 ?_
        refine lv_bipush (v := (127 : Int32)) hx hb dX6_closes_19 (by decide) ?_
        refine lv_iconst (v := (2 : Int32)) hx hb dX6_closes_21 (by decide) ?_
        refine lv_iload_n hx hb dX6_closes_22 rfl (lv_at hl 3 rfl) ?_
        refine lv_imul hx hb dX6_closes_23 ?_
        refine lv_iadd hx hb dX6_closes_24 ?_
        refine cz_iald hx hb hK hP 1 0 rfl rfl (cz_rdE h).1 dX6_closes_25 (fun x17 ex17 => ?_)
        replace h := cz_rdK ex17 h
        refine lv_iload_n hx hb dX6_closes_26 rfl (lv_at hl 1 rfl) ?_
        obtain ⟨z23, hE21, hz20⟩ := cz_x2 h
        have hJ22 : ∀ (x18 : Int32) (g19 : (Nat → Int32)) (H : Heap) (locs : List Loc) (ls : Array Slot), z23 = (x18, g19) → va_P D vwCl [oX6 a_o a_o_refusals a_o_s a_o_image v_o_isImage a_o_tape a_o_read v_o_taped v_o_pos v_o_readWide v_o_readHigh a_o_innerOf a_o_whoseOf a_o_nearOf a_o_fromOf v_o_thirds a_o_pieceOf a_o_kept a_o_claimOf a_o_row v_o_rowed, aI cI a_o_s 151 g19] H → va_D A [oX6 a_o a_o_refusals a_o_s a_o_image v_o_isImage a_o_tape a_o_read v_o_taped v_o_pos v_o_readWide v_o_readHigh a_o_innerOf a_o_whoseOf a_o_nearOf a_o_fromOf v_o_thirds a_o_pieceOf a_o_kept a_o_claimOf a_o_row v_o_rowed, aI cI a_o_s 151 g19] → va_S A s.heap H locs → lv_has ls 4 [(0, .ref a_o), (1, .int w1), (2, .int x18), (3, .int x2)] → W p l e (cz_rm 0 0) s m ag below meth c H locs 0 0 Q (F0 m 84 ls []) := by
          intro x18 g19 H locs ls h hP hD hS hl
          replace h := hz20 _ _ h
          obtain ⟨x24, ex24⟩ : ∃ z : Int32, z = x2 + (1 : Int32) := ⟨_, rfl⟩
          replace h := cz_ltE ex24 h
          refine lv_iinc (v := x24) (lv' := [(3, .int x24), (0, .ref a_o), (1, .int w1), (2, .int x18)]) hx hb dX6_closes_84 hl (k := 3) rfl (by rw [ex24]; rfl) (by decide) rfl (fun ls hl => ?_)
          refine lv_goto (tgt := 4) hx hb dX6_closes_87 (by decide) ?_
          exact ih14 _ _ _ _ _ _ h hP hD hS (lv_sub hl [1, 2, 3, 0] rfl)
        clear h
        have h := hE21
        refine lv_icmp_ne (tgt := 33) hx hb dX6_closes_27 (by decide) (fun c25 => ?_) (fun c25 => ?_)
        · replace h := cz_f c25 h
          refine lv_aload_n hx hb dX6_closes_33 rfl (lv_at hl 0 rfl) ?_
          refine va_get (D := D) (ci := 6) (v := .ref a_o_s) (C := RX6) (T := TX6) (N := 20) hx hb hts in_X6 hown hK hP 0 rfl rfl 1 (by decide) (hts _ mw_3_187) (fun _ h9 => h9) rfl dX6_closes_34 ?_
          refine lv_bipush (v := (127 : Int32)) hx hb dX6_closes_37 (by decide) ?_
          refine lv_iconst (v := (2 : Int32)) hx hb dX6_closes_39 (by decide) ?_
          refine lv_iload_n hx hb dX6_closes_40 rfl (lv_at hl 2 rfl) ?_
          refine lv_imul hx hb dX6_closes_41 ?_
          refine lv_iadd hx hb dX6_closes_42 ?_
          refine lv_aload_n hx hb dX6_closes_43 rfl (lv_at hl 0 rfl) ?_
          refine va_get (D := D) (ci := 6) (v := .ref a_o_s) (C := RX6) (T := TX6) (N := 20) hx hb hts in_X6 hown hK hP 0 rfl rfl 1 (by decide) (hts _ mw_3_187) (fun _ h9 => h9) rfl dX6_closes_44 ?_
          refine lv_bipush (v := (127 : Int32)) hx hb dX6_closes_47 (by decide) ?_
          refine lv_iconst (v := (2 : Int32)) hx hb dX6_closes_49 (by decide) ?_
          refine lv_iload_n hx hb dX6_closes_50 rfl (lv_at hl 3 rfl) ?_
          refine lv_imul hx hb dX6_closes_51 ?_
          refine lv_iadd hx hb dX6_closes_52 ?_
          refine cz_iald hx hb hK hP 1 0 rfl rfl (cz_rdE h).1 dX6_closes_53 (fun x26 ex26 => ?_)
          replace h := cz_rdK ex26 h
          refine cz_iast hx hb hK hP hD hS 1 0 rfl rfl (cz_wrE h).1 dX6_closes_54 (fun g27 H locs eg27 hP hD hS => ?_)
          replace h := cz_wrK eg27 h
          replace hP : va_P D vwCl [oX6 a_o a_o_refusals a_o_s a_o_image v_o_isImage a_o_tape a_o_read v_o_taped v_o_pos v_o_readWide v_o_readHigh a_o_innerOf a_o_whoseOf a_o_nearOf a_o_fromOf v_o_thirds a_o_pieceOf a_o_kept a_o_claimOf a_o_row v_o_rowed, aI cI a_o_s 151 g27] H := hP
          replace hD : va_D A [oX6 a_o a_o_refusals a_o_s a_o_image v_o_isImage a_o_tape a_o_read v_o_taped v_o_pos v_o_readWide v_o_readHigh a_o_innerOf a_o_whoseOf a_o_nearOf a_o_fromOf v_o_thirds a_o_pieceOf a_o_kept a_o_claimOf a_o_row v_o_rowed, aI cI a_o_s 151 g27] := hD
          refine lv_aload_n hx hb dX6_closes_55 rfl (lv_at hl 0 rfl) ?_
          refine va_get (D := D) (ci := 6) (v := .ref a_o_s) (C := RX6) (T := TX6) (N := 20) hx hb hts in_X6 hown hK hP 0 rfl rfl 1 (by decide) (hts _ mw_3_187) (fun _ h9 => h9) rfl dX6_closes_56 ?_
          refine lv_bipush (v := (127 : Int32)) hx hb dX6_closes_59 (by decide) ?_
          refine lv_iconst (v := (2 : Int32)) hx hb dX6_closes_61 (by decide) ?_
          refine lv_iload_n hx hb dX6_closes_62 rfl (lv_at hl 2 rfl) ?_
          refine lv_imul hx hb dX6_closes_63 ?_
          refine lv_iadd hx hb dX6_closes_64 ?_
          refine lv_iconst (v := (1 : Int32)) hx hb dX6_closes_65 (by decide) ?_
          refine lv_iadd hx hb dX6_closes_66 ?_
          refine lv_aload_n hx hb dX6_closes_67 rfl (lv_at hl 0 rfl) ?_
          refine va_get (D := D) (ci := 6) (v := .ref a_o_s) (C := RX6) (T := TX6) (N := 20) hx hb hts in_X6 hown hK hP 0 rfl rfl 1 (by decide) (hts _ mw_3_187) (fun _ h9 => h9) rfl dX6_closes_68 ?_
          refine lv_bipush (v := (127 : Int32)) hx hb dX6_closes_71 (by decide) ?_
          refine lv_iconst (v := (2 : Int32)) hx hb dX6_closes_73 (by decide) ?_
          refine lv_iload_n hx hb dX6_closes_74 rfl (lv_at hl 3 rfl) ?_
          refine lv_imul hx hb dX6_closes_75 ?_
          refine lv_iadd hx hb dX6_closes_76 ?_
          refine lv_iconst (v := (1 : Int32)) hx hb dX6_closes_77 (by decide) ?_
          refine lv_iadd hx hb dX6_closes_78 ?_
          refine cz_iald hx hb hK hP 1 0 rfl rfl (cz_rdE h).1 dX6_closes_79 (fun x28 ex28 => ?_)
          replace h := cz_rdK ex28 h
          refine cz_iast hx hb hK hP hD hS 1 0 rfl rfl (cz_wrE h).1 dX6_closes_80 (fun g29 H locs eg29 hP hD hS => ?_)
          replace h := cz_wrK eg29 h
          replace hP : va_P D vwCl [oX6 a_o a_o_refusals a_o_s a_o_image v_o_isImage a_o_tape a_o_read v_o_taped v_o_pos v_o_readWide v_o_readHigh a_o_innerOf a_o_whoseOf a_o_nearOf a_o_fromOf v_o_thirds a_o_pieceOf a_o_kept a_o_claimOf a_o_row v_o_rowed, aI cI a_o_s 151 g29] H := hP
          replace hD : va_D A [oX6 a_o a_o_refusals a_o_s a_o_image v_o_isImage a_o_tape a_o_read v_o_taped v_o_pos v_o_readWide v_o_readHigh a_o_innerOf a_o_whoseOf a_o_nearOf a_o_fromOf v_o_thirds a_o_pieceOf a_o_kept a_o_claimOf a_o_row v_o_rowed, aI cI a_o_s 151 g29] := hD
          obtain ⟨x30, ex30⟩ : ∃ z : Int32, z = x1 + (1 : Int32) := ⟨_, rfl⟩
          replace h := cz_ltE ex30 h
          refine lv_iinc (v := x30) (lv' := [(2, .int x30), (0, .ref a_o), (1, .int w1), (3, .int x2)]) hx hb dX6_closes_81 hl (k := 2) rfl (by rw [ex30]; rfl) (by decide) rfl (fun ls hl => ?_)
          exact hJ22 _ _ _ _ _ (cz_i h).symm hP hD hS (lv_sub hl [1, 2, 0, 3] rfl)
        · replace h := cz_t c25 h
          refine lv_goto (tgt := 84) hx hb dX6_closes_30 (by decide) ?_
          exact hJ22 _ _ _ _ _ (cz_i h).symm hP hD hS (lv_sub hl [0, 1, 2, 3] rfl)
  exact hL8 n _ _ _ _ _ _ hE5 hP hD hS (lv_sub hl [2, 3, 1, 0] rfl)
set_option maxHeartbeats 4000000 in
set_option maxRecDepth 100000 in
theorem c_X6_grow (l : Launch) (D : va_G) (cI : ClassId) (a_o a_o_refusals a_o_s a_o_image a_o_tape a_o_read a_o_innerOf a_o_whoseOf a_o_nearOf a_o_fromOf a_o_pieceOf a_o_kept a_o_claimOf a_o_row : Nat) (v_o_isImage : Int32) (v_o_taped : Int32) (v_o_pos : Int32) (v_o_readWide : Int32) (v_o_readHigh : Int32) (v_o_thirds : Int32) (v_o_rowed : Int32) (f_o_refusals : (Nat → Int32)) (f_o_s : (Nat → Int32)) (w1 : Int32) (w2 : Int32) (n : Nat) (r : Int32) (r_f_o_refusals : (Nat → Int32)) (r_f_o_s : (Nat → Int32)) (h : f_X6_grow n f_o_refusals f_o_s w1 w2 = some (r, r_f_o_refusals, r_f_o_s)) : cz_M l yX6_grow cX6_grow 4 (some .int) 1 23 D cI [.ref a_o, .int w1, .int w2] [oX6 a_o a_o_refusals a_o_s a_o_image v_o_isImage a_o_tape a_o_read v_o_taped v_o_pos v_o_readWide v_o_readHigh a_o_innerOf a_o_whoseOf a_o_nearOf a_o_fromOf v_o_thirds a_o_pieceOf a_o_kept a_o_claimOf a_o_row v_o_rowed, aI cI a_o_refusals 7 f_o_refusals, aI cI a_o_s 151 f_o_s] (some (.int r)) [oX6 a_o a_o_refusals a_o_s a_o_image v_o_isImage a_o_tape a_o_read v_o_taped v_o_pos v_o_readWide v_o_readHigh a_o_innerOf a_o_whoseOf a_o_nearOf a_o_fromOf v_o_thirds a_o_pieceOf a_o_kept a_o_claimOf a_o_row v_o_rowed, aI cI a_o_refusals 7 r_f_o_refusals, aI cI a_o_s 151 r_f_o_s] := by
  refine cz_startI (by decide) (Nat.le_of_ble_eq_true rfl) ?_
  intro p e s m ag below meth c A Q hx hb hml hown hts hK hN hQ H locs hP hD hS ls hl
  replace hown : s.vm.findClass RX6 = some m.cls := hown
  replace hl : lv_has ls 4 [(0, .ref a_o), (1, .int w1), (2, .int w2)] := hl
  unfold f_X6_grow at h
  refine lv_aload_n hx hb dX6_grow_0 rfl (lv_at hl 0 rfl) ?_
  refine lv_iload_n hx hb dX6_grow_1 rfl (lv_at hl 1 rfl) ?_
  obtain ⟨x1, hc2, h⟩ := cz_e1 h
  refine cz_callV (As := [.int w1]) (rest := []) (is := [0, 2]) (isR := [1]) (rs := [aI cI a_o_refusals 7 f_o_refusals]) (as := [a_o, a_o_refusals, a_o_s]) (ws1 := [oX6 a_o a_o_refusals a_o_s a_o_image v_o_isImage a_o_tape a_o_read v_o_taped v_o_pos v_o_readWide v_o_readHigh a_o_innerOf a_o_whoseOf a_o_nearOf a_o_fromOf v_o_thirds a_o_pieceOf a_o_kept a_o_claimOf a_o_row v_o_rowed, aI cI a_o_refusals 7 f_o_refusals, aI cI a_o_s 151 f_o_s]) (q0 := 0) (ci := 6) ⟨hx, hb, hml, hown, hts⟩ (c_X6_isCell l D cI a_o a_o_s a_o_refusals a_o_image a_o_tape a_o_read a_o_innerOf a_o_whoseOf a_o_nearOf a_o_fromOf a_o_pieceOf a_o_kept a_o_claimOf a_o_row v_o_isImage v_o_taped v_o_pos v_o_readWide v_o_readHigh v_o_thirds v_o_rowed f_o_s w1 n x1 hc2) mw_4_35 mw_4_37 mw_p_13 mw_1_8 mw_4_38 hd_X6_isCell ⟨Nat.le_of_ble_eq_true rfl, Nat.le_of_ble_eq_true rfl⟩ hK hN hP hD hS rfl rfl rfl rfl rfl rfl rfl rfl rfl rfl rfl rfl hl.1 rfl (Nat.le_of_ble_eq_true rfl) dX6_grow_2 ⟨Nat.le_of_ble_eq_true rfl, Nat.le_of_ble_eq_true rfl⟩ (fun H locs hP hD hS => ?_)
  refine W.eq (g2 := F0 m 5 ls [.int x1]) rfl ?_
  obtain ⟨z7, hE5, hz4⟩ := cz_x1 h
  have hJ6 : ∀ (x3 : Int32) (H : Heap) (locs : List Loc) (ls : Array Slot), z7 = x3 → va_P D vwCl [oX6 a_o a_o_refusals a_o_s a_o_image v_o_isImage a_o_tape a_o_read v_o_taped v_o_pos v_o_readWide v_o_readHigh a_o_innerOf a_o_whoseOf a_o_nearOf a_o_fromOf v_o_thirds a_o_pieceOf a_o_kept a_o_claimOf a_o_row v_o_rowed, aI cI a_o_refusals 7 f_o_refusals, aI cI a_o_s 151 f_o_s] H → va_D A [oX6 a_o a_o_refusals a_o_s a_o_image v_o_isImage a_o_tape a_o_read v_o_taped v_o_pos v_o_readWide v_o_readHigh a_o_innerOf a_o_whoseOf a_o_nearOf a_o_fromOf v_o_thirds a_o_pieceOf a_o_kept a_o_claimOf a_o_row v_o_rowed, aI cI a_o_refusals 7 f_o_refusals, aI cI a_o_s 151 f_o_s] → va_S A s.heap H locs → lv_has ls 4 [(0, .ref a_o), (1, .int w1), (2, .int w2)] → W p l e (cz_rm 1 23) s m ag below meth c H locs 0 0 Q (F0 m 38 ls [.int x3]) := by
    intro x3 H locs ls h hP hD hS hl
    replace h := hz4 _ h
    refine lv_istore_n (lv' := [(3, .int x3), (0, .ref a_o), (1, .int w1), (2, .int w2)]) hx hb dX6_grow_38 rfl hl (by decide) rfl (fun ls hl => ?_)
    refine lv_iload_n hx hb dX6_grow_39 rfl (lv_at hl 0 rfl) ?_
    refine lv_if_eq (tgt := 49) hx hb dX6_grow_40 (by decide) (fun c8 => ?_) (fun c8 => ?_)
    · replace h := cz_t c8 h
      refine lv_aload_n hx hb dX6_grow_49 rfl (lv_at hl 1 rfl) ?_
      refine va_get (D := D) (ci := 6) (v := .ref a_o_s) (C := RX6) (T := TX6) (N := 20) hx hb hts in_X6 hown hK hP 0 rfl rfl 1 (by decide) (hts _ mw_3_187) (fun _ h9 => h9) rfl dX6_grow_50 ?_
      refine lv_bipush (v := (7 : Int32)) hx hb dX6_grow_53 (by decide) ?_
      refine lv_aload_n hx hb dX6_grow_55 rfl (lv_at hl 1 rfl) ?_
      refine lv_iload_n hx hb dX6_grow_56 rfl (lv_at hl 2 rfl) ?_
      obtain ⟨x9, hc10, h⟩ := cz_e1 h
      refine cz_callV (As := [.int w1]) (rest := [.int (7 : Int32), .ref a_o_s]) (is := [0, 2]) (isR := [1]) (rs := [aI cI a_o_refusals 7 f_o_refusals]) (as := [a_o, a_o_refusals, a_o_s]) (ws1 := [oX6 a_o a_o_refusals a_o_s a_o_image v_o_isImage a_o_tape a_o_read v_o_taped v_o_pos v_o_readWide v_o_readHigh a_o_innerOf a_o_whoseOf a_o_nearOf a_o_fromOf v_o_thirds a_o_pieceOf a_o_kept a_o_claimOf a_o_row v_o_rowed, aI cI a_o_refusals 7 f_o_refusals, aI cI a_o_s 151 f_o_s]) (q0 := 0) (ci := 6) ⟨hx, hb, hml, hown, hts⟩ (c_X6_of l D cI a_o a_o_s a_o_refusals a_o_image a_o_tape a_o_read a_o_innerOf a_o_whoseOf a_o_nearOf a_o_fromOf a_o_pieceOf a_o_kept a_o_claimOf a_o_row v_o_isImage v_o_taped v_o_pos v_o_readWide v_o_readHigh v_o_thirds v_o_rowed f_o_s w1 n x9 hc10) mw_4_39 mw_4_41 mw_p_14 mw_1_8 mw_4_42 hd_X6_of ⟨Nat.le_of_ble_eq_true rfl, Nat.le_of_ble_eq_true rfl⟩ hK hN hP hD hS rfl rfl rfl rfl rfl rfl rfl rfl rfl rfl rfl rfl hl.1 rfl (Nat.le_of_ble_eq_true rfl) dX6_grow_57 ⟨Nat.le_of_ble_eq_true rfl, Nat.le_of_ble_eq_true rfl⟩ (fun H locs hP hD hS => ?_)
      refine W.eq (g2 := F0 m 60 ls [.int x9, .int (7 : Int32), .ref a_o_s]) rfl ?_
      refine lv_iadd hx hb dX6_grow_60 ?_
      refine lv_iload_n hx hb dX6_grow_61 rfl (lv_at hl 3 rfl) ?_
      refine lv_iconst (v := (1 : Int32)) hx hb dX6_grow_62 (by decide) ?_
      refine lv_iadd hx hb dX6_grow_63 ?_
      refine cz_iast hx hb hK hP hD hS 2 0 rfl rfl (cz_wrE h).1 dX6_grow_64 (fun g11 H locs eg11 hP hD hS => ?_)
      replace h := cz_wrK eg11 h
      replace hP : va_P D vwCl [oX6 a_o a_o_refusals a_o_s a_o_image v_o_isImage a_o_tape a_o_read v_o_taped v_o_pos v_o_readWide v_o_readHigh a_o_innerOf a_o_whoseOf a_o_nearOf a_o_fromOf v_o_thirds a_o_pieceOf a_o_kept a_o_claimOf a_o_row v_o_rowed, aI cI a_o_refusals 7 f_o_refusals, aI cI a_o_s 151 g11] H := hP
      replace hD : va_D A [oX6 a_o a_o_refusals a_o_s a_o_image v_o_isImage a_o_tape a_o_read v_o_taped v_o_pos v_o_readWide v_o_readHigh a_o_innerOf a_o_whoseOf a_o_nearOf a_o_fromOf v_o_thirds a_o_pieceOf a_o_kept a_o_claimOf a_o_row v_o_rowed, aI cI a_o_refusals 7 f_o_refusals, aI cI a_o_s 151 g11] := hD
      refine lv_aload_n hx hb dX6_grow_65 rfl (lv_at hl 1 rfl) ?_
      refine lv_aload_n hx hb dX6_grow_66 rfl (lv_at hl 1 rfl) ?_
      refine lv_iload_n hx hb dX6_grow_67 rfl (lv_at hl 2 rfl) ?_
      obtain ⟨x12, hc13, h⟩ := cz_e1 h
      refine cz_callV (As := [.int w1]) (rest := [.ref a_o]) (is := [0, 2]) (isR := [1]) (rs := [aI cI a_o_refusals 7 f_o_refusals]) (as := [a_o, a_o_refusals, a_o_s]) (ws1 := [oX6 a_o a_o_refusals a_o_s a_o_image v_o_isImage a_o_tape a_o_read v_o_taped v_o_pos v_o_readWide v_o_readHigh a_o_innerOf a_o_whoseOf a_o_nearOf a_o_fromOf v_o_thirds a_o_pieceOf a_o_kept a_o_claimOf a_o_row v_o_rowed, aI cI a_o_refusals 7 f_o_refusals, aI cI a_o_s 151 g11]) (q0 := 0) (ci := 6) ⟨hx, hb, hml, hown, hts⟩ (c_X6_of l D cI a_o a_o_s a_o_refusals a_o_image a_o_tape a_o_read a_o_innerOf a_o_whoseOf a_o_nearOf a_o_fromOf a_o_pieceOf a_o_kept a_o_claimOf a_o_row v_o_isImage v_o_taped v_o_pos v_o_readWide v_o_readHigh v_o_thirds v_o_rowed g11 w1 n x12 hc13) mw_4_39 mw_4_41 mw_p_14 mw_1_8 mw_4_42 hd_X6_of ⟨Nat.le_of_ble_eq_true rfl, Nat.le_of_ble_eq_true rfl⟩ hK hN hP hD hS rfl rfl rfl rfl rfl rfl rfl rfl rfl rfl rfl rfl hl.1 rfl (Nat.le_of_ble_eq_true rfl) dX6_grow_68 ⟨Nat.le_of_ble_eq_true rfl, Nat.le_of_ble_eq_true rfl⟩ (fun H locs hP hD hS => ?_)
      refine W.eq (g2 := F0 m 71 ls [.int x12, .ref a_o]) rfl ?_
      obtain ⟨g14, hc15, h⟩ := cz_e1 h
      refine cz_callV (As := [.int x12]) (rest := []) (is := [0, 2]) (isR := [1]) (rs := [aI cI a_o_refusals 7 f_o_refusals]) (as := [a_o, a_o_refusals, a_o_s]) (ws1 := [oX6 a_o a_o_refusals a_o_s a_o_image v_o_isImage a_o_tape a_o_read v_o_taped v_o_pos v_o_readWide v_o_readHigh a_o_innerOf a_o_whoseOf a_o_nearOf a_o_fromOf v_o_thirds a_o_pieceOf a_o_kept a_o_claimOf a_o_row v_o_rowed, aI cI a_o_refusals 7 f_o_refusals, aI cI a_o_s 151 g14]) (q0 := 0) (ci := 6) ⟨hx, hb, hml, hown, hts⟩ (c_X6_closes l D cI a_o a_o_s a_o_refusals a_o_image a_o_tape a_o_read a_o_innerOf a_o_whoseOf a_o_nearOf a_o_fromOf a_o_pieceOf a_o_kept a_o_claimOf a_o_row v_o_isImage v_o_taped v_o_pos v_o_readWide v_o_readHigh v_o_thirds v_o_rowed g11 x12 n g14 hc15) mw_4_236 mw_4_238 mw_p_36 mw_1_8 mw_4_239 hd_X6_closes ⟨Nat.le_of_ble_eq_true rfl, Nat.le_of_ble_eq_true rfl⟩ hK hN hP hD hS rfl rfl rfl rfl rfl rfl rfl rfl rfl rfl rfl rfl hl.1 rfl (Nat.le_of_ble_eq_true rfl) dX6_grow_71 ⟨Nat.le_of_ble_eq_true rfl, Nat.le_of_ble_eq_true rfl⟩ (fun H locs hP hD hS => ?_)
      refine W.eq (g2 := F0 m 74 ls []) rfl ?_
      refine lv_iconst (v := (1 : Int32)) hx hb dX6_grow_74 (by decide) ?_
      obtain ⟨rfl, rfl, rfl⟩ := cz_j3 (cz_i h)
      exact hQ _ _ _ _ hP hS dX6_grow_75
    · replace h := cz_f c8 h
      refine lv_aload_n hx hb dX6_grow_43 rfl (lv_at hl 1 rfl) ?_
      refine lv_iload_n hx hb dX6_grow_44 rfl (lv_at hl 0 rfl) ?_
      obtain ⟨x16, g17, hc18, h⟩ := cz_e2 h
      refine cz_callV (As := [.int x3]) (rest := []) (is := [0, 1]) (isR := [2]) (rs := [aI cI a_o_s 151 f_o_s]) (as := [a_o, a_o_refusals, a_o_s]) (ws1 := [oX6 a_o a_o_refusals a_o_s a_o_image v_o_isImage a_o_tape a_o_read v_o_taped v_o_pos v_o_readWide v_o_readHigh a_o_innerOf a_o_whoseOf a_o_nearOf a_o_fromOf v_o_thirds a_o_pieceOf a_o_kept a_o_claimOf a_o_row v_o_rowed, aI cI a_o_refusals 7 g17, aI cI a_o_s 151 f_o_s]) (q0 := 0) (ci := 6) ⟨hx, hb, hml, hown, hts⟩ (c_X6_refuse l D cI a_o a_o_refusals a_o_s a_o_image a_o_tape a_o_read a_o_innerOf a_o_whoseOf a_o_nearOf a_o_fromOf a_o_pieceOf a_o_kept a_o_claimOf a_o_row v_o_isImage v_o_taped v_o_pos v_o_readWide v_o_readHigh v_o_thirds v_o_rowed f_o_refusals x3 n x16 g17 hc18) mw_4_11 mw_4_13 mw_p_10 mw_1_8 mw_4_14 hd_X6_refuse ⟨Nat.le_of_ble_eq_true rfl, Nat.le_of_ble_eq_true rfl⟩ hK hN hP hD hS rfl rfl rfl rfl rfl rfl rfl rfl rfl rfl rfl rfl hl.1 rfl (Nat.le_of_ble_eq_true rfl) dX6_grow_45 ⟨Nat.le_of_ble_eq_true rfl, Nat.le_of_ble_eq_true rfl⟩ (fun H locs hP hD hS => ?_)
      refine W.eq (g2 := F0 m 48 ls [.int x16]) rfl ?_
      obtain ⟨rfl, rfl, rfl⟩ := cz_j3 (cz_i h)
      exact hQ _ _ _ _ hP hS dX6_grow_48
  clear h
  have h := hE5
  refine lv_if_eq (tgt := 16) hx hb dX6_grow_5 (by decide) (fun c19 => ?_) (fun c19 => ?_)
  · replace h := cz_t c19 h
    refine lv_iconst (v := (-1 : Int32)) hx hb dX6_grow_16 (by decide) ?_
    refine lv_goto (tgt := 38) hx hb dX6_grow_17 (by decide) ?_
    exact hJ6 _ _ _ _ (cz_i h).symm hP hD hS (lv_sub hl [0, 1, 2] rfl)
  · replace h := cz_f c19 h
    refine lv_iload_n hx hb dX6_grow_8 rfl (lv_at hl 2 rfl) ?_
    refine lv_iconst (v := (3 : Int32)) hx hb dX6_grow_9 (by decide) ?_
    obtain ⟨x20, hc21, h⟩ := cz_e1 h
    refine cz_callS (As := [.int w2, .int (3 : Int32)]) (rest := []) (is := []) (isR := [0, 1, 2]) (rs := [oX6 a_o a_o_refusals a_o_s a_o_image v_o_isImage a_o_tape a_o_read v_o_taped v_o_pos v_o_readWide v_o_readHigh a_o_innerOf a_o_whoseOf a_o_nearOf a_o_fromOf v_o_thirds a_o_pieceOf a_o_kept a_o_claimOf a_o_row v_o_rowed, aI cI a_o_refusals 7 f_o_refusals, aI cI a_o_s 151 f_o_s]) (as := [a_o, a_o_refusals, a_o_s]) (ws1 := [oX6 a_o a_o_refusals a_o_s a_o_image v_o_isImage a_o_tape a_o_read v_o_taped v_o_pos v_o_readWide v_o_readHigh a_o_innerOf a_o_whoseOf a_o_nearOf a_o_fromOf v_o_thirds a_o_pieceOf a_o_kept a_o_claimOf a_o_row v_o_rowed, aI cI a_o_refusals 7 f_o_refusals, aI cI a_o_s 151 f_o_s]) ⟨hx, hb, hml, hown, hts⟩ (c_X6_isIn l D cI   w2 (3 : Int32) n x20 hc21) mw_4_51 mw_4_52 mw_1_8 mw_4_53 hd_X6_isIn ⟨Nat.le_of_ble_eq_true rfl, Nat.le_of_ble_eq_true rfl⟩ hK hN hP hD hS rfl rfl rfl rfl rfl rfl rfl rfl rfl hl.1 rfl (Nat.le_of_ble_eq_true rfl) dX6_grow_10 ⟨Nat.le_of_ble_eq_true rfl, Nat.le_of_ble_eq_true rfl⟩ (fun H locs hP hD hS => ?_)
    refine W.eq (g2 := F0 m 13 ls [.int x20]) rfl ?_
    refine lv_if_ne (tgt := 20) hx hb dX6_grow_13 (by decide) (fun c22 => ?_) (fun c22 => ?_)
    · replace h := cz_f c22 h
      refine lv_aload_n hx hb dX6_grow_20 rfl (lv_at hl 0 rfl) ?_
      refine lv_aload_n hx hb dX6_grow_21 rfl (lv_at hl 0 rfl) ?_
      refine lv_iload_n hx hb dX6_grow_22 rfl (lv_at hl 1 rfl) ?_
      obtain ⟨x23, hc24, h⟩ := cz_e1 h
      refine cz_callV (As := [.int w1]) (rest := [.ref a_o]) (is := [0, 2]) (isR := [1]) (rs := [aI cI a_o_refusals 7 f_o_refusals]) (as := [a_o, a_o_refusals, a_o_s]) (ws1 := [oX6 a_o a_o_refusals a_o_s a_o_image v_o_isImage a_o_tape a_o_read v_o_taped v_o_pos v_o_readWide v_o_readHigh a_o_innerOf a_o_whoseOf a_o_nearOf a_o_fromOf v_o_thirds a_o_pieceOf a_o_kept a_o_claimOf a_o_row v_o_rowed, aI cI a_o_refusals 7 f_o_refusals, aI cI a_o_s 151 f_o_s]) (q0 := 0) (ci := 6) ⟨hx, hb, hml, hown, hts⟩ (c_X6_of l D cI a_o a_o_s a_o_refusals a_o_image a_o_tape a_o_read a_o_innerOf a_o_whoseOf a_o_nearOf a_o_fromOf a_o_pieceOf a_o_kept a_o_claimOf a_o_row v_o_isImage v_o_taped v_o_pos v_o_readWide v_o_readHigh v_o_thirds v_o_rowed f_o_s w1 n x23 hc24) mw_4_39 mw_4_41 mw_p_14 mw_1_8 mw_4_42 hd_X6_of ⟨Nat.le_of_ble_eq_true rfl, Nat.le_of_ble_eq_true rfl⟩ hK hN hP hD hS rfl rfl rfl rfl rfl rfl rfl rfl rfl rfl rfl rfl hl.1 rfl (Nat.le_of_ble_eq_true rfl) dX6_grow_23 ⟨Nat.le_of_ble_eq_true rfl, Nat.le_of_ble_eq_true rfl⟩ (fun H locs hP hD hS => ?_)
      refine W.eq (g2 := F0 m 26 ls [.int x23, .ref a_o]) rfl ?_
      obtain ⟨x25, hc26, h⟩ := cz_e1 h
      refine cz_callV (As := [.int x23]) (rest := []) (is := [0, 2]) (isR := [1]) (rs := [aI cI a_o_refusals 7 f_o_refusals]) (as := [a_o, a_o_refusals, a_o_s]) (ws1 := [oX6 a_o a_o_refusals a_o_s a_o_image v_o_isImage a_o_tape a_o_read v_o_taped v_o_pos v_o_readWide v_o_readHigh a_o_innerOf a_o_whoseOf a_o_nearOf a_o_fromOf v_o_thirds a_o_pieceOf a_o_kept a_o_claimOf a_o_row v_o_rowed, aI cI a_o_refusals 7 f_o_refusals, aI cI a_o_s 151 f_o_s]) (q0 := 0) (ci := 6) ⟨hx, hb, hml, hown, hts⟩ (c_X6_at l D cI a_o a_o_s a_o_refusals a_o_image a_o_tape a_o_read a_o_innerOf a_o_whoseOf a_o_nearOf a_o_fromOf a_o_pieceOf a_o_kept a_o_claimOf a_o_row v_o_isImage v_o_taped v_o_pos v_o_readWide v_o_readHigh v_o_thirds v_o_rowed f_o_s x23 n x25 hc26) mw_4_43 mw_4_45 mw_p_15 mw_1_8 mw_4_46 hd_X6_at ⟨Nat.le_of_ble_eq_true rfl, Nat.le_of_ble_eq_true rfl⟩ hK hN hP hD hS rfl rfl rfl rfl rfl rfl rfl rfl rfl rfl rfl rfl hl.1 rfl (Nat.le_of_ble_eq_true rfl) dX6_grow_26 ⟨Nat.le_of_ble_eq_true rfl, Nat.le_of_ble_eq_true rfl⟩ (fun H locs hP hD hS => ?_)
      refine W.eq (g2 := F0 m 29 ls [.int x25]) rfl ?_
      refine lv_if_eq (tgt := 37) hx hb dX6_grow_29 (by decide) (fun c27 => ?_) (fun c27 => ?_)
      · replace h := cz_t c27 h
        refine lv_iconst (v := (0 : Int32)) hx hb dX6_grow_37 (by decide) ?_
        exact hJ6 _ _ _ _ (cz_i h).symm hP hD hS (lv_sub hl [0, 1, 2] rfl)
      · replace h := cz_f c27 h
        refine lv_bipush (v := (-3 : Int32)) hx hb dX6_grow_32 (by decide) ?_
        refine lv_goto (tgt := 38) hx hb dX6_grow_34 (by decide) ?_
        exact hJ6 _ _ _ _ (cz_i h).symm hP hD hS (lv_sub hl [0, 1, 2] rfl)
    · replace h := cz_t c22 h
      refine lv_iconst (v := (-1 : Int32)) hx hb dX6_grow_16 (by decide) ?_
      refine lv_goto (tgt := 38) hx hb dX6_grow_17 (by decide) ?_
      exact hJ6 _ _ _ _ (cz_i h).symm hP hD hS (lv_sub hl [0, 1, 2] rfl)
set_option maxHeartbeats 4000000 in
set_option maxRecDepth 100000 in
theorem c_X6_drown (l : Launch) (D : va_G) (cI : ClassId) (a_o a_o_refusals a_o_s a_o_image a_o_tape a_o_read a_o_innerOf a_o_whoseOf a_o_nearOf a_o_fromOf a_o_pieceOf a_o_kept a_o_claimOf a_o_row : Nat) (v_o_isImage : Int32) (v_o_taped : Int32) (v_o_pos : Int32) (v_o_readWide : Int32) (v_o_readHigh : Int32) (v_o_thirds : Int32) (v_o_rowed : Int32) (f_o_refusals : (Nat → Int32)) (f_o_s : (Nat → Int32)) (w1 : Int32) (n : Nat) (r : Int32) (r_f_o_refusals : (Nat → Int32)) (r_f_o_s : (Nat → Int32)) (h : f_X6_drown n f_o_refusals f_o_s w1 = some (r, r_f_o_refusals, r_f_o_s)) : cz_M l yX6_drown cX6_drown 4 (some .int) 1 21 D cI [.ref a_o, .int w1] [oX6 a_o a_o_refusals a_o_s a_o_image v_o_isImage a_o_tape a_o_read v_o_taped v_o_pos v_o_readWide v_o_readHigh a_o_innerOf a_o_whoseOf a_o_nearOf a_o_fromOf v_o_thirds a_o_pieceOf a_o_kept a_o_claimOf a_o_row v_o_rowed, aI cI a_o_refusals 7 f_o_refusals, aI cI a_o_s 151 f_o_s] (some (.int r)) [oX6 a_o a_o_refusals a_o_s a_o_image v_o_isImage a_o_tape a_o_read v_o_taped v_o_pos v_o_readWide v_o_readHigh a_o_innerOf a_o_whoseOf a_o_nearOf a_o_fromOf v_o_thirds a_o_pieceOf a_o_kept a_o_claimOf a_o_row v_o_rowed, aI cI a_o_refusals 7 r_f_o_refusals, aI cI a_o_s 151 r_f_o_s] := by
  refine cz_startI (by decide) (Nat.le_of_ble_eq_true rfl) ?_
  intro p e s m ag below meth c A Q hx hb hml hown hts hK hN hQ H locs hP hD hS ls hl
  replace hown : s.vm.findClass RX6 = some m.cls := hown
  replace hl : lv_has ls 4 [(0, .ref a_o), (1, .int w1)] := hl
  unfold f_X6_drown at h
  refine lv_aload_n hx hb dX6_drown_0 rfl (lv_at hl 0 rfl) ?_
  refine lv_iload_n hx hb dX6_drown_1 rfl (lv_at hl 1 rfl) ?_
  obtain ⟨x1, hc2, h⟩ := cz_e1 h
  refine cz_callV (As := [.int w1]) (rest := []) (is := [0, 2]) (isR := [1]) (rs := [aI cI a_o_refusals 7 f_o_refusals]) (as := [a_o, a_o_refusals, a_o_s]) (ws1 := [oX6 a_o a_o_refusals a_o_s a_o_image v_o_isImage a_o_tape a_o_read v_o_taped v_o_pos v_o_readWide v_o_readHigh a_o_innerOf a_o_whoseOf a_o_nearOf a_o_fromOf v_o_thirds a_o_pieceOf a_o_kept a_o_claimOf a_o_row v_o_rowed, aI cI a_o_refusals 7 f_o_refusals, aI cI a_o_s 151 f_o_s]) (q0 := 0) (ci := 6) ⟨hx, hb, hml, hown, hts⟩ (c_X6_isCell l D cI a_o a_o_s a_o_refusals a_o_image a_o_tape a_o_read a_o_innerOf a_o_whoseOf a_o_nearOf a_o_fromOf a_o_pieceOf a_o_kept a_o_claimOf a_o_row v_o_isImage v_o_taped v_o_pos v_o_readWide v_o_readHigh v_o_thirds v_o_rowed f_o_s w1 n x1 hc2) mw_4_35 mw_4_37 mw_p_13 mw_1_8 mw_4_38 hd_X6_isCell ⟨Nat.le_of_ble_eq_true rfl, Nat.le_of_ble_eq_true rfl⟩ hK hN hP hD hS rfl rfl rfl rfl rfl rfl rfl rfl rfl rfl rfl rfl hl.1 rfl (Nat.le_of_ble_eq_true rfl) dX6_drown_2 ⟨Nat.le_of_ble_eq_true rfl, Nat.le_of_ble_eq_true rfl⟩ (fun H locs hP hD hS => ?_)
  refine W.eq (g2 := F0 m 5 ls [.int x1]) rfl ?_
  obtain ⟨z7, hE5, hz4⟩ := cz_x1 h
  have hJ6 : ∀ (x3 : Int32) (H : Heap) (locs : List Loc) (ls : Array Slot), z7 = x3 → va_P D vwCl [oX6 a_o a_o_refusals a_o_s a_o_image v_o_isImage a_o_tape a_o_read v_o_taped v_o_pos v_o_readWide v_o_readHigh a_o_innerOf a_o_whoseOf a_o_nearOf a_o_fromOf v_o_thirds a_o_pieceOf a_o_kept a_o_claimOf a_o_row v_o_rowed, aI cI a_o_refusals 7 f_o_refusals, aI cI a_o_s 151 f_o_s] H → va_D A [oX6 a_o a_o_refusals a_o_s a_o_image v_o_isImage a_o_tape a_o_read v_o_taped v_o_pos v_o_readWide v_o_readHigh a_o_innerOf a_o_whoseOf a_o_nearOf a_o_fromOf v_o_thirds a_o_pieceOf a_o_kept a_o_claimOf a_o_row v_o_rowed, aI cI a_o_refusals 7 f_o_refusals, aI cI a_o_s 151 f_o_s] → va_S A s.heap H locs → lv_has ls 4 [(0, .ref a_o), (1, .int w1)] → W p l e (cz_rm 1 21) s m ag below meth c H locs 0 0 Q (F0 m 30 ls [.int x3]) := by
    intro x3 H locs ls h hP hD hS hl
    replace h := hz4 _ h
    refine lv_istore_n (lv' := [(2, .int x3), (0, .ref a_o), (1, .int w1)]) hx hb dX6_drown_30 rfl hl (by decide) rfl (fun ls hl => ?_)
    refine lv_iload_n hx hb dX6_drown_31 rfl (lv_at hl 0 rfl) ?_
    refine lv_if_eq (tgt := 41) hx hb dX6_drown_32 (by decide) (fun c8 => ?_) (fun c8 => ?_)
    · replace h := cz_t c8 h
      refine lv_aload_n hx hb dX6_drown_41 rfl (lv_at hl 1 rfl) ?_
      refine lv_aload_n hx hb dX6_drown_42 rfl (lv_at hl 1 rfl) ?_
      refine lv_iload_n hx hb dX6_drown_43 rfl (lv_at hl 2 rfl) ?_
      obtain ⟨x9, hc10, h⟩ := cz_e1 h
      refine cz_callV (As := [.int w1]) (rest := [.ref a_o]) (is := [0, 2]) (isR := [1]) (rs := [aI cI a_o_refusals 7 f_o_refusals]) (as := [a_o, a_o_refusals, a_o_s]) (ws1 := [oX6 a_o a_o_refusals a_o_s a_o_image v_o_isImage a_o_tape a_o_read v_o_taped v_o_pos v_o_readWide v_o_readHigh a_o_innerOf a_o_whoseOf a_o_nearOf a_o_fromOf v_o_thirds a_o_pieceOf a_o_kept a_o_claimOf a_o_row v_o_rowed, aI cI a_o_refusals 7 f_o_refusals, aI cI a_o_s 151 f_o_s]) (q0 := 0) (ci := 6) ⟨hx, hb, hml, hown, hts⟩ (c_X6_of l D cI a_o a_o_s a_o_refusals a_o_image a_o_tape a_o_read a_o_innerOf a_o_whoseOf a_o_nearOf a_o_fromOf a_o_pieceOf a_o_kept a_o_claimOf a_o_row v_o_isImage v_o_taped v_o_pos v_o_readWide v_o_readHigh v_o_thirds v_o_rowed f_o_s w1 n x9 hc10) mw_4_39 mw_4_41 mw_p_14 mw_1_8 mw_4_42 hd_X6_of ⟨Nat.le_of_ble_eq_true rfl, Nat.le_of_ble_eq_true rfl⟩ hK hN hP hD hS rfl rfl rfl rfl rfl rfl rfl rfl rfl rfl rfl rfl hl.1 rfl (Nat.le_of_ble_eq_true rfl) dX6_drown_44 ⟨Nat.le_of_ble_eq_true rfl, Nat.le_of_ble_eq_true rfl⟩ (fun H locs hP hD hS => ?_)
      refine W.eq (g2 := F0 m 47 ls [.int x9, .ref a_o]) rfl ?_
      obtain ⟨x11, hc12, h⟩ := cz_e1 h
      refine cz_callV (As := [.int x9]) (rest := []) (is := [0, 2]) (isR := [1]) (rs := [aI cI a_o_refusals 7 f_o_refusals]) (as := [a_o, a_o_refusals, a_o_s]) (ws1 := [oX6 a_o a_o_refusals a_o_s a_o_image v_o_isImage a_o_tape a_o_read v_o_taped v_o_pos v_o_readWide v_o_readHigh a_o_innerOf a_o_whoseOf a_o_nearOf a_o_fromOf v_o_thirds a_o_pieceOf a_o_kept a_o_claimOf a_o_row v_o_rowed, aI cI a_o_refusals 7 f_o_refusals, aI cI a_o_s 151 f_o_s]) (q0 := 0) (ci := 6) ⟨hx, hb, hml, hown, hts⟩ (c_X6_at l D cI a_o a_o_s a_o_refusals a_o_image a_o_tape a_o_read a_o_innerOf a_o_whoseOf a_o_nearOf a_o_fromOf a_o_pieceOf a_o_kept a_o_claimOf a_o_row v_o_isImage v_o_taped v_o_pos v_o_readWide v_o_readHigh v_o_thirds v_o_rowed f_o_s x9 n x11 hc12) mw_4_43 mw_4_45 mw_p_15 mw_1_8 mw_4_46 hd_X6_at ⟨Nat.le_of_ble_eq_true rfl, Nat.le_of_ble_eq_true rfl⟩ hK hN hP hD hS rfl rfl rfl rfl rfl rfl rfl rfl rfl rfl rfl rfl hl.1 rfl (Nat.le_of_ble_eq_true rfl) dX6_drown_47 ⟨Nat.le_of_ble_eq_true rfl, Nat.le_of_ble_eq_true rfl⟩ (fun H locs hP hD hS => ?_)
      refine W.eq (g2 := F0 m 50 ls [.int x11]) rfl ?_
      refine lv_istore_n (lv' := [(3, .int x11), (2, .int x3), (0, .ref a_o), (1, .int w1)]) hx hb dX6_drown_50 rfl hl (by decide) rfl (fun ls hl => ?_)
      refine lv_aload_n hx hb dX6_drown_51 rfl (lv_at hl 2 rfl) ?_
      refine va_get (D := D) (ci := 6) (v := .ref a_o_s) (C := RX6) (T := TX6) (N := 20) hx hb hts in_X6 hown hK hP 0 rfl rfl 1 (by decide) (hts _ mw_3_187) (fun _ h9 => h9) rfl dX6_drown_52 ?_
      refine lv_bipush (v := (7 : Int32)) hx hb dX6_drown_55 (by decide) ?_
      refine lv_aload_n hx hb dX6_drown_57 rfl (lv_at hl 2 rfl) ?_
      refine lv_iload_n hx hb dX6_drown_58 rfl (lv_at hl 3 rfl) ?_
      obtain ⟨x13, hc14, h⟩ := cz_e1 h
      refine cz_callV (As := [.int w1]) (rest := [.int (7 : Int32), .ref a_o_s]) (is := [0, 2]) (isR := [1]) (rs := [aI cI a_o_refusals 7 f_o_refusals]) (as := [a_o, a_o_refusals, a_o_s]) (ws1 := [oX6 a_o a_o_refusals a_o_s a_o_image v_o_isImage a_o_tape a_o_read v_o_taped v_o_pos v_o_readWide v_o_readHigh a_o_innerOf a_o_whoseOf a_o_nearOf a_o_fromOf v_o_thirds a_o_pieceOf a_o_kept a_o_claimOf a_o_row v_o_rowed, aI cI a_o_refusals 7 f_o_refusals, aI cI a_o_s 151 f_o_s]) (q0 := 0) (ci := 6) ⟨hx, hb, hml, hown, hts⟩ (c_X6_of l D cI a_o a_o_s a_o_refusals a_o_image a_o_tape a_o_read a_o_innerOf a_o_whoseOf a_o_nearOf a_o_fromOf a_o_pieceOf a_o_kept a_o_claimOf a_o_row v_o_isImage v_o_taped v_o_pos v_o_readWide v_o_readHigh v_o_thirds v_o_rowed f_o_s w1 n x13 hc14) mw_4_39 mw_4_41 mw_p_14 mw_1_8 mw_4_42 hd_X6_of ⟨Nat.le_of_ble_eq_true rfl, Nat.le_of_ble_eq_true rfl⟩ hK hN hP hD hS rfl rfl rfl rfl rfl rfl rfl rfl rfl rfl rfl rfl hl.1 rfl (Nat.le_of_ble_eq_true rfl) dX6_drown_59 ⟨Nat.le_of_ble_eq_true rfl, Nat.le_of_ble_eq_true rfl⟩ (fun H locs hP hD hS => ?_)
      refine W.eq (g2 := F0 m 62 ls [.int x13, .int (7 : Int32), .ref a_o_s]) rfl ?_
      refine lv_iadd hx hb dX6_drown_62 ?_
      refine lv_iconst (v := (0 : Int32)) hx hb dX6_drown_63 (by decide) ?_
      refine cz_iast hx hb hK hP hD hS 2 0 rfl rfl (cz_wrE h).1 dX6_drown_64 (fun g15 H locs eg15 hP hD hS => ?_)
      replace h := cz_wrK eg15 h
      replace hP : va_P D vwCl [oX6 a_o a_o_refusals a_o_s a_o_image v_o_isImage a_o_tape a_o_read v_o_taped v_o_pos v_o_readWide v_o_readHigh a_o_innerOf a_o_whoseOf a_o_nearOf a_o_fromOf v_o_thirds a_o_pieceOf a_o_kept a_o_claimOf a_o_row v_o_rowed, aI cI a_o_refusals 7 f_o_refusals, aI cI a_o_s 151 g15] H := hP
      replace hD : va_D A [oX6 a_o a_o_refusals a_o_s a_o_image v_o_isImage a_o_tape a_o_read v_o_taped v_o_pos v_o_readWide v_o_readHigh a_o_innerOf a_o_whoseOf a_o_nearOf a_o_fromOf v_o_thirds a_o_pieceOf a_o_kept a_o_claimOf a_o_row v_o_rowed, aI cI a_o_refusals 7 f_o_refusals, aI cI a_o_s 151 g15] := hD
      refine lv_iload_n hx hb dX6_drown_65 rfl (lv_at hl 0 rfl) ?_
      obtain ⟨rfl, rfl, rfl⟩ := cz_j3 (cz_i h)
      exact hQ _ _ _ _ hP hS dX6_drown_66
    · replace h := cz_f c8 h
      refine lv_aload_n hx hb dX6_drown_35 rfl (lv_at hl 1 rfl) ?_
      refine lv_iload_n hx hb dX6_drown_36 rfl (lv_at hl 0 rfl) ?_
      obtain ⟨x16, g17, hc18, h⟩ := cz_e2 h
      refine cz_callV (As := [.int x3]) (rest := []) (is := [0, 1]) (isR := [2]) (rs := [aI cI a_o_s 151 f_o_s]) (as := [a_o, a_o_refusals, a_o_s]) (ws1 := [oX6 a_o a_o_refusals a_o_s a_o_image v_o_isImage a_o_tape a_o_read v_o_taped v_o_pos v_o_readWide v_o_readHigh a_o_innerOf a_o_whoseOf a_o_nearOf a_o_fromOf v_o_thirds a_o_pieceOf a_o_kept a_o_claimOf a_o_row v_o_rowed, aI cI a_o_refusals 7 g17, aI cI a_o_s 151 f_o_s]) (q0 := 0) (ci := 6) ⟨hx, hb, hml, hown, hts⟩ (c_X6_refuse l D cI a_o a_o_refusals a_o_s a_o_image a_o_tape a_o_read a_o_innerOf a_o_whoseOf a_o_nearOf a_o_fromOf a_o_pieceOf a_o_kept a_o_claimOf a_o_row v_o_isImage v_o_taped v_o_pos v_o_readWide v_o_readHigh v_o_thirds v_o_rowed f_o_refusals x3 n x16 g17 hc18) mw_4_11 mw_4_13 mw_p_10 mw_1_8 mw_4_14 hd_X6_refuse ⟨Nat.le_of_ble_eq_true rfl, Nat.le_of_ble_eq_true rfl⟩ hK hN hP hD hS rfl rfl rfl rfl rfl rfl rfl rfl rfl rfl rfl rfl hl.1 rfl (Nat.le_of_ble_eq_true rfl) dX6_drown_37 ⟨Nat.le_of_ble_eq_true rfl, Nat.le_of_ble_eq_true rfl⟩ (fun H locs hP hD hS => ?_)
      refine W.eq (g2 := F0 m 40 ls [.int x16]) rfl ?_
      obtain ⟨rfl, rfl, rfl⟩ := cz_j3 (cz_i h)
      exact hQ _ _ _ _ hP hS dX6_drown_40
  clear h
  have h := hE5
  refine lv_if_ne (tgt := 12) hx hb dX6_drown_5 (by decide) (fun c19 => ?_) (fun c19 => ?_)
  · replace h := cz_f c19 h
    refine lv_aload_n hx hb dX6_drown_12 rfl (lv_at hl 0 rfl) ?_
    refine lv_aload_n hx hb dX6_drown_13 rfl (lv_at hl 0 rfl) ?_
    refine lv_iload_n hx hb dX6_drown_14 rfl (lv_at hl 1 rfl) ?_
    obtain ⟨x20, hc21, h⟩ := cz_e1 h
    refine cz_callV (As := [.int w1]) (rest := [.ref a_o]) (is := [0, 2]) (isR := [1]) (rs := [aI cI a_o_refusals 7 f_o_refusals]) (as := [a_o, a_o_refusals, a_o_s]) (ws1 := [oX6 a_o a_o_refusals a_o_s a_o_image v_o_isImage a_o_tape a_o_read v_o_taped v_o_pos v_o_readWide v_o_readHigh a_o_innerOf a_o_whoseOf a_o_nearOf a_o_fromOf v_o_thirds a_o_pieceOf a_o_kept a_o_claimOf a_o_row v_o_rowed, aI cI a_o_refusals 7 f_o_refusals, aI cI a_o_s 151 f_o_s]) (q0 := 0) (ci := 6) ⟨hx, hb, hml, hown, hts⟩ (c_X6_of l D cI a_o a_o_s a_o_refusals a_o_image a_o_tape a_o_read a_o_innerOf a_o_whoseOf a_o_nearOf a_o_fromOf a_o_pieceOf a_o_kept a_o_claimOf a_o_row v_o_isImage v_o_taped v_o_pos v_o_readWide v_o_readHigh v_o_thirds v_o_rowed f_o_s w1 n x20 hc21) mw_4_39 mw_4_41 mw_p_14 mw_1_8 mw_4_42 hd_X6_of ⟨Nat.le_of_ble_eq_true rfl, Nat.le_of_ble_eq_true rfl⟩ hK hN hP hD hS rfl rfl rfl rfl rfl rfl rfl rfl rfl rfl rfl rfl hl.1 rfl (Nat.le_of_ble_eq_true rfl) dX6_drown_15 ⟨Nat.le_of_ble_eq_true rfl, Nat.le_of_ble_eq_true rfl⟩ (fun H locs hP hD hS => ?_)
    refine W.eq (g2 := F0 m 18 ls [.int x20, .ref a_o]) rfl ?_
    obtain ⟨x22, hc23, h⟩ := cz_e1 h
    refine cz_callV (As := [.int x20]) (rest := []) (is := [0, 2]) (isR := [1]) (rs := [aI cI a_o_refusals 7 f_o_refusals]) (as := [a_o, a_o_refusals, a_o_s]) (ws1 := [oX6 a_o a_o_refusals a_o_s a_o_image v_o_isImage a_o_tape a_o_read v_o_taped v_o_pos v_o_readWide v_o_readHigh a_o_innerOf a_o_whoseOf a_o_nearOf a_o_fromOf v_o_thirds a_o_pieceOf a_o_kept a_o_claimOf a_o_row v_o_rowed, aI cI a_o_refusals 7 f_o_refusals, aI cI a_o_s 151 f_o_s]) (q0 := 0) (ci := 6) ⟨hx, hb, hml, hown, hts⟩ (c_X6_at l D cI a_o a_o_s a_o_refusals a_o_image a_o_tape a_o_read a_o_innerOf a_o_whoseOf a_o_nearOf a_o_fromOf a_o_pieceOf a_o_kept a_o_claimOf a_o_row v_o_isImage v_o_taped v_o_pos v_o_readWide v_o_readHigh v_o_thirds v_o_rowed f_o_s x20 n x22 hc23) mw_4_43 mw_4_45 mw_p_15 mw_1_8 mw_4_46 hd_X6_at ⟨Nat.le_of_ble_eq_true rfl, Nat.le_of_ble_eq_true rfl⟩ hK hN hP hD hS rfl rfl rfl rfl rfl rfl rfl rfl rfl rfl rfl rfl hl.1 rfl (Nat.le_of_ble_eq_true rfl) dX6_drown_18 ⟨Nat.le_of_ble_eq_true rfl, Nat.le_of_ble_eq_true rfl⟩ (fun H locs hP hD hS => ?_)
    refine W.eq (g2 := F0 m 21 ls [.int x22]) rfl ?_
    refine lv_if_ne (tgt := 29) hx hb dX6_drown_21 (by decide) (fun c24 => ?_) (fun c24 => ?_)
    · replace h := cz_f c24 h
      refine lv_iconst (v := (0 : Int32)) hx hb dX6_drown_29 (by decide) ?_
      exact hJ6 _ _ _ _ (cz_i h).symm hP hD hS (lv_sub hl [0, 1] rfl)
    · replace h := cz_t c24 h
      refine lv_bipush (v := (-3 : Int32)) hx hb dX6_drown_24 (by decide) ?_
      refine lv_goto (tgt := 30) hx hb dX6_drown_26 (by decide) ?_
      exact hJ6 _ _ _ _ (cz_i h).symm hP hD hS (lv_sub hl [0, 1] rfl)
  · replace h := cz_t c19 h
    refine lv_iconst (v := (-1 : Int32)) hx hb dX6_drown_8 (by decide) ?_
    refine lv_goto (tgt := 30) hx hb dX6_drown_9 (by decide) ?_
    exact hJ6 _ _ _ _ (cz_i h).symm hP hD hS (lv_sub hl [0, 1] rfl)
set_option maxHeartbeats 4000000 in
set_option maxRecDepth 100000 in
theorem c_X6_image (l : Launch) (D : va_G) (cI : ClassId) (a_o a_o_s a_o_image a_o_refusals a_o_tape a_o_read a_o_innerOf a_o_whoseOf a_o_nearOf a_o_fromOf a_o_pieceOf a_o_kept a_o_claimOf a_o_row : Nat) (v_o_isImage : Int32) (v_o_taped : Int32) (v_o_pos : Int32) (v_o_readWide : Int32) (v_o_readHigh : Int32) (v_o_thirds : Int32) (v_o_rowed : Int32) (f_o_s : (Nat → Int32)) (f_o_image : (Nat → Int32)) (n : Nat) (r : Int32) (r_v_o_isImage : Int32) (r_f_o_image : (Nat → Int32)) (h : f_X6_image n v_o_isImage f_o_s f_o_image = some (r, r_v_o_isImage, r_f_o_image)) : cz_M l yX6_image cX6_image 2 (some .int) 1 20 D cI [.ref a_o] [oX6 a_o a_o_refusals a_o_s a_o_image v_o_isImage a_o_tape a_o_read v_o_taped v_o_pos v_o_readWide v_o_readHigh a_o_innerOf a_o_whoseOf a_o_nearOf a_o_fromOf v_o_thirds a_o_pieceOf a_o_kept a_o_claimOf a_o_row v_o_rowed, aI cI a_o_s 151 f_o_s, aI cI a_o_image 151 f_o_image] (some (.int r)) [oX6 a_o a_o_refusals a_o_s a_o_image r_v_o_isImage a_o_tape a_o_read v_o_taped v_o_pos v_o_readWide v_o_readHigh a_o_innerOf a_o_whoseOf a_o_nearOf a_o_fromOf v_o_thirds a_o_pieceOf a_o_kept a_o_claimOf a_o_row v_o_rowed, aI cI a_o_s 151 f_o_s, aI cI a_o_image 151 r_f_o_image] := by
  refine cz_startI (by decide) (Nat.le_of_ble_eq_true rfl) ?_
  intro p e s m ag below meth c A Q hx hb hml hown hts hK hN hQ H locs hP hD hS ls hl
  replace hown : s.vm.findClass RX6 = some m.cls := hown
  replace hl : lv_has ls 2 [(0, .ref a_o)] := hl
  unfold f_X6_image at h
  refine lv_iconst (v := (0 : Int32)) hx hb dX6_image_0 (by decide) ?_
  refine lv_istore_n (lv' := [(1, .int (0 : Int32)), (0, .ref a_o)]) hx hb dX6_image_1 rfl hl (by decide) rfl (fun ls hl => ?_)
  obtain ⟨z3, hE4, hz5⟩ := cz_x2 h
  have hX6 : ∀ (y9 : Int32) (q10 : (Nat → Int32)) (H : Heap) (locs : List Loc) (ls : Array Slot), z3 = (y9, q10) → va_P D vwCl [oX6 a_o a_o_refusals a_o_s a_o_image v_o_isImage a_o_tape a_o_read v_o_taped v_o_pos v_o_readWide v_o_readHigh a_o_innerOf a_o_whoseOf a_o_nearOf a_o_fromOf v_o_thirds a_o_pieceOf a_o_kept a_o_claimOf a_o_row v_o_rowed, aI cI a_o_s 151 f_o_s, aI cI a_o_image 151 q10] H → va_D A [oX6 a_o a_o_refusals a_o_s a_o_image v_o_isImage a_o_tape a_o_read v_o_taped v_o_pos v_o_readWide v_o_readHigh a_o_innerOf a_o_whoseOf a_o_nearOf a_o_fromOf v_o_thirds a_o_pieceOf a_o_kept a_o_claimOf a_o_row v_o_rowed, aI cI a_o_s 151 f_o_s, aI cI a_o_image 151 q10] → va_S A s.heap H locs → lv_has ls 2 [(0, .ref a_o)] → W p l e (cz_rm 1 20) s m ag below meth c H locs 0 0 Q (F0 m 27 ls []) := by
    intro y9 q10 H locs ls h hP hD hS hl
    replace h := hz5 _ _ h
    refine lv_aload_n hx hb dX6_image_27 rfl (lv_at hl 0 rfl) ?_
    refine lv_iconst (v := (1 : Int32)) hx hb dX6_image_28 (by decide) ?_
    refine va_put (D := D) (ci := 6) (v := .int (1 : Int32)) (ty := .boolean) (C := RX6) (T := TX6) (N := 20) hx hb hts in_X6 tyX6 tyX6_ok nmX6 hown hK hP hD hS 0 rfl rfl 3 (by decide) (hts _ mw_3_189) (fun _ h9 => h9) rfl (by decide +kernel) (by decide) (by decide) (Nat.le_of_ble_eq_true rfl) dX6_image_29 (fun H locs hP hD hS => ?_)
    replace hP : va_P D vwCl [oX6 a_o a_o_refusals a_o_s a_o_image (1 : Int32) a_o_tape a_o_read v_o_taped v_o_pos v_o_readWide v_o_readHigh a_o_innerOf a_o_whoseOf a_o_nearOf a_o_fromOf v_o_thirds a_o_pieceOf a_o_kept a_o_claimOf a_o_row v_o_rowed, aI cI a_o_s 151 f_o_s, aI cI a_o_image 151 q10] H := hP
    replace hD : va_D A [oX6 a_o a_o_refusals a_o_s a_o_image (1 : Int32) a_o_tape a_o_read v_o_taped v_o_pos v_o_readWide v_o_readHigh a_o_innerOf a_o_whoseOf a_o_nearOf a_o_fromOf v_o_thirds a_o_pieceOf a_o_kept a_o_claimOf a_o_row v_o_rowed, aI cI a_o_s 151 f_o_s, aI cI a_o_image 151 q10] := hD
    refine lv_aload_n hx hb dX6_image_32 rfl (lv_at hl 0 rfl) ?_
    obtain ⟨x11, hc12, h⟩ := cz_e1 h
    refine cz_callV (As := []) (rest := []) (is := [0, 1]) (isR := [2]) (rs := [aI cI a_o_image 151 q10]) (as := [a_o, a_o_s, a_o_image]) (ws1 := [oX6 a_o a_o_refusals a_o_s a_o_image (1 : Int32) a_o_tape a_o_read v_o_taped v_o_pos v_o_readWide v_o_readHigh a_o_innerOf a_o_whoseOf a_o_nearOf a_o_fromOf v_o_thirds a_o_pieceOf a_o_kept a_o_claimOf a_o_row v_o_rowed, aI cI a_o_s 151 f_o_s, aI cI a_o_image 151 q10]) (q0 := 0) (ci := 6) ⟨hx, hb, hml, hown, hts⟩ (c_X6_many l D cI a_o a_o_s a_o_refusals a_o_image a_o_tape a_o_read a_o_innerOf a_o_whoseOf a_o_nearOf a_o_fromOf a_o_pieceOf a_o_kept a_o_claimOf a_o_row (1 : Int32) v_o_taped v_o_pos v_o_readWide v_o_readHigh v_o_thirds v_o_rowed f_o_s  n x11 hc12) mw_4_27 mw_4_29 mw_p_12 mw_1_8 mw_4_30 hd_X6_many ⟨Nat.le_of_ble_eq_true rfl, Nat.le_of_ble_eq_true rfl⟩ hK hN hP hD hS rfl rfl rfl rfl rfl rfl rfl rfl rfl rfl rfl rfl hl.1 rfl (Nat.le_of_ble_eq_true rfl) dX6_image_33 ⟨Nat.le_of_ble_eq_true rfl, Nat.le_of_ble_eq_true rfl⟩ (fun H locs hP hD hS => ?_)
    refine W.eq (g2 := F0 m 36 ls [.int x11]) rfl ?_
    obtain ⟨rfl, rfl, rfl⟩ := cz_j3 (cz_i h)
    exact hQ _ _ _ _ hP hS dX6_image_36
  clear h
  have hL7 : ∀ (k : Nat) (x1 : Int32) (g2 : (Nat → Int32)) (H : Heap) (locs : List Loc) (ls : Array Slot), f_X6_image_L2 n f_o_s k x1 g2 = some z3 → va_P D vwCl [oX6 a_o a_o_refusals a_o_s a_o_image v_o_isImage a_o_tape a_o_read v_o_taped v_o_pos v_o_readWide v_o_readHigh a_o_innerOf a_o_whoseOf a_o_nearOf a_o_fromOf v_o_thirds a_o_pieceOf a_o_kept a_o_claimOf a_o_row v_o_rowed, aI cI a_o_s 151 f_o_s, aI cI a_o_image 151 g2] H → va_D A [oX6 a_o a_o_refusals a_o_s a_o_image v_o_isImage a_o_tape a_o_read v_o_taped v_o_pos v_o_readWide v_o_readHigh a_o_innerOf a_o_whoseOf a_o_nearOf a_o_fromOf v_o_thirds a_o_pieceOf a_o_kept a_o_claimOf a_o_row v_o_rowed, aI cI a_o_s 151 f_o_s, aI cI a_o_image 151 g2] → va_S A s.heap H locs → lv_has ls 2 [(0, .ref a_o), (1, .int x1)] → W p l e (cz_rm 1 20) s m ag below meth c H locs 0 0 Q (F0 m 2 ls []) := by
    intro k
    induction k with
    | zero =>
      intro x1 g2 H locs ls h
      rw [f_X6_image_L2] at h
      cases h
    | succ k ih13 =>
      intro x1 g2 H locs ls h hP hD hS hl
      rw [f_X6_image_L2] at h
      refine lv_iload_n hx hb dX6_image_2 rfl (lv_at hl 1 rfl) ?_
      refine lv_sipush (v := (151 : Int32)) hx hb dX6_image_3 (by decide) ?_
      refine lv_icmp_ge (tgt := 27) hx hb dX6_image_6 (by decide) (fun c14 => ?_) (fun c14 => ?_)
      · replace h := cz_t c14 h
        exact hX6 _ _ _ _ _ (cz_i h).symm hP hD hS (lv_sub hl [0] rfl)
      · replace h := cz_f c14 h
        refine lv_aload_n hx hb dX6_image_9 rfl (lv_at hl 0 rfl) ?_
        refine va_get (D := D) (ci := 6) (v := .ref a_o_image) (C := RX6) (T := TX6) (N := 20) hx hb hts in_X6 hown hK hP 0 rfl rfl 2 (by decide) (hts _ mw_3_188) (fun _ h9 => h9) rfl dX6_image_10 ?_
        refine lv_iload_n hx hb dX6_image_13 rfl (lv_at hl 1 rfl) ?_
        refine lv_aload_n hx hb dX6_image_14 rfl (lv_at hl 0 rfl) ?_
        refine va_get (D := D) (ci := 6) (v := .ref a_o_s) (C := RX6) (T := TX6) (N := 20) hx hb hts in_X6 hown hK hP 0 rfl rfl 1 (by decide) (hts _ mw_3_187) (fun _ h9 => h9) rfl dX6_image_15 ?_
        refine lv_iload_n hx hb dX6_image_18 rfl (lv_at hl 1 rfl) ?_
        refine cz_iald hx hb hK hP 1 0 rfl rfl (cz_rdE h).1 dX6_image_19 (fun x15 ex15 => ?_)
        replace h := cz_rdK ex15 h
        refine cz_iast hx hb hK hP hD hS 2 0 rfl rfl (cz_wrE h).1 dX6_image_20 (fun g16 H locs eg16 hP hD hS => ?_)
        replace h := cz_wrK eg16 h
        replace hP : va_P D vwCl [oX6 a_o a_o_refusals a_o_s a_o_image v_o_isImage a_o_tape a_o_read v_o_taped v_o_pos v_o_readWide v_o_readHigh a_o_innerOf a_o_whoseOf a_o_nearOf a_o_fromOf v_o_thirds a_o_pieceOf a_o_kept a_o_claimOf a_o_row v_o_rowed, aI cI a_o_s 151 f_o_s, aI cI a_o_image 151 g16] H := hP
        replace hD : va_D A [oX6 a_o a_o_refusals a_o_s a_o_image v_o_isImage a_o_tape a_o_read v_o_taped v_o_pos v_o_readWide v_o_readHigh a_o_innerOf a_o_whoseOf a_o_nearOf a_o_fromOf v_o_thirds a_o_pieceOf a_o_kept a_o_claimOf a_o_row v_o_rowed, aI cI a_o_s 151 f_o_s, aI cI a_o_image 151 g16] := hD
        obtain ⟨x17, ex17⟩ : ∃ z : Int32, z = x1 + (1 : Int32) := ⟨_, rfl⟩
        replace h := cz_ltE ex17 h
        refine lv_iinc (v := x17) (lv' := [(1, .int x17), (0, .ref a_o)]) hx hb dX6_image_21 hl (k := 1) rfl (by rw [ex17]; rfl) (by decide) rfl (fun ls hl => ?_)
        refine lv_goto (tgt := 2) hx hb dX6_image_24 (by decide) ?_
        exact ih13 _ _ _ _ _ h hP hD hS (lv_sub hl [1, 0] rfl)
  exact hL7 n _ _ _ _ _ hE4 hP hD hS (lv_sub hl [1, 0] rfl)
set_option maxHeartbeats 4000000 in
set_option maxRecDepth 100000 in
theorem c_X6_on (l : Launch) (D : va_G) (cI : ClassId) (a_o a_o_refusals a_o_s a_o_image a_o_tape a_o_read a_o_innerOf a_o_whoseOf a_o_nearOf a_o_fromOf a_o_pieceOf a_o_kept a_o_claimOf a_o_row : Nat) (v_o_isImage : Int32) (v_o_taped : Int32) (v_o_pos : Int32) (v_o_readWide : Int32) (v_o_readHigh : Int32) (v_o_thirds : Int32) (v_o_rowed : Int32) (f_o_refusals : (Nat → Int32)) (f_o_s : (Nat → Int32)) (f_o_image : (Nat → Int32)) (n : Nat) (r : Int32) (r_f_o_refusals : (Nat → Int32)) (r_f_o_s : (Nat → Int32)) (h : f_X6_on n v_o_isImage f_o_refusals f_o_s f_o_image = some (r, r_f_o_refusals, r_f_o_s)) : cz_M l yX6_on cX6_on 2 (some .int) 1 21 D cI [.ref a_o] [oX6 a_o a_o_refusals a_o_s a_o_image v_o_isImage a_o_tape a_o_read v_o_taped v_o_pos v_o_readWide v_o_readHigh a_o_innerOf a_o_whoseOf a_o_nearOf a_o_fromOf v_o_thirds a_o_pieceOf a_o_kept a_o_claimOf a_o_row v_o_rowed, aI cI a_o_refusals 7 f_o_refusals, aI cI a_o_s 151 f_o_s, aI cI a_o_image 151 f_o_image] (some (.int r)) [oX6 a_o a_o_refusals a_o_s a_o_image v_o_isImage a_o_tape a_o_read v_o_taped v_o_pos v_o_readWide v_o_readHigh a_o_innerOf a_o_whoseOf a_o_nearOf a_o_fromOf v_o_thirds a_o_pieceOf a_o_kept a_o_claimOf a_o_row v_o_rowed, aI cI a_o_refusals 7 r_f_o_refusals, aI cI a_o_s 151 r_f_o_s, aI cI a_o_image 151 f_o_image] := by
  refine cz_startI (by decide) (Nat.le_of_ble_eq_true rfl) ?_
  intro p e s m ag below meth c A Q hx hb hml hown hts hK hN hQ H locs hP hD hS ls hl
  replace hown : s.vm.findClass RX6 = some m.cls := hown
  replace hl : lv_has ls 2 [(0, .ref a_o)] := hl
  unfold f_X6_on at h
  refine lv_aload_n hx hb dX6_on_0 rfl (lv_at hl 0 rfl) ?_
  refine va_get (D := D) (ci := 6) (v := .int v_o_isImage) (C := RX6) (T := TX6) (N := 20) hx hb hts in_X6 hown hK hP 0 rfl rfl 3 (by decide) (hts _ mw_3_189) (fun _ h9 => h9) rfl dX6_on_1 ?_
  refine lv_if_ne (tgt := 14) hx hb dX6_on_4 (by decide) (fun c1 => ?_) (fun c1 => ?_)
  · replace h := cz_f c1 h
    refine lv_iconst (v := (0 : Int32)) hx hb dX6_on_14 (by decide) ?_
    refine lv_istore_n (lv' := [(1, .int (0 : Int32)), (0, .ref a_o)]) hx hb dX6_on_15 rfl hl (by decide) rfl (fun ls hl => ?_)
    obtain ⟨z4, hE5, hz6⟩ := cz_x2 h
    have hX7 : ∀ (y10 : Int32) (q11 : (Nat → Int32)) (H : Heap) (locs : List Loc) (ls : Array Slot), z4 = (y10, q11) → va_P D vwCl [oX6 a_o a_o_refusals a_o_s a_o_image v_o_isImage a_o_tape a_o_read v_o_taped v_o_pos v_o_readWide v_o_readHigh a_o_innerOf a_o_whoseOf a_o_nearOf a_o_fromOf v_o_thirds a_o_pieceOf a_o_kept a_o_claimOf a_o_row v_o_rowed, aI cI a_o_refusals 7 f_o_refusals, aI cI a_o_s 151 q11, aI cI a_o_image 151 f_o_image] H → va_D A [oX6 a_o a_o_refusals a_o_s a_o_image v_o_isImage a_o_tape a_o_read v_o_taped v_o_pos v_o_readWide v_o_readHigh a_o_innerOf a_o_whoseOf a_o_nearOf a_o_fromOf v_o_thirds a_o_pieceOf a_o_kept a_o_claimOf a_o_row v_o_rowed, aI cI a_o_refusals 7 f_o_refusals, aI cI a_o_s 151 q11, aI cI a_o_image 151 f_o_image] → va_S A s.heap H locs → lv_has ls 2 [(0, .ref a_o)] → W p l e (cz_rm 1 21) s m ag below meth c H locs 0 0 Q (F0 m 41 ls []) := by
      intro y10 q11 H locs ls h hP hD hS hl
      replace h := hz6 _ _ h
      refine lv_aload_n hx hb dX6_on_41 rfl (lv_at hl 0 rfl) ?_
      obtain ⟨x12, hc13, h⟩ := cz_e1 h
      refine cz_callV (As := []) (rest := []) (is := [0, 2]) (isR := [1, 3]) (rs := [aI cI a_o_refusals 7 f_o_refusals, aI cI a_o_image 151 f_o_image]) (as := [a_o, a_o_refusals, a_o_s, a_o_image]) (ws1 := [oX6 a_o a_o_refusals a_o_s a_o_image v_o_isImage a_o_tape a_o_read v_o_taped v_o_pos v_o_readWide v_o_readHigh a_o_innerOf a_o_whoseOf a_o_nearOf a_o_fromOf v_o_thirds a_o_pieceOf a_o_kept a_o_claimOf a_o_row v_o_rowed, aI cI a_o_refusals 7 f_o_refusals, aI cI a_o_s 151 q11, aI cI a_o_image 151 f_o_image]) (q0 := 0) (ci := 6) ⟨hx, hb, hml, hown, hts⟩ (c_X6_many l D cI a_o a_o_s a_o_refusals a_o_image a_o_tape a_o_read a_o_innerOf a_o_whoseOf a_o_nearOf a_o_fromOf a_o_pieceOf a_o_kept a_o_claimOf a_o_row v_o_isImage v_o_taped v_o_pos v_o_readWide v_o_readHigh v_o_thirds v_o_rowed q11  n x12 hc13) mw_4_27 mw_4_29 mw_p_12 mw_1_8 mw_4_30 hd_X6_many ⟨Nat.le_of_ble_eq_true rfl, Nat.le_of_ble_eq_true rfl⟩ hK hN hP hD hS rfl rfl rfl rfl rfl rfl rfl rfl rfl rfl rfl rfl hl.1 rfl (Nat.le_of_ble_eq_true rfl) dX6_on_42 ⟨Nat.le_of_ble_eq_true rfl, Nat.le_of_ble_eq_true rfl⟩ (fun H locs hP hD hS => ?_)
      refine W.eq (g2 := F0 m 45 ls [.int x12]) rfl ?_
      obtain ⟨rfl, rfl, rfl⟩ := cz_j3 (cz_i h)
      exact hQ _ _ _ _ hP hS dX6_on_45
    clear h
    have hL8 : ∀ (k : Nat) (x2 : Int32) (g3 : (Nat → Int32)) (H : Heap) (locs : List Loc) (ls : Array Slot), f_X6_on_L16 n f_o_image k x2 g3 = some z4 → va_P D vwCl [oX6 a_o a_o_refusals a_o_s a_o_image v_o_isImage a_o_tape a_o_read v_o_taped v_o_pos v_o_readWide v_o_readHigh a_o_innerOf a_o_whoseOf a_o_nearOf a_o_fromOf v_o_thirds a_o_pieceOf a_o_kept a_o_claimOf a_o_row v_o_rowed, aI cI a_o_refusals 7 f_o_refusals, aI cI a_o_s 151 g3, aI cI a_o_image 151 f_o_image] H → va_D A [oX6 a_o a_o_refusals a_o_s a_o_image v_o_isImage a_o_tape a_o_read v_o_taped v_o_pos v_o_readWide v_o_readHigh a_o_innerOf a_o_whoseOf a_o_nearOf a_o_fromOf v_o_thirds a_o_pieceOf a_o_kept a_o_claimOf a_o_row v_o_rowed, aI cI a_o_refusals 7 f_o_refusals, aI cI a_o_s 151 g3, aI cI a_o_image 151 f_o_image] → va_S A s.heap H locs → lv_has ls 2 [(0, .ref a_o), (1, .int x2)] → W p l e (cz_rm 1 21) s m ag below meth c H locs 0 0 Q (F0 m 16 ls []) := by
      intro k
      induction k with
      | zero =>
        intro x2 g3 H locs ls h
        rw [f_X6_on_L16] at h
        cases h
      | succ k ih14 =>
        intro x2 g3 H locs ls h hP hD hS hl
        rw [f_X6_on_L16] at h
        refine lv_iload_n hx hb dX6_on_16 rfl (lv_at hl 1 rfl) ?_
        refine lv_sipush (v := (151 : Int32)) hx hb dX6_on_17 (by decide) ?_
        refine lv_icmp_ge (tgt := 41) hx hb dX6_on_20 (by decide) (fun c15 => ?_) (fun c15 => ?_)
        · replace h := cz_t c15 h
          exact hX7 _ _ _ _ _ (cz_i h).symm hP hD hS (lv_sub hl [0] rfl)
        · replace h := cz_f c15 h
          refine lv_aload_n hx hb dX6_on_23 rfl (lv_at hl 0 rfl) ?_
          refine va_get (D := D) (ci := 6) (v := .ref a_o_s) (C := RX6) (T := TX6) (N := 20) hx hb hts in_X6 hown hK hP 0 rfl rfl 1 (by decide) (hts _ mw_3_187) (fun _ h9 => h9) rfl dX6_on_24 ?_
          refine lv_iload_n hx hb dX6_on_27 rfl (lv_at hl 1 rfl) ?_
          refine lv_aload_n hx hb dX6_on_28 rfl (lv_at hl 0 rfl) ?_
          refine va_get (D := D) (ci := 6) (v := .ref a_o_image) (C := RX6) (T := TX6) (N := 20) hx hb hts in_X6 hown hK hP 0 rfl rfl 2 (by decide) (hts _ mw_3_188) (fun _ h9 => h9) rfl dX6_on_29 ?_
          refine lv_iload_n hx hb dX6_on_32 rfl (lv_at hl 1 rfl) ?_
          refine cz_iald hx hb hK hP 3 0 rfl rfl (cz_rdE h).1 dX6_on_33 (fun x16 ex16 => ?_)
          replace h := cz_rdK ex16 h
          refine cz_iast hx hb hK hP hD hS 2 0 rfl rfl (cz_wrE h).1 dX6_on_34 (fun g17 H locs eg17 hP hD hS => ?_)
          replace h := cz_wrK eg17 h
          replace hP : va_P D vwCl [oX6 a_o a_o_refusals a_o_s a_o_image v_o_isImage a_o_tape a_o_read v_o_taped v_o_pos v_o_readWide v_o_readHigh a_o_innerOf a_o_whoseOf a_o_nearOf a_o_fromOf v_o_thirds a_o_pieceOf a_o_kept a_o_claimOf a_o_row v_o_rowed, aI cI a_o_refusals 7 f_o_refusals, aI cI a_o_s 151 g17, aI cI a_o_image 151 f_o_image] H := hP
          replace hD : va_D A [oX6 a_o a_o_refusals a_o_s a_o_image v_o_isImage a_o_tape a_o_read v_o_taped v_o_pos v_o_readWide v_o_readHigh a_o_innerOf a_o_whoseOf a_o_nearOf a_o_fromOf v_o_thirds a_o_pieceOf a_o_kept a_o_claimOf a_o_row v_o_rowed, aI cI a_o_refusals 7 f_o_refusals, aI cI a_o_s 151 g17, aI cI a_o_image 151 f_o_image] := hD
          obtain ⟨x18, ex18⟩ : ∃ z : Int32, z = x2 + (1 : Int32) := ⟨_, rfl⟩
          replace h := cz_ltE ex18 h
          refine lv_iinc (v := x18) (lv' := [(1, .int x18), (0, .ref a_o)]) hx hb dX6_on_35 hl (k := 1) rfl (by rw [ex18]; rfl) (by decide) rfl (fun ls hl => ?_)
          refine lv_goto (tgt := 16) hx hb dX6_on_38 (by decide) ?_
          exact ih14 _ _ _ _ _ h hP hD hS (lv_sub hl [1, 0] rfl)
    exact hL8 n _ _ _ _ _ hE5 hP hD hS (lv_sub hl [1, 0] rfl)
  · replace h := cz_t c1 h
    refine lv_aload_n hx hb dX6_on_7 rfl (lv_at hl 0 rfl) ?_
    refine lv_bipush (v := (-3 : Int32)) hx hb dX6_on_8 (by decide) ?_
    obtain ⟨x20, g21, hc22, h⟩ := cz_e2 h
    refine cz_callV (As := [.int (-3 : Int32)]) (rest := []) (is := [0, 1]) (isR := [2, 3]) (rs := [aI cI a_o_s 151 f_o_s, aI cI a_o_image 151 f_o_image]) (as := [a_o, a_o_refusals, a_o_s, a_o_image]) (ws1 := [oX6 a_o a_o_refusals a_o_s a_o_image v_o_isImage a_o_tape a_o_read v_o_taped v_o_pos v_o_readWide v_o_readHigh a_o_innerOf a_o_whoseOf a_o_nearOf a_o_fromOf v_o_thirds a_o_pieceOf a_o_kept a_o_claimOf a_o_row v_o_rowed, aI cI a_o_refusals 7 g21, aI cI a_o_s 151 f_o_s, aI cI a_o_image 151 f_o_image]) (q0 := 0) (ci := 6) ⟨hx, hb, hml, hown, hts⟩ (c_X6_refuse l D cI a_o a_o_refusals a_o_s a_o_image a_o_tape a_o_read a_o_innerOf a_o_whoseOf a_o_nearOf a_o_fromOf a_o_pieceOf a_o_kept a_o_claimOf a_o_row v_o_isImage v_o_taped v_o_pos v_o_readWide v_o_readHigh v_o_thirds v_o_rowed f_o_refusals (-3 : Int32) n x20 g21 hc22) mw_4_11 mw_4_13 mw_p_10 mw_1_8 mw_4_14 hd_X6_refuse ⟨Nat.le_of_ble_eq_true rfl, Nat.le_of_ble_eq_true rfl⟩ hK hN hP hD hS rfl rfl rfl rfl rfl rfl rfl rfl rfl rfl rfl rfl hl.1 rfl (Nat.le_of_ble_eq_true rfl) dX6_on_10 ⟨Nat.le_of_ble_eq_true rfl, Nat.le_of_ble_eq_true rfl⟩ (fun H locs hP hD hS => ?_)
    refine W.eq (g2 := F0 m 13 ls [.int x20]) rfl ?_
    obtain ⟨rfl, rfl, rfl⟩ := cz_j3 (cz_i h)
    exact hQ _ _ _ _ hP hS dX6_on_13
set_option maxHeartbeats 4000000 in
set_option maxRecDepth 100000 in
theorem c_X6_count (l : Launch) (D : va_G) (cI : ClassId) (a_o a_o_refusals a_o_s a_o_image a_o_tape a_o_read a_o_innerOf a_o_whoseOf a_o_nearOf a_o_fromOf a_o_pieceOf a_o_kept a_o_claimOf a_o_row : Nat) (v_o_isImage : Int32) (v_o_taped : Int32) (v_o_pos : Int32) (v_o_readWide : Int32) (v_o_readHigh : Int32) (v_o_thirds : Int32) (v_o_rowed : Int32) (f_o_refusals : (Nat → Int32)) (f_o_s : (Nat → Int32)) (w1 : Int32) (n : Nat) (r : Int32) (h : f_X6_count n v_o_taped v_o_rowed f_o_refusals f_o_s w1 = some r) : cz_M l yX6_count cX6_count 4 (some .int) 1 21 D cI [.ref a_o, .int w1] [oX6 a_o a_o_refusals a_o_s a_o_image v_o_isImage a_o_tape a_o_read v_o_taped v_o_pos v_o_readWide v_o_readHigh a_o_innerOf a_o_whoseOf a_o_nearOf a_o_fromOf v_o_thirds a_o_pieceOf a_o_kept a_o_claimOf a_o_row v_o_rowed, aI cI a_o_refusals 7 f_o_refusals, aI cI a_o_s 151 f_o_s] (some (.int r)) [oX6 a_o a_o_refusals a_o_s a_o_image v_o_isImage a_o_tape a_o_read v_o_taped v_o_pos v_o_readWide v_o_readHigh a_o_innerOf a_o_whoseOf a_o_nearOf a_o_fromOf v_o_thirds a_o_pieceOf a_o_kept a_o_claimOf a_o_row v_o_rowed, aI cI a_o_refusals 7 f_o_refusals, aI cI a_o_s 151 f_o_s] := by
  refine cz_startI (by decide) (Nat.le_of_ble_eq_true rfl) ?_
  intro p e s m ag below meth c A Q hx hb hml hown hts hK hN hQ H locs hP hD hS ls hl
  replace hown : s.vm.findClass RX6 = some m.cls := hown
  replace hl : lv_has ls 4 [(0, .ref a_o), (1, .int w1)] := hl
  unfold f_X6_count at h
  refine lv_iload_n hx hb dX6_count_0 rfl (lv_at hl 1 rfl) ?_
  refine lv_bipush (v := (10 : Int32)) hx hb dX6_count_1 (by decide) ?_
  refine lv_icmp_le (tgt := 22) hx hb dX6_count_3 (by decide) (fun c1 => ?_) (fun c1 => ?_)
  · replace h := cz_t c1 h
    refine lv_iconst (v := (0 : Int32)) hx hb dX6_count_22 (by decide) ?_
    refine lv_istore_n (lv' := [(2, .int (0 : Int32)), (0, .ref a_o), (1, .int w1)]) hx hb dX6_count_23 rfl hl (by decide) rfl (fun ls hl => ?_)
    refine lv_iload_n hx hb dX6_count_24 rfl (lv_at hl 2 rfl) ?_
    by_cases c2 : w1 = (0 : Int32)
    · replace h := cz_t c2 h
      refine lv_tableIn (tgt := 64) (off := 39) hx hb dX6_count_25 (by rw [c2]; decide) (by rw [c2]; decide) (by rw [c2]; rfl) (by decide) ?_
      refine lv_aload_n hx hb dX6_count_64 rfl (lv_at hl 1 rfl) ?_
      refine va_get (D := D) (ci := 6) (v := .ref a_o_s) (C := RX6) (T := TX6) (N := 20) hx hb hts in_X6 hown hK hP 0 rfl rfl 1 (by decide) (hts _ mw_3_187) (fun _ h9 => h9) rfl dX6_count_65 ?_
      refine lv_iconst (v := (0 : Int32)) hx hb dX6_count_68 (by decide) ?_
      refine cz_iald hx hb hK hP 2 0 rfl rfl (cz_rdE h).1 dX6_count_69 (fun x3 ex3 => ?_)
      replace h := cz_rdK ex3 h
      obtain rfl := cz_i h
      exact hQ _ _ _ _ hP hS dX6_count_70
    · replace h := cz_f c2 h
      by_cases c4 : w1 = (1 : Int32)
      · replace h := cz_t c4 h
        refine lv_tableIn (tgt := 71) (off := 46) hx hb dX6_count_25 (by rw [c4]; decide) (by rw [c4]; decide) (by rw [c4]; rfl) (by decide) ?_
        refine lv_aload_n hx hb dX6_count_71 rfl (lv_at hl 1 rfl) ?_
        refine va_get (D := D) (ci := 6) (v := .ref a_o_s) (C := RX6) (T := TX6) (N := 20) hx hb hts in_X6 hown hK hP 0 rfl rfl 1 (by decide) (hts _ mw_3_187) (fun _ h9 => h9) rfl dX6_count_72 ?_
        refine lv_iconst (v := (1 : Int32)) hx hb dX6_count_75 (by decide) ?_
        refine cz_iald hx hb hK hP 2 0 rfl rfl (cz_rdE h).1 dX6_count_76 (fun x5 ex5 => ?_)
        replace h := cz_rdK ex5 h
        obtain rfl := cz_i h
        exact hQ _ _ _ _ hP hS dX6_count_77
      · replace h := cz_f c4 h
        by_cases c6 : w1 = (2 : Int32)
        · replace h := cz_t c6 h
          refine lv_tableIn (tgt := 78) (off := 53) hx hb dX6_count_25 (by rw [c6]; decide) (by rw [c6]; decide) (by rw [c6]; rfl) (by decide) ?_
          refine lv_iconst (v := (0 : Int32)) hx hb dX6_count_78 (by decide) ?_
          refine lv_istore_n (lv' := [(3, .int (0 : Int32)), (2, .int (0 : Int32)), (0, .ref a_o), (1, .int w1)]) hx hb dX6_count_79 rfl hl (by decide) rfl (fun ls hl => ?_)
          obtain ⟨z9, hE10, hz11⟩ := cz_x2 h
          have hX12 : ∀ (y15 : Int32) (y16 : Int32) (H : Heap) (locs : List Loc) (ls : Array Slot), z9 = (y15, y16) → va_P D vwCl [oX6 a_o a_o_refusals a_o_s a_o_image v_o_isImage a_o_tape a_o_read v_o_taped v_o_pos v_o_readWide v_o_readHigh a_o_innerOf a_o_whoseOf a_o_nearOf a_o_fromOf v_o_thirds a_o_pieceOf a_o_kept a_o_claimOf a_o_row v_o_rowed, aI cI a_o_refusals 7 f_o_refusals, aI cI a_o_s 151 f_o_s] H → va_D A [oX6 a_o a_o_refusals a_o_s a_o_image v_o_isImage a_o_tape a_o_read v_o_taped v_o_pos v_o_readWide v_o_readHigh a_o_innerOf a_o_whoseOf a_o_nearOf a_o_fromOf v_o_thirds a_o_pieceOf a_o_kept a_o_claimOf a_o_row v_o_rowed, aI cI a_o_refusals 7 f_o_refusals, aI cI a_o_s 151 f_o_s] → va_S A s.heap H locs → lv_has ls 4 [(2, .int y15)] → W p l e (cz_rm 1 21) s m ag below meth c H locs 0 0 Q (F0 m 110 ls []) := by
            intro y15 y16 H locs ls h hP hD hS hl
            replace h := hz11 _ _ h
            refine lv_iload_n hx hb dX6_count_110 rfl (lv_at hl 0 rfl) ?_
            obtain rfl := cz_i h
            exact hQ _ _ _ _ hP hS dX6_count_111
          clear h
          have hL13 : ∀ (k : Nat) (x7 : Int32) (x8 : Int32) (H : Heap) (locs : List Loc) (ls : Array Slot), f_X6_count_L80 n f_o_s k x7 x8 = some z9 → va_P D vwCl [oX6 a_o a_o_refusals a_o_s a_o_image v_o_isImage a_o_tape a_o_read v_o_taped v_o_pos v_o_readWide v_o_readHigh a_o_innerOf a_o_whoseOf a_o_nearOf a_o_fromOf v_o_thirds a_o_pieceOf a_o_kept a_o_claimOf a_o_row v_o_rowed, aI cI a_o_refusals 7 f_o_refusals, aI cI a_o_s 151 f_o_s] H → va_D A [oX6 a_o a_o_refusals a_o_s a_o_image v_o_isImage a_o_tape a_o_read v_o_taped v_o_pos v_o_readWide v_o_readHigh a_o_innerOf a_o_whoseOf a_o_nearOf a_o_fromOf v_o_thirds a_o_pieceOf a_o_kept a_o_claimOf a_o_row v_o_rowed, aI cI a_o_refusals 7 f_o_refusals, aI cI a_o_s 151 f_o_s] → va_S A s.heap H locs → lv_has ls 4 [(0, .ref a_o), (2, .int x7), (3, .int x8)] → W p l e (cz_rm 1 21) s m ag below meth c H locs 0 0 Q (F0 m 80 ls []) := by
            intro k
            induction k with
            | zero =>
              intro x7 x8 H locs ls h
              rw [f_X6_count_L80] at h
              cases h
            | succ k ih17 =>
              intro x7 x8 H locs ls h hP hD hS hl
              rw [f_X6_count_L80] at h
              refine lv_iload_n hx hb dX6_count_80 rfl (lv_at hl 2 rfl) ?_
              refine lv_aload_n hx hb dX6_count_81 rfl (lv_at hl 0 rfl) ?_
              obtain ⟨x18, hc19, h⟩ := cz_e1 h
              refine cz_callV (As := []) (rest := [.int x8]) (is := [0, 2]) (isR := [1]) (rs := [aI cI a_o_refusals 7 f_o_refusals]) (as := [a_o, a_o_refusals, a_o_s]) (ws1 := [oX6 a_o a_o_refusals a_o_s a_o_image v_o_isImage a_o_tape a_o_read v_o_taped v_o_pos v_o_readWide v_o_readHigh a_o_innerOf a_o_whoseOf a_o_nearOf a_o_fromOf v_o_thirds a_o_pieceOf a_o_kept a_o_claimOf a_o_row v_o_rowed, aI cI a_o_refusals 7 f_o_refusals, aI cI a_o_s 151 f_o_s]) (q0 := 0) (ci := 6) ⟨hx, hb, hml, hown, hts⟩ (c_X6_many l D cI a_o a_o_s a_o_refusals a_o_image a_o_tape a_o_read a_o_innerOf a_o_whoseOf a_o_nearOf a_o_fromOf a_o_pieceOf a_o_kept a_o_claimOf a_o_row v_o_isImage v_o_taped v_o_pos v_o_readWide v_o_readHigh v_o_thirds v_o_rowed f_o_s  n x18 hc19) mw_4_27 mw_4_29 mw_p_12 mw_1_8 mw_4_30 hd_X6_many ⟨Nat.le_of_ble_eq_true rfl, Nat.le_of_ble_eq_true rfl⟩ hK hN hP hD hS rfl rfl rfl rfl rfl rfl rfl rfl rfl rfl rfl rfl hl.1 rfl (Nat.le_of_ble_eq_true rfl) dX6_count_82 ⟨Nat.le_of_ble_eq_true rfl, Nat.le_of_ble_eq_true rfl⟩ (fun H locs hP hD hS => ?_)
              refine W.eq (g2 := F0 m 85 ls [.int x18, .int x8]) rfl ?_
              refine lv_icmp_ge (tgt := 110) hx hb dX6_count_85 (by decide) (fun c20 => ?_) (fun c20 => ?_)
              · replace h := cz_t c20 h
                exact hX12 _ _ _ _ _ (cz_i h).symm hP hD hS (lv_sub hl [1] rfl)
              · replace h := cz_f c20 h
                refine lv_iload_n hx hb dX6_count_88 rfl (lv_at hl 1 rfl) ?_
                refine lv_aload_n hx hb dX6_count_89 rfl (lv_at hl 0 rfl) ?_
                refine lv_iload_n hx hb dX6_count_90 rfl (lv_at hl 2 rfl) ?_
                obtain ⟨x21, hc22, h⟩ := cz_e1 h
                refine cz_callV (As := [.int x8]) (rest := [.int x7]) (is := [0, 2]) (isR := [1]) (rs := [aI cI a_o_refusals 7 f_o_refusals]) (as := [a_o, a_o_refusals, a_o_s]) (ws1 := [oX6 a_o a_o_refusals a_o_s a_o_image v_o_isImage a_o_tape a_o_read v_o_taped v_o_pos v_o_readWide v_o_readHigh a_o_innerOf a_o_whoseOf a_o_nearOf a_o_fromOf v_o_thirds a_o_pieceOf a_o_kept a_o_claimOf a_o_row v_o_rowed, aI cI a_o_refusals 7 f_o_refusals, aI cI a_o_s 151 f_o_s]) (q0 := 0) (ci := 6) ⟨hx, hb, hml, hown, hts⟩ (c_X6_at l D cI a_o a_o_s a_o_refusals a_o_image a_o_tape a_o_read a_o_innerOf a_o_whoseOf a_o_nearOf a_o_fromOf a_o_pieceOf a_o_kept a_o_claimOf a_o_row v_o_isImage v_o_taped v_o_pos v_o_readWide v_o_readHigh v_o_thirds v_o_rowed f_o_s x8 n x21 hc22) mw_4_43 mw_4_45 mw_p_15 mw_1_8 mw_4_46 hd_X6_at ⟨Nat.le_of_ble_eq_true rfl, Nat.le_of_ble_eq_true rfl⟩ hK hN hP hD hS rfl rfl rfl rfl rfl rfl rfl rfl rfl rfl rfl rfl hl.1 rfl (Nat.le_of_ble_eq_true rfl) dX6_count_91 ⟨Nat.le_of_ble_eq_true rfl, Nat.le_of_ble_eq_true rfl⟩ (fun H locs hP hD hS => ?_)
                refine W.eq (g2 := F0 m 94 ls [.int x21, .int x7]) rfl ?_
                obtain ⟨z27, hE25, hz24⟩ := cz_ltV h
                have hJ26 : ∀ (x23 : Int32) (H : Heap) (locs : List Loc) (ls : Array Slot), z27 = x23 → va_P D vwCl [oX6 a_o a_o_refusals a_o_s a_o_image v_o_isImage a_o_tape a_o_read v_o_taped v_o_pos v_o_readWide v_o_readHigh a_o_innerOf a_o_whoseOf a_o_nearOf a_o_fromOf v_o_thirds a_o_pieceOf a_o_kept a_o_claimOf a_o_row v_o_rowed, aI cI a_o_refusals 7 f_o_refusals, aI cI a_o_s 151 f_o_s] H → va_D A [oX6 a_o a_o_refusals a_o_s a_o_image v_o_isImage a_o_tape a_o_read v_o_taped v_o_pos v_o_readWide v_o_readHigh a_o_innerOf a_o_whoseOf a_o_nearOf a_o_fromOf v_o_thirds a_o_pieceOf a_o_kept a_o_claimOf a_o_row v_o_rowed, aI cI a_o_refusals 7 f_o_refusals, aI cI a_o_s 151 f_o_s] → va_S A s.heap H locs → lv_has ls 4 [(0, .ref a_o), (3, .int x8)] → W p l e (cz_rm 1 21) s m ag below meth c H locs 0 0 Q (F0 m 102 ls [.int x23, .int x7]) := by
                  intro x23 H locs ls h hP hD hS hl
                  replace h := hz24 _ h
                  refine lv_iadd hx hb dX6_count_102 ?_
                  refine lv_topi (fun x28 ex28 => ?_)
                  replace h := cz_ltE ex28 h
                  refine lv_istore_n (lv' := [(2, .int x28), (0, .ref a_o), (3, .int x8)]) hx hb dX6_count_103 rfl hl (by decide) rfl (fun ls hl => ?_)
                  obtain ⟨x29, ex29⟩ : ∃ z : Int32, z = x8 + (1 : Int32) := ⟨_, rfl⟩
                  replace h := cz_ltE ex29 h
                  refine lv_iinc (v := x29) (lv' := [(3, .int x29), (2, .int x28), (0, .ref a_o)]) hx hb dX6_count_104 hl (k := 2) rfl (by rw [ex29]; rfl) (by decide) rfl (fun ls hl => ?_)
                  refine lv_goto (tgt := 80) hx hb dX6_count_107 (by decide) ?_
                  exact ih17 _ _ _ _ _ h hP hD hS (lv_sub hl [2, 1, 0] rfl)
                clear h
                have h := hE25
                refine lv_if_ne (tgt := 101) hx hb dX6_count_94 (by decide) (fun c30 => ?_) (fun c30 => ?_)
                · replace h := cz_f c30 h
                  refine lv_iconst (v := (0 : Int32)) hx hb dX6_count_101 (by decide) ?_
                  exact hJ26 _ _ _ _ h.symm hP hD hS (lv_sub hl [0, 2] rfl)
                · replace h := cz_t c30 h
                  refine lv_iconst (v := (1 : Int32)) hx hb dX6_count_97 (by decide) ?_
                  refine lv_goto (tgt := 102) hx hb dX6_count_98 (by decide) ?_
                  exact hJ26 _ _ _ _ h.symm hP hD hS (lv_sub hl [0, 2] rfl)
          exact hL13 n _ _ _ _ _ hE10 hP hD hS (lv_sub hl [2, 1, 0] rfl)
        · replace h := cz_f c6 h
          by_cases c32 : w1 = (3 : Int32)
          · replace h := cz_t c32 h
            refine lv_tableIn (tgt := 112) (off := 87) hx hb dX6_count_25 (by rw [c32]; decide) (by rw [c32]; decide) (by rw [c32]; rfl) (by decide) ?_
            refine lv_aload_n hx hb dX6_count_112 rfl (lv_at hl 1 rfl) ?_
            refine va_get (D := D) (ci := 6) (v := .ref a_o_s) (C := RX6) (T := TX6) (N := 20) hx hb hts in_X6 hown hK hP 0 rfl rfl 1 (by decide) (hts _ mw_3_187) (fun _ h9 => h9) rfl dX6_count_113 ?_
            refine lv_bipush (v := (6 : Int32)) hx hb dX6_count_116 (by decide) ?_
            refine cz_iald hx hb hK hP 2 0 rfl rfl (cz_rdE h).1 dX6_count_118 (fun x33 ex33 => ?_)
            replace h := cz_rdK ex33 h
            obtain rfl := cz_i h
            exact hQ _ _ _ _ hP hS dX6_count_119
          · replace h := cz_f c32 h
            by_cases c34 : w1 = (4 : Int32)
            · replace h := cz_t c34 h
              refine lv_tableIn (tgt := 120) (off := 95) hx hb dX6_count_25 (by rw [c34]; decide) (by rw [c34]; decide) (by rw [c34]; rfl) (by decide) ?_
              refine lv_aload_n hx hb dX6_count_120 rfl (lv_at hl 1 rfl) ?_
              refine va_get (D := D) (ci := 6) (v := .int v_o_taped) (C := RX6) (T := TX6) (N := 20) hx hb hts in_X6 hown hK hP 0 rfl rfl 6 (by decide) (hts _ mw_3_192) (fun _ h9 => h9) rfl dX6_count_121 ?_
              obtain rfl := cz_i h
              exact hQ _ _ _ _ hP hS dX6_count_124
            · replace h := cz_f c34 h
              by_cases c35 : w1 = (5 : Int32)
              · replace h := cz_t c35 h
                refine lv_tableIn (tgt := 125) (off := 100) hx hb dX6_count_25 (by rw [c35]; decide) (by rw [c35]; decide) (by rw [c35]; rfl) (by decide) ?_
                refine lv_aload_n hx hb dX6_count_125 rfl (lv_at hl 1 rfl) ?_
                refine va_get (D := D) (ci := 6) (v := .int v_o_rowed) (C := RX6) (T := TX6) (N := 20) hx hb hts in_X6 hown hK hP 0 rfl rfl 19 (by decide) (hts _ mw_3_205) (fun _ h9 => h9) rfl dX6_count_126 ?_
                obtain rfl := cz_i h
                exact hQ _ _ _ _ hP hS dX6_count_129
              · replace h := cz_f c35 h
                refine lv_tableOut (tgt := 130) hx hb dX6_count_25 (cz_swOut w1 6 (by decide) (fun k hk => by rcases (show k = 0 ∨ k = 1 ∨ k = 2 ∨ k = 3 ∨ k = 4 ∨ k = 5 by omega) with rfl | rfl | rfl | rfl | rfl | rfl <;> assumption)) (by decide) ?_
                refine lv_bipush (v := (-9 : Int32)) hx hb dX6_count_130 (by decide) ?_
                obtain rfl := cz_i h
                exact hQ _ _ _ _ hP hS dX6_count_132
  · replace h := cz_f c1 h
    refine lv_iload_n hx hb dX6_count_6 rfl (lv_at hl 1 rfl) ?_
    refine lv_bipush (v := (17 : Int32)) hx hb dX6_count_7 (by decide) ?_
    refine lv_icmp_ge (tgt := 22) hx hb dX6_count_9 (by decide) (fun c36 => ?_) (fun c36 => ?_)
    · replace h := cz_t c36 h
      refine lv_iconst (v := (0 : Int32)) hx hb dX6_count_22 (by decide) ?_
      refine lv_istore_n (lv' := [(2, .int (0 : Int32)), (0, .ref a_o), (1, .int w1)]) hx hb dX6_count_23 rfl hl (by decide) rfl (fun ls hl => ?_)
      refine lv_iload_n hx hb dX6_count_24 rfl (lv_at hl 2 rfl) ?_
      by_cases c37 : w1 = (0 : Int32)
      · replace h := cz_t c37 h
        refine lv_tableIn (tgt := 64) (off := 39) hx hb dX6_count_25 (by rw [c37]; decide) (by rw [c37]; decide) (by rw [c37]; rfl) (by decide) ?_
        refine lv_aload_n hx hb dX6_count_64 rfl (lv_at hl 1 rfl) ?_
        refine va_get (D := D) (ci := 6) (v := .ref a_o_s) (C := RX6) (T := TX6) (N := 20) hx hb hts in_X6 hown hK hP 0 rfl rfl 1 (by decide) (hts _ mw_3_187) (fun _ h9 => h9) rfl dX6_count_65 ?_
        refine lv_iconst (v := (0 : Int32)) hx hb dX6_count_68 (by decide) ?_
        refine cz_iald hx hb hK hP 2 0 rfl rfl (cz_rdE h).1 dX6_count_69 (fun x38 ex38 => ?_)
        replace h := cz_rdK ex38 h
        obtain rfl := cz_i h
        exact hQ _ _ _ _ hP hS dX6_count_70
      · replace h := cz_f c37 h
        by_cases c39 : w1 = (1 : Int32)
        · replace h := cz_t c39 h
          refine lv_tableIn (tgt := 71) (off := 46) hx hb dX6_count_25 (by rw [c39]; decide) (by rw [c39]; decide) (by rw [c39]; rfl) (by decide) ?_
          refine lv_aload_n hx hb dX6_count_71 rfl (lv_at hl 1 rfl) ?_
          refine va_get (D := D) (ci := 6) (v := .ref a_o_s) (C := RX6) (T := TX6) (N := 20) hx hb hts in_X6 hown hK hP 0 rfl rfl 1 (by decide) (hts _ mw_3_187) (fun _ h9 => h9) rfl dX6_count_72 ?_
          refine lv_iconst (v := (1 : Int32)) hx hb dX6_count_75 (by decide) ?_
          refine cz_iald hx hb hK hP 2 0 rfl rfl (cz_rdE h).1 dX6_count_76 (fun x40 ex40 => ?_)
          replace h := cz_rdK ex40 h
          obtain rfl := cz_i h
          exact hQ _ _ _ _ hP hS dX6_count_77
        · replace h := cz_f c39 h
          by_cases c41 : w1 = (2 : Int32)
          · replace h := cz_t c41 h
            refine lv_tableIn (tgt := 78) (off := 53) hx hb dX6_count_25 (by rw [c41]; decide) (by rw [c41]; decide) (by rw [c41]; rfl) (by decide) ?_
            refine lv_iconst (v := (0 : Int32)) hx hb dX6_count_78 (by decide) ?_
            refine lv_istore_n (lv' := [(3, .int (0 : Int32)), (2, .int (0 : Int32)), (0, .ref a_o), (1, .int w1)]) hx hb dX6_count_79 rfl hl (by decide) rfl (fun ls hl => ?_)
            obtain ⟨z44, hE45, hz46⟩ := cz_x2 h
            have hX47 : ∀ (y50 : Int32) (y51 : Int32) (H : Heap) (locs : List Loc) (ls : Array Slot), z44 = (y50, y51) → va_P D vwCl [oX6 a_o a_o_refusals a_o_s a_o_image v_o_isImage a_o_tape a_o_read v_o_taped v_o_pos v_o_readWide v_o_readHigh a_o_innerOf a_o_whoseOf a_o_nearOf a_o_fromOf v_o_thirds a_o_pieceOf a_o_kept a_o_claimOf a_o_row v_o_rowed, aI cI a_o_refusals 7 f_o_refusals, aI cI a_o_s 151 f_o_s] H → va_D A [oX6 a_o a_o_refusals a_o_s a_o_image v_o_isImage a_o_tape a_o_read v_o_taped v_o_pos v_o_readWide v_o_readHigh a_o_innerOf a_o_whoseOf a_o_nearOf a_o_fromOf v_o_thirds a_o_pieceOf a_o_kept a_o_claimOf a_o_row v_o_rowed, aI cI a_o_refusals 7 f_o_refusals, aI cI a_o_s 151 f_o_s] → va_S A s.heap H locs → lv_has ls 4 [(2, .int y50)] → W p l e (cz_rm 1 21) s m ag below meth c H locs 0 0 Q (F0 m 110 ls []) := by
              intro y50 y51 H locs ls h hP hD hS hl
              replace h := hz46 _ _ h
              refine lv_iload_n hx hb dX6_count_110 rfl (lv_at hl 0 rfl) ?_
              obtain rfl := cz_i h
              exact hQ _ _ _ _ hP hS dX6_count_111
            clear h
            have hL48 : ∀ (k : Nat) (x42 : Int32) (x43 : Int32) (H : Heap) (locs : List Loc) (ls : Array Slot), f_X6_count_L80b n f_o_s k x42 x43 = some z44 → va_P D vwCl [oX6 a_o a_o_refusals a_o_s a_o_image v_o_isImage a_o_tape a_o_read v_o_taped v_o_pos v_o_readWide v_o_readHigh a_o_innerOf a_o_whoseOf a_o_nearOf a_o_fromOf v_o_thirds a_o_pieceOf a_o_kept a_o_claimOf a_o_row v_o_rowed, aI cI a_o_refusals 7 f_o_refusals, aI cI a_o_s 151 f_o_s] H → va_D A [oX6 a_o a_o_refusals a_o_s a_o_image v_o_isImage a_o_tape a_o_read v_o_taped v_o_pos v_o_readWide v_o_readHigh a_o_innerOf a_o_whoseOf a_o_nearOf a_o_fromOf v_o_thirds a_o_pieceOf a_o_kept a_o_claimOf a_o_row v_o_rowed, aI cI a_o_refusals 7 f_o_refusals, aI cI a_o_s 151 f_o_s] → va_S A s.heap H locs → lv_has ls 4 [(0, .ref a_o), (2, .int x42), (3, .int x43)] → W p l e (cz_rm 1 21) s m ag below meth c H locs 0 0 Q (F0 m 80 ls []) := by
              intro k
              induction k with
              | zero =>
                intro x42 x43 H locs ls h
                rw [f_X6_count_L80b] at h
                cases h
              | succ k ih52 =>
                intro x42 x43 H locs ls h hP hD hS hl
                rw [f_X6_count_L80b] at h
                refine lv_iload_n hx hb dX6_count_80 rfl (lv_at hl 2 rfl) ?_
                refine lv_aload_n hx hb dX6_count_81 rfl (lv_at hl 0 rfl) ?_
                obtain ⟨x53, hc54, h⟩ := cz_e1 h
                refine cz_callV (As := []) (rest := [.int x43]) (is := [0, 2]) (isR := [1]) (rs := [aI cI a_o_refusals 7 f_o_refusals]) (as := [a_o, a_o_refusals, a_o_s]) (ws1 := [oX6 a_o a_o_refusals a_o_s a_o_image v_o_isImage a_o_tape a_o_read v_o_taped v_o_pos v_o_readWide v_o_readHigh a_o_innerOf a_o_whoseOf a_o_nearOf a_o_fromOf v_o_thirds a_o_pieceOf a_o_kept a_o_claimOf a_o_row v_o_rowed, aI cI a_o_refusals 7 f_o_refusals, aI cI a_o_s 151 f_o_s]) (q0 := 0) (ci := 6) ⟨hx, hb, hml, hown, hts⟩ (c_X6_many l D cI a_o a_o_s a_o_refusals a_o_image a_o_tape a_o_read a_o_innerOf a_o_whoseOf a_o_nearOf a_o_fromOf a_o_pieceOf a_o_kept a_o_claimOf a_o_row v_o_isImage v_o_taped v_o_pos v_o_readWide v_o_readHigh v_o_thirds v_o_rowed f_o_s  n x53 hc54) mw_4_27 mw_4_29 mw_p_12 mw_1_8 mw_4_30 hd_X6_many ⟨Nat.le_of_ble_eq_true rfl, Nat.le_of_ble_eq_true rfl⟩ hK hN hP hD hS rfl rfl rfl rfl rfl rfl rfl rfl rfl rfl rfl rfl hl.1 rfl (Nat.le_of_ble_eq_true rfl) dX6_count_82 ⟨Nat.le_of_ble_eq_true rfl, Nat.le_of_ble_eq_true rfl⟩ (fun H locs hP hD hS => ?_)
                refine W.eq (g2 := F0 m 85 ls [.int x53, .int x43]) rfl ?_
                refine lv_icmp_ge (tgt := 110) hx hb dX6_count_85 (by decide) (fun c55 => ?_) (fun c55 => ?_)
                · replace h := cz_t c55 h
                  exact hX47 _ _ _ _ _ (cz_i h).symm hP hD hS (lv_sub hl [1] rfl)
                · replace h := cz_f c55 h
                  refine lv_iload_n hx hb dX6_count_88 rfl (lv_at hl 1 rfl) ?_
                  refine lv_aload_n hx hb dX6_count_89 rfl (lv_at hl 0 rfl) ?_
                  refine lv_iload_n hx hb dX6_count_90 rfl (lv_at hl 2 rfl) ?_
                  obtain ⟨x56, hc57, h⟩ := cz_e1 h
                  refine cz_callV (As := [.int x43]) (rest := [.int x42]) (is := [0, 2]) (isR := [1]) (rs := [aI cI a_o_refusals 7 f_o_refusals]) (as := [a_o, a_o_refusals, a_o_s]) (ws1 := [oX6 a_o a_o_refusals a_o_s a_o_image v_o_isImage a_o_tape a_o_read v_o_taped v_o_pos v_o_readWide v_o_readHigh a_o_innerOf a_o_whoseOf a_o_nearOf a_o_fromOf v_o_thirds a_o_pieceOf a_o_kept a_o_claimOf a_o_row v_o_rowed, aI cI a_o_refusals 7 f_o_refusals, aI cI a_o_s 151 f_o_s]) (q0 := 0) (ci := 6) ⟨hx, hb, hml, hown, hts⟩ (c_X6_at l D cI a_o a_o_s a_o_refusals a_o_image a_o_tape a_o_read a_o_innerOf a_o_whoseOf a_o_nearOf a_o_fromOf a_o_pieceOf a_o_kept a_o_claimOf a_o_row v_o_isImage v_o_taped v_o_pos v_o_readWide v_o_readHigh v_o_thirds v_o_rowed f_o_s x43 n x56 hc57) mw_4_43 mw_4_45 mw_p_15 mw_1_8 mw_4_46 hd_X6_at ⟨Nat.le_of_ble_eq_true rfl, Nat.le_of_ble_eq_true rfl⟩ hK hN hP hD hS rfl rfl rfl rfl rfl rfl rfl rfl rfl rfl rfl rfl hl.1 rfl (Nat.le_of_ble_eq_true rfl) dX6_count_91 ⟨Nat.le_of_ble_eq_true rfl, Nat.le_of_ble_eq_true rfl⟩ (fun H locs hP hD hS => ?_)
                  refine W.eq (g2 := F0 m 94 ls [.int x56, .int x42]) rfl ?_
                  obtain ⟨z62, hE60, hz59⟩ := cz_ltV h
                  have hJ61 : ∀ (x58 : Int32) (H : Heap) (locs : List Loc) (ls : Array Slot), z62 = x58 → va_P D vwCl [oX6 a_o a_o_refusals a_o_s a_o_image v_o_isImage a_o_tape a_o_read v_o_taped v_o_pos v_o_readWide v_o_readHigh a_o_innerOf a_o_whoseOf a_o_nearOf a_o_fromOf v_o_thirds a_o_pieceOf a_o_kept a_o_claimOf a_o_row v_o_rowed, aI cI a_o_refusals 7 f_o_refusals, aI cI a_o_s 151 f_o_s] H → va_D A [oX6 a_o a_o_refusals a_o_s a_o_image v_o_isImage a_o_tape a_o_read v_o_taped v_o_pos v_o_readWide v_o_readHigh a_o_innerOf a_o_whoseOf a_o_nearOf a_o_fromOf v_o_thirds a_o_pieceOf a_o_kept a_o_claimOf a_o_row v_o_rowed, aI cI a_o_refusals 7 f_o_refusals, aI cI a_o_s 151 f_o_s] → va_S A s.heap H locs → lv_has ls 4 [(0, .ref a_o), (3, .int x43)] → W p l e (cz_rm 1 21) s m ag below meth c H locs 0 0 Q (F0 m 102 ls [.int x58, .int x42]) := by
                    intro x58 H locs ls h hP hD hS hl
                    replace h := hz59 _ h
                    refine lv_iadd hx hb dX6_count_102 ?_
                    refine lv_topi (fun x63 ex63 => ?_)
                    replace h := cz_ltE ex63 h
                    refine lv_istore_n (lv' := [(2, .int x63), (0, .ref a_o), (3, .int x43)]) hx hb dX6_count_103 rfl hl (by decide) rfl (fun ls hl => ?_)
                    obtain ⟨x64, ex64⟩ : ∃ z : Int32, z = x43 + (1 : Int32) := ⟨_, rfl⟩
                    replace h := cz_ltE ex64 h
                    refine lv_iinc (v := x64) (lv' := [(3, .int x64), (2, .int x63), (0, .ref a_o)]) hx hb dX6_count_104 hl (k := 2) rfl (by rw [ex64]; rfl) (by decide) rfl (fun ls hl => ?_)
                    refine lv_goto (tgt := 80) hx hb dX6_count_107 (by decide) ?_
                    exact ih52 _ _ _ _ _ h hP hD hS (lv_sub hl [2, 1, 0] rfl)
                  clear h
                  have h := hE60
                  refine lv_if_ne (tgt := 101) hx hb dX6_count_94 (by decide) (fun c65 => ?_) (fun c65 => ?_)
                  · replace h := cz_f c65 h
                    refine lv_iconst (v := (0 : Int32)) hx hb dX6_count_101 (by decide) ?_
                    exact hJ61 _ _ _ _ h.symm hP hD hS (lv_sub hl [0, 2] rfl)
                  · replace h := cz_t c65 h
                    refine lv_iconst (v := (1 : Int32)) hx hb dX6_count_97 (by decide) ?_
                    refine lv_goto (tgt := 102) hx hb dX6_count_98 (by decide) ?_
                    exact hJ61 _ _ _ _ h.symm hP hD hS (lv_sub hl [0, 2] rfl)
            exact hL48 n _ _ _ _ _ hE45 hP hD hS (lv_sub hl [2, 1, 0] rfl)
          · replace h := cz_f c41 h
            by_cases c67 : w1 = (3 : Int32)
            · replace h := cz_t c67 h
              refine lv_tableIn (tgt := 112) (off := 87) hx hb dX6_count_25 (by rw [c67]; decide) (by rw [c67]; decide) (by rw [c67]; rfl) (by decide) ?_
              refine lv_aload_n hx hb dX6_count_112 rfl (lv_at hl 1 rfl) ?_
              refine va_get (D := D) (ci := 6) (v := .ref a_o_s) (C := RX6) (T := TX6) (N := 20) hx hb hts in_X6 hown hK hP 0 rfl rfl 1 (by decide) (hts _ mw_3_187) (fun _ h9 => h9) rfl dX6_count_113 ?_
              refine lv_bipush (v := (6 : Int32)) hx hb dX6_count_116 (by decide) ?_
              refine cz_iald hx hb hK hP 2 0 rfl rfl (cz_rdE h).1 dX6_count_118 (fun x68 ex68 => ?_)
              replace h := cz_rdK ex68 h
              obtain rfl := cz_i h
              exact hQ _ _ _ _ hP hS dX6_count_119
            · replace h := cz_f c67 h
              by_cases c69 : w1 = (4 : Int32)
              · replace h := cz_t c69 h
                refine lv_tableIn (tgt := 120) (off := 95) hx hb dX6_count_25 (by rw [c69]; decide) (by rw [c69]; decide) (by rw [c69]; rfl) (by decide) ?_
                refine lv_aload_n hx hb dX6_count_120 rfl (lv_at hl 1 rfl) ?_
                refine va_get (D := D) (ci := 6) (v := .int v_o_taped) (C := RX6) (T := TX6) (N := 20) hx hb hts in_X6 hown hK hP 0 rfl rfl 6 (by decide) (hts _ mw_3_192) (fun _ h9 => h9) rfl dX6_count_121 ?_
                obtain rfl := cz_i h
                exact hQ _ _ _ _ hP hS dX6_count_124
              · replace h := cz_f c69 h
                by_cases c70 : w1 = (5 : Int32)
                · replace h := cz_t c70 h
                  refine lv_tableIn (tgt := 125) (off := 100) hx hb dX6_count_25 (by rw [c70]; decide) (by rw [c70]; decide) (by rw [c70]; rfl) (by decide) ?_
                  refine lv_aload_n hx hb dX6_count_125 rfl (lv_at hl 1 rfl) ?_
                  refine va_get (D := D) (ci := 6) (v := .int v_o_rowed) (C := RX6) (T := TX6) (N := 20) hx hb hts in_X6 hown hK hP 0 rfl rfl 19 (by decide) (hts _ mw_3_205) (fun _ h9 => h9) rfl dX6_count_126 ?_
                  obtain rfl := cz_i h
                  exact hQ _ _ _ _ hP hS dX6_count_129
                · replace h := cz_f c70 h
                  refine lv_tableOut (tgt := 130) hx hb dX6_count_25 (cz_swOut w1 6 (by decide) (fun k hk => by rcases (show k = 0 ∨ k = 1 ∨ k = 2 ∨ k = 3 ∨ k = 4 ∨ k = 5 by omega) with rfl | rfl | rfl | rfl | rfl | rfl <;> assumption)) (by decide) ?_
                  refine lv_bipush (v := (-9 : Int32)) hx hb dX6_count_130 (by decide) ?_
                  obtain rfl := cz_i h
                  exact hQ _ _ _ _ hP hS dX6_count_132
    · replace h := cz_f c36 h
      refine lv_aload_n hx hb dX6_count_12 rfl (lv_at hl 0 rfl) ?_
      refine va_get (D := D) (ci := 6) (v := .ref a_o_refusals) (C := RX6) (T := TX6) (N := 20) hx hb hts in_X6 hown hK hP 0 rfl rfl 0 (by decide) (hts _ mw_3_186) (fun _ h9 => h9) rfl dX6_count_13 ?_
      refine lv_iload_n hx hb dX6_count_16 rfl (lv_at hl 1 rfl) ?_
      refine lv_bipush (v := (10 : Int32)) hx hb dX6_count_17 (by decide) ?_
      refine lv_isub hx hb dX6_count_19 ?_
      refine cz_iald hx hb hK hP 1 0 rfl rfl (cz_rdE h).1 dX6_count_20 (fun x71 ex71 => ?_)
      replace h := cz_rdK ex71 h
      obtain rfl := cz_i h
      exact hQ _ _ _ _ hP hS dX6_count_21
