set_option maxHeartbeats 4000000 in
set_option maxRecDepth 100000 in
theorem c_X5_put (l : Launch) (D : va_G) (cI : ClassId) (a_o a_o_row a_o_refusals a_o_tape a_o_waters a_o_kept a_o_option a_o_chart a_o_otherChart a_o_evenCells : Nat) (v_o_rowLength : Int32) (v_o_hasImage : Int32) (f_o_row : (Nat → Int32)) (f_o_refusals : (Nat → Int32)) (w1 : Int32) (n : Nat) (r : Int32) (r_v_o_rowLength : Int32) (r_f_o_row : (Nat → Int32)) (r_f_o_refusals : (Nat → Int32)) (h : f_X5_put n v_o_rowLength f_o_row f_o_refusals w1 = some (r, r_v_o_rowLength, r_f_o_row, r_f_o_refusals)) : cz_M l yX5_put cX5_put 2 (some .int) 1 22 D cI [.ref a_o, .int w1] [oX5 a_o a_o_tape a_o_waters a_o_kept a_o_option a_o_chart a_o_otherChart a_o_evenCells a_o_row a_o_refusals v_o_rowLength v_o_hasImage, aI cI a_o_row 120 f_o_row, aI cI a_o_refusals 7 f_o_refusals] (some (.int r)) [oX5 a_o a_o_tape a_o_waters a_o_kept a_o_option a_o_chart a_o_otherChart a_o_evenCells a_o_row a_o_refusals r_v_o_rowLength v_o_hasImage, aI cI a_o_row 120 r_f_o_row, aI cI a_o_refusals 7 r_f_o_refusals] := by
  refine cz_startI (by decide) (Nat.le_of_ble_eq_true rfl) ?_
  intro p e s m ag below meth c A Q hx hb hml hown hts hK hN hQ H locs hP hD hS ls hl
  replace hown : s.vm.findClass RX5 = some m.cls := hown
  replace hl : lv_has ls 2 [(0, .ref a_o), (1, .int w1)] := hl
  unfold f_X5_put at h
  refine lv_iload_n hx hb dX5_put_0 rfl (lv_at hl 1 rfl) ?_
  refine lv_bipush (v := (-9 : Int32)) hx hb dX5_put_1 (by decide) ?_
  refine lv_icmp_ge (tgt := 13) hx hb dX5_put_3 (by decide) (fun c1 => ?_) (fun c1 => ?_)
  · replace h := cz_t c1 h
    refine lv_iload_n hx hb dX5_put_13 rfl (lv_at hl 1 rfl) ?_
    refine lv_bipush (v := (9 : Int32)) hx hb dX5_put_14 (by decide) ?_
    refine lv_icmp_gt (tgt := 38) hx hb dX5_put_16 (by decide) (fun c2 => ?_) (fun c2 => ?_)
    · replace h := cz_t c2 h
      refine lv_aload_n hx hb dX5_put_38 rfl (lv_at hl 0 rfl) ?_
      refine lv_bipush (v := (-6 : Int32)) hx hb dX5_put_39 (by decide) ?_
      obtain ⟨x3, g4, hc5, h⟩ := cz_e2 h
      refine cz_callV (As := [.int (-6 : Int32)]) (rest := []) (is := [0, 2]) (isR := [1]) (rs := [aI cI a_o_row 120 f_o_row]) (as := [a_o, a_o_row, a_o_refusals]) (ws1 := [oX5 a_o a_o_tape a_o_waters a_o_kept a_o_option a_o_chart a_o_otherChart a_o_evenCells a_o_row a_o_refusals v_o_rowLength v_o_hasImage, aI cI a_o_row 120 f_o_row, aI cI a_o_refusals 7 g4]) (q0 := 0) (ci := 5) ⟨hx, hb, hml, hown, hts⟩ (c_X5_refuse l D cI a_o a_o_refusals a_o_tape a_o_waters a_o_kept a_o_option a_o_chart a_o_otherChart a_o_evenCells a_o_row v_o_rowLength v_o_hasImage f_o_refusals (-6 : Int32) n x3 g4 hc5) mw_1_189 mw_1_191 mw_p_0 mw_1_1 mw_1_192 hd_X5_refuse ⟨Nat.le_of_ble_eq_true rfl, Nat.le_of_ble_eq_true rfl⟩ hK hN hP hD hS rfl rfl rfl rfl rfl rfl rfl rfl rfl rfl rfl rfl hl.1 rfl (Nat.le_of_ble_eq_true rfl) dX5_put_41 ⟨Nat.le_of_ble_eq_true rfl, Nat.le_of_ble_eq_true rfl⟩ (fun H locs hP hD hS => ?_)
      refine W.eq (g2 := F0 m 44 ls [.int x3]) rfl ?_
      obtain ⟨rfl, rfl, rfl, rfl⟩ := cz_j4 (cz_i h)
      exact hQ _ _ _ _ hP hS dX5_put_44
    · replace h := cz_f c2 h
      refine lv_aload_n hx hb dX5_put_19 rfl (lv_at hl 0 rfl) ?_
      refine va_get (D := D) (ci := 5) (v := .int v_o_rowLength) (C := RX5) (T := TX5) (N := 11) hx hb hts in_X5 hown hK hP 0 rfl rfl 9 (by decide) (hts _ mw_1_160) (fun _ h9 => h9) rfl dX5_put_20 ?_
      refine lv_if_lt (tgt := 38) hx hb dX5_put_23 (by decide) (fun c6 => ?_) (fun c6 => ?_)
      · replace h := cz_t c6 h
        refine lv_aload_n hx hb dX5_put_38 rfl (lv_at hl 0 rfl) ?_
        refine lv_bipush (v := (-6 : Int32)) hx hb dX5_put_39 (by decide) ?_
        obtain ⟨x7, g8, hc9, h⟩ := cz_e2 h
        refine cz_callV (As := [.int (-6 : Int32)]) (rest := []) (is := [0, 2]) (isR := [1]) (rs := [aI cI a_o_row 120 f_o_row]) (as := [a_o, a_o_row, a_o_refusals]) (ws1 := [oX5 a_o a_o_tape a_o_waters a_o_kept a_o_option a_o_chart a_o_otherChart a_o_evenCells a_o_row a_o_refusals v_o_rowLength v_o_hasImage, aI cI a_o_row 120 f_o_row, aI cI a_o_refusals 7 g8]) (q0 := 0) (ci := 5) ⟨hx, hb, hml, hown, hts⟩ (c_X5_refuse l D cI a_o a_o_refusals a_o_tape a_o_waters a_o_kept a_o_option a_o_chart a_o_otherChart a_o_evenCells a_o_row v_o_rowLength v_o_hasImage f_o_refusals (-6 : Int32) n x7 g8 hc9) mw_1_189 mw_1_191 mw_p_0 mw_1_1 mw_1_192 hd_X5_refuse ⟨Nat.le_of_ble_eq_true rfl, Nat.le_of_ble_eq_true rfl⟩ hK hN hP hD hS rfl rfl rfl rfl rfl rfl rfl rfl rfl rfl rfl rfl hl.1 rfl (Nat.le_of_ble_eq_true rfl) dX5_put_41 ⟨Nat.le_of_ble_eq_true rfl, Nat.le_of_ble_eq_true rfl⟩ (fun H locs hP hD hS => ?_)
        refine W.eq (g2 := F0 m 44 ls [.int x7]) rfl ?_
        obtain ⟨rfl, rfl, rfl, rfl⟩ := cz_j4 (cz_i h)
        exact hQ _ _ _ _ hP hS dX5_put_44
      · replace h := cz_f c6 h
        refine lv_aload_n hx hb dX5_put_26 rfl (lv_at hl 0 rfl) ?_
        refine va_get (D := D) (ci := 5) (v := .int v_o_rowLength) (C := RX5) (T := TX5) (N := 11) hx hb hts in_X5 hown hK hP 0 rfl rfl 9 (by decide) (hts _ mw_1_160) (fun _ h9 => h9) rfl dX5_put_27 ?_
        refine lv_aload_n hx hb dX5_put_30 rfl (lv_at hl 0 rfl) ?_
        refine va_get (D := D) (ci := 5) (v := .ref a_o_row) (C := RX5) (T := TX5) (N := 11) hx hb hts in_X5 hown hK hP 0 rfl rfl 7 (by decide) (hts _ mw_1_158) (fun _ h9 => h9) rfl dX5_put_31 ?_
        refine va_alen (v := (120 : Int32)) hx hb hK hP 1 0 rfl rfl rfl dX5_put_34 ?_
        refine lv_icmp_lt (tgt := 45) hx hb dX5_put_35 (by decide) (fun c10 => ?_) (fun c10 => ?_)
        · replace h := cz_t c10 h
          refine lv_aload_n hx hb dX5_put_45 rfl (lv_at hl 0 rfl) ?_
          refine va_get (D := D) (ci := 5) (v := .ref a_o_row) (C := RX5) (T := TX5) (N := 11) hx hb hts in_X5 hown hK hP 0 rfl rfl 7 (by decide) (hts _ mw_1_158) (fun _ h9 => h9) rfl dX5_put_46 ?_
          refine lv_aload_n hx hb dX5_put_49 rfl (lv_at hl 0 rfl) ?_
          refine va_get (D := D) (ci := 5) (v := .int v_o_rowLength) (C := RX5) (T := TX5) (N := 11) hx hb hts in_X5 hown hK hP 0 rfl rfl 9 (by decide) (hts _ mw_1_160) (fun _ h9 => h9) rfl dX5_put_50 ?_
          refine lv_iload_n hx hb dX5_put_53 rfl (lv_at hl 1 rfl) ?_
          refine cz_iast hx hb hK hP hD hS 1 0 rfl rfl (cz_wrE h).1 dX5_put_54 (fun g11 H locs eg11 hP hD hS => ?_)
          replace h := cz_wrK eg11 h
          replace hP : va_P D vwCl [oX5 a_o a_o_tape a_o_waters a_o_kept a_o_option a_o_chart a_o_otherChart a_o_evenCells a_o_row a_o_refusals v_o_rowLength v_o_hasImage, aI cI a_o_row 120 g11, aI cI a_o_refusals 7 f_o_refusals] H := hP
          replace hD : va_D A [oX5 a_o a_o_tape a_o_waters a_o_kept a_o_option a_o_chart a_o_otherChart a_o_evenCells a_o_row a_o_refusals v_o_rowLength v_o_hasImage, aI cI a_o_row 120 g11, aI cI a_o_refusals 7 f_o_refusals] := hD
          refine lv_aload_n hx hb dX5_put_55 rfl (lv_at hl 0 rfl) ?_
          refine lv_dup hx hb dX5_put_56 rfl ?_
          refine va_get (D := D) (ci := 5) (v := .int v_o_rowLength) (C := RX5) (T := TX5) (N := 11) hx hb hts in_X5 hown hK hP 0 rfl rfl 9 (by decide) (hts _ mw_1_160) (fun _ h9 => h9) rfl dX5_put_57 ?_
          refine lv_iconst (v := (1 : Int32)) hx hb dX5_put_60 (by decide) ?_
          refine lv_iadd hx hb dX5_put_61 ?_
          refine lv_topi (fun x12 ex12 => ?_)
          replace h := cz_ltE ex12 h
          refine va_put (D := D) (ci := 5) (v := .int x12) (ty := .int) (C := RX5) (T := TX5) (N := 11) hx hb hts in_X5 tyX5 tyX5_ok nmX5 hown hK hP hD hS 0 rfl rfl 9 (by decide) (hts _ mw_1_160) (fun _ h9 => h9) rfl (by decide +kernel) rfl rfl (Nat.le_of_ble_eq_true rfl) dX5_put_62 (fun H locs hP hD hS => ?_)
          replace hP : va_P D vwCl [oX5 a_o a_o_tape a_o_waters a_o_kept a_o_option a_o_chart a_o_otherChart a_o_evenCells a_o_row a_o_refusals x12 v_o_hasImage, aI cI a_o_row 120 g11, aI cI a_o_refusals 7 f_o_refusals] H := hP
          replace hD : va_D A [oX5 a_o a_o_tape a_o_waters a_o_kept a_o_option a_o_chart a_o_otherChart a_o_evenCells a_o_row a_o_refusals x12 v_o_hasImage, aI cI a_o_row 120 g11, aI cI a_o_refusals 7 f_o_refusals] := hD
          refine lv_aload_n hx hb dX5_put_65 rfl (lv_at hl 0 rfl) ?_
          refine va_get (D := D) (ci := 5) (v := .int x12) (C := RX5) (T := TX5) (N := 11) hx hb hts in_X5 hown hK hP 0 rfl rfl 9 (by decide) (hts _ mw_1_160) (fun _ h9 => h9) rfl dX5_put_66 ?_
          obtain ⟨rfl, rfl, rfl, rfl⟩ := cz_j4 (cz_i h)
          exact hQ _ _ _ _ hP hS dX5_put_69
        · replace h := cz_f c10 h
          refine lv_aload_n hx hb dX5_put_38 rfl (lv_at hl 0 rfl) ?_
          refine lv_bipush (v := (-6 : Int32)) hx hb dX5_put_39 (by decide) ?_
          obtain ⟨x13, g14, hc15, h⟩ := cz_e2 h
          refine cz_callV (As := [.int (-6 : Int32)]) (rest := []) (is := [0, 2]) (isR := [1]) (rs := [aI cI a_o_row 120 f_o_row]) (as := [a_o, a_o_row, a_o_refusals]) (ws1 := [oX5 a_o a_o_tape a_o_waters a_o_kept a_o_option a_o_chart a_o_otherChart a_o_evenCells a_o_row a_o_refusals v_o_rowLength v_o_hasImage, aI cI a_o_row 120 f_o_row, aI cI a_o_refusals 7 g14]) (q0 := 0) (ci := 5) ⟨hx, hb, hml, hown, hts⟩ (c_X5_refuse l D cI a_o a_o_refusals a_o_tape a_o_waters a_o_kept a_o_option a_o_chart a_o_otherChart a_o_evenCells a_o_row v_o_rowLength v_o_hasImage f_o_refusals (-6 : Int32) n x13 g14 hc15) mw_1_189 mw_1_191 mw_p_0 mw_1_1 mw_1_192 hd_X5_refuse ⟨Nat.le_of_ble_eq_true rfl, Nat.le_of_ble_eq_true rfl⟩ hK hN hP hD hS rfl rfl rfl rfl rfl rfl rfl rfl rfl rfl rfl rfl hl.1 rfl (Nat.le_of_ble_eq_true rfl) dX5_put_41 ⟨Nat.le_of_ble_eq_true rfl, Nat.le_of_ble_eq_true rfl⟩ (fun H locs hP hD hS => ?_)
          refine W.eq (g2 := F0 m 44 ls [.int x13]) rfl ?_
          obtain ⟨rfl, rfl, rfl, rfl⟩ := cz_j4 (cz_i h)
          exact hQ _ _ _ _ hP hS dX5_put_44
  · replace h := cz_f c1 h
    refine lv_aload_n hx hb dX5_put_6 rfl (lv_at hl 0 rfl) ?_
    refine lv_bipush (v := (-4 : Int32)) hx hb dX5_put_7 (by decide) ?_
    obtain ⟨x16, g17, hc18, h⟩ := cz_e2 h
    refine cz_callV (As := [.int (-4 : Int32)]) (rest := []) (is := [0, 2]) (isR := [1]) (rs := [aI cI a_o_row 120 f_o_row]) (as := [a_o, a_o_row, a_o_refusals]) (ws1 := [oX5 a_o a_o_tape a_o_waters a_o_kept a_o_option a_o_chart a_o_otherChart a_o_evenCells a_o_row a_o_refusals v_o_rowLength v_o_hasImage, aI cI a_o_row 120 f_o_row, aI cI a_o_refusals 7 g17]) (q0 := 0) (ci := 5) ⟨hx, hb, hml, hown, hts⟩ (c_X5_refuse l D cI a_o a_o_refusals a_o_tape a_o_waters a_o_kept a_o_option a_o_chart a_o_otherChart a_o_evenCells a_o_row v_o_rowLength v_o_hasImage f_o_refusals (-4 : Int32) n x16 g17 hc18) mw_1_189 mw_1_191 mw_p_0 mw_1_1 mw_1_192 hd_X5_refuse ⟨Nat.le_of_ble_eq_true rfl, Nat.le_of_ble_eq_true rfl⟩ hK hN hP hD hS rfl rfl rfl rfl rfl rfl rfl rfl rfl rfl rfl rfl hl.1 rfl (Nat.le_of_ble_eq_true rfl) dX5_put_9 ⟨Nat.le_of_ble_eq_true rfl, Nat.le_of_ble_eq_true rfl⟩ (fun H locs hP hD hS => ?_)
    refine W.eq (g2 := F0 m 12 ls [.int x16]) rfl ?_
    obtain ⟨rfl, rfl, rfl, rfl⟩ := cz_j4 (cz_i h)
    exact hQ _ _ _ _ hP hS dX5_put_12
set_option maxHeartbeats 4000000 in
set_option maxRecDepth 100000 in
theorem c_X5_firstWrong (l : Launch) (D : va_G) (cI : ClassId) (a_o a_o_waters a_o_waters_kinds a_o_chart a_o_chart_owners a_o_row a_o_tape a_o_kept a_o_option a_o_otherChart a_o_evenCells a_o_refusals a_o_waters_wellPlaces a_o_waters_wellWorths a_o_waters_rules a_o_chart_inner a_o_chart_nears a_o_chart_basePlaces a_o_chart_baseFactors a_o_chart_baseStarts : Nat) (v_o_rowLength : Int32) (v_o_hasImage : Int32) (v_o_waters_wide : Int32) (v_o_waters_high : Int32) (v_o_waters_wells : Int32) (f_o_waters_kinds : (Nat → Int32)) (v_o_chart_bases : Int32) (v_o_chart_thirds : Int32) (f_o_chart_owners : (Nat → Int32)) (f_o_row : (Nat → Int32)) (n : Nat) (r : Int32) (h : f_X5_firstWrong n v_o_rowLength f_o_waters_kinds f_o_chart_owners f_o_row = some r) : cz_M l yX5_firstWrong cX5_firstWrong 4 (some .int) 1 21 D cI [.ref a_o] [oX5 a_o a_o_tape a_o_waters a_o_kept a_o_option a_o_chart a_o_otherChart a_o_evenCells a_o_row a_o_refusals v_o_rowLength v_o_hasImage, oX4 a_o_waters v_o_waters_wide v_o_waters_high v_o_waters_wells a_o_waters_kinds a_o_waters_wellPlaces a_o_waters_wellWorths a_o_waters_rules, aI cI a_o_waters_kinds 120 f_o_waters_kinds, oX0 a_o_chart a_o_chart_inner a_o_chart_owners a_o_chart_nears a_o_chart_basePlaces a_o_chart_baseFactors a_o_chart_baseStarts v_o_chart_bases v_o_chart_thirds, aI cI a_o_chart_owners 120 f_o_chart_owners, aI cI a_o_row 120 f_o_row] (some (.int r)) [oX5 a_o a_o_tape a_o_waters a_o_kept a_o_option a_o_chart a_o_otherChart a_o_evenCells a_o_row a_o_refusals v_o_rowLength v_o_hasImage, oX4 a_o_waters v_o_waters_wide v_o_waters_high v_o_waters_wells a_o_waters_kinds a_o_waters_wellPlaces a_o_waters_wellWorths a_o_waters_rules, aI cI a_o_waters_kinds 120 f_o_waters_kinds, oX0 a_o_chart a_o_chart_inner a_o_chart_owners a_o_chart_nears a_o_chart_basePlaces a_o_chart_baseFactors a_o_chart_baseStarts v_o_chart_bases v_o_chart_thirds, aI cI a_o_chart_owners 120 f_o_chart_owners, aI cI a_o_row 120 f_o_row] := by
  refine cz_startI (by decide) (Nat.le_of_ble_eq_true rfl) ?_
  intro p e s m ag below meth c A Q hx hb hml hown hts hK hN hQ H locs hP hD hS ls hl
  replace hown : s.vm.findClass RX5 = some m.cls := hown
  replace hl : lv_has ls 4 [(0, .ref a_o)] := hl
  unfold f_X5_firstWrong at h
  refine lv_iconst (v := (0 : Int32)) hx hb dX5_firstWrong_0 (by decide) ?_
  refine lv_istore_n (lv' := [(1, .int (0 : Int32)), (0, .ref a_o)]) hx hb dX5_firstWrong_1 rfl hl (by decide) rfl (fun ls hl => ?_)
  refine lv_iconst (v := (0 : Int32)) hx hb dX5_firstWrong_2 (by decide) ?_
  refine lv_istore_n (lv' := [(2, .int (0 : Int32)), (1, .int (0 : Int32)), (0, .ref a_o)]) hx hb dX5_firstWrong_3 rfl hl (by decide) rfl (fun ls hl => ?_)
  obtain ⟨z3, hE4, hR8, hz5⟩ := cz_y2 h
  have hX6 : ∀ (y9 : Int32) (y10 : Int32) (H : Heap) (locs : List Loc) (ls : Array Slot), z3 = Sum.inr (y9, y10) → va_P D vwCl [oX5 a_o a_o_tape a_o_waters a_o_kept a_o_option a_o_chart a_o_otherChart a_o_evenCells a_o_row a_o_refusals v_o_rowLength v_o_hasImage, oX4 a_o_waters v_o_waters_wide v_o_waters_high v_o_waters_wells a_o_waters_kinds a_o_waters_wellPlaces a_o_waters_wellWorths a_o_waters_rules, aI cI a_o_waters_kinds 120 f_o_waters_kinds, oX0 a_o_chart a_o_chart_inner a_o_chart_owners a_o_chart_nears a_o_chart_basePlaces a_o_chart_baseFactors a_o_chart_baseStarts v_o_chart_bases v_o_chart_thirds, aI cI a_o_chart_owners 120 f_o_chart_owners, aI cI a_o_row 120 f_o_row] H → va_D A [oX5 a_o a_o_tape a_o_waters a_o_kept a_o_option a_o_chart a_o_otherChart a_o_evenCells a_o_row a_o_refusals v_o_rowLength v_o_hasImage, oX4 a_o_waters v_o_waters_wide v_o_waters_high v_o_waters_wells a_o_waters_kinds a_o_waters_wellPlaces a_o_waters_wellWorths a_o_waters_rules, aI cI a_o_waters_kinds 120 f_o_waters_kinds, oX0 a_o_chart a_o_chart_inner a_o_chart_owners a_o_chart_nears a_o_chart_basePlaces a_o_chart_baseFactors a_o_chart_baseStarts v_o_chart_bases v_o_chart_thirds, aI cI a_o_chart_owners 120 f_o_chart_owners, aI cI a_o_row 120 f_o_row] → va_S A s.heap H locs → lv_has ls 4 [(0, .ref a_o), (1, .int y9)] → W p l e (cz_rm 1 21) s m ag below meth c H locs 0 0 Q (F0 m 82 ls []) := by
    intro y9 y10 H locs ls h hP hD hS hl
    replace h := hz5 _ _ h
    refine lv_iload_n hx hb dX5_firstWrong_82 rfl (lv_at hl 1 rfl) ?_
    refine lv_aload_n hx hb dX5_firstWrong_83 rfl (lv_at hl 0 rfl) ?_
    refine va_get (D := D) (ci := 5) (v := .int v_o_rowLength) (C := RX5) (T := TX5) (N := 11) hx hb hts in_X5 hown hK hP 0 rfl rfl 9 (by decide) (hts _ mw_1_160) (fun _ h9 => h9) rfl dX5_firstWrong_84 ?_
    refine lv_icmp_ge (tgt := 96) hx hb dX5_firstWrong_87 (by decide) (fun c11 => ?_) (fun c11 => ?_)
    · replace h := cz_t c11 h
      refine lv_bipush (v := (-9 : Int32)) hx hb dX5_firstWrong_96 (by decide) ?_
      obtain rfl := cz_i h
      exact hQ _ _ _ _ hP hS dX5_firstWrong_98
    · replace h := cz_f c11 h
      refine lv_sipush (v := (9999 : Int32)) hx hb dX5_firstWrong_90 (by decide) ?_
      refine lv_goto (tgt := 98) hx hb dX5_firstWrong_93 (by decide) ?_
      obtain rfl := cz_i h
      exact hQ _ _ _ _ hP hS dX5_firstWrong_98
  clear h
  have hL7 : ∀ (k : Nat) (x1 : Int32) (x2 : Int32) (H : Heap) (locs : List Loc) (ls : Array Slot), f_X5_firstWrong_L4 n v_o_rowLength f_o_waters_kinds f_o_chart_owners f_o_row k x1 x2 = some z3 → va_P D vwCl [oX5 a_o a_o_tape a_o_waters a_o_kept a_o_option a_o_chart a_o_otherChart a_o_evenCells a_o_row a_o_refusals v_o_rowLength v_o_hasImage, oX4 a_o_waters v_o_waters_wide v_o_waters_high v_o_waters_wells a_o_waters_kinds a_o_waters_wellPlaces a_o_waters_wellWorths a_o_waters_rules, aI cI a_o_waters_kinds 120 f_o_waters_kinds, oX0 a_o_chart a_o_chart_inner a_o_chart_owners a_o_chart_nears a_o_chart_basePlaces a_o_chart_baseFactors a_o_chart_baseStarts v_o_chart_bases v_o_chart_thirds, aI cI a_o_chart_owners 120 f_o_chart_owners, aI cI a_o_row 120 f_o_row] H → va_D A [oX5 a_o a_o_tape a_o_waters a_o_kept a_o_option a_o_chart a_o_otherChart a_o_evenCells a_o_row a_o_refusals v_o_rowLength v_o_hasImage, oX4 a_o_waters v_o_waters_wide v_o_waters_high v_o_waters_wells a_o_waters_kinds a_o_waters_wellPlaces a_o_waters_wellWorths a_o_waters_rules, aI cI a_o_waters_kinds 120 f_o_waters_kinds, oX0 a_o_chart a_o_chart_inner a_o_chart_owners a_o_chart_nears a_o_chart_basePlaces a_o_chart_baseFactors a_o_chart_baseStarts v_o_chart_bases v_o_chart_thirds, aI cI a_o_chart_owners 120 f_o_chart_owners, aI cI a_o_row 120 f_o_row] → va_S A s.heap H locs → lv_has ls 4 [(0, .ref a_o), (1, .int x1), (2, .int x2)] → W p l e (cz_rm 1 21) s m ag below meth c H locs 0 0 Q (F0 m 4 ls []) := by
    intro k
    induction k with
    | zero =>
      intro x1 x2 H locs ls h
      rw [f_X5_firstWrong_L4] at h
      cases h
    | succ k ih12 =>
      intro x1 x2 H locs ls h hP hD hS hl
      rw [f_X5_firstWrong_L4] at h
      refine lv_iload_n hx hb dX5_firstWrong_4 rfl (lv_at hl 2 rfl) ?_
      refine lv_bipush (v := (120 : Int32)) hx hb dX5_firstWrong_5 (by decide) ?_
      refine lv_icmp_ge (tgt := 82) hx hb dX5_firstWrong_7 (by decide) (fun c13 => ?_) (fun c13 => ?_)
      · replace h := cz_t c13 h
        exact hX6 _ _ _ _ _ (cz_i h).symm hP hD hS (lv_sub hl [0, 1] rfl)
      · replace h := cz_f c13 h
        refine lv_aload_n hx hb dX5_firstWrong_10 rfl (lv_at hl 0 rfl) ?_
        refine va_get (D := D) (ci := 5) (v := .ref a_o_waters) (C := RX5) (T := TX5) (N := 11) hx hb hts in_X5 hown hK hP 0 rfl rfl 1 (by decide) (hts _ mw_1_152) (fun _ h9 => h9) rfl dX5_firstWrong_11 ?_
        refine lv_iload_n hx hb dX5_firstWrong_14 rfl (lv_at hl 2 rfl) ?_
        obtain ⟨x14, hc15, h⟩ := cz_e1 h
        refine cz_callV (As := [.int x2]) (rest := []) (is := [1, 2]) (isR := [0, 3, 4, 5]) (rs := [oX5 a_o a_o_tape a_o_waters a_o_kept a_o_option a_o_chart a_o_otherChart a_o_evenCells a_o_row a_o_refusals v_o_rowLength v_o_hasImage, oX0 a_o_chart a_o_chart_inner a_o_chart_owners a_o_chart_nears a_o_chart_basePlaces a_o_chart_baseFactors a_o_chart_baseStarts v_o_chart_bases v_o_chart_thirds, aI cI a_o_chart_owners 120 f_o_chart_owners, aI cI a_o_row 120 f_o_row]) (as := [a_o, a_o_waters, a_o_waters_kinds, a_o_chart, a_o_chart_owners, a_o_row]) (ws1 := [oX5 a_o a_o_tape a_o_waters a_o_kept a_o_option a_o_chart a_o_otherChart a_o_evenCells a_o_row a_o_refusals v_o_rowLength v_o_hasImage, oX4 a_o_waters v_o_waters_wide v_o_waters_high v_o_waters_wells a_o_waters_kinds a_o_waters_wellPlaces a_o_waters_wellWorths a_o_waters_rules, aI cI a_o_waters_kinds 120 f_o_waters_kinds, oX0 a_o_chart a_o_chart_inner a_o_chart_owners a_o_chart_nears a_o_chart_basePlaces a_o_chart_baseFactors a_o_chart_baseStarts v_o_chart_bases v_o_chart_thirds, aI cI a_o_chart_owners 120 f_o_chart_owners, aI cI a_o_row 120 f_o_row]) (q0 := 0) (ci := 4) ⟨hx, hb, hml, hown, hts⟩ (c_X4_kindOf l D cI a_o_waters a_o_waters_kinds a_o_waters_wellPlaces a_o_waters_wellWorths a_o_waters_rules v_o_waters_wide v_o_waters_high v_o_waters_wells f_o_waters_kinds x2 n x14 hc15) mw_2_96 mw_2_93 mw_2_94 mw_1_3 mw_2_95 hd_X4_kindOf ⟨Nat.le_of_ble_eq_true rfl, Nat.le_of_ble_eq_true rfl⟩ hK hN hP hD hS rfl rfl rfl rfl rfl rfl rfl rfl rfl rfl rfl rfl hl.1 rfl (Nat.le_of_ble_eq_true rfl) dX5_firstWrong_15 ⟨Nat.le_of_ble_eq_true rfl, Nat.le_of_ble_eq_true rfl⟩ (fun H locs hP hD hS => ?_)
        refine W.eq (g2 := F0 m 18 ls [.int x14]) rfl ?_
        refine lv_istore_n (lv' := [(3, .int x14), (0, .ref a_o), (1, .int x1), (2, .int x2)]) hx hb dX5_firstWrong_18 rfl hl (by decide) rfl (fun ls hl => ?_)
        refine lv_iload_n hx hb dX5_firstWrong_19 rfl (lv_at hl 0 rfl) ?_
        refine lv_bipush (v := (8 : Int32)) hx hb dX5_firstWrong_20 (by decide) ?_
        refine lv_icmp_eq (tgt := 76) hx hb dX5_firstWrong_22 (by decide) (fun c16 => ?_) (fun c16 => ?_)
        · replace h := cz_t c16 h
          obtain ⟨x17, ex17⟩ : ∃ z : Int32, z = x2 + (1 : Int32) := ⟨_, rfl⟩
          replace h := cz_ltE ex17 h
          refine lv_iinc (v := x17) (lv' := [(2, .int x17), (3, .int x14), (0, .ref a_o), (1, .int x1)]) hx hb dX5_firstWrong_76 hl (k := 3) rfl (by rw [ex17]; rfl) (by decide) rfl (fun ls hl => ?_)
          refine lv_goto (tgt := 4) hx hb dX5_firstWrong_79 (by decide) ?_
          exact ih12 _ _ _ _ _ h hP hD hS (lv_sub hl [2, 3, 0] rfl)
        · replace h := cz_f c16 h
          refine lv_iload_n hx hb dX5_firstWrong_25 rfl (lv_at hl 2 rfl) ?_
          refine lv_aload_n hx hb dX5_firstWrong_26 rfl (lv_at hl 1 rfl) ?_
          refine va_get (D := D) (ci := 5) (v := .int v_o_rowLength) (C := RX5) (T := TX5) (N := 11) hx hb hts in_X5 hown hK hP 0 rfl rfl 9 (by decide) (hts _ mw_1_160) (fun _ h9 => h9) rfl dX5_firstWrong_27 ?_
          refine lv_icmp_ge (tgt := 42) hx hb dX5_firstWrong_30 (by decide) (fun c18 => ?_) (fun c18 => ?_)
          · replace h := cz_t c18 h
            refine lv_iload_n hx hb dX5_firstWrong_42 rfl (lv_at hl 3 rfl) ?_
            obtain ⟨x19, hc20, h⟩ := cz_e1 h
            refine cz_callS (As := [.int x2]) (rest := []) (is := []) (isR := [0, 1, 2, 3, 4, 5]) (rs := [oX5 a_o a_o_tape a_o_waters a_o_kept a_o_option a_o_chart a_o_otherChart a_o_evenCells a_o_row a_o_refusals v_o_rowLength v_o_hasImage, oX4 a_o_waters v_o_waters_wide v_o_waters_high v_o_waters_wells a_o_waters_kinds a_o_waters_wellPlaces a_o_waters_wellWorths a_o_waters_rules, aI cI a_o_waters_kinds 120 f_o_waters_kinds, oX0 a_o_chart a_o_chart_inner a_o_chart_owners a_o_chart_nears a_o_chart_basePlaces a_o_chart_baseFactors a_o_chart_baseStarts v_o_chart_bases v_o_chart_thirds, aI cI a_o_chart_owners 120 f_o_chart_owners, aI cI a_o_row 120 f_o_row]) (as := [a_o, a_o_waters, a_o_waters_kinds, a_o_chart, a_o_chart_owners, a_o_row]) (ws1 := [oX5 a_o a_o_tape a_o_waters a_o_kept a_o_option a_o_chart a_o_otherChart a_o_evenCells a_o_row a_o_refusals v_o_rowLength v_o_hasImage, oX4 a_o_waters v_o_waters_wide v_o_waters_high v_o_waters_wells a_o_waters_kinds a_o_waters_wellPlaces a_o_waters_wellWorths a_o_waters_rules, aI cI a_o_waters_kinds 120 f_o_waters_kinds, oX0 a_o_chart a_o_chart_inner a_o_chart_owners a_o_chart_nears a_o_chart_basePlaces a_o_chart_baseFactors a_o_chart_baseStarts v_o_chart_bases v_o_chart_thirds, aI cI a_o_chart_owners 120 f_o_chart_owners, aI cI a_o_row 120 f_o_row]) ⟨hx, hb, hml, hown, hts⟩ (c_X5_toldOf l D cI   x2 n x19 hc20) mw_2_180 mw_2_181 mw_1_1 mw_2_182 hd_X5_toldOf ⟨Nat.le_of_ble_eq_true rfl, Nat.le_of_ble_eq_true rfl⟩ hK hN hP hD hS rfl rfl rfl rfl rfl rfl rfl rfl rfl hl.1 rfl (Nat.le_of_ble_eq_true rfl) dX5_firstWrong_43 ⟨Nat.le_of_ble_eq_true rfl, Nat.le_of_ble_eq_true rfl⟩ (fun H locs hP hD hS => ?_)
            refine W.eq (g2 := F0 m 46 ls [.int x19]) rfl ?_
            replace h := hR8 _ (cz_i h).symm
            obtain rfl := cz_i h
            exact hQ _ _ _ _ hP hS dX5_firstWrong_46
          · replace h := cz_f c18 h
            refine lv_iload_n hx hb dX5_firstWrong_33 rfl (lv_at hl 2 rfl) ?_
            refine lv_aload_n hx hb dX5_firstWrong_34 rfl (lv_at hl 1 rfl) ?_
            refine va_get (D := D) (ci := 5) (v := .ref a_o_row) (C := RX5) (T := TX5) (N := 11) hx hb hts in_X5 hown hK hP 0 rfl rfl 7 (by decide) (hts _ mw_1_158) (fun _ h9 => h9) rfl dX5_firstWrong_35 ?_
            refine va_alen (v := (120 : Int32)) hx hb hK hP 5 0 rfl rfl rfl dX5_firstWrong_38 ?_
            refine lv_icmp_lt (tgt := 47) hx hb dX5_firstWrong_39 (by decide) (fun c21 => ?_) (fun c21 => ?_)
            · replace h := cz_t c21 h
              refine lv_iload_n hx hb dX5_firstWrong_47 rfl (lv_at hl 0 rfl) ?_
              refine lv_if_ne (tgt := 73) hx hb dX5_firstWrong_48 (by decide) (fun c22 => ?_) (fun c22 => ?_)
              · replace h := cz_f c22 h
                obtain ⟨x23, ex23⟩ : ∃ z : Int32, z = x1 + (1 : Int32) := ⟨_, rfl⟩
                replace h := cz_ltE ex23 h
                refine lv_iinc (v := x23) (lv' := [(1, .int x23), (3, .int x14), (0, .ref a_o), (2, .int x2)]) hx hb dX5_firstWrong_73 hl (k := 2) rfl (by rw [ex23]; rfl) (by decide) rfl (fun ls hl => ?_)
                obtain ⟨x24, ex24⟩ : ∃ z : Int32, z = x2 + (1 : Int32) := ⟨_, rfl⟩
                replace h := cz_ltE ex24 h
                refine lv_iinc (v := x24) (lv' := [(2, .int x24), (1, .int x23), (3, .int x14), (0, .ref a_o)]) hx hb dX5_firstWrong_76 hl (k := 3) rfl (by rw [ex24]; rfl) (by decide) rfl (fun ls hl => ?_)
                refine lv_goto (tgt := 4) hx hb dX5_firstWrong_79 (by decide) ?_
                exact ih12 _ _ _ _ _ h hP hD hS (lv_sub hl [3, 1, 0] rfl)
              · replace h := cz_t c22 h
                refine lv_aload_n hx hb dX5_firstWrong_51 rfl (lv_at hl 1 rfl) ?_
                refine va_get (D := D) (ci := 5) (v := .ref a_o_row) (C := RX5) (T := TX5) (N := 11) hx hb hts in_X5 hown hK hP 0 rfl rfl 7 (by decide) (hts _ mw_1_158) (fun _ h9 => h9) rfl dX5_firstWrong_52 ?_
                refine lv_iload_n hx hb dX5_firstWrong_55 rfl (lv_at hl 2 rfl) ?_
                refine cz_iald hx hb hK hP 5 0 rfl rfl (cz_rdE h).1 dX5_firstWrong_56 (fun x25 ex25 => ?_)
                replace h := cz_rdK ex25 h
                refine lv_aload_n hx hb dX5_firstWrong_57 rfl (lv_at hl 1 rfl) ?_
                refine va_get (D := D) (ci := 5) (v := .ref a_o_chart) (C := RX5) (T := TX5) (N := 11) hx hb hts in_X5 hown hK hP 0 rfl rfl 4 (by decide) (hts _ mw_1_155) (fun _ h9 => h9) rfl dX5_firstWrong_58 ?_
                refine lv_iload_n hx hb dX5_firstWrong_61 rfl (lv_at hl 3 rfl) ?_
                obtain ⟨x26, hc27, h⟩ := cz_e1 h
                refine cz_callV (As := [.int x2]) (rest := [.int x25]) (is := [3, 4]) (isR := [0, 1, 2, 5]) (rs := [oX5 a_o a_o_tape a_o_waters a_o_kept a_o_option a_o_chart a_o_otherChart a_o_evenCells a_o_row a_o_refusals v_o_rowLength v_o_hasImage, oX4 a_o_waters v_o_waters_wide v_o_waters_high v_o_waters_wells a_o_waters_kinds a_o_waters_wellPlaces a_o_waters_wellWorths a_o_waters_rules, aI cI a_o_waters_kinds 120 f_o_waters_kinds, aI cI a_o_row 120 f_o_row]) (as := [a_o, a_o_waters, a_o_waters_kinds, a_o_chart, a_o_chart_owners, a_o_row]) (ws1 := [oX5 a_o a_o_tape a_o_waters a_o_kept a_o_option a_o_chart a_o_otherChart a_o_evenCells a_o_row a_o_refusals v_o_rowLength v_o_hasImage, oX4 a_o_waters v_o_waters_wide v_o_waters_high v_o_waters_wells a_o_waters_kinds a_o_waters_wellPlaces a_o_waters_wellWorths a_o_waters_rules, aI cI a_o_waters_kinds 120 f_o_waters_kinds, oX0 a_o_chart a_o_chart_inner a_o_chart_owners a_o_chart_nears a_o_chart_basePlaces a_o_chart_baseFactors a_o_chart_baseStarts v_o_chart_bases v_o_chart_thirds, aI cI a_o_chart_owners 120 f_o_chart_owners, aI cI a_o_row 120 f_o_row]) (q0 := 0) (ci := 0) ⟨hx, hb, hml, hown, hts⟩ (c_X0_ownerOf l D cI a_o_chart a_o_chart_owners a_o_chart_inner a_o_chart_nears a_o_chart_basePlaces a_o_chart_baseFactors a_o_chart_baseStarts v_o_chart_bases v_o_chart_thirds f_o_chart_owners x2 n x26 hc27) mw_2_217 mw_2_218 mw_2_219 mw_1_6 mw_2_220 hd_X0_ownerOf ⟨Nat.le_of_ble_eq_true rfl, Nat.le_of_ble_eq_true rfl⟩ hK hN hP hD hS rfl rfl rfl rfl rfl rfl rfl rfl rfl rfl rfl rfl hl.1 rfl (Nat.le_of_ble_eq_true rfl) dX5_firstWrong_62 ⟨Nat.le_of_ble_eq_true rfl, Nat.le_of_ble_eq_true rfl⟩ (fun H locs hP hD hS => ?_)
                refine W.eq (g2 := F0 m 65 ls [.int x26, .int x25]) rfl ?_
                refine lv_icmp_eq (tgt := 73) hx hb dX5_firstWrong_65 (by decide) (fun c28 => ?_) (fun c28 => ?_)
                · replace h := cz_t c28 h
                  obtain ⟨x29, ex29⟩ : ∃ z : Int32, z = x1 + (1 : Int32) := ⟨_, rfl⟩
                  replace h := cz_ltE ex29 h
                  refine lv_iinc (v := x29) (lv' := [(1, .int x29), (3, .int x14), (0, .ref a_o), (2, .int x2)]) hx hb dX5_firstWrong_73 hl (k := 2) rfl (by rw [ex29]; rfl) (by decide) rfl (fun ls hl => ?_)
                  obtain ⟨x30, ex30⟩ : ∃ z : Int32, z = x2 + (1 : Int32) := ⟨_, rfl⟩
                  replace h := cz_ltE ex30 h
                  refine lv_iinc (v := x30) (lv' := [(2, .int x30), (1, .int x29), (3, .int x14), (0, .ref a_o)]) hx hb dX5_firstWrong_76 hl (k := 3) rfl (by rw [ex30]; rfl) (by decide) rfl (fun ls hl => ?_)
                  refine lv_goto (tgt := 4) hx hb dX5_firstWrong_79 (by decide) ?_
                  exact ih12 _ _ _ _ _ h hP hD hS (lv_sub hl [3, 1, 0] rfl)
                · replace h := cz_f c28 h
                  refine lv_iload_n hx hb dX5_firstWrong_68 rfl (lv_at hl 3 rfl) ?_
                  obtain ⟨x31, hc32, h⟩ := cz_e1 h
                  refine cz_callS (As := [.int x2]) (rest := []) (is := []) (isR := [0, 1, 2, 3, 4, 5]) (rs := [oX5 a_o a_o_tape a_o_waters a_o_kept a_o_option a_o_chart a_o_otherChart a_o_evenCells a_o_row a_o_refusals v_o_rowLength v_o_hasImage, oX4 a_o_waters v_o_waters_wide v_o_waters_high v_o_waters_wells a_o_waters_kinds a_o_waters_wellPlaces a_o_waters_wellWorths a_o_waters_rules, aI cI a_o_waters_kinds 120 f_o_waters_kinds, oX0 a_o_chart a_o_chart_inner a_o_chart_owners a_o_chart_nears a_o_chart_basePlaces a_o_chart_baseFactors a_o_chart_baseStarts v_o_chart_bases v_o_chart_thirds, aI cI a_o_chart_owners 120 f_o_chart_owners, aI cI a_o_row 120 f_o_row]) (as := [a_o, a_o_waters, a_o_waters_kinds, a_o_chart, a_o_chart_owners, a_o_row]) (ws1 := [oX5 a_o a_o_tape a_o_waters a_o_kept a_o_option a_o_chart a_o_otherChart a_o_evenCells a_o_row a_o_refusals v_o_rowLength v_o_hasImage, oX4 a_o_waters v_o_waters_wide v_o_waters_high v_o_waters_wells a_o_waters_kinds a_o_waters_wellPlaces a_o_waters_wellWorths a_o_waters_rules, aI cI a_o_waters_kinds 120 f_o_waters_kinds, oX0 a_o_chart a_o_chart_inner a_o_chart_owners a_o_chart_nears a_o_chart_basePlaces a_o_chart_baseFactors a_o_chart_baseStarts v_o_chart_bases v_o_chart_thirds, aI cI a_o_chart_owners 120 f_o_chart_owners, aI cI a_o_row 120 f_o_row]) ⟨hx, hb, hml, hown, hts⟩ (c_X5_toldOf l D cI   x2 n x31 hc32) mw_2_180 mw_2_181 mw_1_1 mw_2_182 hd_X5_toldOf ⟨Nat.le_of_ble_eq_true rfl, Nat.le_of_ble_eq_true rfl⟩ hK hN hP hD hS rfl rfl rfl rfl rfl rfl rfl rfl rfl hl.1 rfl (Nat.le_of_ble_eq_true rfl) dX5_firstWrong_69 ⟨Nat.le_of_ble_eq_true rfl, Nat.le_of_ble_eq_true rfl⟩ (fun H locs hP hD hS => ?_)
                  refine W.eq (g2 := F0 m 72 ls [.int x31]) rfl ?_
                  replace h := hR8 _ (cz_i h).symm
                  obtain rfl := cz_i h
                  exact hQ _ _ _ _ hP hS dX5_firstWrong_72
            · replace h := cz_f c21 h
              refine lv_iload_n hx hb dX5_firstWrong_42 rfl (lv_at hl 3 rfl) ?_
              obtain ⟨x33, hc34, h⟩ := cz_e1 h
              refine cz_callS (As := [.int x2]) (rest := []) (is := []) (isR := [0, 1, 2, 3, 4, 5]) (rs := [oX5 a_o a_o_tape a_o_waters a_o_kept a_o_option a_o_chart a_o_otherChart a_o_evenCells a_o_row a_o_refusals v_o_rowLength v_o_hasImage, oX4 a_o_waters v_o_waters_wide v_o_waters_high v_o_waters_wells a_o_waters_kinds a_o_waters_wellPlaces a_o_waters_wellWorths a_o_waters_rules, aI cI a_o_waters_kinds 120 f_o_waters_kinds, oX0 a_o_chart a_o_chart_inner a_o_chart_owners a_o_chart_nears a_o_chart_basePlaces a_o_chart_baseFactors a_o_chart_baseStarts v_o_chart_bases v_o_chart_thirds, aI cI a_o_chart_owners 120 f_o_chart_owners, aI cI a_o_row 120 f_o_row]) (as := [a_o, a_o_waters, a_o_waters_kinds, a_o_chart, a_o_chart_owners, a_o_row]) (ws1 := [oX5 a_o a_o_tape a_o_waters a_o_kept a_o_option a_o_chart a_o_otherChart a_o_evenCells a_o_row a_o_refusals v_o_rowLength v_o_hasImage, oX4 a_o_waters v_o_waters_wide v_o_waters_high v_o_waters_wells a_o_waters_kinds a_o_waters_wellPlaces a_o_waters_wellWorths a_o_waters_rules, aI cI a_o_waters_kinds 120 f_o_waters_kinds, oX0 a_o_chart a_o_chart_inner a_o_chart_owners a_o_chart_nears a_o_chart_basePlaces a_o_chart_baseFactors a_o_chart_baseStarts v_o_chart_bases v_o_chart_thirds, aI cI a_o_chart_owners 120 f_o_chart_owners, aI cI a_o_row 120 f_o_row]) ⟨hx, hb, hml, hown, hts⟩ (c_X5_toldOf l D cI   x2 n x33 hc34) mw_2_180 mw_2_181 mw_1_1 mw_2_182 hd_X5_toldOf ⟨Nat.le_of_ble_eq_true rfl, Nat.le_of_ble_eq_true rfl⟩ hK hN hP hD hS rfl rfl rfl rfl rfl rfl rfl rfl rfl hl.1 rfl (Nat.le_of_ble_eq_true rfl) dX5_firstWrong_43 ⟨Nat.le_of_ble_eq_true rfl, Nat.le_of_ble_eq_true rfl⟩ (fun H locs hP hD hS => ?_)
              refine W.eq (g2 := F0 m 46 ls [.int x33]) rfl ?_
              replace h := hR8 _ (cz_i h).symm
              obtain rfl := cz_i h
              exact hQ _ _ _ _ hP hS dX5_firstWrong_46
  exact hL7 n _ _ _ _ _ hE4 hP hD hS (lv_sub hl [2, 1, 0] rfl)
set_option maxHeartbeats 4000000 in
set_option maxRecDepth 100000 in
theorem c_X5_judge (l : Launch) (D : va_G) (cI : ClassId) (a_o a_o_waters a_o_waters_kinds a_o_waters_rules a_o_chart a_o_chart_inner a_o_chart_owners a_o_chart_nears a_o_chart_basePlaces a_o_chart_baseFactors a_o_chart_baseStarts a_o_row a_o_tape a_o_kept a_o_option a_o_otherChart a_o_evenCells a_o_refusals a_o_waters_wellPlaces a_o_waters_wellWorths : Nat) (v_o_rowLength : Int32) (v_o_hasImage : Int32) (v_o_waters_wide : Int32) (v_o_waters_high : Int32) (v_o_waters_wells : Int32) (f_o_waters_kinds : (Nat → Int32)) (v_o_waters_rules_mouth : Int32) (v_o_waters_rules_weight : Int32) (v_o_waters_rules_reach : Int32) (v_o_waters_rules_bend : Int32) (v_o_chart_bases : Int32) (v_o_chart_thirds : Int32) (f_o_chart_inner : (Nat → Int32)) (f_o_chart_owners : (Nat → Int32)) (f_o_chart_nears : (Nat → Int32)) (f_o_chart_basePlaces : (Nat → Int32)) (f_o_chart_baseFactors : (Nat → Int32)) (f_o_chart_baseStarts : (Nat → Int32)) (f_o_row : (Nat → Int32)) (n : Nat) (r : Int32) (r_v_o_rowLength : Int32) (r_v_o_chart_bases : Int32) (r_v_o_chart_thirds : Int32) (r_f_o_chart_inner : (Nat → Int32)) (r_f_o_chart_owners : (Nat → Int32)) (r_f_o_chart_nears : (Nat → Int32)) (r_f_o_chart_basePlaces : (Nat → Int32)) (r_f_o_chart_baseFactors : (Nat → Int32)) (r_f_o_chart_baseStarts : (Nat → Int32)) (h : f_X5_judge n v_o_rowLength f_o_waters_kinds v_o_waters_rules_mouth v_o_waters_rules_weight v_o_waters_rules_reach v_o_waters_rules_bend v_o_chart_bases v_o_chart_thirds f_o_chart_inner f_o_chart_owners f_o_chart_nears f_o_chart_basePlaces f_o_chart_baseFactors f_o_chart_baseStarts f_o_row = some (r, r_v_o_rowLength, r_v_o_chart_bases, r_v_o_chart_thirds, r_f_o_chart_inner, r_f_o_chart_owners, r_f_o_chart_nears, r_f_o_chart_basePlaces, r_f_o_chart_baseFactors, r_f_o_chart_baseStarts)) : cz_M l yX5_judge cX5_judge 2 (some .int) 5 118 D cI [.ref a_o] [oX5 a_o a_o_tape a_o_waters a_o_kept a_o_option a_o_chart a_o_otherChart a_o_evenCells a_o_row a_o_refusals v_o_rowLength v_o_hasImage, oX4 a_o_waters v_o_waters_wide v_o_waters_high v_o_waters_wells a_o_waters_kinds a_o_waters_wellPlaces a_o_waters_wellWorths a_o_waters_rules, aI cI a_o_waters_kinds 120 f_o_waters_kinds, oX2 a_o_waters_rules v_o_waters_rules_mouth v_o_waters_rules_weight v_o_waters_rules_reach v_o_waters_rules_bend, oX0 a_o_chart a_o_chart_inner a_o_chart_owners a_o_chart_nears a_o_chart_basePlaces a_o_chart_baseFactors a_o_chart_baseStarts v_o_chart_bases v_o_chart_thirds, aI cI a_o_chart_inner 120 f_o_chart_inner, aI cI a_o_chart_owners 120 f_o_chart_owners, aI cI a_o_chart_nears 360 f_o_chart_nears, aI cI a_o_chart_basePlaces 120 f_o_chart_basePlaces, aI cI a_o_chart_baseFactors 120 f_o_chart_baseFactors, aI cI a_o_chart_baseStarts 4 f_o_chart_baseStarts, aI cI a_o_row 120 f_o_row] (some (.int r)) [oX5 a_o a_o_tape a_o_waters a_o_kept a_o_option a_o_chart a_o_otherChart a_o_evenCells a_o_row a_o_refusals r_v_o_rowLength v_o_hasImage, oX4 a_o_waters v_o_waters_wide v_o_waters_high v_o_waters_wells a_o_waters_kinds a_o_waters_wellPlaces a_o_waters_wellWorths a_o_waters_rules, aI cI a_o_waters_kinds 120 f_o_waters_kinds, oX2 a_o_waters_rules v_o_waters_rules_mouth v_o_waters_rules_weight v_o_waters_rules_reach v_o_waters_rules_bend, oX0 a_o_chart a_o_chart_inner a_o_chart_owners a_o_chart_nears a_o_chart_basePlaces a_o_chart_baseFactors a_o_chart_baseStarts r_v_o_chart_bases r_v_o_chart_thirds, aI cI a_o_chart_inner 120 r_f_o_chart_inner, aI cI a_o_chart_owners 120 r_f_o_chart_owners, aI cI a_o_chart_nears 360 r_f_o_chart_nears, aI cI a_o_chart_basePlaces 120 r_f_o_chart_basePlaces, aI cI a_o_chart_baseFactors 120 r_f_o_chart_baseFactors, aI cI a_o_chart_baseStarts 4 r_f_o_chart_baseStarts, aI cI a_o_row 120 f_o_row] := by
  refine cz_startI (by decide) (Nat.le_of_ble_eq_true rfl) ?_
  intro p e s m ag below meth c A Q hx hb hml hown hts hK hN hQ H locs hP hD hS ls hl
  replace hown : s.vm.findClass RX5 = some m.cls := hown
  replace hl : lv_has ls 2 [(0, .ref a_o)] := hl
  unfold f_X5_judge at h
  refine lv_aload_n hx hb dX5_judge_0 rfl (lv_at hl 0 rfl) ?_
  obtain ⟨x1, x2, g3, g4, g5, g6, g7, g8, hc9, h⟩ := cz_e8 h
  refine cz_callV (As := []) (rest := []) (is := [0, 1, 2, 3, 4, 5, 6, 7, 8, 9, 10]) (isR := [11]) (rs := [aI cI a_o_row 120 f_o_row]) (as := [a_o, a_o_waters, a_o_waters_kinds, a_o_waters_rules, a_o_chart, a_o_chart_inner, a_o_chart_owners, a_o_chart_nears, a_o_chart_basePlaces, a_o_chart_baseFactors, a_o_chart_baseStarts, a_o_row]) (ws1 := [oX5 a_o a_o_tape a_o_waters a_o_kept a_o_option a_o_chart a_o_otherChart a_o_evenCells a_o_row a_o_refusals v_o_rowLength v_o_hasImage, oX4 a_o_waters v_o_waters_wide v_o_waters_high v_o_waters_wells a_o_waters_kinds a_o_waters_wellPlaces a_o_waters_wellWorths a_o_waters_rules, aI cI a_o_waters_kinds 120 f_o_waters_kinds, oX2 a_o_waters_rules v_o_waters_rules_mouth v_o_waters_rules_weight v_o_waters_rules_reach v_o_waters_rules_bend, oX0 a_o_chart a_o_chart_inner a_o_chart_owners a_o_chart_nears a_o_chart_basePlaces a_o_chart_baseFactors a_o_chart_baseStarts x1 x2, aI cI a_o_chart_inner 120 g3, aI cI a_o_chart_owners 120 g4, aI cI a_o_chart_nears 360 g5, aI cI a_o_chart_basePlaces 120 g6, aI cI a_o_chart_baseFactors 120 g7, aI cI a_o_chart_baseStarts 4 g8, aI cI a_o_row 120 f_o_row]) (q0 := 0) (ci := 5) ⟨hx, hb, hml, hown, hts⟩ (c_X5_drawAsItIs l D cI a_o a_o_waters a_o_waters_kinds a_o_waters_rules a_o_chart a_o_chart_inner a_o_chart_owners a_o_chart_nears a_o_chart_basePlaces a_o_chart_baseFactors a_o_chart_baseStarts a_o_tape a_o_kept a_o_option a_o_otherChart a_o_evenCells a_o_row a_o_refusals a_o_waters_wellPlaces a_o_waters_wellWorths v_o_rowLength v_o_hasImage v_o_waters_wide v_o_waters_high v_o_waters_wells f_o_waters_kinds v_o_waters_rules_mouth v_o_waters_rules_weight v_o_waters_rules_reach v_o_waters_rules_bend v_o_chart_bases v_o_chart_thirds f_o_chart_inner f_o_chart_owners f_o_chart_nears f_o_chart_basePlaces f_o_chart_baseFactors f_o_chart_baseStarts  n x1 x2 g3 g4 g5 g6 g7 g8 hc9) mw_2_187 mw_2_189 mw_p_2 mw_1_1 mw_2_190 hd_X5_drawAsItIs ⟨Nat.le_of_ble_eq_true rfl, Nat.le_of_ble_eq_true rfl⟩ hK hN hP hD hS rfl rfl rfl rfl rfl rfl rfl rfl rfl rfl rfl rfl hl.1 rfl (Nat.le_of_ble_eq_true rfl) dX5_judge_1 ⟨Nat.le_of_ble_eq_true rfl, Nat.le_of_ble_eq_true rfl⟩ (fun H locs hP hD hS => ?_)
  refine W.eq (g2 := F0 m 4 ls []) rfl ?_
  refine lv_aload_n hx hb dX5_judge_4 rfl (lv_at hl 0 rfl) ?_
  obtain ⟨x10, hc11, h⟩ := cz_e1 h
  refine cz_callV (As := []) (rest := []) (is := [0, 1, 2, 4, 6, 11]) (isR := [3, 5, 7, 8, 9, 10]) (rs := [oX2 a_o_waters_rules v_o_waters_rules_mouth v_o_waters_rules_weight v_o_waters_rules_reach v_o_waters_rules_bend, aI cI a_o_chart_inner 120 g3, aI cI a_o_chart_nears 360 g5, aI cI a_o_chart_basePlaces 120 g6, aI cI a_o_chart_baseFactors 120 g7, aI cI a_o_chart_baseStarts 4 g8]) (as := [a_o, a_o_waters, a_o_waters_kinds, a_o_waters_rules, a_o_chart, a_o_chart_inner, a_o_chart_owners, a_o_chart_nears, a_o_chart_basePlaces, a_o_chart_baseFactors, a_o_chart_baseStarts, a_o_row]) (ws1 := [oX5 a_o a_o_tape a_o_waters a_o_kept a_o_option a_o_chart a_o_otherChart a_o_evenCells a_o_row a_o_refusals v_o_rowLength v_o_hasImage, oX4 a_o_waters v_o_waters_wide v_o_waters_high v_o_waters_wells a_o_waters_kinds a_o_waters_wellPlaces a_o_waters_wellWorths a_o_waters_rules, aI cI a_o_waters_kinds 120 f_o_waters_kinds, oX2 a_o_waters_rules v_o_waters_rules_mouth v_o_waters_rules_weight v_o_waters_rules_reach v_o_waters_rules_bend, oX0 a_o_chart a_o_chart_inner a_o_chart_owners a_o_chart_nears a_o_chart_basePlaces a_o_chart_baseFactors a_o_chart_baseStarts x1 x2, aI cI a_o_chart_inner 120 g3, aI cI a_o_chart_owners 120 g4, aI cI a_o_chart_nears 360 g5, aI cI a_o_chart_basePlaces 120 g6, aI cI a_o_chart_baseFactors 120 g7, aI cI a_o_chart_baseStarts 4 g8, aI cI a_o_row 120 f_o_row]) (q0 := 0) (ci := 5) ⟨hx, hb, hml, hown, hts⟩ (c_X5_firstWrong l D cI a_o a_o_waters a_o_waters_kinds a_o_chart a_o_chart_owners a_o_row a_o_tape a_o_kept a_o_option a_o_otherChart a_o_evenCells a_o_refusals a_o_waters_wellPlaces a_o_waters_wellWorths a_o_waters_rules a_o_chart_inner a_o_chart_nears a_o_chart_basePlaces a_o_chart_baseFactors a_o_chart_baseStarts v_o_rowLength v_o_hasImage v_o_waters_wide v_o_waters_high v_o_waters_wells f_o_waters_kinds x1 x2 g4 f_o_row  n x10 hc11) mw_3_140 mw_3_142 mw_p_9 mw_1_1 mw_3_143 hd_X5_firstWrong ⟨Nat.le_of_ble_eq_true rfl, Nat.le_of_ble_eq_true rfl⟩ hK hN hP hD hS rfl rfl rfl rfl rfl rfl rfl rfl rfl rfl rfl rfl hl.1 rfl (Nat.le_of_ble_eq_true rfl) dX5_judge_5 ⟨Nat.le_of_ble_eq_true rfl, Nat.le_of_ble_eq_true rfl⟩ (fun H locs hP hD hS => ?_)
  refine W.eq (g2 := F0 m 8 ls [.int x10]) rfl ?_
  refine lv_istore_n (lv' := [(1, .int x10), (0, .ref a_o)]) hx hb dX5_judge_8 rfl hl (by decide) rfl (fun ls hl => ?_)
  refine lv_aload_n hx hb dX5_judge_9 rfl (lv_at hl 1 rfl) ?_
  refine lv_iconst (v := (0 : Int32)) hx hb dX5_judge_10 (by decide) ?_
  refine va_put (D := D) (ci := 5) (v := .int (0 : Int32)) (ty := .int) (C := RX5) (T := TX5) (N := 11) hx hb hts in_X5 tyX5 tyX5_ok nmX5 hown hK hP hD hS 0 rfl rfl 9 (by decide) (hts _ mw_1_160) (fun _ h9 => h9) rfl (by decide +kernel) rfl rfl (Nat.le_of_ble_eq_true rfl) dX5_judge_11 (fun H locs hP hD hS => ?_)
  replace hP : va_P D vwCl [oX5 a_o a_o_tape a_o_waters a_o_kept a_o_option a_o_chart a_o_otherChart a_o_evenCells a_o_row a_o_refusals (0 : Int32) v_o_hasImage, oX4 a_o_waters v_o_waters_wide v_o_waters_high v_o_waters_wells a_o_waters_kinds a_o_waters_wellPlaces a_o_waters_wellWorths a_o_waters_rules, aI cI a_o_waters_kinds 120 f_o_waters_kinds, oX2 a_o_waters_rules v_o_waters_rules_mouth v_o_waters_rules_weight v_o_waters_rules_reach v_o_waters_rules_bend, oX0 a_o_chart a_o_chart_inner a_o_chart_owners a_o_chart_nears a_o_chart_basePlaces a_o_chart_baseFactors a_o_chart_baseStarts x1 x2, aI cI a_o_chart_inner 120 g3, aI cI a_o_chart_owners 120 g4, aI cI a_o_chart_nears 360 g5, aI cI a_o_chart_basePlaces 120 g6, aI cI a_o_chart_baseFactors 120 g7, aI cI a_o_chart_baseStarts 4 g8, aI cI a_o_row 120 f_o_row] H := hP
  replace hD : va_D A [oX5 a_o a_o_tape a_o_waters a_o_kept a_o_option a_o_chart a_o_otherChart a_o_evenCells a_o_row a_o_refusals (0 : Int32) v_o_hasImage, oX4 a_o_waters v_o_waters_wide v_o_waters_high v_o_waters_wells a_o_waters_kinds a_o_waters_wellPlaces a_o_waters_wellWorths a_o_waters_rules, aI cI a_o_waters_kinds 120 f_o_waters_kinds, oX2 a_o_waters_rules v_o_waters_rules_mouth v_o_waters_rules_weight v_o_waters_rules_reach v_o_waters_rules_bend, oX0 a_o_chart a_o_chart_inner a_o_chart_owners a_o_chart_nears a_o_chart_basePlaces a_o_chart_baseFactors a_o_chart_baseStarts x1 x2, aI cI a_o_chart_inner 120 g3, aI cI a_o_chart_owners 120 g4, aI cI a_o_chart_nears 360 g5, aI cI a_o_chart_basePlaces 120 g6, aI cI a_o_chart_baseFactors 120 g7, aI cI a_o_chart_baseStarts 4 g8, aI cI a_o_row 120 f_o_row] := hD
  refine lv_iload_n hx hb dX5_judge_14 rfl (lv_at hl 0 rfl) ?_
  obtain ⟨rfl, rfl, rfl, rfl, rfl, rfl, rfl, rfl, rfl, rfl⟩ := cz_j10 (cz_i h)
  exact hQ _ _ _ _ hP hS dX5_judge_15
set_option maxHeartbeats 4000000 in
set_option maxRecDepth 100000 in
theorem c_X5_grow (l : Launch) (D : va_G) (cI : ClassId) (a_o a_o_waters a_o_waters_kinds a_o_waters_wellPlaces a_o_waters_wellWorths a_o_refusals a_o_tape a_o_kept a_o_option a_o_chart a_o_otherChart a_o_evenCells a_o_row a_o_waters_rules : Nat) (v_o_rowLength : Int32) (v_o_hasImage : Int32) (v_o_waters_wide : Int32) (v_o_waters_high : Int32) (v_o_waters_wells : Int32) (f_o_waters_kinds : (Nat → Int32)) (f_o_waters_wellPlaces : (Nat → Int32)) (f_o_waters_wellWorths : (Nat → Int32)) (f_o_refusals : (Nat → Int32)) (w1 : Int32) (w2 : Int32) (n : Nat) (r : Int32) (r_v_o_waters_wells : Int32) (r_f_o_waters_kinds : (Nat → Int32)) (r_f_o_waters_wellPlaces : (Nat → Int32)) (r_f_o_waters_wellWorths : (Nat → Int32)) (r_f_o_refusals : (Nat → Int32)) (h : f_X5_grow n v_o_waters_wells f_o_waters_kinds f_o_waters_wellPlaces f_o_waters_wellWorths f_o_refusals w1 w2 = some (r, r_v_o_waters_wells, r_f_o_waters_kinds, r_f_o_waters_wellPlaces, r_f_o_waters_wellWorths, r_f_o_refusals)) : cz_M l yX5_grow cX5_grow 4 (some .int) 2 43 D cI [.ref a_o, .int w1, .int w2] [oX5 a_o a_o_tape a_o_waters a_o_kept a_o_option a_o_chart a_o_otherChart a_o_evenCells a_o_row a_o_refusals v_o_rowLength v_o_hasImage, oX4 a_o_waters v_o_waters_wide v_o_waters_high v_o_waters_wells a_o_waters_kinds a_o_waters_wellPlaces a_o_waters_wellWorths a_o_waters_rules, aI cI a_o_waters_kinds 120 f_o_waters_kinds, aI cI a_o_waters_wellPlaces 12 f_o_waters_wellPlaces, aI cI a_o_waters_wellWorths 12 f_o_waters_wellWorths, aI cI a_o_refusals 7 f_o_refusals] (some (.int r)) [oX5 a_o a_o_tape a_o_waters a_o_kept a_o_option a_o_chart a_o_otherChart a_o_evenCells a_o_row a_o_refusals v_o_rowLength v_o_hasImage, oX4 a_o_waters v_o_waters_wide v_o_waters_high r_v_o_waters_wells a_o_waters_kinds a_o_waters_wellPlaces a_o_waters_wellWorths a_o_waters_rules, aI cI a_o_waters_kinds 120 r_f_o_waters_kinds, aI cI a_o_waters_wellPlaces 12 r_f_o_waters_wellPlaces, aI cI a_o_waters_wellWorths 12 r_f_o_waters_wellWorths, aI cI a_o_refusals 7 r_f_o_refusals] := by
  refine cz_startI (by decide) (Nat.le_of_ble_eq_true rfl) ?_
  intro p e s m ag below meth c A Q hx hb hml hown hts hK hN hQ H locs hP hD hS ls hl
  replace hown : s.vm.findClass RX5 = some m.cls := hown
  replace hl : lv_has ls 4 [(0, .ref a_o), (1, .int w1), (2, .int w2)] := hl
  unfold f_X5_grow at h
  refine lv_aload_n hx hb dX5_grow_0 rfl (lv_at hl 0 rfl) ?_
  refine va_get (D := D) (ci := 5) (v := .ref a_o_waters) (C := RX5) (T := TX5) (N := 11) hx hb hts in_X5 hown hK hP 0 rfl rfl 1 (by decide) (hts _ mw_1_152) (fun _ h9 => h9) rfl dX5_grow_1 ?_
  refine lv_iload_n hx hb dX5_grow_4 rfl (lv_at hl 1 rfl) ?_
  obtain ⟨x1, hc2, h⟩ := cz_e1 h
  refine cz_callV (As := [.int w1]) (rest := []) (is := [1, 2]) (isR := [0, 3, 4, 5]) (rs := [oX5 a_o a_o_tape a_o_waters a_o_kept a_o_option a_o_chart a_o_otherChart a_o_evenCells a_o_row a_o_refusals v_o_rowLength v_o_hasImage, aI cI a_o_waters_wellPlaces 12 f_o_waters_wellPlaces, aI cI a_o_waters_wellWorths 12 f_o_waters_wellWorths, aI cI a_o_refusals 7 f_o_refusals]) (as := [a_o, a_o_waters, a_o_waters_kinds, a_o_waters_wellPlaces, a_o_waters_wellWorths, a_o_refusals]) (ws1 := [oX5 a_o a_o_tape a_o_waters a_o_kept a_o_option a_o_chart a_o_otherChart a_o_evenCells a_o_row a_o_refusals v_o_rowLength v_o_hasImage, oX4 a_o_waters v_o_waters_wide v_o_waters_high v_o_waters_wells a_o_waters_kinds a_o_waters_wellPlaces a_o_waters_wellWorths a_o_waters_rules, aI cI a_o_waters_kinds 120 f_o_waters_kinds, aI cI a_o_waters_wellPlaces 12 f_o_waters_wellPlaces, aI cI a_o_waters_wellWorths 12 f_o_waters_wellWorths, aI cI a_o_refusals 7 f_o_refusals]) (q0 := 0) (ci := 4) ⟨hx, hb, hml, hown, hts⟩ (c_X4_placeOf l D cI a_o_waters a_o_waters_kinds a_o_waters_wellPlaces a_o_waters_wellWorths a_o_waters_rules v_o_waters_wide v_o_waters_high v_o_waters_wells f_o_waters_kinds w1 n x1 hc2) mw_2_85 mw_2_86 mw_2_87 mw_1_3 mw_2_88 hd_X4_placeOf ⟨Nat.le_of_ble_eq_true rfl, Nat.le_of_ble_eq_true rfl⟩ hK hN hP hD hS rfl rfl rfl rfl rfl rfl rfl rfl rfl rfl rfl rfl hl.1 rfl (Nat.le_of_ble_eq_true rfl) dX5_grow_5 ⟨Nat.le_of_ble_eq_true rfl, Nat.le_of_ble_eq_true rfl⟩ (fun H locs hP hD hS => ?_)
  refine W.eq (g2 := F0 m 8 ls [.int x1]) rfl ?_
  refine lv_istore_n (lv' := [(3, .int x1), (0, .ref a_o), (1, .int w1), (2, .int w2)]) hx hb dX5_grow_8 rfl hl (by decide) rfl (fun ls hl => ?_)
  refine lv_iload_n hx hb dX5_grow_9 rfl (lv_at hl 0 rfl) ?_
  refine lv_if_lt (tgt := 20) hx hb dX5_grow_10 (by decide) (fun c3 => ?_) (fun c3 => ?_)
  · replace h := cz_t c3 h
    refine lv_aload_n hx hb dX5_grow_20 rfl (lv_at hl 1 rfl) ?_
    refine lv_iconst (v := (-1 : Int32)) hx hb dX5_grow_21 (by decide) ?_
    obtain ⟨x4, g5, hc6, h⟩ := cz_e2 h
    refine cz_callV (As := [.int (-1 : Int32)]) (rest := []) (is := [0, 5]) (isR := [1, 2, 3, 4]) (rs := [oX4 a_o_waters v_o_waters_wide v_o_waters_high v_o_waters_wells a_o_waters_kinds a_o_waters_wellPlaces a_o_waters_wellWorths a_o_waters_rules, aI cI a_o_waters_kinds 120 f_o_waters_kinds, aI cI a_o_waters_wellPlaces 12 f_o_waters_wellPlaces, aI cI a_o_waters_wellWorths 12 f_o_waters_wellWorths]) (as := [a_o, a_o_waters, a_o_waters_kinds, a_o_waters_wellPlaces, a_o_waters_wellWorths, a_o_refusals]) (ws1 := [oX5 a_o a_o_tape a_o_waters a_o_kept a_o_option a_o_chart a_o_otherChart a_o_evenCells a_o_row a_o_refusals v_o_rowLength v_o_hasImage, oX4 a_o_waters v_o_waters_wide v_o_waters_high v_o_waters_wells a_o_waters_kinds a_o_waters_wellPlaces a_o_waters_wellWorths a_o_waters_rules, aI cI a_o_waters_kinds 120 f_o_waters_kinds, aI cI a_o_waters_wellPlaces 12 f_o_waters_wellPlaces, aI cI a_o_waters_wellWorths 12 f_o_waters_wellWorths, aI cI a_o_refusals 7 g5]) (q0 := 0) (ci := 5) ⟨hx, hb, hml, hown, hts⟩ (c_X5_refuse l D cI a_o a_o_refusals a_o_tape a_o_waters a_o_kept a_o_option a_o_chart a_o_otherChart a_o_evenCells a_o_row v_o_rowLength v_o_hasImage f_o_refusals (-1 : Int32) n x4 g5 hc6) mw_1_189 mw_1_191 mw_p_0 mw_1_1 mw_1_192 hd_X5_refuse ⟨Nat.le_of_ble_eq_true rfl, Nat.le_of_ble_eq_true rfl⟩ hK hN hP hD hS rfl rfl rfl rfl rfl rfl rfl rfl rfl rfl rfl rfl hl.1 rfl (Nat.le_of_ble_eq_true rfl) dX5_grow_22 ⟨Nat.le_of_ble_eq_true rfl, Nat.le_of_ble_eq_true rfl⟩ (fun H locs hP hD hS => ?_)
    refine W.eq (g2 := F0 m 25 ls [.int x4]) rfl ?_
    obtain ⟨rfl, rfl, rfl, rfl, rfl, rfl⟩ := cz_j6 (cz_i h)
    exact hQ _ _ _ _ hP hS dX5_grow_25
  · replace h := cz_f c3 h
    refine lv_iload_n hx hb dX5_grow_13 rfl (lv_at hl 3 rfl) ?_
    obtain ⟨x7, hc8, h⟩ := cz_e1 h
    refine cz_callS (As := [.int w2]) (rest := []) (is := []) (isR := [0, 1, 2, 3, 4, 5]) (rs := [oX5 a_o a_o_tape a_o_waters a_o_kept a_o_option a_o_chart a_o_otherChart a_o_evenCells a_o_row a_o_refusals v_o_rowLength v_o_hasImage, oX4 a_o_waters v_o_waters_wide v_o_waters_high v_o_waters_wells a_o_waters_kinds a_o_waters_wellPlaces a_o_waters_wellWorths a_o_waters_rules, aI cI a_o_waters_kinds 120 f_o_waters_kinds, aI cI a_o_waters_wellPlaces 12 f_o_waters_wellPlaces, aI cI a_o_waters_wellWorths 12 f_o_waters_wellWorths, aI cI a_o_refusals 7 f_o_refusals]) (as := [a_o, a_o_waters, a_o_waters_kinds, a_o_waters_wellPlaces, a_o_waters_wellWorths, a_o_refusals]) (ws1 := [oX5 a_o a_o_tape a_o_waters a_o_kept a_o_option a_o_chart a_o_otherChart a_o_evenCells a_o_row a_o_refusals v_o_rowLength v_o_hasImage, oX4 a_o_waters v_o_waters_wide v_o_waters_high v_o_waters_wells a_o_waters_kinds a_o_waters_wellPlaces a_o_waters_wellWorths a_o_waters_rules, aI cI a_o_waters_kinds 120 f_o_waters_kinds, aI cI a_o_waters_wellPlaces 12 f_o_waters_wellPlaces, aI cI a_o_waters_wellWorths 12 f_o_waters_wellWorths, aI cI a_o_refusals 7 f_o_refusals]) ⟨hx, hb, hml, hown, hts⟩ (c_X5_isLand l D cI   w2 n x7 hc8) mw_2_159 mw_2_160 mw_1_1 mw_2_161 hd_X5_isLand ⟨Nat.le_of_ble_eq_true rfl, Nat.le_of_ble_eq_true rfl⟩ hK hN hP hD hS rfl rfl rfl rfl rfl rfl rfl rfl rfl hl.1 rfl (Nat.le_of_ble_eq_true rfl) dX5_grow_14 ⟨Nat.le_of_ble_eq_true rfl, Nat.le_of_ble_eq_true rfl⟩ (fun H locs hP hD hS => ?_)
    refine W.eq (g2 := F0 m 17 ls [.int x7]) rfl ?_
    refine lv_if_ne (tgt := 26) hx hb dX5_grow_17 (by decide) (fun c9 => ?_) (fun c9 => ?_)
    · replace h := cz_f c9 h
      refine lv_aload_n hx hb dX5_grow_26 rfl (lv_at hl 1 rfl) ?_
      refine va_get (D := D) (ci := 5) (v := .ref a_o_waters) (C := RX5) (T := TX5) (N := 11) hx hb hts in_X5 hown hK hP 0 rfl rfl 1 (by decide) (hts _ mw_1_152) (fun _ h9 => h9) rfl dX5_grow_27 ?_
      refine lv_iload_n hx hb dX5_grow_30 rfl (lv_at hl 0 rfl) ?_
      obtain ⟨x10, hc11, h⟩ := cz_e1 h
      refine cz_callV (As := [.int x1]) (rest := []) (is := [1, 2]) (isR := [0, 3, 4, 5]) (rs := [oX5 a_o a_o_tape a_o_waters a_o_kept a_o_option a_o_chart a_o_otherChart a_o_evenCells a_o_row a_o_refusals v_o_rowLength v_o_hasImage, aI cI a_o_waters_wellPlaces 12 f_o_waters_wellPlaces, aI cI a_o_waters_wellWorths 12 f_o_waters_wellWorths, aI cI a_o_refusals 7 f_o_refusals]) (as := [a_o, a_o_waters, a_o_waters_kinds, a_o_waters_wellPlaces, a_o_waters_wellWorths, a_o_refusals]) (ws1 := [oX5 a_o a_o_tape a_o_waters a_o_kept a_o_option a_o_chart a_o_otherChart a_o_evenCells a_o_row a_o_refusals v_o_rowLength v_o_hasImage, oX4 a_o_waters v_o_waters_wide v_o_waters_high v_o_waters_wells a_o_waters_kinds a_o_waters_wellPlaces a_o_waters_wellWorths a_o_waters_rules, aI cI a_o_waters_kinds 120 f_o_waters_kinds, aI cI a_o_waters_wellPlaces 12 f_o_waters_wellPlaces, aI cI a_o_waters_wellWorths 12 f_o_waters_wellWorths, aI cI a_o_refusals 7 f_o_refusals]) (q0 := 0) (ci := 4) ⟨hx, hb, hml, hown, hts⟩ (c_X4_kindOf l D cI a_o_waters a_o_waters_kinds a_o_waters_wellPlaces a_o_waters_wellWorths a_o_waters_rules v_o_waters_wide v_o_waters_high v_o_waters_wells f_o_waters_kinds x1 n x10 hc11) mw_2_96 mw_2_93 mw_2_94 mw_1_3 mw_2_95 hd_X4_kindOf ⟨Nat.le_of_ble_eq_true rfl, Nat.le_of_ble_eq_true rfl⟩ hK hN hP hD hS rfl rfl rfl rfl rfl rfl rfl rfl rfl rfl rfl rfl hl.1 rfl (Nat.le_of_ble_eq_true rfl) dX5_grow_31 ⟨Nat.le_of_ble_eq_true rfl, Nat.le_of_ble_eq_true rfl⟩ (fun H locs hP hD hS => ?_)
      refine W.eq (g2 := F0 m 34 ls [.int x10]) rfl ?_
      refine lv_if_eq (tgt := 44) hx hb dX5_grow_34 (by decide) (fun c12 => ?_) (fun c12 => ?_)
      · replace h := cz_t c12 h
        refine lv_aload_n hx hb dX5_grow_44 rfl (lv_at hl 1 rfl) ?_
        refine va_get (D := D) (ci := 5) (v := .ref a_o_waters) (C := RX5) (T := TX5) (N := 11) hx hb hts in_X5 hown hK hP 0 rfl rfl 1 (by decide) (hts _ mw_1_152) (fun _ h9 => h9) rfl dX5_grow_45 ?_
        refine lv_iload_n hx hb dX5_grow_48 rfl (lv_at hl 0 rfl) ?_
        refine lv_iconst (v := (1 : Int32)) hx hb dX5_grow_49 (by decide) ?_
        refine lv_iload_n hx hb dX5_grow_50 rfl (lv_at hl 3 rfl) ?_
        refine lv_iadd hx hb dX5_grow_51 ?_
        obtain ⟨g13, hc14, h⟩ := cz_e1 h
        refine cz_callV (As := [.int x1, .int ((1 : Int32) + w2)]) (rest := []) (is := [1, 2]) (isR := [0, 3, 4, 5]) (rs := [oX5 a_o a_o_tape a_o_waters a_o_kept a_o_option a_o_chart a_o_otherChart a_o_evenCells a_o_row a_o_refusals v_o_rowLength v_o_hasImage, aI cI a_o_waters_wellPlaces 12 f_o_waters_wellPlaces, aI cI a_o_waters_wellWorths 12 f_o_waters_wellWorths, aI cI a_o_refusals 7 f_o_refusals]) (as := [a_o, a_o_waters, a_o_waters_kinds, a_o_waters_wellPlaces, a_o_waters_wellWorths, a_o_refusals]) (ws1 := [oX5 a_o a_o_tape a_o_waters a_o_kept a_o_option a_o_chart a_o_otherChart a_o_evenCells a_o_row a_o_refusals v_o_rowLength v_o_hasImage, oX4 a_o_waters v_o_waters_wide v_o_waters_high v_o_waters_wells a_o_waters_kinds a_o_waters_wellPlaces a_o_waters_wellWorths a_o_waters_rules, aI cI a_o_waters_kinds 120 g13, aI cI a_o_waters_wellPlaces 12 f_o_waters_wellPlaces, aI cI a_o_waters_wellWorths 12 f_o_waters_wellWorths, aI cI a_o_refusals 7 f_o_refusals]) (q0 := 0) (ci := 4) ⟨hx, hb, hml, hown, hts⟩ (c_X4_setKind l D cI a_o_waters a_o_waters_kinds a_o_waters_wellPlaces a_o_waters_wellWorths a_o_waters_rules v_o_waters_wide v_o_waters_high v_o_waters_wells f_o_waters_kinds x1 ((1 : Int32) + w2) n g13 hc14) mw_3_71 mw_2_73 mw_2_74 mw_1_3 mw_2_75 hd_X4_setKind ⟨Nat.le_of_ble_eq_true rfl, Nat.le_of_ble_eq_true rfl⟩ hK hN hP hD hS rfl rfl rfl rfl rfl rfl rfl rfl rfl rfl rfl rfl hl.1 rfl (Nat.le_of_ble_eq_true rfl) dX5_grow_52 ⟨Nat.le_of_ble_eq_true rfl, Nat.le_of_ble_eq_true rfl⟩ (fun H locs hP hD hS => ?_)
        refine W.eq (g2 := F0 m 55 ls []) rfl ?_
        refine lv_aload_n hx hb dX5_grow_55 rfl (lv_at hl 1 rfl) ?_
        refine va_get (D := D) (ci := 5) (v := .ref a_o_waters) (C := RX5) (T := TX5) (N := 11) hx hb hts in_X5 hown hK hP 0 rfl rfl 1 (by decide) (hts _ mw_1_152) (fun _ h9 => h9) rfl dX5_grow_56 ?_
        refine lv_iload_n hx hb dX5_grow_59 rfl (lv_at hl 0 rfl) ?_
        obtain ⟨x15, g16, g17, hc18, h⟩ := cz_e3 h
        refine cz_callV (As := [.int x1]) (rest := []) (is := [1, 3, 4]) (isR := [0, 2, 5]) (rs := [oX5 a_o a_o_tape a_o_waters a_o_kept a_o_option a_o_chart a_o_otherChart a_o_evenCells a_o_row a_o_refusals v_o_rowLength v_o_hasImage, aI cI a_o_waters_kinds 120 g13, aI cI a_o_refusals 7 f_o_refusals]) (as := [a_o, a_o_waters, a_o_waters_kinds, a_o_waters_wellPlaces, a_o_waters_wellWorths, a_o_refusals]) (ws1 := [oX5 a_o a_o_tape a_o_waters a_o_kept a_o_option a_o_chart a_o_otherChart a_o_evenCells a_o_row a_o_refusals v_o_rowLength v_o_hasImage, oX4 a_o_waters v_o_waters_wide v_o_waters_high x15 a_o_waters_kinds a_o_waters_wellPlaces a_o_waters_wellWorths a_o_waters_rules, aI cI a_o_waters_kinds 120 g13, aI cI a_o_waters_wellPlaces 12 g16, aI cI a_o_waters_wellWorths 12 g17, aI cI a_o_refusals 7 f_o_refusals]) (q0 := 0) (ci := 4) ⟨hx, hb, hml, hown, hts⟩ (c_X4_dropWells l D cI a_o_waters a_o_waters_wellPlaces a_o_waters_wellWorths a_o_waters_kinds a_o_waters_rules v_o_waters_wide v_o_waters_high v_o_waters_wells f_o_waters_wellPlaces f_o_waters_wellWorths x1 n x15 g16 g17 hc18) mw_3_148 mw_3_149 mw_3_150 mw_1_3 mw_3_151 hd_X4_dropWells ⟨Nat.le_of_ble_eq_true rfl, Nat.le_of_ble_eq_true rfl⟩ hK hN hP hD hS rfl rfl rfl rfl rfl rfl rfl rfl rfl rfl rfl rfl hl.1 rfl (Nat.le_of_ble_eq_true rfl) dX5_grow_60 ⟨Nat.le_of_ble_eq_true rfl, Nat.le_of_ble_eq_true rfl⟩ (fun H locs hP hD hS => ?_)
        refine W.eq (g2 := F0 m 63 ls []) rfl ?_
        refine lv_iconst (v := (1 : Int32)) hx hb dX5_grow_63 (by decide) ?_
        obtain ⟨rfl, rfl, rfl, rfl, rfl, rfl⟩ := cz_j6 (cz_i h)
        exact hQ _ _ _ _ hP hS dX5_grow_64
      · replace h := cz_f c12 h
        refine lv_aload_n hx hb dX5_grow_37 rfl (lv_at hl 1 rfl) ?_
        refine lv_bipush (v := (-3 : Int32)) hx hb dX5_grow_38 (by decide) ?_
        obtain ⟨x19, g20, hc21, h⟩ := cz_e2 h
        refine cz_callV (As := [.int (-3 : Int32)]) (rest := []) (is := [0, 5]) (isR := [1, 2, 3, 4]) (rs := [oX4 a_o_waters v_o_waters_wide v_o_waters_high v_o_waters_wells a_o_waters_kinds a_o_waters_wellPlaces a_o_waters_wellWorths a_o_waters_rules, aI cI a_o_waters_kinds 120 f_o_waters_kinds, aI cI a_o_waters_wellPlaces 12 f_o_waters_wellPlaces, aI cI a_o_waters_wellWorths 12 f_o_waters_wellWorths]) (as := [a_o, a_o_waters, a_o_waters_kinds, a_o_waters_wellPlaces, a_o_waters_wellWorths, a_o_refusals]) (ws1 := [oX5 a_o a_o_tape a_o_waters a_o_kept a_o_option a_o_chart a_o_otherChart a_o_evenCells a_o_row a_o_refusals v_o_rowLength v_o_hasImage, oX4 a_o_waters v_o_waters_wide v_o_waters_high v_o_waters_wells a_o_waters_kinds a_o_waters_wellPlaces a_o_waters_wellWorths a_o_waters_rules, aI cI a_o_waters_kinds 120 f_o_waters_kinds, aI cI a_o_waters_wellPlaces 12 f_o_waters_wellPlaces, aI cI a_o_waters_wellWorths 12 f_o_waters_wellWorths, aI cI a_o_refusals 7 g20]) (q0 := 0) (ci := 5) ⟨hx, hb, hml, hown, hts⟩ (c_X5_refuse l D cI a_o a_o_refusals a_o_tape a_o_waters a_o_kept a_o_option a_o_chart a_o_otherChart a_o_evenCells a_o_row v_o_rowLength v_o_hasImage f_o_refusals (-3 : Int32) n x19 g20 hc21) mw_1_189 mw_1_191 mw_p_0 mw_1_1 mw_1_192 hd_X5_refuse ⟨Nat.le_of_ble_eq_true rfl, Nat.le_of_ble_eq_true rfl⟩ hK hN hP hD hS rfl rfl rfl rfl rfl rfl rfl rfl rfl rfl rfl rfl hl.1 rfl (Nat.le_of_ble_eq_true rfl) dX5_grow_40 ⟨Nat.le_of_ble_eq_true rfl, Nat.le_of_ble_eq_true rfl⟩ (fun H locs hP hD hS => ?_)
        refine W.eq (g2 := F0 m 43 ls [.int x19]) rfl ?_
        obtain ⟨rfl, rfl, rfl, rfl, rfl, rfl⟩ := cz_j6 (cz_i h)
        exact hQ _ _ _ _ hP hS dX5_grow_43
    · replace h := cz_t c9 h
      refine lv_aload_n hx hb dX5_grow_20 rfl (lv_at hl 1 rfl) ?_
      refine lv_iconst (v := (-1 : Int32)) hx hb dX5_grow_21 (by decide) ?_
      obtain ⟨x22, g23, hc24, h⟩ := cz_e2 h
      refine cz_callV (As := [.int (-1 : Int32)]) (rest := []) (is := [0, 5]) (isR := [1, 2, 3, 4]) (rs := [oX4 a_o_waters v_o_waters_wide v_o_waters_high v_o_waters_wells a_o_waters_kinds a_o_waters_wellPlaces a_o_waters_wellWorths a_o_waters_rules, aI cI a_o_waters_kinds 120 f_o_waters_kinds, aI cI a_o_waters_wellPlaces 12 f_o_waters_wellPlaces, aI cI a_o_waters_wellWorths 12 f_o_waters_wellWorths]) (as := [a_o, a_o_waters, a_o_waters_kinds, a_o_waters_wellPlaces, a_o_waters_wellWorths, a_o_refusals]) (ws1 := [oX5 a_o a_o_tape a_o_waters a_o_kept a_o_option a_o_chart a_o_otherChart a_o_evenCells a_o_row a_o_refusals v_o_rowLength v_o_hasImage, oX4 a_o_waters v_o_waters_wide v_o_waters_high v_o_waters_wells a_o_waters_kinds a_o_waters_wellPlaces a_o_waters_wellWorths a_o_waters_rules, aI cI a_o_waters_kinds 120 f_o_waters_kinds, aI cI a_o_waters_wellPlaces 12 f_o_waters_wellPlaces, aI cI a_o_waters_wellWorths 12 f_o_waters_wellWorths, aI cI a_o_refusals 7 g23]) (q0 := 0) (ci := 5) ⟨hx, hb, hml, hown, hts⟩ (c_X5_refuse l D cI a_o a_o_refusals a_o_tape a_o_waters a_o_kept a_o_option a_o_chart a_o_otherChart a_o_evenCells a_o_row v_o_rowLength v_o_hasImage f_o_refusals (-1 : Int32) n x22 g23 hc24) mw_1_189 mw_1_191 mw_p_0 mw_1_1 mw_1_192 hd_X5_refuse ⟨Nat.le_of_ble_eq_true rfl, Nat.le_of_ble_eq_true rfl⟩ hK hN hP hD hS rfl rfl rfl rfl rfl rfl rfl rfl rfl rfl rfl rfl hl.1 rfl (Nat.le_of_ble_eq_true rfl) dX5_grow_22 ⟨Nat.le_of_ble_eq_true rfl, Nat.le_of_ble_eq_true rfl⟩ (fun H locs hP hD hS => ?_)
      refine W.eq (g2 := F0 m 25 ls [.int x22]) rfl ?_
      obtain ⟨rfl, rfl, rfl, rfl, rfl, rfl⟩ := cz_j6 (cz_i h)
      exact hQ _ _ _ _ hP hS dX5_grow_25
set_option maxHeartbeats 4000000 in
set_option maxRecDepth 100000 in
theorem c_X5_drown (l : Launch) (D : va_G) (cI : ClassId) (a_o a_o_waters a_o_waters_kinds a_o_refusals a_o_tape a_o_kept a_o_option a_o_chart a_o_otherChart a_o_evenCells a_o_row a_o_waters_wellPlaces a_o_waters_wellWorths a_o_waters_rules : Nat) (v_o_rowLength : Int32) (v_o_hasImage : Int32) (v_o_waters_wide : Int32) (v_o_waters_high : Int32) (v_o_waters_wells : Int32) (f_o_waters_kinds : (Nat → Int32)) (f_o_refusals : (Nat → Int32)) (w1 : Int32) (n : Nat) (r : Int32) (r_f_o_waters_kinds : (Nat → Int32)) (r_f_o_refusals : (Nat → Int32)) (h : f_X5_drown n f_o_waters_kinds f_o_refusals w1 = some (r, r_f_o_waters_kinds, r_f_o_refusals)) : cz_M l yX5_drown cX5_drown 4 (some .int) 2 43 D cI [.ref a_o, .int w1] [oX5 a_o a_o_tape a_o_waters a_o_kept a_o_option a_o_chart a_o_otherChart a_o_evenCells a_o_row a_o_refusals v_o_rowLength v_o_hasImage, oX4 a_o_waters v_o_waters_wide v_o_waters_high v_o_waters_wells a_o_waters_kinds a_o_waters_wellPlaces a_o_waters_wellWorths a_o_waters_rules, aI cI a_o_waters_kinds 120 f_o_waters_kinds, aI cI a_o_refusals 7 f_o_refusals] (some (.int r)) [oX5 a_o a_o_tape a_o_waters a_o_kept a_o_option a_o_chart a_o_otherChart a_o_evenCells a_o_row a_o_refusals v_o_rowLength v_o_hasImage, oX4 a_o_waters v_o_waters_wide v_o_waters_high v_o_waters_wells a_o_waters_kinds a_o_waters_wellPlaces a_o_waters_wellWorths a_o_waters_rules, aI cI a_o_waters_kinds 120 r_f_o_waters_kinds, aI cI a_o_refusals 7 r_f_o_refusals] := by
  refine cz_startI (by decide) (Nat.le_of_ble_eq_true rfl) ?_
  intro p e s m ag below meth c A Q hx hb hml hown hts hK hN hQ H locs hP hD hS ls hl
  replace hown : s.vm.findClass RX5 = some m.cls := hown
  replace hl : lv_has ls 4 [(0, .ref a_o), (1, .int w1)] := hl
  unfold f_X5_drown at h
  refine lv_aload_n hx hb dX5_drown_0 rfl (lv_at hl 0 rfl) ?_
  refine va_get (D := D) (ci := 5) (v := .ref a_o_waters) (C := RX5) (T := TX5) (N := 11) hx hb hts in_X5 hown hK hP 0 rfl rfl 1 (by decide) (hts _ mw_1_152) (fun _ h9 => h9) rfl dX5_drown_1 ?_
  refine lv_iload_n hx hb dX5_drown_4 rfl (lv_at hl 1 rfl) ?_
  obtain ⟨x1, hc2, h⟩ := cz_e1 h
  refine cz_callV (As := [.int w1]) (rest := []) (is := [1, 2]) (isR := [0, 3]) (rs := [oX5 a_o a_o_tape a_o_waters a_o_kept a_o_option a_o_chart a_o_otherChart a_o_evenCells a_o_row a_o_refusals v_o_rowLength v_o_hasImage, aI cI a_o_refusals 7 f_o_refusals]) (as := [a_o, a_o_waters, a_o_waters_kinds, a_o_refusals]) (ws1 := [oX5 a_o a_o_tape a_o_waters a_o_kept a_o_option a_o_chart a_o_otherChart a_o_evenCells a_o_row a_o_refusals v_o_rowLength v_o_hasImage, oX4 a_o_waters v_o_waters_wide v_o_waters_high v_o_waters_wells a_o_waters_kinds a_o_waters_wellPlaces a_o_waters_wellWorths a_o_waters_rules, aI cI a_o_waters_kinds 120 f_o_waters_kinds, aI cI a_o_refusals 7 f_o_refusals]) (q0 := 0) (ci := 4) ⟨hx, hb, hml, hown, hts⟩ (c_X4_placeOf l D cI a_o_waters a_o_waters_kinds a_o_waters_wellPlaces a_o_waters_wellWorths a_o_waters_rules v_o_waters_wide v_o_waters_high v_o_waters_wells f_o_waters_kinds w1 n x1 hc2) mw_2_85 mw_2_86 mw_2_87 mw_1_3 mw_2_88 hd_X4_placeOf ⟨Nat.le_of_ble_eq_true rfl, Nat.le_of_ble_eq_true rfl⟩ hK hN hP hD hS rfl rfl rfl rfl rfl rfl rfl rfl rfl rfl rfl rfl hl.1 rfl (Nat.le_of_ble_eq_true rfl) dX5_drown_5 ⟨Nat.le_of_ble_eq_true rfl, Nat.le_of_ble_eq_true rfl⟩ (fun H locs hP hD hS => ?_)
  refine W.eq (g2 := F0 m 8 ls [.int x1]) rfl ?_
  refine lv_istore_n (lv' := [(2, .int x1), (0, .ref a_o), (1, .int w1)]) hx hb dX5_drown_8 rfl hl (by decide) rfl (fun ls hl => ?_)
  refine lv_iload_n hx hb dX5_drown_9 rfl (lv_at hl 0 rfl) ?_
  refine lv_if_ge (tgt := 19) hx hb dX5_drown_10 (by decide) (fun c3 => ?_) (fun c3 => ?_)
  · replace h := cz_t c3 h
    refine lv_aload_n hx hb dX5_drown_19 rfl (lv_at hl 1 rfl) ?_
    refine va_get (D := D) (ci := 5) (v := .ref a_o_waters) (C := RX5) (T := TX5) (N := 11) hx hb hts in_X5 hown hK hP 0 rfl rfl 1 (by decide) (hts _ mw_1_152) (fun _ h9 => h9) rfl dX5_drown_20 ?_
    refine lv_iload_n hx hb dX5_drown_23 rfl (lv_at hl 0 rfl) ?_
    obtain ⟨x4, hc5, h⟩ := cz_e1 h
    refine cz_callV (As := [.int x1]) (rest := []) (is := [1, 2]) (isR := [0, 3]) (rs := [oX5 a_o a_o_tape a_o_waters a_o_kept a_o_option a_o_chart a_o_otherChart a_o_evenCells a_o_row a_o_refusals v_o_rowLength v_o_hasImage, aI cI a_o_refusals 7 f_o_refusals]) (as := [a_o, a_o_waters, a_o_waters_kinds, a_o_refusals]) (ws1 := [oX5 a_o a_o_tape a_o_waters a_o_kept a_o_option a_o_chart a_o_otherChart a_o_evenCells a_o_row a_o_refusals v_o_rowLength v_o_hasImage, oX4 a_o_waters v_o_waters_wide v_o_waters_high v_o_waters_wells a_o_waters_kinds a_o_waters_wellPlaces a_o_waters_wellWorths a_o_waters_rules, aI cI a_o_waters_kinds 120 f_o_waters_kinds, aI cI a_o_refusals 7 f_o_refusals]) (q0 := 0) (ci := 4) ⟨hx, hb, hml, hown, hts⟩ (c_X4_kindOf l D cI a_o_waters a_o_waters_kinds a_o_waters_wellPlaces a_o_waters_wellWorths a_o_waters_rules v_o_waters_wide v_o_waters_high v_o_waters_wells f_o_waters_kinds x1 n x4 hc5) mw_2_96 mw_2_93 mw_2_94 mw_1_3 mw_2_95 hd_X4_kindOf ⟨Nat.le_of_ble_eq_true rfl, Nat.le_of_ble_eq_true rfl⟩ hK hN hP hD hS rfl rfl rfl rfl rfl rfl rfl rfl rfl rfl rfl rfl hl.1 rfl (Nat.le_of_ble_eq_true rfl) dX5_drown_24 ⟨Nat.le_of_ble_eq_true rfl, Nat.le_of_ble_eq_true rfl⟩ (fun H locs hP hD hS => ?_)
    refine W.eq (g2 := F0 m 27 ls [.int x4]) rfl ?_
    refine lv_istore_n (lv' := [(3, .int x4), (2, .int x1), (0, .ref a_o), (1, .int w1)]) hx hb dX5_drown_27 rfl hl (by decide) rfl (fun ls hl => ?_)
    refine lv_iload_n hx hb dX5_drown_28 rfl (lv_at hl 0 rfl) ?_
    refine lv_if_ne (tgt := 39) hx hb dX5_drown_29 (by decide) (fun c6 => ?_) (fun c6 => ?_)
    · replace h := cz_f c6 h
      refine lv_aload_n hx hb dX5_drown_39 rfl (lv_at hl 2 rfl) ?_
      refine va_get (D := D) (ci := 5) (v := .ref a_o_waters) (C := RX5) (T := TX5) (N := 11) hx hb hts in_X5 hown hK hP 0 rfl rfl 1 (by decide) (hts _ mw_1_152) (fun _ h9 => h9) rfl dX5_drown_40 ?_
      refine lv_iload_n hx hb dX5_drown_43 rfl (lv_at hl 1 rfl) ?_
      refine lv_iconst (v := (0 : Int32)) hx hb dX5_drown_44 (by decide) ?_
      obtain ⟨g7, hc8, h⟩ := cz_e1 h
      refine cz_callV (As := [.int x1, .int (0 : Int32)]) (rest := []) (is := [1, 2]) (isR := [0, 3]) (rs := [oX5 a_o a_o_tape a_o_waters a_o_kept a_o_option a_o_chart a_o_otherChart a_o_evenCells a_o_row a_o_refusals v_o_rowLength v_o_hasImage, aI cI a_o_refusals 7 f_o_refusals]) (as := [a_o, a_o_waters, a_o_waters_kinds, a_o_refusals]) (ws1 := [oX5 a_o a_o_tape a_o_waters a_o_kept a_o_option a_o_chart a_o_otherChart a_o_evenCells a_o_row a_o_refusals v_o_rowLength v_o_hasImage, oX4 a_o_waters v_o_waters_wide v_o_waters_high v_o_waters_wells a_o_waters_kinds a_o_waters_wellPlaces a_o_waters_wellWorths a_o_waters_rules, aI cI a_o_waters_kinds 120 g7, aI cI a_o_refusals 7 f_o_refusals]) (q0 := 0) (ci := 4) ⟨hx, hb, hml, hown, hts⟩ (c_X4_setKind l D cI a_o_waters a_o_waters_kinds a_o_waters_wellPlaces a_o_waters_wellWorths a_o_waters_rules v_o_waters_wide v_o_waters_high v_o_waters_wells f_o_waters_kinds x1 (0 : Int32) n g7 hc8) mw_3_71 mw_2_73 mw_2_74 mw_1_3 mw_2_75 hd_X4_setKind ⟨Nat.le_of_ble_eq_true rfl, Nat.le_of_ble_eq_true rfl⟩ hK hN hP hD hS rfl rfl rfl rfl rfl rfl rfl rfl rfl rfl rfl rfl hl.1 rfl (Nat.le_of_ble_eq_true rfl) dX5_drown_45 ⟨Nat.le_of_ble_eq_true rfl, Nat.le_of_ble_eq_true rfl⟩ (fun H locs hP hD hS => ?_)
      refine W.eq (g2 := F0 m 48 ls []) rfl ?_
      refine lv_iload_n hx hb dX5_drown_48 rfl (lv_at hl 0 rfl) ?_
      obtain ⟨rfl, rfl, rfl⟩ := cz_j3 (cz_i h)
      exact hQ _ _ _ _ hP hS dX5_drown_49
    · replace h := cz_t c6 h
      refine lv_aload_n hx hb dX5_drown_32 rfl (lv_at hl 2 rfl) ?_
      refine lv_bipush (v := (-3 : Int32)) hx hb dX5_drown_33 (by decide) ?_
      obtain ⟨x9, g10, hc11, h⟩ := cz_e2 h
      refine cz_callV (As := [.int (-3 : Int32)]) (rest := []) (is := [0, 3]) (isR := [1, 2]) (rs := [oX4 a_o_waters v_o_waters_wide v_o_waters_high v_o_waters_wells a_o_waters_kinds a_o_waters_wellPlaces a_o_waters_wellWorths a_o_waters_rules, aI cI a_o_waters_kinds 120 f_o_waters_kinds]) (as := [a_o, a_o_waters, a_o_waters_kinds, a_o_refusals]) (ws1 := [oX5 a_o a_o_tape a_o_waters a_o_kept a_o_option a_o_chart a_o_otherChart a_o_evenCells a_o_row a_o_refusals v_o_rowLength v_o_hasImage, oX4 a_o_waters v_o_waters_wide v_o_waters_high v_o_waters_wells a_o_waters_kinds a_o_waters_wellPlaces a_o_waters_wellWorths a_o_waters_rules, aI cI a_o_waters_kinds 120 f_o_waters_kinds, aI cI a_o_refusals 7 g10]) (q0 := 0) (ci := 5) ⟨hx, hb, hml, hown, hts⟩ (c_X5_refuse l D cI a_o a_o_refusals a_o_tape a_o_waters a_o_kept a_o_option a_o_chart a_o_otherChart a_o_evenCells a_o_row v_o_rowLength v_o_hasImage f_o_refusals (-3 : Int32) n x9 g10 hc11) mw_1_189 mw_1_191 mw_p_0 mw_1_1 mw_1_192 hd_X5_refuse ⟨Nat.le_of_ble_eq_true rfl, Nat.le_of_ble_eq_true rfl⟩ hK hN hP hD hS rfl rfl rfl rfl rfl rfl rfl rfl rfl rfl rfl rfl hl.1 rfl (Nat.le_of_ble_eq_true rfl) dX5_drown_35 ⟨Nat.le_of_ble_eq_true rfl, Nat.le_of_ble_eq_true rfl⟩ (fun H locs hP hD hS => ?_)
      refine W.eq (g2 := F0 m 38 ls [.int x9]) rfl ?_
      obtain ⟨rfl, rfl, rfl⟩ := cz_j3 (cz_i h)
      exact hQ _ _ _ _ hP hS dX5_drown_38
  · replace h := cz_f c3 h
    refine lv_aload_n hx hb dX5_drown_13 rfl (lv_at hl 1 rfl) ?_
    refine lv_iconst (v := (-1 : Int32)) hx hb dX5_drown_14 (by decide) ?_
    obtain ⟨x12, g13, hc14, h⟩ := cz_e2 h
    refine cz_callV (As := [.int (-1 : Int32)]) (rest := []) (is := [0, 3]) (isR := [1, 2]) (rs := [oX4 a_o_waters v_o_waters_wide v_o_waters_high v_o_waters_wells a_o_waters_kinds a_o_waters_wellPlaces a_o_waters_wellWorths a_o_waters_rules, aI cI a_o_waters_kinds 120 f_o_waters_kinds]) (as := [a_o, a_o_waters, a_o_waters_kinds, a_o_refusals]) (ws1 := [oX5 a_o a_o_tape a_o_waters a_o_kept a_o_option a_o_chart a_o_otherChart a_o_evenCells a_o_row a_o_refusals v_o_rowLength v_o_hasImage, oX4 a_o_waters v_o_waters_wide v_o_waters_high v_o_waters_wells a_o_waters_kinds a_o_waters_wellPlaces a_o_waters_wellWorths a_o_waters_rules, aI cI a_o_waters_kinds 120 f_o_waters_kinds, aI cI a_o_refusals 7 g13]) (q0 := 0) (ci := 5) ⟨hx, hb, hml, hown, hts⟩ (c_X5_refuse l D cI a_o a_o_refusals a_o_tape a_o_waters a_o_kept a_o_option a_o_chart a_o_otherChart a_o_evenCells a_o_row v_o_rowLength v_o_hasImage f_o_refusals (-1 : Int32) n x12 g13 hc14) mw_1_189 mw_1_191 mw_p_0 mw_1_1 mw_1_192 hd_X5_refuse ⟨Nat.le_of_ble_eq_true rfl, Nat.le_of_ble_eq_true rfl⟩ hK hN hP hD hS rfl rfl rfl rfl rfl rfl rfl rfl rfl rfl rfl rfl hl.1 rfl (Nat.le_of_ble_eq_true rfl) dX5_drown_15 ⟨Nat.le_of_ble_eq_true rfl, Nat.le_of_ble_eq_true rfl⟩ (fun H locs hP hD hS => ?_)
    refine W.eq (g2 := F0 m 18 ls [.int x12]) rfl ?_
    obtain ⟨rfl, rfl, rfl⟩ := cz_j3 (cz_i h)
    exact hQ _ _ _ _ hP hS dX5_drown_18
set_option maxHeartbeats 4000000 in
set_option maxRecDepth 100000 in
theorem c_X5_image (l : Launch) (D : va_G) (cI : ClassId) (a_o a_o_waters a_o_waters_kinds a_o_waters_wellPlaces a_o_waters_wellWorths a_o_waters_rules a_o_kept a_o_kept_kinds a_o_kept_wellPlaces a_o_kept_wellWorths a_o_kept_rules a_o_tape a_o_option a_o_chart a_o_otherChart a_o_evenCells a_o_row a_o_refusals : Nat) (v_o_rowLength : Int32) (v_o_hasImage : Int32) (v_o_waters_wide : Int32) (v_o_waters_high : Int32) (v_o_waters_wells : Int32) (f_o_waters_kinds : (Nat → Int32)) (f_o_waters_wellPlaces : (Nat → Int32)) (f_o_waters_wellWorths : (Nat → Int32)) (v_o_waters_rules_mouth : Int32) (v_o_waters_rules_weight : Int32) (v_o_waters_rules_reach : Int32) (v_o_waters_rules_bend : Int32) (v_o_kept_wide : Int32) (v_o_kept_high : Int32) (v_o_kept_wells : Int32) (f_o_kept_kinds : (Nat → Int32)) (f_o_kept_wellPlaces : (Nat → Int32)) (f_o_kept_wellWorths : (Nat → Int32)) (v_o_kept_rules_mouth : Int32) (v_o_kept_rules_weight : Int32) (v_o_kept_rules_reach : Int32) (v_o_kept_rules_bend : Int32) (n : Nat) (r : Int32) (r_v_o_hasImage : Int32) (r_v_o_kept_wide : Int32) (r_v_o_kept_high : Int32) (r_v_o_kept_wells : Int32) (r_f_o_kept_kinds : (Nat → Int32)) (r_f_o_kept_wellPlaces : (Nat → Int32)) (r_f_o_kept_wellWorths : (Nat → Int32)) (r_v_o_kept_rules_mouth : Int32) (r_v_o_kept_rules_weight : Int32) (r_v_o_kept_rules_reach : Int32) (r_v_o_kept_rules_bend : Int32) (h : f_X5_image n v_o_hasImage v_o_waters_wide v_o_waters_high v_o_waters_wells f_o_waters_kinds f_o_waters_wellPlaces f_o_waters_wellWorths v_o_waters_rules_mouth v_o_waters_rules_weight v_o_waters_rules_reach v_o_waters_rules_bend v_o_kept_wide v_o_kept_high v_o_kept_wells f_o_kept_kinds f_o_kept_wellPlaces f_o_kept_wellWorths v_o_kept_rules_mouth v_o_kept_rules_weight v_o_kept_rules_reach v_o_kept_rules_bend = some (r, r_v_o_hasImage, r_v_o_kept_wide, r_v_o_kept_high, r_v_o_kept_wells, r_f_o_kept_kinds, r_f_o_kept_wellPlaces, r_f_o_kept_wellWorths, r_v_o_kept_rules_mouth, r_v_o_kept_rules_weight, r_v_o_kept_rules_reach, r_v_o_kept_rules_bend)) : cz_M l yX5_image cX5_image 1 (some .int) 2 43 D cI [.ref a_o] [oX5 a_o a_o_tape a_o_waters a_o_kept a_o_option a_o_chart a_o_otherChart a_o_evenCells a_o_row a_o_refusals v_o_rowLength v_o_hasImage, oX4 a_o_waters v_o_waters_wide v_o_waters_high v_o_waters_wells a_o_waters_kinds a_o_waters_wellPlaces a_o_waters_wellWorths a_o_waters_rules, aI cI a_o_waters_kinds 120 f_o_waters_kinds, aI cI a_o_waters_wellPlaces 12 f_o_waters_wellPlaces, aI cI a_o_waters_wellWorths 12 f_o_waters_wellWorths, oX2 a_o_waters_rules v_o_waters_rules_mouth v_o_waters_rules_weight v_o_waters_rules_reach v_o_waters_rules_bend, oX4 a_o_kept v_o_kept_wide v_o_kept_high v_o_kept_wells a_o_kept_kinds a_o_kept_wellPlaces a_o_kept_wellWorths a_o_kept_rules, aI cI a_o_kept_kinds 120 f_o_kept_kinds, aI cI a_o_kept_wellPlaces 12 f_o_kept_wellPlaces, aI cI a_o_kept_wellWorths 12 f_o_kept_wellWorths, oX2 a_o_kept_rules v_o_kept_rules_mouth v_o_kept_rules_weight v_o_kept_rules_reach v_o_kept_rules_bend] (some (.int r)) [oX5 a_o a_o_tape a_o_waters a_o_kept a_o_option a_o_chart a_o_otherChart a_o_evenCells a_o_row a_o_refusals v_o_rowLength r_v_o_hasImage, oX4 a_o_waters v_o_waters_wide v_o_waters_high v_o_waters_wells a_o_waters_kinds a_o_waters_wellPlaces a_o_waters_wellWorths a_o_waters_rules, aI cI a_o_waters_kinds 120 f_o_waters_kinds, aI cI a_o_waters_wellPlaces 12 f_o_waters_wellPlaces, aI cI a_o_waters_wellWorths 12 f_o_waters_wellWorths, oX2 a_o_waters_rules v_o_waters_rules_mouth v_o_waters_rules_weight v_o_waters_rules_reach v_o_waters_rules_bend, oX4 a_o_kept r_v_o_kept_wide r_v_o_kept_high r_v_o_kept_wells a_o_kept_kinds a_o_kept_wellPlaces a_o_kept_wellWorths a_o_kept_rules, aI cI a_o_kept_kinds 120 r_f_o_kept_kinds, aI cI a_o_kept_wellPlaces 12 r_f_o_kept_wellPlaces, aI cI a_o_kept_wellWorths 12 r_f_o_kept_wellWorths, oX2 a_o_kept_rules r_v_o_kept_rules_mouth r_v_o_kept_rules_weight r_v_o_kept_rules_reach r_v_o_kept_rules_bend] := by
  refine cz_startI (by decide) (Nat.le_of_ble_eq_true rfl) ?_
  intro p e s m ag below meth c A Q hx hb hml hown hts hK hN hQ H locs hP hD hS ls hl
  replace hown : s.vm.findClass RX5 = some m.cls := hown
  replace hl : lv_has ls 1 [(0, .ref a_o)] := hl
  unfold f_X5_image at h
  refine lv_aload_n hx hb dX5_image_0 rfl (lv_at hl 0 rfl) ?_
  refine va_get (D := D) (ci := 5) (v := .ref a_o_kept) (C := RX5) (T := TX5) (N := 11) hx hb hts in_X5 hown hK hP 0 rfl rfl 2 (by decide) (hts _ mw_1_153) (fun _ h9 => h9) rfl dX5_image_1 ?_
  refine lv_aload_n hx hb dX5_image_4 rfl (lv_at hl 0 rfl) ?_
  refine va_get (D := D) (ci := 5) (v := .ref a_o_waters) (C := RX5) (T := TX5) (N := 11) hx hb hts in_X5 hown hK hP 0 rfl rfl 1 (by decide) (hts _ mw_1_152) (fun _ h9 => h9) rfl dX5_image_5 ?_
  obtain ⟨x1, x2, x3, g4, g5, g6, x7, x8, x9, x10, hc11, h⟩ := cz_e10 h
  refine cz_callV (As := [.ref a_o_waters]) (rest := []) (is := [6, 7, 8, 9, 10, 1, 2, 3, 4, 5]) (isR := [0]) (rs := [oX5 a_o a_o_tape a_o_waters a_o_kept a_o_option a_o_chart a_o_otherChart a_o_evenCells a_o_row a_o_refusals v_o_rowLength v_o_hasImage]) (as := [a_o, a_o_waters, a_o_waters_kinds, a_o_waters_wellPlaces, a_o_waters_wellWorths, a_o_waters_rules, a_o_kept, a_o_kept_kinds, a_o_kept_wellPlaces, a_o_kept_wellWorths, a_o_kept_rules]) (ws1 := [oX5 a_o a_o_tape a_o_waters a_o_kept a_o_option a_o_chart a_o_otherChart a_o_evenCells a_o_row a_o_refusals v_o_rowLength v_o_hasImage, oX4 a_o_waters v_o_waters_wide v_o_waters_high v_o_waters_wells a_o_waters_kinds a_o_waters_wellPlaces a_o_waters_wellWorths a_o_waters_rules, aI cI a_o_waters_kinds 120 f_o_waters_kinds, aI cI a_o_waters_wellPlaces 12 f_o_waters_wellPlaces, aI cI a_o_waters_wellWorths 12 f_o_waters_wellWorths, oX2 a_o_waters_rules v_o_waters_rules_mouth v_o_waters_rules_weight v_o_waters_rules_reach v_o_waters_rules_bend, oX4 a_o_kept x1 x2 x3 a_o_kept_kinds a_o_kept_wellPlaces a_o_kept_wellWorths a_o_kept_rules, aI cI a_o_kept_kinds 120 g4, aI cI a_o_kept_wellPlaces 12 g5, aI cI a_o_kept_wellWorths 12 g6, oX2 a_o_kept_rules x7 x8 x9 x10]) (q0 := 0) (ci := 4) ⟨hx, hb, hml, hown, hts⟩ (c_X4_copyFrom l D cI a_o_kept a_o_kept_kinds a_o_kept_wellPlaces a_o_kept_wellWorths a_o_kept_rules a_o_waters a_o_waters_kinds a_o_waters_wellPlaces a_o_waters_wellWorths a_o_waters_rules v_o_kept_wide v_o_kept_high v_o_kept_wells f_o_kept_kinds f_o_kept_wellPlaces f_o_kept_wellWorths v_o_kept_rules_mouth v_o_kept_rules_weight v_o_kept_rules_reach v_o_kept_rules_bend v_o_waters_wide v_o_waters_high v_o_waters_wells f_o_waters_kinds f_o_waters_wellPlaces f_o_waters_wellWorths v_o_waters_rules_mouth v_o_waters_rules_weight v_o_waters_rules_reach v_o_waters_rules_bend  n x1 x2 x3 g4 g5 g6 x7 x8 x9 x10 hc11) mw_3_160 mw_3_161 mw_3_162 mw_1_3 mw_3_163 hd_X4_copyFrom ⟨Nat.le_of_ble_eq_true rfl, Nat.le_of_ble_eq_true rfl⟩ hK hN hP hD hS rfl rfl rfl rfl rfl rfl rfl rfl rfl rfl rfl rfl hl.1 rfl (Nat.le_of_ble_eq_true rfl) dX5_image_8 ⟨Nat.le_of_ble_eq_true rfl, Nat.le_of_ble_eq_true rfl⟩ (fun H locs hP hD hS => ?_)
  refine W.eq (g2 := F0 m 11 ls []) rfl ?_
  refine lv_aload_n hx hb dX5_image_11 rfl (lv_at hl 0 rfl) ?_
  refine lv_iconst (v := (1 : Int32)) hx hb dX5_image_12 (by decide) ?_
  refine va_put (D := D) (ci := 5) (v := .int (1 : Int32)) (ty := .boolean) (C := RX5) (T := TX5) (N := 11) hx hb hts in_X5 tyX5 tyX5_ok nmX5 hown hK hP hD hS 0 rfl rfl 10 (by decide) (hts _ mw_1_161) (fun _ h9 => h9) rfl (by decide +kernel) (by decide) (by decide) (Nat.le_of_ble_eq_true rfl) dX5_image_13 (fun H locs hP hD hS => ?_)
  replace hP : va_P D vwCl [oX5 a_o a_o_tape a_o_waters a_o_kept a_o_option a_o_chart a_o_otherChart a_o_evenCells a_o_row a_o_refusals v_o_rowLength (1 : Int32), oX4 a_o_waters v_o_waters_wide v_o_waters_high v_o_waters_wells a_o_waters_kinds a_o_waters_wellPlaces a_o_waters_wellWorths a_o_waters_rules, aI cI a_o_waters_kinds 120 f_o_waters_kinds, aI cI a_o_waters_wellPlaces 12 f_o_waters_wellPlaces, aI cI a_o_waters_wellWorths 12 f_o_waters_wellWorths, oX2 a_o_waters_rules v_o_waters_rules_mouth v_o_waters_rules_weight v_o_waters_rules_reach v_o_waters_rules_bend, oX4 a_o_kept x1 x2 x3 a_o_kept_kinds a_o_kept_wellPlaces a_o_kept_wellWorths a_o_kept_rules, aI cI a_o_kept_kinds 120 g4, aI cI a_o_kept_wellPlaces 12 g5, aI cI a_o_kept_wellWorths 12 g6, oX2 a_o_kept_rules x7 x8 x9 x10] H := hP
  replace hD : va_D A [oX5 a_o a_o_tape a_o_waters a_o_kept a_o_option a_o_chart a_o_otherChart a_o_evenCells a_o_row a_o_refusals v_o_rowLength (1 : Int32), oX4 a_o_waters v_o_waters_wide v_o_waters_high v_o_waters_wells a_o_waters_kinds a_o_waters_wellPlaces a_o_waters_wellWorths a_o_waters_rules, aI cI a_o_waters_kinds 120 f_o_waters_kinds, aI cI a_o_waters_wellPlaces 12 f_o_waters_wellPlaces, aI cI a_o_waters_wellWorths 12 f_o_waters_wellWorths, oX2 a_o_waters_rules v_o_waters_rules_mouth v_o_waters_rules_weight v_o_waters_rules_reach v_o_waters_rules_bend, oX4 a_o_kept x1 x2 x3 a_o_kept_kinds a_o_kept_wellPlaces a_o_kept_wellWorths a_o_kept_rules, aI cI a_o_kept_kinds 120 g4, aI cI a_o_kept_wellPlaces 12 g5, aI cI a_o_kept_wellWorths 12 g6, oX2 a_o_kept_rules x7 x8 x9 x10] := hD
  refine lv_aload_n hx hb dX5_image_16 rfl (lv_at hl 0 rfl) ?_
  refine va_get (D := D) (ci := 5) (v := .ref a_o_kept) (C := RX5) (T := TX5) (N := 11) hx hb hts in_X5 hown hK hP 0 rfl rfl 2 (by decide) (hts _ mw_1_153) (fun _ h9 => h9) rfl dX5_image_17 ?_
  obtain ⟨x12, hc13, h⟩ := cz_e1 h
  refine cz_callV (As := []) (rest := []) (is := [6]) (isR := [0, 1, 2, 3, 4, 5, 7, 8, 9, 10]) (rs := [oX5 a_o a_o_tape a_o_waters a_o_kept a_o_option a_o_chart a_o_otherChart a_o_evenCells a_o_row a_o_refusals v_o_rowLength (1 : Int32), oX4 a_o_waters v_o_waters_wide v_o_waters_high v_o_waters_wells a_o_waters_kinds a_o_waters_wellPlaces a_o_waters_wellWorths a_o_waters_rules, aI cI a_o_waters_kinds 120 f_o_waters_kinds, aI cI a_o_waters_wellPlaces 12 f_o_waters_wellPlaces, aI cI a_o_waters_wellWorths 12 f_o_waters_wellWorths, oX2 a_o_waters_rules v_o_waters_rules_mouth v_o_waters_rules_weight v_o_waters_rules_reach v_o_waters_rules_bend, aI cI a_o_kept_kinds 120 g4, aI cI a_o_kept_wellPlaces 12 g5, aI cI a_o_kept_wellWorths 12 g6, oX2 a_o_kept_rules x7 x8 x9 x10]) (as := [a_o, a_o_waters, a_o_waters_kinds, a_o_waters_wellPlaces, a_o_waters_wellWorths, a_o_waters_rules, a_o_kept, a_o_kept_kinds, a_o_kept_wellPlaces, a_o_kept_wellWorths, a_o_kept_rules]) (ws1 := [oX5 a_o a_o_tape a_o_waters a_o_kept a_o_option a_o_chart a_o_otherChart a_o_evenCells a_o_row a_o_refusals v_o_rowLength (1 : Int32), oX4 a_o_waters v_o_waters_wide v_o_waters_high v_o_waters_wells a_o_waters_kinds a_o_waters_wellPlaces a_o_waters_wellWorths a_o_waters_rules, aI cI a_o_waters_kinds 120 f_o_waters_kinds, aI cI a_o_waters_wellPlaces 12 f_o_waters_wellPlaces, aI cI a_o_waters_wellWorths 12 f_o_waters_wellWorths, oX2 a_o_waters_rules v_o_waters_rules_mouth v_o_waters_rules_weight v_o_waters_rules_reach v_o_waters_rules_bend, oX4 a_o_kept x1 x2 x3 a_o_kept_kinds a_o_kept_wellPlaces a_o_kept_wellWorths a_o_kept_rules, aI cI a_o_kept_kinds 120 g4, aI cI a_o_kept_wellPlaces 12 g5, aI cI a_o_kept_wellWorths 12 g6, oX2 a_o_kept_rules x7 x8 x9 x10]) (q0 := 0) (ci := 4) ⟨hx, hb, hml, hown, hts⟩ (c_X4_size l D cI a_o_kept a_o_kept_kinds a_o_kept_wellPlaces a_o_kept_wellWorths a_o_kept_rules x1 x2 x3  n x12 hc13) mw_2_76 mw_2_77 mw_2_78 mw_1_3 mw_2_79 hd_X4_size ⟨Nat.le_of_ble_eq_true rfl, Nat.le_of_ble_eq_true rfl⟩ hK hN hP hD hS rfl rfl rfl rfl rfl rfl rfl rfl rfl rfl rfl rfl hl.1 rfl (Nat.le_of_ble_eq_true rfl) dX5_image_20 ⟨Nat.le_of_ble_eq_true rfl, Nat.le_of_ble_eq_true rfl⟩ (fun H locs hP hD hS => ?_)
  refine W.eq (g2 := F0 m 23 ls [.int x12]) rfl ?_
  obtain ⟨rfl, rfl, rfl, rfl, rfl, rfl, rfl, rfl, rfl, rfl, rfl, rfl⟩ := cz_j12 (cz_i h)
  exact hQ _ _ _ _ hP hS dX5_image_23
set_option maxHeartbeats 4000000 in
set_option maxRecDepth 100000 in
theorem c_X5_on (l : Launch) (D : va_G) (cI : ClassId) (a_o a_o_waters a_o_waters_kinds a_o_waters_wellPlaces a_o_waters_wellWorths a_o_waters_rules a_o_kept a_o_kept_kinds a_o_kept_wellPlaces a_o_kept_wellWorths a_o_kept_rules a_o_refusals a_o_tape a_o_option a_o_chart a_o_otherChart a_o_evenCells a_o_row : Nat) (v_o_rowLength : Int32) (v_o_hasImage : Int32) (v_o_waters_wide : Int32) (v_o_waters_high : Int32) (v_o_waters_wells : Int32) (f_o_waters_kinds : (Nat → Int32)) (f_o_waters_wellPlaces : (Nat → Int32)) (f_o_waters_wellWorths : (Nat → Int32)) (v_o_waters_rules_mouth : Int32) (v_o_waters_rules_weight : Int32) (v_o_waters_rules_reach : Int32) (v_o_waters_rules_bend : Int32) (v_o_kept_wide : Int32) (v_o_kept_high : Int32) (v_o_kept_wells : Int32) (f_o_kept_kinds : (Nat → Int32)) (f_o_kept_wellPlaces : (Nat → Int32)) (f_o_kept_wellWorths : (Nat → Int32)) (v_o_kept_rules_mouth : Int32) (v_o_kept_rules_weight : Int32) (v_o_kept_rules_reach : Int32) (v_o_kept_rules_bend : Int32) (f_o_refusals : (Nat → Int32)) (n : Nat) (r : Int32) (r_v_o_waters_wide : Int32) (r_v_o_waters_high : Int32) (r_v_o_waters_wells : Int32) (r_f_o_waters_kinds : (Nat → Int32)) (r_f_o_waters_wellPlaces : (Nat → Int32)) (r_f_o_waters_wellWorths : (Nat → Int32)) (r_v_o_waters_rules_mouth : Int32) (r_v_o_waters_rules_weight : Int32) (r_v_o_waters_rules_reach : Int32) (r_v_o_waters_rules_bend : Int32) (r_f_o_refusals : (Nat → Int32)) (h : f_X5_on n v_o_hasImage v_o_waters_wide v_o_waters_high v_o_waters_wells f_o_waters_kinds f_o_waters_wellPlaces f_o_waters_wellWorths v_o_waters_rules_mouth v_o_waters_rules_weight v_o_waters_rules_reach v_o_waters_rules_bend v_o_kept_wide v_o_kept_high v_o_kept_wells f_o_kept_kinds f_o_kept_wellPlaces f_o_kept_wellWorths v_o_kept_rules_mouth v_o_kept_rules_weight v_o_kept_rules_reach v_o_kept_rules_bend f_o_refusals = some (r, r_v_o_waters_wide, r_v_o_waters_high, r_v_o_waters_wells, r_f_o_waters_kinds, r_f_o_waters_wellPlaces, r_f_o_waters_wellWorths, r_v_o_waters_rules_mouth, r_v_o_waters_rules_weight, r_v_o_waters_rules_reach, r_v_o_waters_rules_bend, r_f_o_refusals)) : cz_M l yX5_on cX5_on 1 (some .int) 2 43 D cI [.ref a_o] [oX5 a_o a_o_tape a_o_waters a_o_kept a_o_option a_o_chart a_o_otherChart a_o_evenCells a_o_row a_o_refusals v_o_rowLength v_o_hasImage, oX4 a_o_waters v_o_waters_wide v_o_waters_high v_o_waters_wells a_o_waters_kinds a_o_waters_wellPlaces a_o_waters_wellWorths a_o_waters_rules, aI cI a_o_waters_kinds 120 f_o_waters_kinds, aI cI a_o_waters_wellPlaces 12 f_o_waters_wellPlaces, aI cI a_o_waters_wellWorths 12 f_o_waters_wellWorths, oX2 a_o_waters_rules v_o_waters_rules_mouth v_o_waters_rules_weight v_o_waters_rules_reach v_o_waters_rules_bend, oX4 a_o_kept v_o_kept_wide v_o_kept_high v_o_kept_wells a_o_kept_kinds a_o_kept_wellPlaces a_o_kept_wellWorths a_o_kept_rules, aI cI a_o_kept_kinds 120 f_o_kept_kinds, aI cI a_o_kept_wellPlaces 12 f_o_kept_wellPlaces, aI cI a_o_kept_wellWorths 12 f_o_kept_wellWorths, oX2 a_o_kept_rules v_o_kept_rules_mouth v_o_kept_rules_weight v_o_kept_rules_reach v_o_kept_rules_bend, aI cI a_o_refusals 7 f_o_refusals] (some (.int r)) [oX5 a_o a_o_tape a_o_waters a_o_kept a_o_option a_o_chart a_o_otherChart a_o_evenCells a_o_row a_o_refusals v_o_rowLength v_o_hasImage, oX4 a_o_waters r_v_o_waters_wide r_v_o_waters_high r_v_o_waters_wells a_o_waters_kinds a_o_waters_wellPlaces a_o_waters_wellWorths a_o_waters_rules, aI cI a_o_waters_kinds 120 r_f_o_waters_kinds, aI cI a_o_waters_wellPlaces 12 r_f_o_waters_wellPlaces, aI cI a_o_waters_wellWorths 12 r_f_o_waters_wellWorths, oX2 a_o_waters_rules r_v_o_waters_rules_mouth r_v_o_waters_rules_weight r_v_o_waters_rules_reach r_v_o_waters_rules_bend, oX4 a_o_kept v_o_kept_wide v_o_kept_high v_o_kept_wells a_o_kept_kinds a_o_kept_wellPlaces a_o_kept_wellWorths a_o_kept_rules, aI cI a_o_kept_kinds 120 f_o_kept_kinds, aI cI a_o_kept_wellPlaces 12 f_o_kept_wellPlaces, aI cI a_o_kept_wellWorths 12 f_o_kept_wellWorths, oX2 a_o_kept_rules v_o_kept_rules_mouth v_o_kept_rules_weight v_o_kept_rules_reach v_o_kept_rules_bend, aI cI a_o_refusals 7 r_f_o_refusals] := by
  refine cz_startI (by decide) (Nat.le_of_ble_eq_true rfl) ?_
  intro p e s m ag below meth c A Q hx hb hml hown hts hK hN hQ H locs hP hD hS ls hl
  replace hown : s.vm.findClass RX5 = some m.cls := hown
  replace hl : lv_has ls 1 [(0, .ref a_o)] := hl
  unfold f_X5_on at h
  refine lv_aload_n hx hb dX5_on_0 rfl (lv_at hl 0 rfl) ?_
  refine va_get (D := D) (ci := 5) (v := .int v_o_hasImage) (C := RX5) (T := TX5) (N := 11) hx hb hts in_X5 hown hK hP 0 rfl rfl 10 (by decide) (hts _ mw_1_161) (fun _ h9 => h9) rfl dX5_on_1 ?_
  refine lv_if_ne (tgt := 14) hx hb dX5_on_4 (by decide) (fun c1 => ?_) (fun c1 => ?_)
  · replace h := cz_f c1 h
    refine lv_aload_n hx hb dX5_on_14 rfl (lv_at hl 0 rfl) ?_
    refine va_get (D := D) (ci := 5) (v := .ref a_o_waters) (C := RX5) (T := TX5) (N := 11) hx hb hts in_X5 hown hK hP 0 rfl rfl 1 (by decide) (hts _ mw_1_152) (fun _ h9 => h9) rfl dX5_on_15 ?_
    refine lv_aload_n hx hb dX5_on_18 rfl (lv_at hl 0 rfl) ?_
    refine va_get (D := D) (ci := 5) (v := .ref a_o_kept) (C := RX5) (T := TX5) (N := 11) hx hb hts in_X5 hown hK hP 0 rfl rfl 2 (by decide) (hts _ mw_1_153) (fun _ h9 => h9) rfl dX5_on_19 ?_
    obtain ⟨x2, x3, x4, g5, g6, g7, x8, x9, x10, x11, hc12, h⟩ := cz_e10 h
    refine cz_callV (As := [.ref a_o_kept]) (rest := []) (is := [1, 2, 3, 4, 5, 6, 7, 8, 9, 10]) (isR := [0, 11]) (rs := [oX5 a_o a_o_tape a_o_waters a_o_kept a_o_option a_o_chart a_o_otherChart a_o_evenCells a_o_row a_o_refusals v_o_rowLength v_o_hasImage, aI cI a_o_refusals 7 f_o_refusals]) (as := [a_o, a_o_waters, a_o_waters_kinds, a_o_waters_wellPlaces, a_o_waters_wellWorths, a_o_waters_rules, a_o_kept, a_o_kept_kinds, a_o_kept_wellPlaces, a_o_kept_wellWorths, a_o_kept_rules, a_o_refusals]) (ws1 := [oX5 a_o a_o_tape a_o_waters a_o_kept a_o_option a_o_chart a_o_otherChart a_o_evenCells a_o_row a_o_refusals v_o_rowLength v_o_hasImage, oX4 a_o_waters x2 x3 x4 a_o_waters_kinds a_o_waters_wellPlaces a_o_waters_wellWorths a_o_waters_rules, aI cI a_o_waters_kinds 120 g5, aI cI a_o_waters_wellPlaces 12 g6, aI cI a_o_waters_wellWorths 12 g7, oX2 a_o_waters_rules x8 x9 x10 x11, oX4 a_o_kept v_o_kept_wide v_o_kept_high v_o_kept_wells a_o_kept_kinds a_o_kept_wellPlaces a_o_kept_wellWorths a_o_kept_rules, aI cI a_o_kept_kinds 120 f_o_kept_kinds, aI cI a_o_kept_wellPlaces 12 f_o_kept_wellPlaces, aI cI a_o_kept_wellWorths 12 f_o_kept_wellWorths, oX2 a_o_kept_rules v_o_kept_rules_mouth v_o_kept_rules_weight v_o_kept_rules_reach v_o_kept_rules_bend, aI cI a_o_refusals 7 f_o_refusals]) (q0 := 0) (ci := 4) ⟨hx, hb, hml, hown, hts⟩ (c_X4_copyFrom l D cI a_o_waters a_o_waters_kinds a_o_waters_wellPlaces a_o_waters_wellWorths a_o_waters_rules a_o_kept a_o_kept_kinds a_o_kept_wellPlaces a_o_kept_wellWorths a_o_kept_rules v_o_waters_wide v_o_waters_high v_o_waters_wells f_o_waters_kinds f_o_waters_wellPlaces f_o_waters_wellWorths v_o_waters_rules_mouth v_o_waters_rules_weight v_o_waters_rules_reach v_o_waters_rules_bend v_o_kept_wide v_o_kept_high v_o_kept_wells f_o_kept_kinds f_o_kept_wellPlaces f_o_kept_wellWorths v_o_kept_rules_mouth v_o_kept_rules_weight v_o_kept_rules_reach v_o_kept_rules_bend  n x2 x3 x4 g5 g6 g7 x8 x9 x10 x11 hc12) mw_3_160 mw_3_161 mw_3_162 mw_1_3 mw_3_163 hd_X4_copyFrom ⟨Nat.le_of_ble_eq_true rfl, Nat.le_of_ble_eq_true rfl⟩ hK hN hP hD hS rfl rfl rfl rfl rfl rfl rfl rfl rfl rfl rfl rfl hl.1 rfl (Nat.le_of_ble_eq_true rfl) dX5_on_22 ⟨Nat.le_of_ble_eq_true rfl, Nat.le_of_ble_eq_true rfl⟩ (fun H locs hP hD hS => ?_)
    refine W.eq (g2 := F0 m 25 ls []) rfl ?_
    refine lv_aload_n hx hb dX5_on_25 rfl (lv_at hl 0 rfl) ?_
    refine va_get (D := D) (ci := 5) (v := .ref a_o_waters) (C := RX5) (T := TX5) (N := 11) hx hb hts in_X5 hown hK hP 0 rfl rfl 1 (by decide) (hts _ mw_1_152) (fun _ h9 => h9) rfl dX5_on_26 ?_
    obtain ⟨x13, hc14, h⟩ := cz_e1 h
    refine cz_callV (As := []) (rest := []) (is := [1]) (isR := [0, 2, 3, 4, 5, 6, 7, 8, 9, 10, 11]) (rs := [oX5 a_o a_o_tape a_o_waters a_o_kept a_o_option a_o_chart a_o_otherChart a_o_evenCells a_o_row a_o_refusals v_o_rowLength v_o_hasImage, aI cI a_o_waters_kinds 120 g5, aI cI a_o_waters_wellPlaces 12 g6, aI cI a_o_waters_wellWorths 12 g7, oX2 a_o_waters_rules x8 x9 x10 x11, oX4 a_o_kept v_o_kept_wide v_o_kept_high v_o_kept_wells a_o_kept_kinds a_o_kept_wellPlaces a_o_kept_wellWorths a_o_kept_rules, aI cI a_o_kept_kinds 120 f_o_kept_kinds, aI cI a_o_kept_wellPlaces 12 f_o_kept_wellPlaces, aI cI a_o_kept_wellWorths 12 f_o_kept_wellWorths, oX2 a_o_kept_rules v_o_kept_rules_mouth v_o_kept_rules_weight v_o_kept_rules_reach v_o_kept_rules_bend, aI cI a_o_refusals 7 f_o_refusals]) (as := [a_o, a_o_waters, a_o_waters_kinds, a_o_waters_wellPlaces, a_o_waters_wellWorths, a_o_waters_rules, a_o_kept, a_o_kept_kinds, a_o_kept_wellPlaces, a_o_kept_wellWorths, a_o_kept_rules, a_o_refusals]) (ws1 := [oX5 a_o a_o_tape a_o_waters a_o_kept a_o_option a_o_chart a_o_otherChart a_o_evenCells a_o_row a_o_refusals v_o_rowLength v_o_hasImage, oX4 a_o_waters x2 x3 x4 a_o_waters_kinds a_o_waters_wellPlaces a_o_waters_wellWorths a_o_waters_rules, aI cI a_o_waters_kinds 120 g5, aI cI a_o_waters_wellPlaces 12 g6, aI cI a_o_waters_wellWorths 12 g7, oX2 a_o_waters_rules x8 x9 x10 x11, oX4 a_o_kept v_o_kept_wide v_o_kept_high v_o_kept_wells a_o_kept_kinds a_o_kept_wellPlaces a_o_kept_wellWorths a_o_kept_rules, aI cI a_o_kept_kinds 120 f_o_kept_kinds, aI cI a_o_kept_wellPlaces 12 f_o_kept_wellPlaces, aI cI a_o_kept_wellWorths 12 f_o_kept_wellWorths, oX2 a_o_kept_rules v_o_kept_rules_mouth v_o_kept_rules_weight v_o_kept_rules_reach v_o_kept_rules_bend, aI cI a_o_refusals 7 f_o_refusals]) (q0 := 0) (ci := 4) ⟨hx, hb, hml, hown, hts⟩ (c_X4_size l D cI a_o_waters a_o_waters_kinds a_o_waters_wellPlaces a_o_waters_wellWorths a_o_waters_rules x2 x3 x4  n x13 hc14) mw_2_76 mw_2_77 mw_2_78 mw_1_3 mw_2_79 hd_X4_size ⟨Nat.le_of_ble_eq_true rfl, Nat.le_of_ble_eq_true rfl⟩ hK hN hP hD hS rfl rfl rfl rfl rfl rfl rfl rfl rfl rfl rfl rfl hl.1 rfl (Nat.le_of_ble_eq_true rfl) dX5_on_29 ⟨Nat.le_of_ble_eq_true rfl, Nat.le_of_ble_eq_true rfl⟩ (fun H locs hP hD hS => ?_)
    refine W.eq (g2 := F0 m 32 ls [.int x13]) rfl ?_
    obtain ⟨rfl, rfl, rfl, rfl, rfl, rfl, rfl, rfl, rfl, rfl, rfl, rfl⟩ := cz_j12 (cz_i h)
    exact hQ _ _ _ _ hP hS dX5_on_32
  · replace h := cz_t c1 h
    refine lv_aload_n hx hb dX5_on_7 rfl (lv_at hl 0 rfl) ?_
    refine lv_bipush (v := (-3 : Int32)) hx hb dX5_on_8 (by decide) ?_
    obtain ⟨x15, g16, hc17, h⟩ := cz_e2 h
    refine cz_callV (As := [.int (-3 : Int32)]) (rest := []) (is := [0, 11]) (isR := [1, 2, 3, 4, 5, 6, 7, 8, 9, 10]) (rs := [oX4 a_o_waters v_o_waters_wide v_o_waters_high v_o_waters_wells a_o_waters_kinds a_o_waters_wellPlaces a_o_waters_wellWorths a_o_waters_rules, aI cI a_o_waters_kinds 120 f_o_waters_kinds, aI cI a_o_waters_wellPlaces 12 f_o_waters_wellPlaces, aI cI a_o_waters_wellWorths 12 f_o_waters_wellWorths, oX2 a_o_waters_rules v_o_waters_rules_mouth v_o_waters_rules_weight v_o_waters_rules_reach v_o_waters_rules_bend, oX4 a_o_kept v_o_kept_wide v_o_kept_high v_o_kept_wells a_o_kept_kinds a_o_kept_wellPlaces a_o_kept_wellWorths a_o_kept_rules, aI cI a_o_kept_kinds 120 f_o_kept_kinds, aI cI a_o_kept_wellPlaces 12 f_o_kept_wellPlaces, aI cI a_o_kept_wellWorths 12 f_o_kept_wellWorths, oX2 a_o_kept_rules v_o_kept_rules_mouth v_o_kept_rules_weight v_o_kept_rules_reach v_o_kept_rules_bend]) (as := [a_o, a_o_waters, a_o_waters_kinds, a_o_waters_wellPlaces, a_o_waters_wellWorths, a_o_waters_rules, a_o_kept, a_o_kept_kinds, a_o_kept_wellPlaces, a_o_kept_wellWorths, a_o_kept_rules, a_o_refusals]) (ws1 := [oX5 a_o a_o_tape a_o_waters a_o_kept a_o_option a_o_chart a_o_otherChart a_o_evenCells a_o_row a_o_refusals v_o_rowLength v_o_hasImage, oX4 a_o_waters v_o_waters_wide v_o_waters_high v_o_waters_wells a_o_waters_kinds a_o_waters_wellPlaces a_o_waters_wellWorths a_o_waters_rules, aI cI a_o_waters_kinds 120 f_o_waters_kinds, aI cI a_o_waters_wellPlaces 12 f_o_waters_wellPlaces, aI cI a_o_waters_wellWorths 12 f_o_waters_wellWorths, oX2 a_o_waters_rules v_o_waters_rules_mouth v_o_waters_rules_weight v_o_waters_rules_reach v_o_waters_rules_bend, oX4 a_o_kept v_o_kept_wide v_o_kept_high v_o_kept_wells a_o_kept_kinds a_o_kept_wellPlaces a_o_kept_wellWorths a_o_kept_rules, aI cI a_o_kept_kinds 120 f_o_kept_kinds, aI cI a_o_kept_wellPlaces 12 f_o_kept_wellPlaces, aI cI a_o_kept_wellWorths 12 f_o_kept_wellWorths, oX2 a_o_kept_rules v_o_kept_rules_mouth v_o_kept_rules_weight v_o_kept_rules_reach v_o_kept_rules_bend, aI cI a_o_refusals 7 g16]) (q0 := 0) (ci := 5) ⟨hx, hb, hml, hown, hts⟩ (c_X5_refuse l D cI a_o a_o_refusals a_o_tape a_o_waters a_o_kept a_o_option a_o_chart a_o_otherChart a_o_evenCells a_o_row v_o_rowLength v_o_hasImage f_o_refusals (-3 : Int32) n x15 g16 hc17) mw_1_189 mw_1_191 mw_p_0 mw_1_1 mw_1_192 hd_X5_refuse ⟨Nat.le_of_ble_eq_true rfl, Nat.le_of_ble_eq_true rfl⟩ hK hN hP hD hS rfl rfl rfl rfl rfl rfl rfl rfl rfl rfl rfl rfl hl.1 rfl (Nat.le_of_ble_eq_true rfl) dX5_on_10 ⟨Nat.le_of_ble_eq_true rfl, Nat.le_of_ble_eq_true rfl⟩ (fun H locs hP hD hS => ?_)
    refine W.eq (g2 := F0 m 13 ls [.int x15]) rfl ?_
    obtain ⟨rfl, rfl, rfl, rfl, rfl, rfl, rfl, rfl, rfl, rfl, rfl, rfl⟩ := cz_j12 (cz_i h)
    exact hQ _ _ _ _ hP hS dX5_on_13
set_option maxHeartbeats 4000000 in
set_option maxRecDepth 100000 in
theorem c_X5_count (l : Launch) (D : va_G) (cI : ClassId) (a_o a_o_tape a_o_waters a_o_waters_kinds a_o_refusals a_o_kept a_o_option a_o_chart a_o_otherChart a_o_evenCells a_o_row a_o_tape_signs a_o_waters_wellPlaces a_o_waters_wellWorths a_o_waters_rules : Nat) (v_o_rowLength : Int32) (v_o_hasImage : Int32) (v_o_tape_length : Int32) (v_o_waters_wide : Int32) (v_o_waters_high : Int32) (v_o_waters_wells : Int32) (f_o_waters_kinds : (Nat → Int32)) (f_o_refusals : (Nat → Int32)) (w1 : Int32) (n : Nat) (r : Int32) (h : f_X5_count n v_o_rowLength v_o_tape_length v_o_waters_wide v_o_waters_high v_o_waters_wells f_o_waters_kinds f_o_refusals w1 = some r) : cz_M l yX5_count cX5_count 2 (some .int) 1 22 D cI [.ref a_o, .int w1] [oX5 a_o a_o_tape a_o_waters a_o_kept a_o_option a_o_chart a_o_otherChart a_o_evenCells a_o_row a_o_refusals v_o_rowLength v_o_hasImage, oX3 a_o_tape a_o_tape_signs v_o_tape_length, oX4 a_o_waters v_o_waters_wide v_o_waters_high v_o_waters_wells a_o_waters_kinds a_o_waters_wellPlaces a_o_waters_wellWorths a_o_waters_rules, aI cI a_o_waters_kinds 120 f_o_waters_kinds, aI cI a_o_refusals 7 f_o_refusals] (some (.int r)) [oX5 a_o a_o_tape a_o_waters a_o_kept a_o_option a_o_chart a_o_otherChart a_o_evenCells a_o_row a_o_refusals v_o_rowLength v_o_hasImage, oX3 a_o_tape a_o_tape_signs v_o_tape_length, oX4 a_o_waters v_o_waters_wide v_o_waters_high v_o_waters_wells a_o_waters_kinds a_o_waters_wellPlaces a_o_waters_wellWorths a_o_waters_rules, aI cI a_o_waters_kinds 120 f_o_waters_kinds, aI cI a_o_refusals 7 f_o_refusals] := by
  refine cz_startI (by decide) (Nat.le_of_ble_eq_true rfl) ?_
  intro p e s m ag below meth c A Q hx hb hml hown hts hK hN hQ H locs hP hD hS ls hl
  replace hown : s.vm.findClass RX5 = some m.cls := hown
  replace hl : lv_has ls 2 [(0, .ref a_o), (1, .int w1)] := hl
  unfold f_X5_count at h
  refine lv_iload_n hx hb dX5_count_0 rfl (lv_at hl 1 rfl) ?_
  by_cases c1 : w1 = (0 : Int32)
  · replace h := cz_t c1 h
    refine lv_tableIn (tgt := 40) (off := 39) hx hb dX5_count_1 (by rw [c1]; decide) (by rw [c1]; decide) (by rw [c1]; rfl) (by decide) ?_
    refine lv_aload_n hx hb dX5_count_40 rfl (lv_at hl 0 rfl) ?_
    refine va_get (D := D) (ci := 5) (v := .ref a_o_waters) (C := RX5) (T := TX5) (N := 11) hx hb hts in_X5 hown hK hP 0 rfl rfl 1 (by decide) (hts _ mw_1_152) (fun _ h9 => h9) rfl dX5_count_41 ?_
    refine va_getN (D := D) (ci := 4) (v := .int v_o_waters_wide) (C := RX4) (T := TX4) (N := 7) hx hb hts in_X4 hown hK hP 2 rfl rfl 0 (by decide) (hN.use nw_11) (fun _ h9 => h9) rfl dX5_count_44 ?_
    obtain rfl := cz_i h
    exact hQ _ _ _ _ hP hS dX5_count_47
  · replace h := cz_f c1 h
    by_cases c2 : w1 = (1 : Int32)
    · replace h := cz_t c2 h
      refine lv_tableIn (tgt := 48) (off := 47) hx hb dX5_count_1 (by rw [c2]; decide) (by rw [c2]; decide) (by rw [c2]; rfl) (by decide) ?_
      refine lv_aload_n hx hb dX5_count_48 rfl (lv_at hl 0 rfl) ?_
      refine va_get (D := D) (ci := 5) (v := .ref a_o_waters) (C := RX5) (T := TX5) (N := 11) hx hb hts in_X5 hown hK hP 0 rfl rfl 1 (by decide) (hts _ mw_1_152) (fun _ h9 => h9) rfl dX5_count_49 ?_
      refine va_getN (D := D) (ci := 4) (v := .int v_o_waters_high) (C := RX4) (T := TX4) (N := 7) hx hb hts in_X4 hown hK hP 2 rfl rfl 1 (by decide) (hN.use nw_13) (fun _ h9 => h9) rfl dX5_count_52 ?_
      obtain rfl := cz_i h
      exact hQ _ _ _ _ hP hS dX5_count_55
    · replace h := cz_f c2 h
      by_cases c3 : w1 = (2 : Int32)
      · replace h := cz_t c3 h
        refine lv_tableIn (tgt := 56) (off := 55) hx hb dX5_count_1 (by rw [c3]; decide) (by rw [c3]; decide) (by rw [c3]; rfl) (by decide) ?_
        refine lv_aload_n hx hb dX5_count_56 rfl (lv_at hl 0 rfl) ?_
        refine va_get (D := D) (ci := 5) (v := .ref a_o_waters) (C := RX5) (T := TX5) (N := 11) hx hb hts in_X5 hown hK hP 0 rfl rfl 1 (by decide) (hts _ mw_1_152) (fun _ h9 => h9) rfl dX5_count_57 ?_
        obtain ⟨x4, hc5, h⟩ := cz_e1 h
        refine cz_callV (As := []) (rest := []) (is := [2, 3]) (isR := [0, 1, 4]) (rs := [oX5 a_o a_o_tape a_o_waters a_o_kept a_o_option a_o_chart a_o_otherChart a_o_evenCells a_o_row a_o_refusals v_o_rowLength v_o_hasImage, oX3 a_o_tape a_o_tape_signs v_o_tape_length, aI cI a_o_refusals 7 f_o_refusals]) (as := [a_o, a_o_tape, a_o_waters, a_o_waters_kinds, a_o_refusals]) (ws1 := [oX5 a_o a_o_tape a_o_waters a_o_kept a_o_option a_o_chart a_o_otherChart a_o_evenCells a_o_row a_o_refusals v_o_rowLength v_o_hasImage, oX3 a_o_tape a_o_tape_signs v_o_tape_length, oX4 a_o_waters v_o_waters_wide v_o_waters_high v_o_waters_wells a_o_waters_kinds a_o_waters_wellPlaces a_o_waters_wellWorths a_o_waters_rules, aI cI a_o_waters_kinds 120 f_o_waters_kinds, aI cI a_o_refusals 7 f_o_refusals]) (q0 := 0) (ci := 4) ⟨hx, hb, hml, hown, hts⟩ (c_X4_cellsOfSea l D cI a_o_waters a_o_waters_kinds a_o_waters_wellPlaces a_o_waters_wellWorths a_o_waters_rules v_o_waters_wide v_o_waters_high v_o_waters_wells f_o_waters_kinds  n x4 hc5) mw_3_176 mw_3_177 mw_3_178 mw_1_3 mw_3_179 hd_X4_cellsOfSea ⟨Nat.le_of_ble_eq_true rfl, Nat.le_of_ble_eq_true rfl⟩ hK hN hP hD hS rfl rfl rfl rfl rfl rfl rfl rfl rfl rfl rfl rfl hl.1 rfl (Nat.le_of_ble_eq_true rfl) dX5_count_60 ⟨Nat.le_of_ble_eq_true rfl, Nat.le_of_ble_eq_true rfl⟩ (fun H locs hP hD hS => ?_)
        refine W.eq (g2 := F0 m 63 ls [.int x4]) rfl ?_
        obtain rfl := cz_i h
        exact hQ _ _ _ _ hP hS dX5_count_63
      · replace h := cz_f c3 h
        by_cases c6 : w1 = (3 : Int32)
        · replace h := cz_t c6 h
          refine lv_tableIn (tgt := 64) (off := 63) hx hb dX5_count_1 (by rw [c6]; decide) (by rw [c6]; decide) (by rw [c6]; rfl) (by decide) ?_
          refine lv_aload_n hx hb dX5_count_64 rfl (lv_at hl 0 rfl) ?_
          refine va_get (D := D) (ci := 5) (v := .ref a_o_waters) (C := RX5) (T := TX5) (N := 11) hx hb hts in_X5 hown hK hP 0 rfl rfl 1 (by decide) (hts _ mw_1_152) (fun _ h9 => h9) rfl dX5_count_65 ?_
          refine va_getN (D := D) (ci := 4) (v := .int v_o_waters_wells) (C := RX4) (T := TX4) (N := 7) hx hb hts in_X4 hown hK hP 2 rfl rfl 2 (by decide) (hN.use nw_14) (fun _ h9 => h9) rfl dX5_count_68 ?_
          obtain rfl := cz_i h
          exact hQ _ _ _ _ hP hS dX5_count_71
        · replace h := cz_f c6 h
          by_cases c7 : w1 = (4 : Int32)
          · replace h := cz_t c7 h
            refine lv_tableIn (tgt := 72) (off := 71) hx hb dX5_count_1 (by rw [c7]; decide) (by rw [c7]; decide) (by rw [c7]; rfl) (by decide) ?_
            refine lv_aload_n hx hb dX5_count_72 rfl (lv_at hl 0 rfl) ?_
            refine va_get (D := D) (ci := 5) (v := .ref a_o_tape) (C := RX5) (T := TX5) (N := 11) hx hb hts in_X5 hown hK hP 0 rfl rfl 0 (by decide) (hts _ mw_1_151) (fun _ h9 => h9) rfl dX5_count_73 ?_
            refine va_getN (D := D) (ci := 3) (v := .int v_o_tape_length) (C := RX3) (T := TX3) (N := 2) hx hb hts in_X3 hown hK hP 1 rfl rfl 1 (by decide) (hN.use nw_1) (fun _ h9 => h9) rfl dX5_count_76 ?_
            obtain rfl := cz_i h
            exact hQ _ _ _ _ hP hS dX5_count_79
          · replace h := cz_f c7 h
            by_cases c8 : w1 = (5 : Int32)
            · replace h := cz_t c8 h
              refine lv_tableIn (tgt := 80) (off := 79) hx hb dX5_count_1 (by rw [c8]; decide) (by rw [c8]; decide) (by rw [c8]; rfl) (by decide) ?_
              refine lv_aload_n hx hb dX5_count_80 rfl (lv_at hl 0 rfl) ?_
              refine va_get (D := D) (ci := 5) (v := .int v_o_rowLength) (C := RX5) (T := TX5) (N := 11) hx hb hts in_X5 hown hK hP 0 rfl rfl 9 (by decide) (hts _ mw_1_160) (fun _ h9 => h9) rfl dX5_count_81 ?_
              obtain rfl := cz_i h
              exact hQ _ _ _ _ hP hS dX5_count_84
            · replace h := cz_f c8 h
              refine lv_tableOut (tgt := 85) hx hb dX5_count_1 (cz_swOut w1 6 (by decide) (fun k hk => by rcases (show k = 0 ∨ k = 1 ∨ k = 2 ∨ k = 3 ∨ k = 4 ∨ k = 5 by omega) with rfl | rfl | rfl | rfl | rfl | rfl <;> assumption)) (by decide) ?_
              refine lv_iload_n hx hb dX5_count_85 rfl (lv_at hl 1 rfl) ?_
              refine lv_bipush (v := (10 : Int32)) hx hb dX5_count_86 (by decide) ?_
              refine lv_icmp_le (tgt := 109) hx hb dX5_count_88 (by decide) (fun c9 => ?_) (fun c9 => ?_)
              · replace h := cz_t c9 h
                refine lv_bipush (v := (-9 : Int32)) hx hb dX5_count_109 (by decide) ?_
                obtain rfl := cz_i h
                exact hQ _ _ _ _ hP hS dX5_count_111
              · replace h := cz_f c9 h
                refine lv_iload_n hx hb dX5_count_91 rfl (lv_at hl 1 rfl) ?_
                refine lv_bipush (v := (16 : Int32)) hx hb dX5_count_92 (by decide) ?_
                refine lv_icmp_gt (tgt := 109) hx hb dX5_count_94 (by decide) (fun c10 => ?_) (fun c10 => ?_)
                · replace h := cz_t c10 h
                  refine lv_bipush (v := (-9 : Int32)) hx hb dX5_count_109 (by decide) ?_
                  obtain rfl := cz_i h
                  exact hQ _ _ _ _ hP hS dX5_count_111
                · replace h := cz_f c10 h
                  refine lv_aload_n hx hb dX5_count_97 rfl (lv_at hl 0 rfl) ?_
                  refine va_get (D := D) (ci := 5) (v := .ref a_o_refusals) (C := RX5) (T := TX5) (N := 11) hx hb hts in_X5 hown hK hP 0 rfl rfl 8 (by decide) (hts _ mw_1_159) (fun _ h9 => h9) rfl dX5_count_98 ?_
                  refine lv_iload_n hx hb dX5_count_101 rfl (lv_at hl 1 rfl) ?_
                  refine lv_bipush (v := (10 : Int32)) hx hb dX5_count_102 (by decide) ?_
                  refine lv_isub hx hb dX5_count_104 ?_
                  refine cz_iald hx hb hK hP 4 0 rfl rfl (cz_rdE h).1 dX5_count_105 (fun x11 ex11 => ?_)
                  replace h := cz_rdK ex11 h
                  refine lv_goto (tgt := 111) hx hb dX5_count_106 (by decide) ?_
                  obtain rfl := cz_i h
                  exact hQ _ _ _ _ hP hS dX5_count_111
set_option maxHeartbeats 4000000 in
set_option maxRecDepth 100000 in
theorem c_X6_refuse (l : Launch) (D : va_G) (cI : ClassId) (a_o a_o_refusals a_o_s a_o_image a_o_tape a_o_read a_o_innerOf a_o_whoseOf a_o_nearOf a_o_fromOf a_o_pieceOf a_o_kept a_o_claimOf a_o_row : Nat) (v_o_isImage : Int32) (v_o_taped : Int32) (v_o_pos : Int32) (v_o_readWide : Int32) (v_o_readHigh : Int32) (v_o_thirds : Int32) (v_o_rowed : Int32) (f_o_refusals : (Nat → Int32)) (w1 : Int32) (n : Nat) (r : Int32) (r_f_o_refusals : (Nat → Int32)) (h : f_X6_refuse n f_o_refusals w1 = some (r, r_f_o_refusals)) : cz_M l yX6_refuse cX6_refuse 2 (some .int) 0 0 D cI [.ref a_o, .int w1] [oX6 a_o a_o_refusals a_o_s a_o_image v_o_isImage a_o_tape a_o_read v_o_taped v_o_pos v_o_readWide v_o_readHigh a_o_innerOf a_o_whoseOf a_o_nearOf a_o_fromOf v_o_thirds a_o_pieceOf a_o_kept a_o_claimOf a_o_row v_o_rowed, aI cI a_o_refusals 7 f_o_refusals] (some (.int r)) [oX6 a_o a_o_refusals a_o_s a_o_image v_o_isImage a_o_tape a_o_read v_o_taped v_o_pos v_o_readWide v_o_readHigh a_o_innerOf a_o_whoseOf a_o_nearOf a_o_fromOf v_o_thirds a_o_pieceOf a_o_kept a_o_claimOf a_o_row v_o_rowed, aI cI a_o_refusals 7 r_f_o_refusals] := by
  refine cz_startI (by decide) (Nat.le_of_ble_eq_true rfl) ?_
  intro p e s m ag below meth c A Q hx hb hml hown hts hK hN hQ H locs hP hD hS ls hl
  replace hown : s.vm.findClass RX6 = some m.cls := hown
  replace hl : lv_has ls 2 [(0, .ref a_o), (1, .int w1)] := hl
  unfold f_X6_refuse at h
  refine lv_aload_n hx hb dX6_refuse_0 rfl (lv_at hl 0 rfl) ?_
  refine va_get (D := D) (ci := 6) (v := .ref a_o_refusals) (C := RX6) (T := TX6) (N := 20) hx hb hts in_X6 hown hK hP 0 rfl rfl 0 (by decide) (hts _ mw_3_186) (fun _ h9 => h9) rfl dX6_refuse_1 ?_
  refine lv_iload_n hx hb dX6_refuse_4 rfl (lv_at hl 1 rfl) ?_
  refine lv_ineg hx hb dX6_refuse_5 ?_
  refine lv_dup2_11 hx hb dX6_refuse_6 rfl rfl ?_
  refine cz_iald hx hb hK hP 1 0 rfl rfl (cz_rdE h).1 dX6_refuse_7 (fun x1 ex1 => ?_)
  replace h := cz_rdK ex1 h
  refine lv_iconst (v := (1 : Int32)) hx hb dX6_refuse_8 (by decide) ?_
  refine lv_iadd hx hb dX6_refuse_9 ?_
  refine cz_iast hx hb hK hP hD hS 1 0 rfl rfl (cz_wrE h).1 dX6_refuse_10 (fun g2 H locs eg2 hP hD hS => ?_)
  replace h := cz_wrK eg2 h
  replace hP : va_P D vwCl [oX6 a_o a_o_refusals a_o_s a_o_image v_o_isImage a_o_tape a_o_read v_o_taped v_o_pos v_o_readWide v_o_readHigh a_o_innerOf a_o_whoseOf a_o_nearOf a_o_fromOf v_o_thirds a_o_pieceOf a_o_kept a_o_claimOf a_o_row v_o_rowed, aI cI a_o_refusals 7 g2] H := hP
  replace hD : va_D A [oX6 a_o a_o_refusals a_o_s a_o_image v_o_isImage a_o_tape a_o_read v_o_taped v_o_pos v_o_readWide v_o_readHigh a_o_innerOf a_o_whoseOf a_o_nearOf a_o_fromOf v_o_thirds a_o_pieceOf a_o_kept a_o_claimOf a_o_row v_o_rowed, aI cI a_o_refusals 7 g2] := hD
  refine lv_iload_n hx hb dX6_refuse_11 rfl (lv_at hl 1 rfl) ?_
  obtain ⟨rfl, rfl⟩ := cz_j2 (cz_i h)
  exact hQ _ _ _ _ hP hS dX6_refuse_12
set_option maxHeartbeats 4000000 in
set_option maxRecDepth 100000 in
theorem c_X6_isIn (l : Launch) (D : va_G) (cI : ClassId)  (w1 : Int32) (w2 : Int32) (n : Nat) (r : Int32) (h : f_X6_isIn n w1 w2 = some r) : cz_M l yX6_isIn cX6_isIn 2 (some .boolean) 0 0 D cI [.int w1, .int w2] [] (some (.int r)) [] := by
  refine cz_startZ (by decide) (Nat.le_of_ble_eq_true rfl) ?_
  intro p e s m ag below meth c A Q hx hb hml hown hts hK hN hQ H locs hP hD hS ls hl
  replace hown : s.vm.findClass RX6 = some m.cls := hown
  replace hl : lv_has ls 2 [(0, .int w1), (1, .int w2)] := hl
  unfold f_X6_isIn at h
  refine lv_iload_n hx hb dX6_isIn_0 rfl (lv_at hl 0 rfl) ?_
  refine lv_if_lt (tgt := 13) hx hb dX6_isIn_1 (by decide) (fun c1 => ?_) (fun c1 => ?_)
  · replace h := cz_t c1 h
    refine lv_iconst (v := (0 : Int32)) hx hb dX6_isIn_13 (by decide) ?_
    obtain rfl := cz_i h
    exact hQ _ _ _ _ (by decide) hP hS dX6_isIn_14
  · replace h := cz_f c1 h
    refine lv_iload_n hx hb dX6_isIn_4 rfl (lv_at hl 0 rfl) ?_
    refine lv_iload_n hx hb dX6_isIn_5 rfl (lv_at hl 1 rfl) ?_
    refine lv_icmp_ge (tgt := 13) hx hb dX6_isIn_6 (by decide) (fun c2 => ?_) (fun c2 => ?_)
    · replace h := cz_t c2 h
      refine lv_iconst (v := (0 : Int32)) hx hb dX6_isIn_13 (by decide) ?_
      obtain rfl := cz_i h
      exact hQ _ _ _ _ (by decide) hP hS dX6_isIn_14
    · replace h := cz_f c2 h
      refine lv_iconst (v := (1 : Int32)) hx hb dX6_isIn_9 (by decide) ?_
      refine lv_goto (tgt := 14) hx hb dX6_isIn_10 (by decide) ?_
      obtain rfl := cz_i h
      exact hQ _ _ _ _ (by decide) hP hS dX6_isIn_14
set_option maxHeartbeats 4000000 in
set_option maxRecDepth 100000 in
theorem c_X6_within (l : Launch) (D : va_G) (cI : ClassId)  (w1 : Int32) (w2 : Int32) (w3 : Int32) (n : Nat) (r : Int32) (h : f_X6_within n w1 w2 w3 = some r) : cz_M l yX6_within cX6_within 3 (some .int) 0 0 D cI [.int w1, .int w2, .int w3] [] (some (.int r)) [] := by
  refine cz_startI (by decide) (Nat.le_of_ble_eq_true rfl) ?_
  intro p e s m ag below meth c A Q hx hb hml hown hts hK hN hQ H locs hP hD hS ls hl
  replace hown : s.vm.findClass RX6 = some m.cls := hown
  replace hl : lv_has ls 3 [(0, .int w1), (1, .int w2), (2, .int w3)] := hl
  unfold f_X6_within at h
  refine lv_iload_n hx hb dX6_within_0 rfl (lv_at hl 0 rfl) ?_
  refine lv_iload_n hx hb dX6_within_1 rfl (lv_at hl 1 rfl) ?_
  refine lv_icmp_ge (tgt := 10) hx hb dX6_within_2 (by decide) (fun c1 => ?_) (fun c1 => ?_)
  · replace h := cz_t c1 h
    refine lv_iload_n hx hb dX6_within_10 rfl (lv_at hl 0 rfl) ?_
    refine lv_iload_n hx hb dX6_within_11 rfl (lv_at hl 2 rfl) ?_
    refine lv_icmp_le (tgt := 20) hx hb dX6_within_12 (by decide) (fun c2 => ?_) (fun c2 => ?_)
    · replace h := cz_t c2 h
      refine lv_iconst (v := (0 : Int32)) hx hb dX6_within_20 (by decide) ?_
      obtain rfl := cz_i h
      exact hQ _ _ _ _ hP hS dX6_within_21
    · replace h := cz_f c2 h
      refine lv_bipush (v := (-6 : Int32)) hx hb dX6_within_15 (by decide) ?_
      refine lv_goto (tgt := 21) hx hb dX6_within_17 (by decide) ?_
      obtain rfl := cz_i h
      exact hQ _ _ _ _ hP hS dX6_within_21
  · replace h := cz_f c1 h
    refine lv_bipush (v := (-4 : Int32)) hx hb dX6_within_5 (by decide) ?_
    refine lv_goto (tgt := 21) hx hb dX6_within_7 (by decide) ?_
    obtain rfl := cz_i h
    exact hQ _ _ _ _ hP hS dX6_within_21
set_option maxHeartbeats 4000000 in
set_option maxRecDepth 100000 in
theorem c_X6_isCell (l : Launch) (D : va_G) (cI : ClassId) (a_o a_o_s a_o_refusals a_o_image a_o_tape a_o_read a_o_innerOf a_o_whoseOf a_o_nearOf a_o_fromOf a_o_pieceOf a_o_kept a_o_claimOf a_o_row : Nat) (v_o_isImage : Int32) (v_o_taped : Int32) (v_o_pos : Int32) (v_o_readWide : Int32) (v_o_readHigh : Int32) (v_o_thirds : Int32) (v_o_rowed : Int32) (f_o_s : (Nat → Int32)) (w1 : Int32) (n : Nat) (r : Int32) (h : f_X6_isCell n f_o_s w1 = some r) : cz_M l yX6_isCell cX6_isCell 2 (some .boolean) 0 0 D cI [.ref a_o, .int w1] [oX6 a_o a_o_refusals a_o_s a_o_image v_o_isImage a_o_tape a_o_read v_o_taped v_o_pos v_o_readWide v_o_readHigh a_o_innerOf a_o_whoseOf a_o_nearOf a_o_fromOf v_o_thirds a_o_pieceOf a_o_kept a_o_claimOf a_o_row v_o_rowed, aI cI a_o_s 151 f_o_s] (some (.int r)) [oX6 a_o a_o_refusals a_o_s a_o_image v_o_isImage a_o_tape a_o_read v_o_taped v_o_pos v_o_readWide v_o_readHigh a_o_innerOf a_o_whoseOf a_o_nearOf a_o_fromOf v_o_thirds a_o_pieceOf a_o_kept a_o_claimOf a_o_row v_o_rowed, aI cI a_o_s 151 f_o_s] := by
  refine cz_startZ (by decide) (Nat.le_of_ble_eq_true rfl) ?_
  intro p e s m ag below meth c A Q hx hb hml hown hts hK hN hQ H locs hP hD hS ls hl
  replace hown : s.vm.findClass RX6 = some m.cls := hown
  replace hl : lv_has ls 2 [(0, .ref a_o), (1, .int w1)] := hl
  unfold f_X6_isCell at h
  refine lv_iload_n hx hb dX6_isCell_0 rfl (lv_at hl 1 rfl) ?_
  refine lv_if_lt (tgt := 34) hx hb dX6_isCell_1 (by decide) (fun c1 => ?_) (fun c1 => ?_)
  · replace h := cz_t c1 h
    refine lv_iconst (v := (0 : Int32)) hx hb dX6_isCell_34 (by decide) ?_
    obtain rfl := cz_i h
    exact hQ _ _ _ _ (by decide) hP hS dX6_isCell_35
  · replace h := cz_f c1 h
    refine lv_iload_n hx hb dX6_isCell_4 rfl (lv_at hl 1 rfl) ?_
    refine lv_bipush (v := (100 : Int32)) hx hb dX6_isCell_5 (by decide) ?_
    refine lv_idiv hx hb dX6_isCell_7 (by decide) ?_
    refine lv_aload_n hx hb dX6_isCell_8 rfl (lv_at hl 0 rfl) ?_
    refine va_get (D := D) (ci := 6) (v := .ref a_o_s) (C := RX6) (T := TX6) (N := 20) hx hb hts in_X6 hown hK hP 0 rfl rfl 1 (by decide) (hts _ mw_3_187) (fun _ h9 => h9) rfl dX6_isCell_9 ?_
    refine lv_iconst (v := (0 : Int32)) hx hb dX6_isCell_12 (by decide) ?_
    refine cz_iald hx hb hK hP 1 0 rfl rfl (cz_rdE h).1 dX6_isCell_13 (fun x2 ex2 => ?_)
    replace h := cz_rdK ex2 h
    refine lv_icmp_ge (tgt := 34) hx hb dX6_isCell_14 (by decide) (fun c3 => ?_) (fun c3 => ?_)
    · replace h := cz_t c3 h
      refine lv_iconst (v := (0 : Int32)) hx hb dX6_isCell_34 (by decide) ?_
      obtain rfl := cz_i h
      exact hQ _ _ _ _ (by decide) hP hS dX6_isCell_35
    · replace h := cz_f c3 h
      refine lv_iload_n hx hb dX6_isCell_17 rfl (lv_at hl 1 rfl) ?_
      refine lv_bipush (v := (100 : Int32)) hx hb dX6_isCell_18 (by decide) ?_
      refine lv_irem hx hb dX6_isCell_20 (by decide) ?_
      refine lv_aload_n hx hb dX6_isCell_21 rfl (lv_at hl 0 rfl) ?_
      refine va_get (D := D) (ci := 6) (v := .ref a_o_s) (C := RX6) (T := TX6) (N := 20) hx hb hts in_X6 hown hK hP 0 rfl rfl 1 (by decide) (hts _ mw_3_187) (fun _ h9 => h9) rfl dX6_isCell_22 ?_
      refine lv_iconst (v := (1 : Int32)) hx hb dX6_isCell_25 (by decide) ?_
      refine cz_iald hx hb hK hP 1 0 rfl rfl (cz_rdE h).1 dX6_isCell_26 (fun x4 ex4 => ?_)
      replace h := cz_rdK ex4 h
      refine lv_icmp_ge (tgt := 34) hx hb dX6_isCell_27 (by decide) (fun c5 => ?_) (fun c5 => ?_)
      · replace h := cz_t c5 h
        refine lv_iconst (v := (0 : Int32)) hx hb dX6_isCell_34 (by decide) ?_
        obtain rfl := cz_i h
        exact hQ _ _ _ _ (by decide) hP hS dX6_isCell_35
      · replace h := cz_f c5 h
        refine lv_iconst (v := (1 : Int32)) hx hb dX6_isCell_30 (by decide) ?_
        refine lv_goto (tgt := 35) hx hb dX6_isCell_31 (by decide) ?_
        obtain rfl := cz_i h
        exact hQ _ _ _ _ (by decide) hP hS dX6_isCell_35
set_option maxHeartbeats 4000000 in
set_option maxRecDepth 100000 in
theorem c_X6_many (l : Launch) (D : va_G) (cI : ClassId) (a_o a_o_s a_o_refusals a_o_image a_o_tape a_o_read a_o_innerOf a_o_whoseOf a_o_nearOf a_o_fromOf a_o_pieceOf a_o_kept a_o_claimOf a_o_row : Nat) (v_o_isImage : Int32) (v_o_taped : Int32) (v_o_pos : Int32) (v_o_readWide : Int32) (v_o_readHigh : Int32) (v_o_thirds : Int32) (v_o_rowed : Int32) (f_o_s : (Nat → Int32)) (n : Nat) (r : Int32) (h : f_X6_many n f_o_s = some r) : cz_M l yX6_many cX6_many 1 (some .int) 0 0 D cI [.ref a_o] [oX6 a_o a_o_refusals a_o_s a_o_image v_o_isImage a_o_tape a_o_read v_o_taped v_o_pos v_o_readWide v_o_readHigh a_o_innerOf a_o_whoseOf a_o_nearOf a_o_fromOf v_o_thirds a_o_pieceOf a_o_kept a_o_claimOf a_o_row v_o_rowed, aI cI a_o_s 151 f_o_s] (some (.int r)) [oX6 a_o a_o_refusals a_o_s a_o_image v_o_isImage a_o_tape a_o_read v_o_taped v_o_pos v_o_readWide v_o_readHigh a_o_innerOf a_o_whoseOf a_o_nearOf a_o_fromOf v_o_thirds a_o_pieceOf a_o_kept a_o_claimOf a_o_row v_o_rowed, aI cI a_o_s 151 f_o_s] := by
  refine cz_startI (by decide) (Nat.le_of_ble_eq_true rfl) ?_
  intro p e s m ag below meth c A Q hx hb hml hown hts hK hN hQ H locs hP hD hS ls hl
  replace hown : s.vm.findClass RX6 = some m.cls := hown
  replace hl : lv_has ls 1 [(0, .ref a_o)] := hl
  unfold f_X6_many at h
  refine lv_aload_n hx hb dX6_many_0 rfl (lv_at hl 0 rfl) ?_
  refine va_get (D := D) (ci := 6) (v := .ref a_o_s) (C := RX6) (T := TX6) (N := 20) hx hb hts in_X6 hown hK hP 0 rfl rfl 1 (by decide) (hts _ mw_3_187) (fun _ h9 => h9) rfl dX6_many_1 ?_
  refine lv_iconst (v := (0 : Int32)) hx hb dX6_many_4 (by decide) ?_
  refine cz_iald hx hb hK hP 1 0 rfl rfl (cz_rdE h).1 dX6_many_5 (fun x1 ex1 => ?_)
  replace h := cz_rdK ex1 h
  refine lv_aload_n hx hb dX6_many_6 rfl (lv_at hl 0 rfl) ?_
  refine va_get (D := D) (ci := 6) (v := .ref a_o_s) (C := RX6) (T := TX6) (N := 20) hx hb hts in_X6 hown hK hP 0 rfl rfl 1 (by decide) (hts _ mw_3_187) (fun _ h9 => h9) rfl dX6_many_7 ?_
  refine lv_iconst (v := (1 : Int32)) hx hb dX6_many_10 (by decide) ?_
  refine cz_iald hx hb hK hP 1 0 rfl rfl (cz_rdE h).1 dX6_many_11 (fun x2 ex2 => ?_)
  replace h := cz_rdK ex2 h
  refine lv_imul hx hb dX6_many_12 ?_
  obtain rfl := cz_i h
  exact hQ _ _ _ _ hP hS dX6_many_13
