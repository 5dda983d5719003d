set_option maxHeartbeats 4000000 in
set_option maxRecDepth 100000 in
theorem c_X6_spreads_R (l : Launch) (D : va_G) (cI : ClassId) (a_o a_o_s a_o_whoseOf a_o_pieceOf a_o_refusals a_o_image a_o_tape a_o_read a_o_innerOf a_o_nearOf a_o_fromOf a_o_kept a_o_claimOf a_o_row : Nat) (n : Nat) : ∀ (d : Nat) (v_o_isImage : Int32) (v_o_taped : Int32) (v_o_pos : Int32) (v_o_readWide : Int32) (v_o_readHigh : Int32) (v_o_thirds : Int32) (v_o_rowed : Int32) (f_o_s : (Nat → Int32)) (f_o_whoseOf : (Nat → Int32)) (f_o_pieceOf : (Nat → Int32)) (w1 : Int32) (w2 : Int32) (w3 : Int32) (r_f_o_pieceOf : (Nat → Int32)) (h : f_X6_spreads_R n d f_o_s f_o_whoseOf f_o_pieceOf w1 w2 w3 = some r_f_o_pieceOf), cz_M l yX6_spreads cX6_spreads 6 none (d + 1) (25 * d + 25) D cI [.ref a_o, .int w1, .int w2, .int w3] [oX6 a_o a_o_refusals a_o_s a_o_image v_o_isImage a_o_tape a_o_read v_o_taped v_o_pos v_o_readWide v_o_readHigh a_o_innerOf a_o_whoseOf a_o_nearOf a_o_fromOf v_o_thirds a_o_pieceOf a_o_kept a_o_claimOf a_o_row v_o_rowed, aI cI a_o_s 151 f_o_s, aI cI a_o_whoseOf 120 f_o_whoseOf, aI cI a_o_pieceOf 120 f_o_pieceOf] none [oX6 a_o a_o_refusals a_o_s a_o_image v_o_isImage a_o_tape a_o_read v_o_taped v_o_pos v_o_readWide v_o_readHigh a_o_innerOf a_o_whoseOf a_o_nearOf a_o_fromOf v_o_thirds a_o_pieceOf a_o_kept a_o_claimOf a_o_row v_o_rowed, aI cI a_o_s 151 f_o_s, aI cI a_o_whoseOf 120 f_o_whoseOf, aI cI a_o_pieceOf 120 r_f_o_pieceOf] := by
  intro d
  induction d with
  | zero =>
    intro v_o_isImage v_o_taped v_o_pos v_o_readWide v_o_readHigh v_o_thirds v_o_rowed f_o_s f_o_whoseOf f_o_pieceOf w1 w2 w3 r_f_o_pieceOf h
    rw [f_X6_spreads_R] at h
    cases h
  | succ d ihM =>
    intro v_o_isImage v_o_taped v_o_pos v_o_readWide v_o_readHigh v_o_thirds v_o_rowed f_o_s f_o_whoseOf f_o_pieceOf w1 w2 w3 r_f_o_pieceOf h
    refine cz_startV (by decide) (Nat.le_of_ble_eq_true rfl) ?_
    intro p e s m ag below meth c A Q hx hb hml hown hts hK hN hQ H locs hP hD hS ls hl
    replace hown : s.vm.findClass RX6 = some m.cls := hown
    replace hl : lv_has ls 6 [(0, .ref a_o), (1, .int w1), (2, .int w2), (3, .int w3)] := hl
    rw [f_X6_spreads_R] at h
    refine lv_aload_n hx hb dX6_spreads_0 rfl (lv_at hl 0 rfl) ?_
    refine lv_iload_n hx hb dX6_spreads_1 rfl (lv_at hl 1 rfl) ?_
    refine lv_iload_n hx hb dX6_spreads_2 rfl (lv_at hl 2 rfl) ?_
    obtain ⟨x1, hc2, h⟩ := cz_e1 h
    refine cz_callV (As := [.int w1, .int w2]) (rest := []) (is := [0, 1, 2]) (isR := [3]) (rs := [aI cI a_o_pieceOf 120 f_o_pieceOf]) (as := [a_o, a_o_s, a_o_whoseOf, a_o_pieceOf]) (ws1 := [oX6 a_o a_o_refusals a_o_s a_o_image v_o_isImage a_o_tape a_o_read v_o_taped v_o_pos v_o_readWide v_o_readHigh a_o_innerOf a_o_whoseOf a_o_nearOf a_o_fromOf v_o_thirds a_o_pieceOf a_o_kept a_o_claimOf a_o_row v_o_rowed, aI cI a_o_s 151 f_o_s, aI cI a_o_whoseOf 120 f_o_whoseOf, aI cI a_o_pieceOf 120 f_o_pieceOf]) (q0 := 0) (ci := 6) ⟨hx, hb, hml, hown, hts⟩ (c_X6_isEven l D cI a_o a_o_s a_o_whoseOf a_o_refusals a_o_image a_o_tape a_o_read a_o_innerOf a_o_nearOf a_o_fromOf a_o_pieceOf a_o_kept a_o_claimOf a_o_row v_o_isImage v_o_taped v_o_pos v_o_readWide v_o_readHigh v_o_thirds v_o_rowed f_o_s f_o_whoseOf w1 w2 n x1 hc2) mw_4_157 mw_4_159 mw_p_29 mw_1_8 mw_4_160 hd_X6_isEven ⟨by show 0 + 1 ≤ d + 1 + 1; omega, by show 8 + (3 + 11) + 0 ≤ 25 * (d + 1) + 25; omega⟩ hK hN hP hD hS rfl rfl rfl rfl rfl rfl rfl rfl rfl rfl rfl rfl hl.1 rfl (Nat.le_of_ble_eq_true rfl) dX6_spreads_3 ⟨Nat.le_of_ble_eq_true rfl, Nat.le_of_ble_eq_true rfl⟩ (fun H locs hP hD hS => ?_)
    refine W.eq (g2 := F0 m 6 ls [.int x1]) rfl ?_
    refine lv_if_eq (tgt := 27) hx hb dX6_spreads_6 (by decide) (fun c3 => ?_) (fun c3 => ?_)
    · replace h := cz_t c3 h
      obtain rfl := cz_i h
      exact hQ _ _ _ _ hP hS dX6_spreads_27
    · replace h := cz_f c3 h
      refine lv_aload_n hx hb dX6_spreads_9 rfl (lv_at hl 0 rfl) ?_
      refine va_get (D := D) (ci := 6) (v := .ref a_o_pieceOf) (C := RX6) (T := TX6) (N := 20) hx hb hts in_X6 hown hK hP 0 rfl rfl 15 (by decide) (hts _ mw_3_201) (fun _ h9 => h9) rfl dX6_spreads_10 ?_
      refine lv_iload_n hx hb dX6_spreads_13 rfl (lv_at hl 2 rfl) ?_
      refine lv_aload_n hx hb dX6_spreads_14 rfl (lv_at hl 0 rfl) ?_
      refine va_get (D := D) (ci := 6) (v := .ref a_o_s) (C := RX6) (T := TX6) (N := 20) hx hb hts in_X6 hown hK hP 0 rfl rfl 1 (by decide) (hts _ mw_3_187) (fun _ h9 => h9) rfl dX6_spreads_15 ?_
      refine lv_iconst (v := (0 : Int32)) hx hb dX6_spreads_18 (by decide) ?_
      refine cz_iald hx hb hK hP 1 0 rfl rfl (cz_rdE h).1 dX6_spreads_19 (fun x4 ex4 => ?_)
      replace h := cz_rdK ex4 h
      refine lv_imul hx hb dX6_spreads_20 ?_
      refine lv_iload_n hx hb dX6_spreads_21 rfl (lv_at hl 1 rfl) ?_
      refine lv_iadd hx hb dX6_spreads_22 ?_
      refine cz_iald hx hb hK hP 3 0 rfl rfl (cz_rdE h).1 dX6_spreads_23 (fun x5 ex5 => ?_)
      replace h := cz_rdK ex5 h
      refine lv_if_eq (tgt := 28) hx hb dX6_spreads_24 (by decide) (fun c6 => ?_) (fun c6 => ?_)
      · replace h := cz_t c6 h
        refine lv_aload_n hx hb dX6_spreads_28 rfl (lv_at hl 0 rfl) ?_
        refine va_get (D := D) (ci := 6) (v := .ref a_o_pieceOf) (C := RX6) (T := TX6) (N := 20) hx hb hts in_X6 hown hK hP 0 rfl rfl 15 (by decide) (hts _ mw_3_201) (fun _ h9 => h9) rfl dX6_spreads_29 ?_
        refine lv_iload_n hx hb dX6_spreads_32 rfl (lv_at hl 2 rfl) ?_
        refine lv_aload_n hx hb dX6_spreads_33 rfl (lv_at hl 0 rfl) ?_
        refine va_get (D := D) (ci := 6) (v := .ref a_o_s) (C := RX6) (T := TX6) (N := 20) hx hb hts in_X6 hown hK hP 0 rfl rfl 1 (by decide) (hts _ mw_3_187) (fun _ h9 => h9) rfl dX6_spreads_34 ?_
        refine lv_iconst (v := (0 : Int32)) hx hb dX6_spreads_37 (by decide) ?_
        refine cz_iald hx hb hK hP 1 0 rfl rfl (cz_rdE h).1 dX6_spreads_38 (fun x7 ex7 => ?_)
        replace h := cz_rdK ex7 h
        refine lv_imul hx hb dX6_spreads_39 ?_
        refine lv_iload_n hx hb dX6_spreads_40 rfl (lv_at hl 1 rfl) ?_
        refine lv_iadd hx hb dX6_spreads_41 ?_
        refine lv_iload_n hx hb dX6_spreads_42 rfl (lv_at hl 3 rfl) ?_
        refine cz_iast hx hb hK hP hD hS 3 0 rfl rfl (cz_wrE h).1 dX6_spreads_43 (fun g8 H locs eg8 hP hD hS => ?_)
        replace h := cz_wrK eg8 h
        replace hP : va_P D vwCl [oX6 a_o a_o_refusals a_o_s a_o_image v_o_isImage a_o_tape a_o_read v_o_taped v_o_pos v_o_readWide v_o_readHigh a_o_innerOf a_o_whoseOf a_o_nearOf a_o_fromOf v_o_thirds a_o_pieceOf a_o_kept a_o_claimOf a_o_row v_o_rowed, aI cI a_o_s 151 f_o_s, aI cI a_o_whoseOf 120 f_o_whoseOf, aI cI a_o_pieceOf 120 g8] H := hP
        replace hD : va_D A [oX6 a_o a_o_refusals a_o_s a_o_image v_o_isImage a_o_tape a_o_read v_o_taped v_o_pos v_o_readWide v_o_readHigh a_o_innerOf a_o_whoseOf a_o_nearOf a_o_fromOf v_o_thirds a_o_pieceOf a_o_kept a_o_claimOf a_o_row v_o_rowed, aI cI a_o_s 151 f_o_s, aI cI a_o_whoseOf 120 f_o_whoseOf, aI cI a_o_pieceOf 120 g8] := hD
        refine lv_iconst (v := (-1 : Int32)) hx hb dX6_spreads_44 (by decide) ?_
        refine lv_istore (lv' := [(4, .int (-1 : Int32)), (0, .ref a_o), (1, .int w1), (2, .int w2), (3, .int w3)]) hx hb dX6_spreads_45 hl (by decide) rfl (fun ls hl => ?_)
        obtain ⟨z11, hE12, hz13⟩ := cz_x2 h
        have hX14 : ∀ (y17 : Int32) (q18 : (Nat → Int32)) (H : Heap) (locs : List Loc) (ls : Array Slot), z11 = (y17, q18) → va_P D vwCl [oX6 a_o a_o_refusals a_o_s a_o_image v_o_isImage a_o_tape a_o_read v_o_taped v_o_pos v_o_readWide v_o_readHigh a_o_innerOf a_o_whoseOf a_o_nearOf a_o_fromOf v_o_thirds a_o_pieceOf a_o_kept a_o_claimOf a_o_row v_o_rowed, aI cI a_o_s 151 f_o_s, aI cI a_o_whoseOf 120 f_o_whoseOf, aI cI a_o_pieceOf 120 q18] H → va_D A [oX6 a_o a_o_refusals a_o_s a_o_image v_o_isImage a_o_tape a_o_read v_o_taped v_o_pos v_o_readWide v_o_readHigh a_o_innerOf a_o_whoseOf a_o_nearOf a_o_fromOf v_o_thirds a_o_pieceOf a_o_kept a_o_claimOf a_o_row v_o_rowed, aI cI a_o_s 151 f_o_s, aI cI a_o_whoseOf 120 f_o_whoseOf, aI cI a_o_pieceOf 120 q18] → va_S A s.heap H locs → lv_has ls 6 [] → W p l e (cz_rm (d + 1 + 1) (25 * (d + 1) + 25)) s m ag below meth c H locs 0 0 Q (F0 m 87 ls []) := by
          intro y17 q18 H locs ls h hP hD hS hl
          replace h := hz13 _ _ h
          obtain rfl := cz_i h
          exact hQ _ _ _ _ hP hS dX6_spreads_87
        clear h
        have hL15 : ∀ (k : Nat) (x9 : Int32) (g10 : (Nat → Int32)) (H : Heap) (locs : List Loc) (ls : Array Slot), f_X6_spreads_L47 n (f_X6_spreads_R n d) f_o_s f_o_whoseOf w1 w2 w3 k x9 g10 = some z11 → va_P D vwCl [oX6 a_o a_o_refusals a_o_s a_o_image v_o_isImage a_o_tape a_o_read v_o_taped v_o_pos v_o_readWide v_o_readHigh a_o_innerOf a_o_whoseOf a_o_nearOf a_o_fromOf v_o_thirds a_o_pieceOf a_o_kept a_o_claimOf a_o_row v_o_rowed, aI cI a_o_s 151 f_o_s, aI cI a_o_whoseOf 120 f_o_whoseOf, aI cI a_o_pieceOf 120 g10] H → va_D A [oX6 a_o a_o_refusals a_o_s a_o_image v_o_isImage a_o_tape a_o_read v_o_taped v_o_pos v_o_readWide v_o_readHigh a_o_innerOf a_o_whoseOf a_o_nearOf a_o_fromOf v_o_thirds a_o_pieceOf a_o_kept a_o_claimOf a_o_row v_o_rowed, aI cI a_o_s 151 f_o_s, aI cI a_o_whoseOf 120 f_o_whoseOf, aI cI a_o_pieceOf 120 g10] → va_S A s.heap H locs → lv_has ls 6 [(0, .ref a_o), (1, .int w1), (2, .int w2), (3, .int w3), (4, .int x9)] → W p l e (cz_rm (d + 1 + 1) (25 * (d + 1) + 25)) s m ag below meth c H locs 0 0 Q (F0 m 47 ls []) := by
          intro k
          induction k with
          | zero =>
            intro x9 g10 H locs ls h
            rw [f_X6_spreads_L47] at h
            cases h
          | succ k ih19 =>
            intro x9 g10 H locs ls h hP hD hS hl
            rw [f_X6_spreads_L47] at h
            refine lv_iload hx hb dX6_spreads_47 (lv_at hl 4 rfl) ?_
            refine lv_iconst (v := (2 : Int32)) hx hb dX6_spreads_49 (by decide) ?_
            refine lv_icmp_ge (tgt := 87) hx hb dX6_spreads_50 (by decide) (fun c20 => ?_) (fun c20 => ?_)
            · replace h := cz_t c20 h
              exact hX14 _ _ _ _ _ (cz_i h).symm hP hD hS (lv_sub hl [] rfl)
            · replace h := cz_f c20 h
              refine lv_iconst (v := (-1 : Int32)) hx hb dX6_spreads_53 (by decide) ?_
              refine lv_istore (lv' := [(5, .int (-1 : Int32)), (0, .ref a_o), (1, .int w1), (2, .int w2), (3, .int w3), (4, .int x9)]) hx hb dX6_spreads_54 hl (by decide) rfl (fun ls hl => ?_)
              obtain ⟨z23, hE24, hz25⟩ := cz_x2 h
              have hX26 : ∀ (y29 : Int32) (q30 : (Nat → Int32)) (H : Heap) (locs : List Loc) (ls : Array Slot), z23 = (y29, q30) → va_P D vwCl [oX6 a_o a_o_refusals a_o_s a_o_image v_o_isImage a_o_tape a_o_read v_o_taped v_o_pos v_o_readWide v_o_readHigh a_o_innerOf a_o_whoseOf a_o_nearOf a_o_fromOf v_o_thirds a_o_pieceOf a_o_kept a_o_claimOf a_o_row v_o_rowed, aI cI a_o_s 151 f_o_s, aI cI a_o_whoseOf 120 f_o_whoseOf, aI cI a_o_pieceOf 120 q30] H → va_D A [oX6 a_o a_o_refusals a_o_s a_o_image v_o_isImage a_o_tape a_o_read v_o_taped v_o_pos v_o_readWide v_o_readHigh a_o_innerOf a_o_whoseOf a_o_nearOf a_o_fromOf v_o_thirds a_o_pieceOf a_o_kept a_o_claimOf a_o_row v_o_rowed, aI cI a_o_s 151 f_o_s, aI cI a_o_whoseOf 120 f_o_whoseOf, aI cI a_o_pieceOf 120 q30] → va_S A s.heap H locs → lv_has ls 6 [(0, .ref a_o), (1, .int w1), (2, .int w2), (3, .int w3), (4, .int x9)] → W p l e (cz_rm (d + 1 + 1) (25 * (d + 1) + 25)) s m ag below meth c H locs 0 0 Q (F0 m 81 ls []) := by
                intro y29 q30 H locs ls h hP hD hS hl
                replace h := hz25 _ _ h
                obtain ⟨x31, ex31⟩ : ∃ z : Int32, z = x9 + (1 : Int32) := ⟨_, rfl⟩
                replace h := cz_ltE ex31 h
                refine lv_iinc (v := x31) (lv' := [(4, .int x31), (0, .ref a_o), (1, .int w1), (2, .int w2), (3, .int w3)]) hx hb dX6_spreads_81 hl (k := 4) rfl (by rw [ex31]; rfl) (by decide) rfl (fun ls hl => ?_)
                refine lv_goto (tgt := 47) hx hb dX6_spreads_84 (by decide) ?_
                exact ih19 _ _ _ _ _ h hP hD hS (lv_sub hl [1, 2, 3, 4, 0] rfl)
              clear h
              have hL27 : ∀ (k : Nat) (x21 : Int32) (g22 : (Nat → Int32)) (H : Heap) (locs : List Loc) (ls : Array Slot), f_X6_spreads_L56 n (f_X6_spreads_R n d) f_o_s f_o_whoseOf w1 w2 w3 x9 k x21 g22 = some z23 → va_P D vwCl [oX6 a_o a_o_refusals a_o_s a_o_image v_o_isImage a_o_tape a_o_read v_o_taped v_o_pos v_o_readWide v_o_readHigh a_o_innerOf a_o_whoseOf a_o_nearOf a_o_fromOf v_o_thirds a_o_pieceOf a_o_kept a_o_claimOf a_o_row v_o_rowed, aI cI a_o_s 151 f_o_s, aI cI a_o_whoseOf 120 f_o_whoseOf, aI cI a_o_pieceOf 120 g22] H → va_D A [oX6 a_o a_o_refusals a_o_s a_o_image v_o_isImage a_o_tape a_o_read v_o_taped v_o_pos v_o_readWide v_o_readHigh a_o_innerOf a_o_whoseOf a_o_nearOf a_o_fromOf v_o_thirds a_o_pieceOf a_o_kept a_o_claimOf a_o_row v_o_rowed, aI cI a_o_s 151 f_o_s, aI cI a_o_whoseOf 120 f_o_whoseOf, aI cI a_o_pieceOf 120 g22] → va_S A s.heap H locs → lv_has ls 6 [(0, .ref a_o), (1, .int w1), (2, .int w2), (3, .int w3), (4, .int x9), (5, .int x21)] → W p l e (cz_rm (d + 1 + 1) (25 * (d + 1) + 25)) s m ag below meth c H locs 0 0 Q (F0 m 56 ls []) := by
                intro k
                induction k with
                | zero =>
                  intro x21 g22 H locs ls h
                  rw [f_X6_spreads_L56] at h
                  cases h
                | succ k ih32 =>
                  intro x21 g22 H locs ls h hP hD hS hl
                  rw [f_X6_spreads_L56] at h
                  refine lv_iload hx hb dX6_spreads_56 (lv_at hl 5 rfl) ?_
                  refine lv_iconst (v := (2 : Int32)) hx hb dX6_spreads_58 (by decide) ?_
                  refine lv_icmp_ge (tgt := 81) hx hb dX6_spreads_59 (by decide) (fun c33 => ?_) (fun c33 => ?_)
                  · replace h := cz_t c33 h
                    exact hX26 _ _ _ _ _ (cz_i h).symm hP hD hS (lv_sub hl [0, 1, 2, 3, 4] rfl)
                  · replace h := cz_f c33 h
                    refine lv_aload_n hx hb dX6_spreads_62 rfl (lv_at hl 0 rfl) ?_
                    refine lv_iload_n hx hb dX6_spreads_63 rfl (lv_at hl 1 rfl) ?_
                    refine lv_iload hx hb dX6_spreads_64 (lv_at hl 4 rfl) ?_
                    refine lv_iadd hx hb dX6_spreads_66 ?_
                    refine lv_iload_n hx hb dX6_spreads_67 rfl (lv_at hl 2 rfl) ?_
                    refine lv_iload hx hb dX6_spreads_68 (lv_at hl 5 rfl) ?_
                    refine lv_iadd hx hb dX6_spreads_70 ?_
                    refine lv_iload_n hx hb dX6_spreads_71 rfl (lv_at hl 3 rfl) ?_
                    obtain ⟨g34, hc35, h⟩ := cz_e1 h
                    refine cz_callV (As := [.int (w1 + x9), .int (w2 + x21), .int w3]) (rest := []) (is := [0, 1, 2, 3]) (isR := []) (rs := []) (as := [a_o, a_o_s, a_o_whoseOf, a_o_pieceOf]) (ws1 := [oX6 a_o a_o_refusals a_o_s a_o_image v_o_isImage a_o_tape a_o_read v_o_taped v_o_pos v_o_readWide v_o_readHigh a_o_innerOf a_o_whoseOf a_o_nearOf a_o_fromOf v_o_thirds a_o_pieceOf a_o_kept a_o_claimOf a_o_row v_o_rowed, aI cI a_o_s 151 f_o_s, aI cI a_o_whoseOf 120 f_o_whoseOf, aI cI a_o_pieceOf 120 g34]) (q0 := 0) (ci := 6) ⟨hx, hb, hml, hown, hts⟩ (ihM  v_o_isImage v_o_taped v_o_pos v_o_readWide v_o_readHigh v_o_thirds v_o_rowed f_o_s f_o_whoseOf g22 (w1 + x9) (w2 + x21) w3  g34 hc35) mw_4_153 mw_4_155 mw_p_28 mw_1_8 mw_4_156 hd_X6_spreads ⟨by show d + 1 + 1 ≤ d + 1 + 1; omega, by show 8 + (6 + 11) + (25 * d + 25) ≤ 25 * (d + 1) + 25; omega⟩ hK hN hP hD hS rfl rfl rfl rfl rfl rfl rfl rfl rfl rfl rfl rfl hl.1 rfl (Nat.le_of_ble_eq_true rfl) dX6_spreads_72 ⟨Nat.le_of_ble_eq_true rfl, Nat.le_of_ble_eq_true rfl⟩ (fun H locs hP hD hS => ?_)
                    refine W.eq (g2 := F0 m 75 ls []) rfl ?_
                    obtain ⟨x36, ex36⟩ : ∃ z : Int32, z = x21 + (1 : Int32) := ⟨_, rfl⟩
                    replace h := cz_ltE ex36 h
                    refine lv_iinc (v := x36) (lv' := [(5, .int x36), (0, .ref a_o), (1, .int w1), (2, .int w2), (3, .int w3), (4, .int x9)]) hx hb dX6_spreads_75 hl (k := 5) rfl (by rw [ex36]; rfl) (by decide) rfl (fun ls hl => ?_)
                    refine lv_goto (tgt := 56) hx hb dX6_spreads_78 (by decide) ?_
                    exact ih32 _ _ _ _ _ h hP hD hS (lv_sub hl [1, 2, 3, 4, 5, 0] rfl)
              exact hL27 n _ _ _ _ _ hE24 hP hD hS (lv_sub hl [1, 2, 3, 4, 5, 0] rfl)
        exact hL15 n _ _ _ _ _ hE12 hP hD hS (lv_sub hl [1, 2, 3, 4, 0] rfl)
      · replace h := cz_f c6 h
        obtain rfl := cz_i h
        exact hQ _ _ _ _ hP hS dX6_spreads_27
theorem c_X6_spreads (l : Launch) (D : va_G) (cI : ClassId) (a_o a_o_s a_o_whoseOf a_o_pieceOf a_o_refusals a_o_image a_o_tape a_o_read a_o_innerOf a_o_nearOf a_o_fromOf a_o_kept a_o_claimOf a_o_row : Nat) (v_o_isImage : Int32) (v_o_taped : Int32) (v_o_pos : Int32) (v_o_readWide : Int32) (v_o_readHigh : Int32) (v_o_thirds : Int32) (v_o_rowed : Int32) (f_o_s : (Nat → Int32)) (f_o_whoseOf : (Nat → Int32)) (f_o_pieceOf : (Nat → Int32)) (w1 : Int32) (w2 : Int32) (w3 : Int32) (n : Nat) (r_f_o_pieceOf : (Nat → Int32)) (h : f_X6_spreads n f_o_s f_o_whoseOf f_o_pieceOf w1 w2 w3 = some r_f_o_pieceOf) : cz_M l yX6_spreads cX6_spreads 6 none 131 3275 D cI [.ref a_o, .int w1, .int w2, .int w3] [oX6 a_o a_o_refusals a_o_s a_o_image v_o_isImage a_o_tape a_o_read v_o_taped v_o_pos v_o_readWide v_o_readHigh a_o_innerOf a_o_whoseOf a_o_nearOf a_o_fromOf v_o_thirds a_o_pieceOf a_o_kept a_o_claimOf a_o_row v_o_rowed, aI cI a_o_s 151 f_o_s, aI cI a_o_whoseOf 120 f_o_whoseOf, aI cI a_o_pieceOf 120 f_o_pieceOf] none [oX6 a_o a_o_refusals a_o_s a_o_image v_o_isImage a_o_tape a_o_read v_o_taped v_o_pos v_o_readWide v_o_readHigh a_o_innerOf a_o_whoseOf a_o_nearOf a_o_fromOf v_o_thirds a_o_pieceOf a_o_kept a_o_claimOf a_o_row v_o_rowed, aI cI a_o_s 151 f_o_s, aI cI a_o_whoseOf 120 f_o_whoseOf, aI cI a_o_pieceOf 120 r_f_o_pieceOf] := c_X6_spreads_R l D cI a_o a_o_s a_o_whoseOf a_o_pieceOf a_o_refusals a_o_image a_o_tape a_o_read a_o_innerOf a_o_nearOf a_o_fromOf a_o_kept a_o_claimOf a_o_row n 130 v_o_isImage v_o_taped v_o_pos v_o_readWide v_o_readHigh v_o_thirds v_o_rowed f_o_s f_o_whoseOf f_o_pieceOf w1 w2 w3 r_f_o_pieceOf h
set_option maxHeartbeats 4000000 in
set_option maxRecDepth 100000 in
theorem c_X6_pieces (l : Launch) (D : va_G) (cI : ClassId) (a_o a_o_s a_o_innerOf a_o_whoseOf a_o_nearOf a_o_fromOf a_o_pieceOf a_o_refusals a_o_image a_o_tape a_o_read a_o_kept a_o_claimOf a_o_row : Nat) (v_o_isImage : Int32) (v_o_taped : Int32) (v_o_pos : Int32) (v_o_readWide : Int32) (v_o_readHigh : Int32) (v_o_thirds : Int32) (v_o_rowed : Int32) (f_o_s : (Nat → Int32)) (f_o_innerOf : (Nat → Int32)) (f_o_whoseOf : (Nat → Int32)) (f_o_nearOf : (Nat → Int32)) (f_o_fromOf : (Nat → Int32)) (f_o_pieceOf : (Nat → Int32)) (n : Nat) (r : Int32) (r_v_o_thirds : Int32) (r_f_o_innerOf : (Nat → Int32)) (r_f_o_whoseOf : (Nat → Int32)) (r_f_o_nearOf : (Nat → Int32)) (r_f_o_fromOf : (Nat → Int32)) (r_f_o_pieceOf : (Nat → Int32)) (h : f_X6_pieces n v_o_thirds f_o_s f_o_innerOf f_o_whoseOf f_o_nearOf f_o_fromOf f_o_pieceOf = some (r, r_v_o_thirds, r_f_o_innerOf, r_f_o_whoseOf, r_f_o_nearOf, r_f_o_fromOf, r_f_o_pieceOf)) : cz_M l yX6_pieces cX6_pieces 3 (some .int) 132 3300 D cI [.ref a_o] [oX6 a_o a_o_refusals a_o_s a_o_image v_o_isImage a_o_tape a_o_read v_o_taped v_o_pos v_o_readWide v_o_readHigh a_o_innerOf a_o_whoseOf a_o_nearOf a_o_fromOf v_o_thirds a_o_pieceOf a_o_kept a_o_claimOf a_o_row v_o_rowed, aI cI a_o_s 151 f_o_s, aI cI a_o_innerOf 120 f_o_innerOf, aI cI a_o_whoseOf 120 f_o_whoseOf, aI cI a_o_nearOf 360 f_o_nearOf, aI cI a_o_fromOf 360 f_o_fromOf, aI cI a_o_pieceOf 120 f_o_pieceOf] (some (.int r)) [oX6 a_o a_o_refusals a_o_s a_o_image v_o_isImage a_o_tape a_o_read v_o_taped v_o_pos v_o_readWide v_o_readHigh a_o_innerOf a_o_whoseOf a_o_nearOf a_o_fromOf r_v_o_thirds a_o_pieceOf a_o_kept a_o_claimOf a_o_row v_o_rowed, aI cI a_o_s 151 f_o_s, aI cI a_o_innerOf 120 r_f_o_innerOf, aI cI a_o_whoseOf 120 r_f_o_whoseOf, aI cI a_o_nearOf 360 r_f_o_nearOf, aI cI a_o_fromOf 360 r_f_o_fromOf, aI cI a_o_pieceOf 120 r_f_o_pieceOf] := by
  refine cz_startI (by decide) (Nat.le_of_ble_eq_true rfl) ?_
  intro p e s m ag below meth c A Q hx hb hml hown hts hK hN hQ H locs hP hD hS ls hl
  replace hown : s.vm.findClass RX6 = some m.cls := hown
  replace hl : lv_has ls 3 [(0, .ref a_o)] := hl
  unfold f_X6_pieces at h
  refine lv_aload_n hx hb dX6_pieces_0 rfl (lv_at hl 0 rfl) ?_
  obtain ⟨x1, g2, g3, g4, g5, hc6, h⟩ := cz_e5 h
  refine cz_callV (As := []) (rest := []) (is := [0, 1, 2, 3, 4, 5]) (isR := [6]) (rs := [aI cI a_o_pieceOf 120 f_o_pieceOf]) (as := [a_o, a_o_s, a_o_innerOf, a_o_whoseOf, a_o_nearOf, a_o_fromOf, a_o_pieceOf]) (ws1 := [oX6 a_o a_o_refusals a_o_s a_o_image v_o_isImage a_o_tape a_o_read v_o_taped v_o_pos v_o_readWide v_o_readHigh a_o_innerOf a_o_whoseOf a_o_nearOf a_o_fromOf x1 a_o_pieceOf a_o_kept a_o_claimOf a_o_row v_o_rowed, aI cI a_o_s 151 f_o_s, aI cI a_o_innerOf 120 g2, aI cI a_o_whoseOf 120 g3, aI cI a_o_nearOf 360 g4, aI cI a_o_fromOf 360 g5, aI cI a_o_pieceOf 120 f_o_pieceOf]) (q0 := 0) (ci := 6) ⟨hx, hb, hml, hown, hts⟩ (c_X6_find l D cI a_o a_o_s a_o_innerOf a_o_whoseOf a_o_nearOf a_o_fromOf a_o_refusals a_o_image a_o_tape a_o_read a_o_pieceOf a_o_kept a_o_claimOf a_o_row v_o_isImage v_o_taped v_o_pos v_o_readWide v_o_readHigh v_o_thirds v_o_rowed f_o_s f_o_innerOf f_o_whoseOf f_o_nearOf f_o_fromOf  n x1 g2 g3 g4 g5 hc6) mw_4_68 mw_4_70 mw_p_16 mw_1_8 mw_4_71 hd_X6_find ⟨Nat.le_of_ble_eq_true rfl, Nat.le_of_ble_eq_true rfl⟩ hK hN hP hD hS rfl rfl rfl rfl rfl rfl rfl rfl rfl rfl rfl rfl hl.1 rfl (Nat.le_of_ble_eq_true rfl) dX6_pieces_1 ⟨Nat.le_of_ble_eq_true rfl, Nat.le_of_ble_eq_true rfl⟩ (fun H locs hP hD hS => ?_)
  refine W.eq (g2 := F0 m 4 ls []) rfl ?_
  refine lv_iconst (v := (0 : Int32)) hx hb dX6_pieces_4 (by decide) ?_
  refine lv_istore_n (lv' := [(1, .int (0 : Int32)), (0, .ref a_o)]) hx hb dX6_pieces_5 rfl hl (by decide) rfl (fun ls hl => ?_)
  obtain ⟨z9, hE10, hz11⟩ := cz_x2 h
  have hX12 : ∀ (y15 : Int32) (q16 : (Nat → Int32)) (H : Heap) (locs : List Loc) (ls : Array Slot), z9 = (y15, q16) → va_P D vwCl [oX6 a_o a_o_refusals a_o_s a_o_image v_o_isImage a_o_tape a_o_read v_o_taped v_o_pos v_o_readWide v_o_readHigh a_o_innerOf a_o_whoseOf a_o_nearOf a_o_fromOf x1 a_o_pieceOf a_o_kept a_o_claimOf a_o_row v_o_rowed, aI cI a_o_s 151 f_o_s, aI cI a_o_innerOf 120 g2, aI cI a_o_whoseOf 120 g3, aI cI a_o_nearOf 360 g4, aI cI a_o_fromOf 360 g5, aI cI a_o_pieceOf 120 q16] H → va_D A [oX6 a_o a_o_refusals a_o_s a_o_image v_o_isImage a_o_tape a_o_read v_o_taped v_o_pos v_o_readWide v_o_readHigh a_o_innerOf a_o_whoseOf a_o_nearOf a_o_fromOf x1 a_o_pieceOf a_o_kept a_o_claimOf a_o_row v_o_rowed, aI cI a_o_s 151 f_o_s, aI cI a_o_innerOf 120 g2, aI cI a_o_whoseOf 120 g3, aI cI a_o_nearOf 360 g4, aI cI a_o_fromOf 360 g5, aI cI a_o_pieceOf 120 q16] → va_S A s.heap H locs → lv_has ls 3 [(0, .ref a_o)] → W p l e (cz_rm 132 3300) s m ag below meth c H locs 0 0 Q (F0 m 27 ls []) := by
    intro y15 q16 H locs ls h hP hD hS hl
    replace h := hz11 _ _ h
    refine lv_iconst (v := (0 : Int32)) hx hb dX6_pieces_27 (by decide) ?_
    refine lv_istore_n (lv' := [(1, .int (0 : Int32)), (0, .ref a_o)]) hx hb dX6_pieces_28 rfl hl (by decide) rfl (fun ls hl => ?_)
    refine lv_iconst (v := (0 : Int32)) hx hb dX6_pieces_29 (by decide) ?_
    refine lv_istore_n (lv' := [(2, .int (0 : Int32)), (1, .int (0 : Int32)), (0, .ref a_o)]) hx hb dX6_pieces_30 rfl hl (by decide) rfl (fun ls hl => ?_)
    obtain ⟨z20, hE21, hz22⟩ := cz_x3 h
    have hX23 : ∀ (y26 : Int32) (y27 : Int32) (q28 : (Nat → Int32)) (H : Heap) (locs : List Loc) (ls : Array Slot), z20 = (y26, y27, q28) → va_P D vwCl [oX6 a_o a_o_refusals a_o_s a_o_image v_o_isImage a_o_tape a_o_read v_o_taped v_o_pos v_o_readWide v_o_readHigh a_o_innerOf a_o_whoseOf a_o_nearOf a_o_fromOf x1 a_o_pieceOf a_o_kept a_o_claimOf a_o_row v_o_rowed, aI cI a_o_s 151 f_o_s, aI cI a_o_innerOf 120 g2, aI cI a_o_whoseOf 120 g3, aI cI a_o_nearOf 360 g4, aI cI a_o_fromOf 360 g5, aI cI a_o_pieceOf 120 q28] H → va_D A [oX6 a_o a_o_refusals a_o_s a_o_image v_o_isImage a_o_tape a_o_read v_o_taped v_o_pos v_o_readWide v_o_readHigh a_o_innerOf a_o_whoseOf a_o_nearOf a_o_fromOf x1 a_o_pieceOf a_o_kept a_o_claimOf a_o_row v_o_rowed, aI cI a_o_s 151 f_o_s, aI cI a_o_innerOf 120 g2, aI cI a_o_whoseOf 120 g3, aI cI a_o_nearOf 360 g4, aI cI a_o_fromOf 360 g5, aI cI a_o_pieceOf 120 q28] → va_S A s.heap H locs → lv_has ls 3 [(1, .int y26)] → W p l e (cz_rm 132 3300) s m ag below meth c H locs 0 0 Q (F0 m 92 ls []) := by
      intro y26 y27 q28 H locs ls h hP hD hS hl
      replace h := hz22 _ _ _ h
      refine lv_iload_n hx hb dX6_pieces_92 rfl (lv_at hl 0 rfl) ?_
      obtain ⟨rfl, rfl, rfl, rfl, rfl, rfl, rfl⟩ := cz_j7 (cz_i h)
      exact hQ _ _ _ _ hP hS dX6_pieces_93
    clear h
    have hL24 : ∀ (k : Nat) (x17 : Int32) (x18 : Int32) (g19 : (Nat → Int32)) (H : Heap) (locs : List Loc) (ls : Array Slot), f_X6_pieces_L31 n f_o_s g3 k x17 x18 g19 = some z20 → va_P D vwCl [oX6 a_o a_o_refusals a_o_s a_o_image v_o_isImage a_o_tape a_o_read v_o_taped v_o_pos v_o_readWide v_o_readHigh a_o_innerOf a_o_whoseOf a_o_nearOf a_o_fromOf x1 a_o_pieceOf a_o_kept a_o_claimOf a_o_row v_o_rowed, aI cI a_o_s 151 f_o_s, aI cI a_o_innerOf 120 g2, aI cI a_o_whoseOf 120 g3, aI cI a_o_nearOf 360 g4, aI cI a_o_fromOf 360 g5, aI cI a_o_pieceOf 120 g19] H → va_D A [oX6 a_o a_o_refusals a_o_s a_o_image v_o_isImage a_o_tape a_o_read v_o_taped v_o_pos v_o_readWide v_o_readHigh a_o_innerOf a_o_whoseOf a_o_nearOf a_o_fromOf x1 a_o_pieceOf a_o_kept a_o_claimOf a_o_row v_o_rowed, aI cI a_o_s 151 f_o_s, aI cI a_o_innerOf 120 g2, aI cI a_o_whoseOf 120 g3, aI cI a_o_nearOf 360 g4, aI cI a_o_fromOf 360 g5, aI cI a_o_pieceOf 120 g19] → va_S A s.heap H locs → lv_has ls 3 [(0, .ref a_o), (1, .int x17), (2, .int x18)] → W p l e (cz_rm 132 3300) s m ag below meth c H locs 0 0 Q (F0 m 31 ls []) := by
      intro k
      induction k with
      | zero =>
        intro x17 x18 g19 H locs ls h
        rw [f_X6_pieces_L31] at h
        cases h
      | succ k ih29 =>
        intro x17 x18 g19 H locs ls h hP hD hS hl
        rw [f_X6_pieces_L31] at h
        refine lv_iload_n hx hb dX6_pieces_31 rfl (lv_at hl 2 rfl) ?_
        refine lv_aload_n hx hb dX6_pieces_32 rfl (lv_at hl 0 rfl) ?_
        obtain ⟨x30, hc31, h⟩ := cz_e1 h
        refine cz_callV (As := []) (rest := [.int x18]) (is := [0, 1]) (isR := [2, 3, 4, 5, 6]) (rs := [aI cI a_o_innerOf 120 g2, aI cI a_o_whoseOf 120 g3, aI cI a_o_nearOf 360 g4, aI cI a_o_fromOf 360 g5, aI cI a_o_pieceOf 120 g19]) (as := [a_o, a_o_s, a_o_innerOf, a_o_whoseOf, a_o_nearOf, a_o_fromOf, a_o_pieceOf]) (ws1 := [oX6 a_o a_o_refusals a_o_s a_o_image v_o_isImage a_o_tape a_o_read v_o_taped v_o_pos v_o_readWide v_o_readHigh a_o_innerOf a_o_whoseOf a_o_nearOf a_o_fromOf x1 a_o_pieceOf a_o_kept a_o_claimOf a_o_row v_o_rowed, aI cI a_o_s 151 f_o_s, aI cI a_o_innerOf 120 g2, aI cI a_o_whoseOf 120 g3, aI cI a_o_nearOf 360 g4, aI cI a_o_fromOf 360 g5, aI cI a_o_pieceOf 120 g19]) (q0 := 0) (ci := 6) ⟨hx, hb, hml, hown, hts⟩ (c_X6_many l D cI a_o a_o_s a_o_refusals a_o_image a_o_tape a_o_read a_o_innerOf a_o_whoseOf a_o_nearOf a_o_fromOf a_o_pieceOf a_o_kept a_o_claimOf a_o_row v_o_isImage v_o_taped v_o_pos v_o_readWide v_o_readHigh x1 v_o_rowed f_o_s  n x30 hc31) mw_4_27 mw_4_29 mw_p_12 mw_1_8 mw_4_30 hd_X6_many ⟨Nat.le_of_ble_eq_true rfl, Nat.le_of_ble_eq_true rfl⟩ hK hN hP hD hS rfl rfl rfl rfl rfl rfl rfl rfl rfl rfl rfl rfl hl.1 rfl (Nat.le_of_ble_eq_true rfl) dX6_pieces_33 ⟨Nat.le_of_ble_eq_true rfl, Nat.le_of_ble_eq_true rfl⟩ (fun H locs hP hD hS => ?_)
        refine W.eq (g2 := F0 m 36 ls [.int x30, .int x18]) rfl ?_
        refine lv_icmp_ge (tgt := 92) hx hb dX6_pieces_36 (by decide) (fun c32 => ?_) (fun c32 => ?_)
        · replace h := cz_t c32 h
          exact hX23 _ _ _ _ _ _ (cz_i h).symm hP hD hS (lv_sub hl [1] rfl)
        · replace h := cz_f c32 h
          refine lv_aload_n hx hb dX6_pieces_39 rfl (lv_at hl 0 rfl) ?_
          refine va_get (D := D) (ci := 6) (v := .ref a_o_whoseOf) (C := RX6) (T := TX6) (N := 20) hx hb hts in_X6 hown hK hP 0 rfl rfl 11 (by decide) (hts _ mw_3_197) (fun _ h9 => h9) rfl dX6_pieces_40 ?_
          refine lv_iload_n hx hb dX6_pieces_43 rfl (lv_at hl 2 rfl) ?_
          refine cz_iald hx hb hK hP 3 0 rfl rfl (cz_rdE h).1 dX6_pieces_44 (fun x33 ex33 => ?_)
          replace h := cz_rdK ex33 h
          refine lv_bipush (v := (-2 : Int32)) hx hb dX6_pieces_45 (by decide) ?_
          obtain ⟨z39, hE37, hz36⟩ := cz_x2 h
          have hJ38 : ∀ (x34 : Int32) (g35 : (Nat → Int32)) (H : Heap) (locs : List Loc) (ls : Array Slot), z39 = (x34, g35) → va_P D vwCl [oX6 a_o a_o_refusals a_o_s a_o_image v_o_isImage a_o_tape a_o_read v_o_taped v_o_pos v_o_readWide v_o_readHigh a_o_innerOf a_o_whoseOf a_o_nearOf a_o_fromOf x1 a_o_pieceOf a_o_kept a_o_claimOf a_o_row v_o_rowed, aI cI a_o_s 151 f_o_s, aI cI a_o_innerOf 120 g2, aI cI a_o_whoseOf 120 g3, aI cI a_o_nearOf 360 g4, aI cI a_o_fromOf 360 g5, aI cI a_o_pieceOf 120 g35] H → va_D A [oX6 a_o a_o_refusals a_o_s a_o_image v_o_isImage a_o_tape a_o_read v_o_taped v_o_pos v_o_readWide v_o_readHigh a_o_innerOf a_o_whoseOf a_o_nearOf a_o_fromOf x1 a_o_pieceOf a_o_kept a_o_claimOf a_o_row v_o_rowed, aI cI a_o_s 151 f_o_s, aI cI a_o_innerOf 120 g2, aI cI a_o_whoseOf 120 g3, aI cI a_o_nearOf 360 g4, aI cI a_o_fromOf 360 g5, aI cI a_o_pieceOf 120 g35] → va_S A s.heap H locs → lv_has ls 3 [(0, .ref a_o), (1, .int x34), (2, .int x18)] → W p l e (cz_rm 132 3300) s m ag below meth c H locs 0 0 Q (F0 m 86 ls []) := by
            intro x34 g35 H locs ls h hP hD hS hl
            replace h := hz36 _ _ h
            obtain ⟨x40, ex40⟩ : ∃ z : Int32, z = x18 + (1 : Int32) := ⟨_, rfl⟩
            replace h := cz_ltE ex40 h
            refine lv_iinc (v := x40) (lv' := [(2, .int x40), (0, .ref a_o), (1, .int x34)]) hx hb dX6_pieces_86 hl (k := 2) rfl (by rw [ex40]; rfl) (by decide) rfl (fun ls hl => ?_)
            refine lv_goto (tgt := 31) hx hb dX6_pieces_89 (by decide) ?_
            exact ih29 _ _ _ _ _ _ h hP hD hS (lv_sub hl [1, 2, 0] rfl)
          clear h
          have h := hE37
          refine lv_icmp_ne (tgt := 86) hx hb dX6_pieces_47 (by decide) (fun c41 => ?_) (fun c41 => ?_)
          · replace h := cz_f c41 h
            exact hJ38 _ _ _ _ _ (cz_i h).symm hP hD hS (lv_sub hl [0, 1, 2] rfl)
          · replace h := cz_t c41 h
            refine lv_aload_n hx hb dX6_pieces_50 rfl (lv_at hl 0 rfl) ?_
            refine va_get (D := D) (ci := 6) (v := .ref a_o_pieceOf) (C := RX6) (T := TX6) (N := 20) hx hb hts in_X6 hown hK hP 0 rfl rfl 15 (by decide) (hts _ mw_3_201) (fun _ h9 => h9) rfl dX6_pieces_51 ?_
            refine lv_iload_n hx hb dX6_pieces_54 rfl (lv_at hl 2 rfl) ?_
            refine cz_iald hx hb hK hP 6 0 rfl rfl (cz_rdE h).1 dX6_pieces_55 (fun x42 ex42 => ?_)
            replace h := cz_rdK ex42 h
            refine lv_if_eq (tgt := 62) hx hb dX6_pieces_56 (by decide) (fun c43 => ?_) (fun c43 => ?_)
            · replace h := cz_t c43 h
              obtain ⟨x44, ex44⟩ : ∃ z : Int32, z = x17 + (1 : Int32) := ⟨_, rfl⟩
              replace h := cz_ltE ex44 h
              refine lv_iinc (v := x44) (lv' := [(1, .int x44), (0, .ref a_o), (2, .int x18)]) hx hb dX6_pieces_62 hl (k := 1) rfl (by rw [ex44]; rfl) (by decide) rfl (fun ls hl => ?_)
              refine lv_aload_n hx hb dX6_pieces_65 rfl (lv_at hl 1 rfl) ?_
              refine lv_iload_n hx hb dX6_pieces_66 rfl (lv_at hl 2 rfl) ?_
              refine lv_aload_n hx hb dX6_pieces_67 rfl (lv_at hl 1 rfl) ?_
              refine va_get (D := D) (ci := 6) (v := .ref a_o_s) (C := RX6) (T := TX6) (N := 20) hx hb hts in_X6 hown hK hP 0 rfl rfl 1 (by decide) (hts _ mw_3_187) (fun _ h9 => h9) rfl dX6_pieces_68 ?_
              refine lv_iconst (v := (0 : Int32)) hx hb dX6_pieces_71 (by decide) ?_
              refine cz_iald hx hb hK hP 1 0 rfl rfl (cz_rdE h).1 dX6_pieces_72 (fun x45 ex45 => ?_)
              replace h := cz_rdK ex45 h
              refine lv_irem hx hb dX6_pieces_73 (cz_nzE h).1 ?_
              replace h := (cz_nzE h).2
              refine lv_iload_n hx hb dX6_pieces_74 rfl (lv_at hl 2 rfl) ?_
              refine lv_aload_n hx hb dX6_pieces_75 rfl (lv_at hl 1 rfl) ?_
              refine va_get (D := D) (ci := 6) (v := .ref a_o_s) (C := RX6) (T := TX6) (N := 20) hx hb hts in_X6 hown hK hP 0 rfl rfl 1 (by decide) (hts _ mw_3_187) (fun _ h9 => h9) rfl dX6_pieces_76 ?_
              refine lv_iconst (v := (0 : Int32)) hx hb dX6_pieces_79 (by decide) ?_
              refine cz_iald hx hb hK hP 1 0 rfl rfl (cz_rdE h).1 dX6_pieces_80 (fun x46 ex46 => ?_)
              replace h := cz_rdK ex46 h
              refine lv_idiv hx hb dX6_pieces_81 (cz_nzE h).1 ?_
              replace h := (cz_nzE h).2
              refine lv_iload_n hx hb dX6_pieces_82 rfl (lv_at hl 0 rfl) ?_
              obtain ⟨g47, hc48, h⟩ := cz_e1 h
              refine cz_callV (As := [.int (x18 - x18 / x45 * x45), .int (x18 / x46), .int x44]) (rest := []) (is := [0, 1, 3, 6]) (isR := [2, 4, 5]) (rs := [aI cI a_o_innerOf 120 g2, aI cI a_o_nearOf 360 g4, aI cI a_o_fromOf 360 g5]) (as := [a_o, a_o_s, a_o_innerOf, a_o_whoseOf, a_o_nearOf, a_o_fromOf, a_o_pieceOf]) (ws1 := [oX6 a_o a_o_refusals a_o_s a_o_image v_o_isImage a_o_tape a_o_read v_o_taped v_o_pos v_o_readWide v_o_readHigh a_o_innerOf a_o_whoseOf a_o_nearOf a_o_fromOf x1 a_o_pieceOf a_o_kept a_o_claimOf a_o_row v_o_rowed, aI cI a_o_s 151 f_o_s, aI cI a_o_innerOf 120 g2, aI cI a_o_whoseOf 120 g3, aI cI a_o_nearOf 360 g4, aI cI a_o_fromOf 360 g5, aI cI a_o_pieceOf 120 g47]) (q0 := 0) (ci := 6) ⟨hx, hb, hml, hown, hts⟩ (c_X6_spreads l D cI a_o a_o_s a_o_whoseOf a_o_pieceOf a_o_refusals a_o_image a_o_tape a_o_read a_o_innerOf a_o_nearOf a_o_fromOf a_o_kept a_o_claimOf a_o_row v_o_isImage v_o_taped v_o_pos v_o_readWide v_o_readHigh x1 v_o_rowed f_o_s g3 g19 (x18 - x18 / x45 * x45) (x18 / x46) x44 n g47 hc48) mw_4_153 mw_4_155 mw_p_28 mw_1_8 mw_4_156 hd_X6_spreads ⟨Nat.le_of_ble_eq_true rfl, Nat.le_of_ble_eq_true rfl⟩ hK hN hP hD hS rfl rfl rfl rfl rfl rfl rfl rfl rfl rfl rfl rfl hl.1 rfl (Nat.le_of_ble_eq_true rfl) dX6_pieces_83 ⟨Nat.le_of_ble_eq_true rfl, Nat.le_of_ble_eq_true rfl⟩ (fun H locs hP hD hS => ?_)
              refine W.eq (g2 := F0 m 86 ls []) rfl ?_
              exact hJ38 _ _ _ _ _ (cz_i h).symm hP hD hS (lv_sub hl [1, 0, 2] rfl)
            · replace h := cz_f c43 h
              refine lv_goto (tgt := 86) hx hb dX6_pieces_59 (by decide) ?_
              exact hJ38 _ _ _ _ _ (cz_i h).symm hP hD hS (lv_sub hl [0, 1, 2] rfl)
    exact hL24 n _ _ _ _ _ _ hE21 hP hD hS (lv_sub hl [2, 1, 0] rfl)
  clear h
  have hL13 : ∀ (k : Nat) (x7 : Int32) (g8 : (Nat → Int32)) (H : Heap) (locs : List Loc) (ls : Array Slot), f_X6_pieces_L6 n f_o_s k x7 g8 = some z9 → va_P D vwCl [oX6 a_o a_o_refusals a_o_s a_o_image v_o_isImage a_o_tape a_o_read v_o_taped v_o_pos v_o_readWide v_o_readHigh a_o_innerOf a_o_whoseOf a_o_nearOf a_o_fromOf x1 a_o_pieceOf a_o_kept a_o_claimOf a_o_row v_o_rowed, aI cI a_o_s 151 f_o_s, aI cI a_o_innerOf 120 g2, aI cI a_o_whoseOf 120 g3, aI cI a_o_nearOf 360 g4, aI cI a_o_fromOf 360 g5, aI cI a_o_pieceOf 120 g8] H → va_D A [oX6 a_o a_o_refusals a_o_s a_o_image v_o_isImage a_o_tape a_o_read v_o_taped v_o_pos v_o_readWide v_o_readHigh a_o_innerOf a_o_whoseOf a_o_nearOf a_o_fromOf x1 a_o_pieceOf a_o_kept a_o_claimOf a_o_row v_o_rowed, aI cI a_o_s 151 f_o_s, aI cI a_o_innerOf 120 g2, aI cI a_o_whoseOf 120 g3, aI cI a_o_nearOf 360 g4, aI cI a_o_fromOf 360 g5, aI cI a_o_pieceOf 120 g8] → va_S A s.heap H locs → lv_has ls 3 [(0, .ref a_o), (1, .int x7)] → W p l e (cz_rm 132 3300) s m ag below meth c H locs 0 0 Q (F0 m 6 ls []) := by
    intro k
    induction k with
    | zero =>
      intro x7 g8 H locs ls h
      rw [f_X6_pieces_L6] at h
      cases h
    | succ k ih50 =>
      intro x7 g8 H locs ls h hP hD hS hl
      rw [f_X6_pieces_L6] at h
      refine lv_iload_n hx hb dX6_pieces_6 rfl (lv_at hl 1 rfl) ?_
      refine lv_aload_n hx hb dX6_pieces_7 rfl (lv_at hl 0 rfl) ?_
      obtain ⟨x51, hc52, h⟩ := cz_e1 h
      refine cz_callV (As := []) (rest := [.int x7]) (is := [0, 1]) (isR := [2, 3, 4, 5, 6]) (rs := [aI cI a_o_innerOf 120 g2, aI cI a_o_whoseOf 120 g3, aI cI a_o_nearOf 360 g4, aI cI a_o_fromOf 360 g5, aI cI a_o_pieceOf 120 g8]) (as := [a_o, a_o_s, a_o_innerOf, a_o_whoseOf, a_o_nearOf, a_o_fromOf, a_o_pieceOf]) (ws1 := [oX6 a_o a_o_refusals a_o_s a_o_image v_o_isImage a_o_tape a_o_read v_o_taped v_o_pos v_o_readWide v_o_readHigh a_o_innerOf a_o_whoseOf a_o_nearOf a_o_fromOf x1 a_o_pieceOf a_o_kept a_o_claimOf a_o_row v_o_rowed, aI cI a_o_s 151 f_o_s, aI cI a_o_innerOf 120 g2, aI cI a_o_whoseOf 120 g3, aI cI a_o_nearOf 360 g4, aI cI a_o_fromOf 360 g5, aI cI a_o_pieceOf 120 g8]) (q0 := 0) (ci := 6) ⟨hx, hb, hml, hown, hts⟩ (c_X6_many l D cI a_o a_o_s a_o_refusals a_o_image a_o_tape a_o_read a_o_innerOf a_o_whoseOf a_o_nearOf a_o_fromOf a_o_pieceOf a_o_kept a_o_claimOf a_o_row v_o_isImage v_o_taped v_o_pos v_o_readWide v_o_readHigh x1 v_o_rowed f_o_s  n x51 hc52) mw_4_27 mw_4_29 mw_p_12 mw_1_8 mw_4_30 hd_X6_many ⟨Nat.le_of_ble_eq_true rfl, Nat.le_of_ble_eq_true rfl⟩ hK hN hP hD hS rfl rfl rfl rfl rfl rfl rfl rfl rfl rfl rfl rfl hl.1 rfl (Nat.le_of_ble_eq_true rfl) dX6_pieces_8 ⟨Nat.le_of_ble_eq_true rfl, Nat.le_of_ble_eq_true rfl⟩ (fun H locs hP hD hS => ?_)
      refine W.eq (g2 := F0 m 11 ls [.int x51, .int x7]) rfl ?_
      refine lv_icmp_ge (tgt := 27) hx hb dX6_pieces_11 (by decide) (fun c53 => ?_) (fun c53 => ?_)
      · replace h := cz_t c53 h
        exact hX12 _ _ _ _ _ (cz_i h).symm hP hD hS (lv_sub hl [0] rfl)
      · replace h := cz_f c53 h
        refine lv_aload_n hx hb dX6_pieces_14 rfl (lv_at hl 0 rfl) ?_
        refine va_get (D := D) (ci := 6) (v := .ref a_o_pieceOf) (C := RX6) (T := TX6) (N := 20) hx hb hts in_X6 hown hK hP 0 rfl rfl 15 (by decide) (hts _ mw_3_201) (fun _ h9 => h9) rfl dX6_pieces_15 ?_
        refine lv_iload_n hx hb dX6_pieces_18 rfl (lv_at hl 1 rfl) ?_
        refine lv_iconst (v := (0 : Int32)) hx hb dX6_pieces_19 (by decide) ?_
        refine cz_iast hx hb hK hP hD hS 6 0 rfl rfl (cz_wrE h).1 dX6_pieces_20 (fun g54 H locs eg54 hP hD hS => ?_)
        replace h := cz_wrK eg54 h
        replace hP : va_P D vwCl [oX6 a_o a_o_refusals a_o_s a_o_image v_o_isImage a_o_tape a_o_read v_o_taped v_o_pos v_o_readWide v_o_readHigh a_o_innerOf a_o_whoseOf a_o_nearOf a_o_fromOf x1 a_o_pieceOf a_o_kept a_o_claimOf a_o_row v_o_rowed, aI cI a_o_s 151 f_o_s, aI cI a_o_innerOf 120 g2, aI cI a_o_whoseOf 120 g3, aI cI a_o_nearOf 360 g4, aI cI a_o_fromOf 360 g5, aI cI a_o_pieceOf 120 g54] H := hP
        replace hD : va_D A [oX6 a_o a_o_refusals a_o_s a_o_image v_o_isImage a_o_tape a_o_read v_o_taped v_o_pos v_o_readWide v_o_readHigh a_o_innerOf a_o_whoseOf a_o_nearOf a_o_fromOf x1 a_o_pieceOf a_o_kept a_o_claimOf a_o_row v_o_rowed, aI cI a_o_s 151 f_o_s, aI cI a_o_innerOf 120 g2, aI cI a_o_whoseOf 120 g3, aI cI a_o_nearOf 360 g4, aI cI a_o_fromOf 360 g5, aI cI a_o_pieceOf 120 g54] := hD
        obtain ⟨x55, ex55⟩ : ∃ z : Int32, z = x7 + (1 : Int32) := ⟨_, rfl⟩
        replace h := cz_ltE ex55 h
        refine lv_iinc (v := x55) (lv' := [(1, .int x55), (0, .ref a_o)]) hx hb dX6_pieces_21 hl (k := 1) rfl (by rw [ex55]; rfl) (by decide) rfl (fun ls hl => ?_)
        refine lv_goto (tgt := 6) hx hb dX6_pieces_24 (by decide) ?_
        exact ih50 _ _ _ _ _ h hP hD hS (lv_sub hl [1, 0] rfl)
  exact hL13 n _ _ _ _ _ hE10 hP hD hS (lv_sub hl [1, 0] rfl)
