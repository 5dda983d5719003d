set_option maxHeartbeats 4000000 in
set_option maxRecDepth 100000 in
theorem c_J7_fill_53178 (l : Launch) (D : va_G) (cI : ClassId) (a_p1 : Nat) (f_p1 : (Nat → Int32)) (w2 : Int32) (n : Nat) (r_f_p1 : (Nat → Int32)) (h : f_J7_fill_53178 n f_p1 w2 = some r_f_p1) : cz_M l yJ7_fill_53178 cJ7_fill_53178 4 none 0 0 D cI [.ref a_p1, .int w2] [aI cI a_p1 120 f_p1] none [aI cI a_p1 120 r_f_p1] := by
  refine cz_startV (by decide) (Nat.le_of_ble_eq_true rfl) ?_
  intro p e s m ag below meth c A Q hx hb hml hown hts hK hN hQ H locs hP hD hS ls hl
  replace hown : s.vm.findClass RJ7 = some m.cls := hown
  replace hl : lv_has ls 4 [(0, .ref a_p1), (1, .int w2)] := hl
  unfold f_J7_fill_53178 at h
  refine lv_iconst (v := (0 : Int32)) hx hb dJ7_fill_53178_0 (by decide) ?_
  refine lv_istore_n (lv' := [(2, .int (0 : Int32)), (0, .ref a_p1), (1, .int w2)]) hx hb dJ7_fill_53178_1 rfl hl (by decide) rfl (fun ls hl => ?_)
  refine lv_aload_n hx hb dJ7_fill_53178_2 rfl (lv_at hl 1 rfl) ?_
  refine va_alen (v := (120 : Int32)) hx hb hK hP 0 0 rfl rfl rfl dJ7_fill_53178_3 ?_
  refine lv_istore_n (lv' := [(3, .int (120 : Int32)), (2, .int (0 : Int32)), (0, .ref a_p1), (1, .int w2)]) hx hb dJ7_fill_53178_4 rfl hl (by decide) rfl (fun ls hl => ?_)
  obtain ⟨z4, hE5, hz6⟩ := cz_x3 h
  have hX7 : ∀ (y10 : Int32) (y11 : Int32) (q12 : (Nat → Int32)) (H : Heap) (locs : List Loc) (ls : Array Slot), z4 = (y10, y11, q12) → va_P D vwCl [aI cI a_p1 120 q12] H → va_D A [aI cI a_p1 120 q12] → va_S A s.heap H locs → lv_has ls 4 [] → W p l e (cz_rm 0 0) s m ag below meth c H locs 0 0 Q (F0 m 20 ls []) := by
    intro y10 y11 q12 H locs ls h hP hD hS hl
    replace h := hz6 _ _ _ h
    obtain rfl := cz_i h
    exact hQ _ _ _ _ hP hS dJ7_fill_53178_20
  clear h
  have hL8 : ∀ (k : Nat) (x1 : Int32) (x2 : Int32) (g3 : (Nat → Int32)) (H : Heap) (locs : List Loc) (ls : Array Slot), f_J7_fill_53178_L5 n w2 k x1 x2 g3 = some z4 → va_P D vwCl [aI cI a_p1 120 g3] H → va_D A [aI cI a_p1 120 g3] → va_S A s.heap H locs → lv_has ls 4 [(0, .ref a_p1), (1, .int w2), (2, .int x1), (3, .int x2)] → W p l e (cz_rm 0 0) s m ag below meth c H locs 0 0 Q (F0 m 5 ls []) := by
    intro k
    induction k with
    | zero =>
      intro x1 x2 g3 H locs ls h
      rw [f_J7_fill_53178_L5] at h
      cases h
    | succ k ih13 =>
      intro x1 x2 g3 H locs ls h hP hD hS hl
      rw [f_J7_fill_53178_L5] at h
      refine lv_iload_n hx hb dJ7_fill_53178_5 rfl (lv_at hl 2 rfl) ?_
      refine lv_iload_n hx hb dJ7_fill_53178_6 rfl (lv_at hl 3 rfl) ?_
      refine lv_icmp_ge (tgt := 20) hx hb dJ7_fill_53178_7 (by decide) (fun c14 => ?_) (fun c14 => ?_)
      · replace h := cz_t c14 h
        exact hX7 _ _ _ _ _ _ (cz_i h).symm hP hD hS (lv_sub hl [] rfl)
      · replace h := cz_f c14 h
        refine lv_aload_n hx hb dJ7_fill_53178_10 rfl (lv_at hl 0 rfl) ?_
        refine lv_iload_n hx hb dJ7_fill_53178_11 rfl (lv_at hl 2 rfl) ?_
        refine lv_iload_n hx hb dJ7_fill_53178_12 rfl (lv_at hl 1 rfl) ?_
        refine cz_iast hx hb hK hP hD hS 0 0 rfl rfl (cz_wrE h).1 dJ7_fill_53178_13 (fun g15 H locs eg15 hP hD hS => ?_)
        replace h := cz_wrK eg15 h
        replace hP : va_P D vwCl [aI cI a_p1 120 g15] H := hP
        replace hD : va_D A [aI cI a_p1 120 g15] := hD
        obtain ⟨x16, ex16⟩ : ∃ z : Int32, z = x1 + (1 : Int32) := ⟨_, rfl⟩
        replace h := cz_ltE ex16 h
        refine lv_iinc (v := x16) (lv' := [(2, .int x16), (0, .ref a_p1), (1, .int w2), (3, .int x2)]) hx hb dJ7_fill_53178_14 hl (k := 2) rfl (by rw [ex16]; rfl) (by decide) rfl (fun ls hl => ?_)
        refine lv_goto (tgt := 5) hx hb dJ7_fill_53178_17 (by decide) ?_
        exact ih13 _ _ _ _ _ _ h hP hD hS (lv_sub hl [1, 2, 0, 3] rfl)
  exact hL8 n _ _ _ _ _ _ hE5 hP hD hS (lv_sub hl [2, 3, 1, 0] rfl)
set_option maxHeartbeats 4000000 in
set_option maxRecDepth 100000 in
theorem c_X4_kindOf (l : Launch) (D : va_G) (cI : ClassId) (a_o a_o_kinds a_o_wellPlaces a_o_wellWorths a_o_rules : Nat) (v_o_wide : Int32) (v_o_high : Int32) (v_o_wells : Int32) (f_o_kinds : (Nat → Int32)) (w1 : Int32) (n : Nat) (r : Int32) (h : f_X4_kindOf n f_o_kinds w1 = some r) : cz_M l yX4_kindOf cX4_kindOf 2 (some .int) 0 0 D cI [.ref a_o, .int w1] [oX4 a_o v_o_wide v_o_high v_o_wells a_o_kinds a_o_wellPlaces a_o_wellWorths a_o_rules, aI cI a_o_kinds 120 f_o_kinds] (some (.int r)) [oX4 a_o v_o_wide v_o_high v_o_wells a_o_kinds a_o_wellPlaces a_o_wellWorths a_o_rules, aI cI a_o_kinds 120 f_o_kinds] := by
  refine cz_startI (by decide) (Nat.le_of_ble_eq_true rfl) ?_
  intro p e s m ag below meth c A Q hx hb hml hown hts hK hN hQ H locs hP hD hS ls hl
  replace hown : s.vm.findClass RX4 = some m.cls := hown
  replace hl : lv_has ls 2 [(0, .ref a_o), (1, .int w1)] := hl
  unfold f_X4_kindOf at h
  refine lv_iload_n hx hb dX4_kindOf_0 rfl (lv_at hl 1 rfl) ?_
  refine lv_if_lt (tgt := 22) hx hb dX4_kindOf_1 (by decide) (fun c1 => ?_) (fun c1 => ?_)
  · replace h := cz_t c1 h
    refine lv_bipush (v := (8 : Int32)) hx hb dX4_kindOf_22 (by decide) ?_
    obtain rfl := cz_i h
    exact hQ _ _ _ _ hP hS dX4_kindOf_24
  · replace h := cz_f c1 h
    refine lv_iload_n hx hb dX4_kindOf_4 rfl (lv_at hl 1 rfl) ?_
    refine lv_aload_n hx hb dX4_kindOf_5 rfl (lv_at hl 0 rfl) ?_
    refine va_get (D := D) (ci := 4) (v := .ref a_o_kinds) (C := RX4) (T := TX4) (N := 7) hx hb hts in_X4 hown hK hP 0 rfl rfl 3 (by decide) (hts _ mw_1_81) (fun _ h9 => h9) rfl dX4_kindOf_6 ?_
    refine va_alen (v := (120 : Int32)) hx hb hK hP 1 0 rfl rfl rfl dX4_kindOf_9 ?_
    refine lv_icmp_ge (tgt := 22) hx hb dX4_kindOf_10 (by decide) (fun c2 => ?_) (fun c2 => ?_)
    · replace h := cz_t c2 h
      refine lv_bipush (v := (8 : Int32)) hx hb dX4_kindOf_22 (by decide) ?_
      obtain rfl := cz_i h
      exact hQ _ _ _ _ hP hS dX4_kindOf_24
    · replace h := cz_f c2 h
      refine lv_aload_n hx hb dX4_kindOf_13 rfl (lv_at hl 0 rfl) ?_
      refine va_get (D := D) (ci := 4) (v := .ref a_o_kinds) (C := RX4) (T := TX4) (N := 7) hx hb hts in_X4 hown hK hP 0 rfl rfl 3 (by decide) (hts _ mw_1_81) (fun _ h9 => h9) rfl dX4_kindOf_14 ?_
      refine lv_iload_n hx hb dX4_kindOf_17 rfl (lv_at hl 1 rfl) ?_
      refine cz_iald hx hb hK hP 1 0 rfl rfl (cz_rdE h).1 dX4_kindOf_18 (fun x3 ex3 => ?_)
      replace h := cz_rdK ex3 h
      refine lv_goto (tgt := 24) hx hb dX4_kindOf_19 (by decide) ?_
      obtain rfl := cz_i h
      exact hQ _ _ _ _ hP hS dX4_kindOf_24
set_option maxHeartbeats 4000000 in
set_option maxRecDepth 100000 in
theorem c_X4_kindAt (l : Launch) (D : va_G) (cI : ClassId) (a_o a_o_kinds a_o_wellPlaces a_o_wellWorths a_o_rules : Nat) (v_o_wide : Int32) (v_o_high : Int32) (v_o_wells : Int32) (f_o_kinds : (Nat → Int32)) (w1 : Int32) (w2 : Int32) (n : Nat) (r : Int32) (h : f_X4_kindAt n f_o_kinds w1 w2 = some r) : cz_M l yX4_kindAt cX4_kindAt 3 (some .int) 0 0 D cI [.ref a_o, .int w1, .int w2] [oX4 a_o v_o_wide v_o_high v_o_wells a_o_kinds a_o_wellPlaces a_o_wellWorths a_o_rules, aI cI a_o_kinds 120 f_o_kinds] (some (.int r)) [oX4 a_o v_o_wide v_o_high v_o_wells a_o_kinds a_o_wellPlaces a_o_wellWorths a_o_rules, aI cI a_o_kinds 120 f_o_kinds] := by
  refine cz_startI (by decide) (Nat.le_of_ble_eq_true rfl) ?_
  intro p e s m ag below meth c A Q hx hb hml hown hts hK hN hQ H locs hP hD hS ls hl
  replace hown : s.vm.findClass RX4 = some m.cls := hown
  replace hl : lv_has ls 3 [(0, .ref a_o), (1, .int w1), (2, .int w2)] := hl
  unfold f_X4_kindAt at h
  refine lv_iload_n hx hb dX4_kindAt_0 rfl (lv_at hl 1 rfl) ?_
  refine lv_if_lt (tgt := 20) hx hb dX4_kindAt_1 (by decide) (fun c1 => ?_) (fun c1 => ?_)
  · replace h := cz_t c1 h
    refine lv_bipush (v := (8 : Int32)) hx hb dX4_kindAt_20 (by decide) ?_
    refine lv_goto (tgt := 36) hx hb dX4_kindAt_22 (by decide) ?_
    obtain rfl := cz_i h
    exact hQ _ _ _ _ hP hS dX4_kindAt_36
  · replace h := cz_f c1 h
    refine lv_iload_n hx hb dX4_kindAt_4 rfl (lv_at hl 1 rfl) ?_
    refine lv_bipush (v := (12 : Int32)) hx hb dX4_kindAt_5 (by decide) ?_
    refine lv_icmp_ge (tgt := 20) hx hb dX4_kindAt_7 (by decide) (fun c2 => ?_) (fun c2 => ?_)
    · replace h := cz_t c2 h
      refine lv_bipush (v := (8 : Int32)) hx hb dX4_kindAt_20 (by decide) ?_
      refine lv_goto (tgt := 36) hx hb dX4_kindAt_22 (by decide) ?_
      obtain rfl := cz_i h
      exact hQ _ _ _ _ hP hS dX4_kindAt_36
    · replace h := cz_f c2 h
      refine lv_iload_n hx hb dX4_kindAt_10 rfl (lv_at hl 2 rfl) ?_
      refine lv_if_lt (tgt := 20) hx hb dX4_kindAt_11 (by decide) (fun c3 => ?_) (fun c3 => ?_)
      · replace h := cz_t c3 h
        refine lv_bipush (v := (8 : Int32)) hx hb dX4_kindAt_20 (by decide) ?_
        refine lv_goto (tgt := 36) hx hb dX4_kindAt_22 (by decide) ?_
        obtain rfl := cz_i h
        exact hQ _ _ _ _ hP hS dX4_kindAt_36
      · replace h := cz_f c3 h
        refine lv_iload_n hx hb dX4_kindAt_14 rfl (lv_at hl 2 rfl) ?_
        refine lv_bipush (v := (10 : Int32)) hx hb dX4_kindAt_15 (by decide) ?_
        refine lv_icmp_lt (tgt := 25) hx hb dX4_kindAt_17 (by decide) (fun c4 => ?_) (fun c4 => ?_)
        · replace h := cz_t c4 h
          refine lv_aload_n hx hb dX4_kindAt_25 rfl (lv_at hl 0 rfl) ?_
          refine va_get (D := D) (ci := 4) (v := .ref a_o_kinds) (C := RX4) (T := TX4) (N := 7) hx hb hts in_X4 hown hK hP 0 rfl rfl 3 (by decide) (hts _ mw_1_81) (fun _ h9 => h9) rfl dX4_kindAt_26 ?_
          refine lv_iload_n hx hb dX4_kindAt_29 rfl (lv_at hl 2 rfl) ?_
          refine lv_bipush (v := (12 : Int32)) hx hb dX4_kindAt_30 (by decide) ?_
          refine lv_imul hx hb dX4_kindAt_32 ?_
          refine lv_iload_n hx hb dX4_kindAt_33 rfl (lv_at hl 1 rfl) ?_
          refine lv_iadd hx hb dX4_kindAt_34 ?_
          refine cz_iald hx hb hK hP 1 0 rfl rfl (cz_rdE h).1 dX4_kindAt_35 (fun x5 ex5 => ?_)
          replace h := cz_rdK ex5 h
          obtain rfl := cz_i h
          exact hQ _ _ _ _ hP hS dX4_kindAt_36
        · replace h := cz_f c4 h
          refine lv_bipush (v := (8 : Int32)) hx hb dX4_kindAt_20 (by decide) ?_
          refine lv_goto (tgt := 36) hx hb dX4_kindAt_22 (by decide) ?_
          obtain rfl := cz_i h
          exact hQ _ _ _ _ hP hS dX4_kindAt_36
set_option maxHeartbeats 4000000 in
set_option maxRecDepth 100000 in
theorem c_X4_placeAt (l : Launch) (D : va_G) (cI : ClassId)  (w1 : Int32) (w2 : Int32) (n : Nat) (r : Int32) (h : f_X4_placeAt n w1 w2 = some r) : cz_M l yX4_placeAt cX4_placeAt 2 (some .int) 0 0 D cI [.int w1, .int w2] [] (some (.int r)) [] := by
  refine cz_startI (by decide) (Nat.le_of_ble_eq_true rfl) ?_
  intro p e s m ag below meth c A Q hx hb hml hown hts hK hN hQ H locs hP hD hS ls hl
  replace hown : s.vm.findClass RX4 = some m.cls := hown
  replace hl : lv_has ls 2 [(0, .int w1), (1, .int w2)] := hl
  unfold f_X4_placeAt at h
  refine lv_iload_n hx hb dX4_placeAt_0 rfl (lv_at hl 0 rfl) ?_
  refine lv_if_lt (tgt := 20) hx hb dX4_placeAt_1 (by decide) (fun c1 => ?_) (fun c1 => ?_)
  · replace h := cz_t c1 h
    refine lv_iconst (v := (-1 : Int32)) hx hb dX4_placeAt_20 (by decide) ?_
    refine lv_goto (tgt := 30) hx hb dX4_placeAt_21 (by decide) ?_
    obtain rfl := cz_i h
    exact hQ _ _ _ _ hP hS dX4_placeAt_30
  · replace h := cz_f c1 h
    refine lv_iload_n hx hb dX4_placeAt_4 rfl (lv_at hl 0 rfl) ?_
    refine lv_bipush (v := (12 : Int32)) hx hb dX4_placeAt_5 (by decide) ?_
    refine lv_icmp_ge (tgt := 20) hx hb dX4_placeAt_7 (by decide) (fun c2 => ?_) (fun c2 => ?_)
    · replace h := cz_t c2 h
      refine lv_iconst (v := (-1 : Int32)) hx hb dX4_placeAt_20 (by decide) ?_
      refine lv_goto (tgt := 30) hx hb dX4_placeAt_21 (by decide) ?_
      obtain rfl := cz_i h
      exact hQ _ _ _ _ hP hS dX4_placeAt_30
    · replace h := cz_f c2 h
      refine lv_iload_n hx hb dX4_placeAt_10 rfl (lv_at hl 1 rfl) ?_
      refine lv_if_lt (tgt := 20) hx hb dX4_placeAt_11 (by decide) (fun c3 => ?_) (fun c3 => ?_)
      · replace h := cz_t c3 h
        refine lv_iconst (v := (-1 : Int32)) hx hb dX4_placeAt_20 (by decide) ?_
        refine lv_goto (tgt := 30) hx hb dX4_placeAt_21 (by decide) ?_
        obtain rfl := cz_i h
        exact hQ _ _ _ _ hP hS dX4_placeAt_30
      · replace h := cz_f c3 h
        refine lv_iload_n hx hb dX4_placeAt_14 rfl (lv_at hl 1 rfl) ?_
        refine lv_bipush (v := (10 : Int32)) hx hb dX4_placeAt_15 (by decide) ?_
        refine lv_icmp_lt (tgt := 24) hx hb dX4_placeAt_17 (by decide) (fun c4 => ?_) (fun c4 => ?_)
        · replace h := cz_t c4 h
          refine lv_iload_n hx hb dX4_placeAt_24 rfl (lv_at hl 1 rfl) ?_
          refine lv_bipush (v := (12 : Int32)) hx hb dX4_placeAt_25 (by decide) ?_
          refine lv_imul hx hb dX4_placeAt_27 ?_
          refine lv_iload_n hx hb dX4_placeAt_28 rfl (lv_at hl 0 rfl) ?_
          refine lv_iadd hx hb dX4_placeAt_29 ?_
          obtain rfl := cz_i h
          exact hQ _ _ _ _ hP hS dX4_placeAt_30
        · replace h := cz_f c4 h
          refine lv_iconst (v := (-1 : Int32)) hx hb dX4_placeAt_20 (by decide) ?_
          refine lv_goto (tgt := 30) hx hb dX4_placeAt_21 (by decide) ?_
          obtain rfl := cz_i h
          exact hQ _ _ _ _ hP hS dX4_placeAt_30
set_option maxHeartbeats 4000000 in
set_option maxRecDepth 100000 in
theorem c_X0_markInner (l : Launch) (D : va_G) (cI : ClassId) (a_o a_o_inner a_o_owners a_o_nears a_o_basePlaces a_o_baseFactors a_o_baseStarts : Nat) (v_o_bases : Int32) (v_o_thirds : Int32) (f_o_inner : (Nat → Int32)) (w1 : Int32) (w2 : Int32) (n : Nat) (r_f_o_inner : (Nat → Int32)) (h : f_X0_markInner n f_o_inner w1 w2 = some r_f_o_inner) : cz_M l yX0_markInner cX0_markInner 3 none 0 0 D cI [.ref a_o, .int w1, .int w2] [oX0 a_o a_o_inner a_o_owners a_o_nears a_o_basePlaces a_o_baseFactors a_o_baseStarts v_o_bases v_o_thirds, aI cI a_o_inner 120 f_o_inner] none [oX0 a_o a_o_inner a_o_owners a_o_nears a_o_basePlaces a_o_baseFactors a_o_baseStarts v_o_bases v_o_thirds, aI cI a_o_inner 120 r_f_o_inner] := by
  refine cz_startV (by decide) (Nat.le_of_ble_eq_true rfl) ?_
  intro p e s m ag below meth c A Q hx hb hml hown hts hK hN hQ H locs hP hD hS ls hl
  replace hown : s.vm.findClass RX0 = some m.cls := hown
  replace hl : lv_has ls 3 [(0, .ref a_o), (1, .int w1), (2, .int w2)] := hl
  unfold f_X0_markInner at h
  refine lv_iload_n hx hb dX0_markInner_0 rfl (lv_at hl 1 rfl) ?_
  refine lv_if_lt (tgt := 38) hx hb dX0_markInner_1 (by decide) (fun c1 => ?_) (fun c1 => ?_)
  · replace h := cz_t c1 h
    obtain rfl := cz_i h
    exact hQ _ _ _ _ hP hS dX0_markInner_38
  · replace h := cz_f c1 h
    refine lv_iload_n hx hb dX0_markInner_4 rfl (lv_at hl 1 rfl) ?_
    refine lv_bipush (v := (120 : Int32)) hx hb dX0_markInner_5 (by decide) ?_
    refine lv_icmp_ge (tgt := 38) hx hb dX0_markInner_7 (by decide) (fun c2 => ?_) (fun c2 => ?_)
    · replace h := cz_t c2 h
      obtain rfl := cz_i h
      exact hQ _ _ _ _ hP hS dX0_markInner_38
    · replace h := cz_f c2 h
      refine lv_aload_n hx hb dX0_markInner_10 rfl (lv_at hl 0 rfl) ?_
      refine va_get (D := D) (ci := 0) (v := .ref a_o_inner) (C := RX0) (T := TX0) (N := 8) hx hb hts in_X0 hown hK hP 0 rfl rfl 0 (by decide) (hts _ mw_1_109) (fun _ h9 => h9) rfl dX0_markInner_11 ?_
      refine lv_iload_n hx hb dX0_markInner_14 rfl (lv_at hl 1 rfl) ?_
      refine cz_iald hx hb hK hP 1 0 rfl rfl (cz_rdE h).1 dX0_markInner_15 (fun x3 ex3 => ?_)
      replace h := cz_rdK ex3 h
      refine lv_bipush (v := (-9 : Int32)) hx hb dX0_markInner_16 (by decide) ?_
      refine lv_icmp_eq (tgt := 31) hx hb dX0_markInner_18 (by decide) (fun c4 => ?_) (fun c4 => ?_)
      · replace h := cz_t c4 h
        refine lv_aload_n hx hb dX0_markInner_31 rfl (lv_at hl 0 rfl) ?_
        refine va_get (D := D) (ci := 0) (v := .ref a_o_inner) (C := RX0) (T := TX0) (N := 8) hx hb hts in_X0 hown hK hP 0 rfl rfl 0 (by decide) (hts _ mw_1_109) (fun _ h9 => h9) rfl dX0_markInner_32 ?_
        refine lv_iload_n hx hb dX0_markInner_35 rfl (lv_at hl 1 rfl) ?_
        refine lv_iload_n hx hb dX0_markInner_36 rfl (lv_at hl 2 rfl) ?_
        refine cz_iast hx hb hK hP hD hS 1 0 rfl rfl (cz_wrE h).1 dX0_markInner_37 (fun g5 H locs eg5 hP hD hS => ?_)
        replace h := cz_wrK eg5 h
        replace hP : va_P D vwCl [oX0 a_o a_o_inner a_o_owners a_o_nears a_o_basePlaces a_o_baseFactors a_o_baseStarts v_o_bases v_o_thirds, aI cI a_o_inner 120 g5] H := hP
        replace hD : va_D A [oX0 a_o a_o_inner a_o_owners a_o_nears a_o_basePlaces a_o_baseFactors a_o_baseStarts v_o_bases v_o_thirds, aI cI a_o_inner 120 g5] := hD
        obtain rfl := cz_i h
        exact hQ _ _ _ _ hP hS dX0_markInner_38
      · replace h := cz_f c4 h
        refine lv_iload_n hx hb dX0_markInner_21 rfl (lv_at hl 2 rfl) ?_
        refine lv_aload_n hx hb dX0_markInner_22 rfl (lv_at hl 0 rfl) ?_
        refine va_get (D := D) (ci := 0) (v := .ref a_o_inner) (C := RX0) (T := TX0) (N := 8) hx hb hts in_X0 hown hK hP 0 rfl rfl 0 (by decide) (hts _ mw_1_109) (fun _ h9 => h9) rfl dX0_markInner_23 ?_
        refine lv_iload_n hx hb dX0_markInner_26 rfl (lv_at hl 1 rfl) ?_
        refine cz_iald hx hb hK hP 1 0 rfl rfl (cz_rdE h).1 dX0_markInner_27 (fun x6 ex6 => ?_)
        replace h := cz_rdK ex6 h
        refine lv_icmp_ge (tgt := 38) hx hb dX0_markInner_28 (by decide) (fun c7 => ?_) (fun c7 => ?_)
        · replace h := cz_t c7 h
          obtain rfl := cz_i h
          exact hQ _ _ _ _ hP hS dX0_markInner_38
        · replace h := cz_f c7 h
          refine lv_aload_n hx hb dX0_markInner_31 rfl (lv_at hl 0 rfl) ?_
          refine va_get (D := D) (ci := 0) (v := .ref a_o_inner) (C := RX0) (T := TX0) (N := 8) hx hb hts in_X0 hown hK hP 0 rfl rfl 0 (by decide) (hts _ mw_1_109) (fun _ h9 => h9) rfl dX0_markInner_32 ?_
          refine lv_iload_n hx hb dX0_markInner_35 rfl (lv_at hl 1 rfl) ?_
          refine lv_iload_n hx hb dX0_markInner_36 rfl (lv_at hl 2 rfl) ?_
          refine cz_iast hx hb hK hP hD hS 1 0 rfl rfl (cz_wrE h).1 dX0_markInner_37 (fun g8 H locs eg8 hP hD hS => ?_)
          replace h := cz_wrK eg8 h
          replace hP : va_P D vwCl [oX0 a_o a_o_inner a_o_owners a_o_nears a_o_basePlaces a_o_baseFactors a_o_baseStarts v_o_bases v_o_thirds, aI cI a_o_inner 120 g8] H := hP
          replace hD : va_D A [oX0 a_o a_o_inner a_o_owners a_o_nears a_o_basePlaces a_o_baseFactors a_o_baseStarts v_o_bases v_o_thirds, aI cI a_o_inner 120 g8] := hD
          obtain rfl := cz_i h
          exact hQ _ _ _ _ hP hS dX0_markInner_38
set_option maxHeartbeats 4000000 in
set_option maxRecDepth 100000 in
theorem c_X0_closeBay (l : Launch) (D : va_G) (cI : ClassId) (a_o a_o_inner a_p1 a_p1_kinds a_o_owners a_o_nears a_o_basePlaces a_o_baseFactors a_o_baseStarts a_p1_wellPlaces a_p1_wellWorths a_p1_rules : Nat) (v_o_bases : Int32) (v_o_thirds : Int32) (f_o_inner : (Nat → Int32)) (v_p1_wide : Int32) (v_p1_high : Int32) (v_p1_wells : Int32) (f_p1_kinds : (Nat → Int32)) (w2 : Int32) (w3 : Int32) (w4 : Int32) (w5 : Int32) (n : Nat) (r_f_o_inner : (Nat → Int32)) (h : f_X0_closeBay n f_o_inner f_p1_kinds w2 w3 w4 w5 = some r_f_o_inner) : cz_M l yX0_closeBay cX0_closeBay 11 none 1 22 D cI [.ref a_o, .ref a_p1, .int w2, .int w3, .int w4, .int w5] [oX0 a_o a_o_inner a_o_owners a_o_nears a_o_basePlaces a_o_baseFactors a_o_baseStarts v_o_bases v_o_thirds, aI cI a_o_inner 120 f_o_inner, oX4 a_p1 v_p1_wide v_p1_high v_p1_wells a_p1_kinds a_p1_wellPlaces a_p1_wellWorths a_p1_rules, aI cI a_p1_kinds 120 f_p1_kinds] none [oX0 a_o a_o_inner a_o_owners a_o_nears a_o_basePlaces a_o_baseFactors a_o_baseStarts v_o_bases v_o_thirds, aI cI a_o_inner 120 r_f_o_inner, oX4 a_p1 v_p1_wide v_p1_high v_p1_wells a_p1_kinds a_p1_wellPlaces a_p1_wellWorths a_p1_rules, aI cI a_p1_kinds 120 f_p1_kinds] := by
  refine cz_startV (by decide) (Nat.le_of_ble_eq_true rfl) ?_
  intro p e s m ag below meth c A Q hx hb hml hown hts hK hN hQ H locs hP hD hS ls hl
  replace hown : s.vm.findClass RX0 = some m.cls := hown
  replace hl : lv_has ls 11 [(0, .ref a_o), (1, .ref a_p1), (2, .int w2), (3, .int w3), (4, .int w4), (5, .int w5)] := hl
  unfold f_X0_closeBay at h
  refine lv_iload_n hx hb dX0_closeBay_0 rfl (lv_at hl 3 rfl) ?_
  refine lv_bipush (v := (12 : Int32)) hx hb dX0_closeBay_1 (by decide) ?_
  refine lv_irem hx hb dX0_closeBay_3 (by decide) ?_
  refine lv_topi (fun x1 ex1 => ?_)
  replace h := cz_ltE ex1 h
  refine lv_istore (lv' := [(6, .int x1), (0, .ref a_o), (1, .ref a_p1), (2, .int w2), (3, .int w3), (4, .int w4), (5, .int w5)]) hx hb dX0_closeBay_4 hl (by decide) rfl (fun ls hl => ?_)
  refine lv_iload_n hx hb dX0_closeBay_6 rfl (lv_at hl 4 rfl) ?_
  refine lv_bipush (v := (12 : Int32)) hx hb dX0_closeBay_7 (by decide) ?_
  refine lv_idiv hx hb dX0_closeBay_9 (by decide) ?_
  refine lv_topi (fun x2 ex2 => ?_)
  replace h := cz_ltE ex2 h
  refine lv_istore (lv' := [(7, .int x2), (6, .int x1), (0, .ref a_o), (1, .ref a_p1), (2, .int w2), (3, .int w3), (4, .int w4), (5, .int w5)]) hx hb dX0_closeBay_10 hl (by decide) rfl (fun ls hl => ?_)
  refine lv_iconst (v := (0 : Int32)) hx hb dX0_closeBay_12 (by decide) ?_
  refine lv_istore (lv' := [(8, .int (0 : Int32)), (7, .int x2), (6, .int x1), (0, .ref a_o), (1, .ref a_p1), (2, .int w2), (3, .int w3), (4, .int w4), (5, .int w5)]) hx hb dX0_closeBay_13 hl (by decide) rfl (fun ls hl => ?_)
  obtain ⟨z4, hE5, hz6⟩ := cz_x1 h
  have hX7 : ∀ (y10 : Int32) (H : Heap) (locs : List Loc) (ls : Array Slot), z4 = y10 → va_P D vwCl [oX0 a_o a_o_inner a_o_owners a_o_nears a_o_basePlaces a_o_baseFactors a_o_baseStarts v_o_bases v_o_thirds, aI cI a_o_inner 120 f_o_inner, oX4 a_p1 v_p1_wide v_p1_high v_p1_wells a_p1_kinds a_p1_wellPlaces a_p1_wellWorths a_p1_rules, aI cI a_p1_kinds 120 f_p1_kinds] H → va_D A [oX0 a_o a_o_inner a_o_owners a_o_nears a_o_basePlaces a_o_baseFactors a_o_baseStarts v_o_bases v_o_thirds, aI cI a_o_inner 120 f_o_inner, oX4 a_p1 v_p1_wide v_p1_high v_p1_wells a_p1_kinds a_p1_wellPlaces a_p1_wellWorths a_p1_rules, aI cI a_p1_kinds 120 f_p1_kinds] → va_S A s.heap H locs → lv_has ls 11 [(0, .ref a_o), (1, .ref a_p1), (3, .int w3), (4, .int w4), (5, .int w5), (6, .int x1), (7, .int x2), (8, .int y10)] → W p l e (cz_rm 1 22) s m ag below meth c H locs 0 0 Q (F0 m 54 ls []) := by
    intro y10 H locs ls h hP hD hS hl
    replace h := hz6 _ h
    refine lv_aload_n hx hb dX0_closeBay_54 rfl (lv_at hl 1 rfl) ?_
    refine lv_iload_n hx hb dX0_closeBay_55 rfl (lv_at hl 2 rfl) ?_
    obtain ⟨x11, hc12, h⟩ := cz_e1 h
    refine cz_callV (As := [.int w3]) (rest := []) (is := [2, 3]) (isR := [0, 1]) (rs := [oX0 a_o a_o_inner a_o_owners a_o_nears a_o_basePlaces a_o_baseFactors a_o_baseStarts v_o_bases v_o_thirds, aI cI a_o_inner 120 f_o_inner]) (as := [a_o, a_o_inner, a_p1, a_p1_kinds]) (ws1 := [oX0 a_o a_o_inner a_o_owners a_o_nears a_o_basePlaces a_o_baseFactors a_o_baseStarts v_o_bases v_o_thirds, aI cI a_o_inner 120 f_o_inner, oX4 a_p1 v_p1_wide v_p1_high v_p1_wells a_p1_kinds a_p1_wellPlaces a_p1_wellWorths a_p1_rules, aI cI a_p1_kinds 120 f_p1_kinds]) (q0 := 0) (ci := 4) ⟨hx, hb, hml, hown, hts⟩ (c_X4_kindOf l D cI a_p1 a_p1_kinds a_p1_wellPlaces a_p1_wellWorths a_p1_rules v_p1_wide v_p1_high v_p1_wells f_p1_kinds w3 n x11 hc12) mw_2_129 mw_2_93 mw_2_94 mw_1_3 mw_2_95 hd_X4_kindOf ⟨Nat.le_of_ble_eq_true rfl, Nat.le_of_ble_eq_true rfl⟩ hK hN hP hD hS rfl rfl rfl rfl rfl rfl rfl rfl rfl rfl rfl rfl hl.1 rfl (Nat.le_of_ble_eq_true rfl) dX0_closeBay_56 ⟨Nat.le_of_ble_eq_true rfl, Nat.le_of_ble_eq_true rfl⟩ (fun H locs hP hD hS => ?_)
    refine W.eq (g2 := F0 m 59 ls [.int x11]) rfl ?_
    refine lv_istore (lv' := [(9, .int x11), (0, .ref a_o), (1, .ref a_p1), (3, .int w3), (4, .int w4), (5, .int w5), (6, .int x1), (7, .int x2), (8, .int y10)]) hx hb dX0_closeBay_59 hl (by decide) rfl (fun ls hl => ?_)
    refine lv_aload_n hx hb dX0_closeBay_61 rfl (lv_at hl 2 rfl) ?_
    refine lv_iload hx hb dX0_closeBay_62 (lv_at hl 6 rfl) ?_
    refine lv_iload hx hb dX0_closeBay_64 (lv_at hl 8 rfl) ?_
    refine lv_iconst (v := (1 : Int32)) hx hb dX0_closeBay_66 (by decide) ?_
    refine lv_iadd hx hb dX0_closeBay_67 ?_
    refine lv_iload hx hb dX0_closeBay_68 (lv_at hl 4 rfl) ?_
    refine lv_imul hx hb dX0_closeBay_70 ?_
    refine lv_iadd hx hb dX0_closeBay_71 ?_
    refine lv_iload hx hb dX0_closeBay_72 (lv_at hl 7 rfl) ?_
    refine lv_iload hx hb dX0_closeBay_74 (lv_at hl 8 rfl) ?_
    refine lv_iconst (v := (1 : Int32)) hx hb dX0_closeBay_76 (by decide) ?_
    refine lv_iadd hx hb dX0_closeBay_77 ?_
    refine lv_iload hx hb dX0_closeBay_78 (lv_at hl 5 rfl) ?_
    refine lv_imul hx hb dX0_closeBay_80 ?_
    refine lv_iadd hx hb dX0_closeBay_81 ?_
    obtain ⟨x13, hc14, h⟩ := cz_e1 h
    refine cz_callV (As := [.int (x1 + ((y10 + (1 : Int32)) * w4)), .int (x2 + ((y10 + (1 : Int32)) * w5))]) (rest := []) (is := [2, 3]) (isR := [0, 1]) (rs := [oX0 a_o a_o_inner a_o_owners a_o_nears a_o_basePlaces a_o_baseFactors a_o_baseStarts v_o_bases v_o_thirds, aI cI a_o_inner 120 f_o_inner]) (as := [a_o, a_o_inner, a_p1, a_p1_kinds]) (ws1 := [oX0 a_o a_o_inner a_o_owners a_o_nears a_o_basePlaces a_o_baseFactors a_o_baseStarts v_o_bases v_o_thirds, aI cI a_o_inner 120 f_o_inner, oX4 a_p1 v_p1_wide v_p1_high v_p1_wells a_p1_kinds a_p1_wellPlaces a_p1_wellWorths a_p1_rules, aI cI a_p1_kinds 120 f_p1_kinds]) (q0 := 0) (ci := 4) ⟨hx, hb, hml, hown, hts⟩ (c_X4_kindAt l D cI a_p1 a_p1_kinds a_p1_wellPlaces a_p1_wellWorths a_p1_rules v_p1_wide v_p1_high v_p1_wells f_p1_kinds (x1 + ((y10 + (1 : Int32)) * w4)) (x2 + ((y10 + (1 : Int32)) * w5)) n x13 hc14) mw_2_134 mw_2_135 mw_2_136 mw_1_3 mw_2_137 hd_X4_kindAt ⟨Nat.le_of_ble_eq_true rfl, Nat.le_of_ble_eq_true rfl⟩ hK hN hP hD hS rfl rfl rfl rfl rfl rfl rfl rfl rfl rfl rfl rfl hl.1 rfl (Nat.le_of_ble_eq_true rfl) dX0_closeBay_82 ⟨Nat.le_of_ble_eq_true rfl, Nat.le_of_ble_eq_true rfl⟩ (fun H locs hP hD hS => ?_)
    refine W.eq (g2 := F0 m 85 ls [.int x13]) rfl ?_
    refine lv_iload hx hb dX0_closeBay_85 (lv_at hl 0 rfl) ?_
    refine lv_icmp_ne (tgt := 133) hx hb dX0_closeBay_87 (by decide) (fun c15 => ?_) (fun c15 => ?_)
    · replace h := cz_f c15 h
      obtain rfl := cz_i h
      exact hQ _ _ _ _ hP hS dX0_closeBay_133
    · replace h := cz_t c15 h
      refine lv_iconst (v := (1 : Int32)) hx hb dX0_closeBay_90 (by decide) ?_
      refine lv_istore (lv' := [(10, .int (1 : Int32)), (9, .int x11), (0, .ref a_o), (1, .ref a_p1), (3, .int w3), (4, .int w4), (5, .int w5), (6, .int x1), (7, .int x2), (8, .int y10)]) hx hb dX0_closeBay_91 hl (by decide) rfl (fun ls hl => ?_)
      obtain ⟨z18, hE19, hz20⟩ := cz_x2 h
      have hX21 : ∀ (y24 : Int32) (q25 : (Nat → Int32)) (H : Heap) (locs : List Loc) (ls : Array Slot), z18 = (y24, q25) → va_P D vwCl [oX0 a_o a_o_inner a_o_owners a_o_nears a_o_basePlaces a_o_baseFactors a_o_baseStarts v_o_bases v_o_thirds, aI cI a_o_inner 120 q25, oX4 a_p1 v_p1_wide v_p1_high v_p1_wells a_p1_kinds a_p1_wellPlaces a_p1_wellWorths a_p1_rules, aI cI a_p1_kinds 120 f_p1_kinds] H → va_D A [oX0 a_o a_o_inner a_o_owners a_o_nears a_o_basePlaces a_o_baseFactors a_o_baseStarts v_o_bases v_o_thirds, aI cI a_o_inner 120 q25, oX4 a_p1 v_p1_wide v_p1_high v_p1_wells a_p1_kinds a_p1_wellPlaces a_p1_wellWorths a_p1_rules, aI cI a_p1_kinds 120 f_p1_kinds] → va_S A s.heap H locs → lv_has ls 11 [] → W p l e (cz_rm 1 22) s m ag below meth c H locs 0 0 Q (F0 m 133 ls []) := by
        intro y24 q25 H locs ls h hP hD hS hl
        replace h := hz20 _ _ h
        obtain rfl := cz_i h
        exact hQ _ _ _ _ hP hS dX0_closeBay_133
      clear h
      have hL22 : ∀ (k : Nat) (x16 : Int32) (g17 : (Nat → Int32)) (H : Heap) (locs : List Loc) (ls : Array Slot), f_X0_closeBay_L93 n w4 w5 x1 x2 y10 x11 k x16 g17 = some z18 → va_P D vwCl [oX0 a_o a_o_inner a_o_owners a_o_nears a_o_basePlaces a_o_baseFactors a_o_baseStarts v_o_bases v_o_thirds, aI cI a_o_inner 120 g17, oX4 a_p1 v_p1_wide v_p1_high v_p1_wells a_p1_kinds a_p1_wellPlaces a_p1_wellWorths a_p1_rules, aI cI a_p1_kinds 120 f_p1_kinds] H → va_D A [oX0 a_o a_o_inner a_o_owners a_o_nears a_o_basePlaces a_o_baseFactors a_o_baseStarts v_o_bases v_o_thirds, aI cI a_o_inner 120 g17, oX4 a_p1 v_p1_wide v_p1_high v_p1_wells a_p1_kinds a_p1_wellPlaces a_p1_wellWorths a_p1_rules, aI cI a_p1_kinds 120 f_p1_kinds] → va_S A s.heap H locs → lv_has ls 11 [(0, .ref a_o), (4, .int w4), (5, .int w5), (6, .int x1), (7, .int x2), (8, .int y10), (9, .int x11), (10, .int x16)] → W p l e (cz_rm 1 22) s m ag below meth c H locs 0 0 Q (F0 m 93 ls []) := by
        intro k
        induction k with
        | zero =>
          intro x16 g17 H locs ls h
          rw [f_X0_closeBay_L93] at h
          cases h
        | succ k ih26 =>
          intro x16 g17 H locs ls h hP hD hS hl
          rw [f_X0_closeBay_L93] at h
          refine lv_iload hx hb dX0_closeBay_93 (lv_at hl 7 rfl) ?_
          refine lv_iload hx hb dX0_closeBay_95 (lv_at hl 5 rfl) ?_
          refine lv_icmp_gt (tgt := 133) hx hb dX0_closeBay_97 (by decide) (fun c27 => ?_) (fun c27 => ?_)
          · replace h := cz_t c27 h
            exact hX21 _ _ _ _ _ (cz_i h).symm hP hD hS (lv_sub hl [] rfl)
          · replace h := cz_f c27 h
            refine lv_aload_n hx hb dX0_closeBay_100 rfl (lv_at hl 0 rfl) ?_
            refine lv_iload hx hb dX0_closeBay_101 (lv_at hl 3 rfl) ?_
            refine lv_iload hx hb dX0_closeBay_103 (lv_at hl 7 rfl) ?_
            refine lv_iload hx hb dX0_closeBay_105 (lv_at hl 1 rfl) ?_
            refine lv_imul hx hb dX0_closeBay_107 ?_
            refine lv_iadd hx hb dX0_closeBay_108 ?_
            refine lv_iload hx hb dX0_closeBay_109 (lv_at hl 4 rfl) ?_
            refine lv_iload hx hb dX0_closeBay_111 (lv_at hl 7 rfl) ?_
            refine lv_iload hx hb dX0_closeBay_113 (lv_at hl 2 rfl) ?_
            refine lv_imul hx hb dX0_closeBay_115 ?_
            refine lv_iadd hx hb dX0_closeBay_116 ?_
            obtain ⟨x28, hc29, h⟩ := cz_e1 h
            refine cz_callS (As := [.int (x1 + (x16 * w4)), .int (x2 + (x16 * w5))]) (rest := [.ref a_o]) (is := []) (isR := [0, 1, 2, 3]) (rs := [oX0 a_o a_o_inner a_o_owners a_o_nears a_o_basePlaces a_o_baseFactors a_o_baseStarts v_o_bases v_o_thirds, aI cI a_o_inner 120 g17, oX4 a_p1 v_p1_wide v_p1_high v_p1_wells a_p1_kinds a_p1_wellPlaces a_p1_wellWorths a_p1_rules, aI cI a_p1_kinds 120 f_p1_kinds]) (as := [a_o, a_o_inner, a_p1, a_p1_kinds]) (ws1 := [oX0 a_o a_o_inner a_o_owners a_o_nears a_o_basePlaces a_o_baseFactors a_o_baseStarts v_o_bases v_o_thirds, aI cI a_o_inner 120 g17, oX4 a_p1 v_p1_wide v_p1_high v_p1_wells a_p1_kinds a_p1_wellPlaces a_p1_wellWorths a_p1_rules, aI cI a_p1_kinds 120 f_p1_kinds]) ⟨hx, hb, hml, hown, hts⟩ (c_X4_placeAt l D cI   (x1 + (x16 * w4)) (x2 + (x16 * w5)) n x28 hc29) mw_2_138 mw_2_90 mw_1_3 mw_2_91 hd_X4_placeAt ⟨Nat.le_of_ble_eq_true rfl, Nat.le_of_ble_eq_true rfl⟩ hK hN hP hD hS rfl rfl rfl rfl rfl rfl rfl rfl rfl hl.1 rfl (Nat.le_of_ble_eq_true rfl) dX0_closeBay_117 ⟨Nat.le_of_ble_eq_true rfl, Nat.le_of_ble_eq_true rfl⟩ (fun H locs hP hD hS => ?_)
            refine W.eq (g2 := F0 m 120 ls [.int x28, .ref a_o]) rfl ?_
            refine lv_iload hx hb dX0_closeBay_120 (lv_at hl 6 rfl) ?_
            refine lv_iconst (v := (1 : Int32)) hx hb dX0_closeBay_122 (by decide) ?_
            refine lv_isub hx hb dX0_closeBay_123 ?_
            obtain ⟨g30, hc31, h⟩ := cz_e1 h
            refine cz_callV (As := [.int x28, .int (x11 - (1 : Int32))]) (rest := []) (is := [0, 1]) (isR := [2, 3]) (rs := [oX4 a_p1 v_p1_wide v_p1_high v_p1_wells a_p1_kinds a_p1_wellPlaces a_p1_wellWorths a_p1_rules, aI cI a_p1_kinds 120 f_p1_kinds]) (as := [a_o, a_o_inner, a_p1, a_p1_kinds]) (ws1 := [oX0 a_o a_o_inner a_o_owners a_o_nears a_o_basePlaces a_o_baseFactors a_o_baseStarts v_o_bases v_o_thirds, aI cI a_o_inner 120 g30, oX4 a_p1 v_p1_wide v_p1_high v_p1_wells a_p1_kinds a_p1_wellPlaces a_p1_wellWorths a_p1_rules, aI cI a_p1_kinds 120 f_p1_kinds]) (q0 := 0) (ci := 0) ⟨hx, hb, hml, hown, hts⟩ (c_X0_markInner l D cI a_o a_o_inner a_o_owners a_o_nears a_o_basePlaces a_o_baseFactors a_o_baseStarts v_o_bases v_o_thirds g17 x28 (x11 - (1 : Int32)) n g30 hc31) mw_2_139 mw_2_140 mw_2_141 mw_1_6 mw_2_142 hd_X0_markInner ⟨Nat.le_of_ble_eq_true rfl, Nat.le_of_ble_eq_true rfl⟩ hK hN hP hD hS rfl rfl rfl rfl rfl rfl rfl rfl rfl rfl rfl rfl hl.1 rfl (Nat.le_of_ble_eq_true rfl) dX0_closeBay_124 ⟨Nat.le_of_ble_eq_true rfl, Nat.le_of_ble_eq_true rfl⟩ (fun H locs hP hD hS => ?_)
            refine W.eq (g2 := F0 m 127 ls []) rfl ?_
            obtain ⟨x32, ex32⟩ : ∃ z : Int32, z = x16 + (1 : Int32) := ⟨_, rfl⟩
            replace h := cz_ltE ex32 h
            refine lv_iinc (v := x32) (lv' := [(10, .int x32), (0, .ref a_o), (4, .int w4), (5, .int w5), (6, .int x1), (7, .int x2), (8, .int y10), (9, .int x11)]) hx hb dX0_closeBay_127 hl (k := 7) rfl (by rw [ex32]; rfl) (by decide) rfl (fun ls hl => ?_)
            refine lv_goto (tgt := 93) hx hb dX0_closeBay_130 (by decide) ?_
            exact ih26 _ _ _ _ _ h hP hD hS (lv_sub hl [1, 2, 3, 4, 5, 6, 7, 0] rfl)
      exact hL22 n _ _ _ _ _ hE19 hP hD hS (lv_sub hl [2, 5, 6, 7, 8, 9, 1, 0] rfl)
  clear h
  have hL8 : ∀ (k : Nat) (x3 : Int32) (H : Heap) (locs : List Loc) (ls : Array Slot), f_X0_closeBay_L15 n f_p1_kinds w2 w4 w5 x1 x2 k x3 = some z4 → va_P D vwCl [oX0 a_o a_o_inner a_o_owners a_o_nears a_o_basePlaces a_o_baseFactors a_o_baseStarts v_o_bases v_o_thirds, aI cI a_o_inner 120 f_o_inner, oX4 a_p1 v_p1_wide v_p1_high v_p1_wells a_p1_kinds a_p1_wellPlaces a_p1_wellWorths a_p1_rules, aI cI a_p1_kinds 120 f_p1_kinds] H → va_D A [oX0 a_o a_o_inner a_o_owners a_o_nears a_o_basePlaces a_o_baseFactors a_o_baseStarts v_o_bases v_o_thirds, aI cI a_o_inner 120 f_o_inner, oX4 a_p1 v_p1_wide v_p1_high v_p1_wells a_p1_kinds a_p1_wellPlaces a_p1_wellWorths a_p1_rules, aI cI a_p1_kinds 120 f_p1_kinds] → va_S A s.heap H locs → lv_has ls 11 [(0, .ref a_o), (1, .ref a_p1), (2, .int w2), (3, .int w3), (4, .int w4), (5, .int w5), (6, .int x1), (7, .int x2), (8, .int x3)] → W p l e (cz_rm 1 22) s m ag below meth c H locs 0 0 Q (F0 m 15 ls []) := by
    intro k
    induction k with
    | zero =>
      intro x3 H locs ls h
      rw [f_X0_closeBay_L15] at h
      cases h
    | succ k ih34 =>
      intro x3 H locs ls h hP hD hS hl
      rw [f_X0_closeBay_L15] at h
      refine lv_iload hx hb dX0_closeBay_15 (lv_at hl 8 rfl) ?_
      refine lv_iload_n hx hb dX0_closeBay_17 rfl (lv_at hl 2 rfl) ?_
      refine lv_icmp_ge (tgt := 54) hx hb dX0_closeBay_18 (by decide) (fun c35 => ?_) (fun c35 => ?_)
      · replace h := cz_t c35 h
        exact hX7 _ _ _ _ (cz_i h).symm hP hD hS (lv_sub hl [0, 1, 3, 4, 5, 6, 7, 8] rfl)
      · replace h := cz_f c35 h
        refine lv_aload_n hx hb dX0_closeBay_21 rfl (lv_at hl 1 rfl) ?_
        refine lv_iload hx hb dX0_closeBay_22 (lv_at hl 6 rfl) ?_
        refine lv_iload hx hb dX0_closeBay_24 (lv_at hl 8 rfl) ?_
        refine lv_iconst (v := (1 : Int32)) hx hb dX0_closeBay_26 (by decide) ?_
        refine lv_iadd hx hb dX0_closeBay_27 ?_
        refine lv_iload hx hb dX0_closeBay_28 (lv_at hl 4 rfl) ?_
        refine lv_imul hx hb dX0_closeBay_30 ?_
        refine lv_iadd hx hb dX0_closeBay_31 ?_
        refine lv_iload hx hb dX0_closeBay_32 (lv_at hl 7 rfl) ?_
        refine lv_iload hx hb dX0_closeBay_34 (lv_at hl 8 rfl) ?_
        refine lv_iconst (v := (1 : Int32)) hx hb dX0_closeBay_36 (by decide) ?_
        refine lv_iadd hx hb dX0_closeBay_37 ?_
        refine lv_iload hx hb dX0_closeBay_38 (lv_at hl 5 rfl) ?_
        refine lv_imul hx hb dX0_closeBay_40 ?_
        refine lv_iadd hx hb dX0_closeBay_41 ?_
        obtain ⟨x36, hc37, h⟩ := cz_e1 h
        refine cz_callV (As := [.int (x1 + ((x3 + (1 : Int32)) * w4)), .int (x2 + ((x3 + (1 : Int32)) * w5))]) (rest := []) (is := [2, 3]) (isR := [0, 1]) (rs := [oX0 a_o a_o_inner a_o_owners a_o_nears a_o_basePlaces a_o_baseFactors a_o_baseStarts v_o_bases v_o_thirds, aI cI a_o_inner 120 f_o_inner]) (as := [a_o, a_o_inner, a_p1, a_p1_kinds]) (ws1 := [oX0 a_o a_o_inner a_o_owners a_o_nears a_o_basePlaces a_o_baseFactors a_o_baseStarts v_o_bases v_o_thirds, aI cI a_o_inner 120 f_o_inner, oX4 a_p1 v_p1_wide v_p1_high v_p1_wells a_p1_kinds a_p1_wellPlaces a_p1_wellWorths a_p1_rules, aI cI a_p1_kinds 120 f_p1_kinds]) (q0 := 0) (ci := 4) ⟨hx, hb, hml, hown, hts⟩ (c_X4_kindAt l D cI a_p1 a_p1_kinds a_p1_wellPlaces a_p1_wellWorths a_p1_rules v_p1_wide v_p1_high v_p1_wells f_p1_kinds (x1 + ((x3 + (1 : Int32)) * w4)) (x2 + ((x3 + (1 : Int32)) * w5)) n x36 hc37) mw_2_134 mw_2_135 mw_2_136 mw_1_3 mw_2_137 hd_X4_kindAt ⟨Nat.le_of_ble_eq_true rfl, Nat.le_of_ble_eq_true rfl⟩ hK hN hP hD hS rfl rfl rfl rfl rfl rfl rfl rfl rfl rfl rfl rfl hl.1 rfl (Nat.le_of_ble_eq_true rfl) dX0_closeBay_42 ⟨Nat.le_of_ble_eq_true rfl, Nat.le_of_ble_eq_true rfl⟩ (fun H locs hP hD hS => ?_)
        refine W.eq (g2 := F0 m 45 ls [.int x36]) rfl ?_
        refine lv_if_ne (tgt := 54) hx hb dX0_closeBay_45 (by decide) (fun c38 => ?_) (fun c38 => ?_)
        · replace h := cz_f c38 h
          exact hX7 _ _ _ _ (cz_i h).symm hP hD hS (lv_sub hl [0, 1, 3, 4, 5, 6, 7, 8] rfl)
        · replace h := cz_t c38 h
          obtain ⟨x39, ex39⟩ : ∃ z : Int32, z = x3 + (1 : Int32) := ⟨_, rfl⟩
          replace h := cz_ltE ex39 h
          refine lv_iinc (v := x39) (lv' := [(8, .int x39), (0, .ref a_o), (1, .ref a_p1), (2, .int w2), (3, .int w3), (4, .int w4), (5, .int w5), (6, .int x1), (7, .int x2)]) hx hb dX0_closeBay_48 hl (k := 8) rfl (by rw [ex39]; rfl) (by decide) rfl (fun ls hl => ?_)
          refine lv_goto (tgt := 15) hx hb dX0_closeBay_51 (by decide) ?_
          exact ih34 _ _ _ _ h hP hD hS (lv_sub hl [1, 2, 3, 4, 5, 6, 7, 8, 0] rfl)
  exact hL8 n _ _ _ _ hE5 hP hD hS (lv_sub hl [3, 4, 5, 6, 7, 8, 2, 1, 0] rfl)
set_option maxHeartbeats 4000000 in
set_option maxRecDepth 100000 in
theorem c_X0_closeBays (l : Launch) (D : va_G) (cI : ClassId) (a_o a_o_inner a_p1 a_p1_kinds a_o_owners a_o_nears a_o_basePlaces a_o_baseFactors a_o_baseStarts a_p1_wellPlaces a_p1_wellWorths a_p1_rules : Nat) (v_o_bases : Int32) (v_o_thirds : Int32) (f_o_inner : (Nat → Int32)) (v_p1_wide : Int32) (v_p1_high : Int32) (v_p1_wells : Int32) (f_p1_kinds : (Nat → Int32)) (w2 : Int32) (n : Nat) (r_f_o_inner : (Nat → Int32)) (h : f_X0_closeBays n f_o_inner f_p1_kinds w2 = some r_f_o_inner) : cz_M l yX0_closeBays cX0_closeBays 5 none 2 52 D cI [.ref a_o, .ref a_p1, .int w2] [oX0 a_o a_o_inner a_o_owners a_o_nears a_o_basePlaces a_o_baseFactors a_o_baseStarts v_o_bases v_o_thirds, aI cI a_o_inner 120 f_o_inner, oX4 a_p1 v_p1_wide v_p1_high v_p1_wells a_p1_kinds a_p1_wellPlaces a_p1_wellWorths a_p1_rules, aI cI a_p1_kinds 120 f_p1_kinds] none [oX0 a_o a_o_inner a_o_owners a_o_nears a_o_basePlaces a_o_baseFactors a_o_baseStarts v_o_bases v_o_thirds, aI cI a_o_inner 120 r_f_o_inner, oX4 a_p1 v_p1_wide v_p1_high v_p1_wells a_p1_kinds a_p1_wellPlaces a_p1_wellWorths a_p1_rules, aI cI a_p1_kinds 120 f_p1_kinds] := by
  refine cz_startV (by decide) (Nat.le_of_ble_eq_true rfl) ?_
  intro p e s m ag below meth c A Q hx hb hml hown hts hK hN hQ H locs hP hD hS ls hl
  replace hown : s.vm.findClass RX0 = some m.cls := hown
  replace hl : lv_has ls 5 [(0, .ref a_o), (1, .ref a_p1), (2, .int w2)] := hl
  unfold f_X0_closeBays at h
  refine lv_aload_n hx hb dX0_closeBays_0 rfl (lv_at hl 0 rfl) ?_
  refine va_get (D := D) (ci := 0) (v := .ref a_o_inner) (C := RX0) (T := TX0) (N := 8) hx hb hts in_X0 hown hK hP 0 rfl rfl 0 (by decide) (hts _ mw_1_109) (fun _ h9 => h9) rfl dX0_closeBays_1 ?_
  refine lv_bipush (v := (-9 : Int32)) hx hb dX0_closeBays_4 (by decide) ?_
  obtain ⟨g1, hc2, h⟩ := cz_e1 h
  refine cz_callS (As := [.ref a_o_inner, .int (-9 : Int32)]) (rest := []) (is := [1]) (isR := [0, 2, 3]) (rs := [oX0 a_o a_o_inner a_o_owners a_o_nears a_o_basePlaces a_o_baseFactors a_o_baseStarts v_o_bases v_o_thirds, oX4 a_p1 v_p1_wide v_p1_high v_p1_wells a_p1_kinds a_p1_wellPlaces a_p1_wellWorths a_p1_rules, aI cI a_p1_kinds 120 f_p1_kinds]) (as := [a_o, a_o_inner, a_p1, a_p1_kinds]) (ws1 := [oX0 a_o a_o_inner a_o_owners a_o_nears a_o_basePlaces a_o_baseFactors a_o_baseStarts v_o_bases v_o_thirds, aI cI a_o_inner 120 g1, oX4 a_p1 v_p1_wide v_p1_high v_p1_wells a_p1_kinds a_p1_wellPlaces a_p1_wellWorths a_p1_rules, aI cI a_p1_kinds 120 f_p1_kinds]) ⟨hx, hb, hml, hown, hts⟩ (c_J7_fill_53178 l D cI a_o_inner f_o_inner (-9 : Int32) n g1 hc2) mw_2_128 mw_1_71 mw_1_5 mw_1_72 hd_J7_fill_53178 ⟨Nat.le_of_ble_eq_true rfl, Nat.le_of_ble_eq_true rfl⟩ hK hN hP hD hS rfl rfl rfl rfl rfl rfl rfl rfl rfl hl.1 rfl (Nat.le_of_ble_eq_true rfl) dX0_closeBays_6 ⟨Nat.le_of_ble_eq_true rfl, Nat.le_of_ble_eq_true rfl⟩ (fun H locs hP hD hS => ?_)
  refine W.eq (g2 := F0 m 9 ls []) rfl ?_
  refine lv_iconst (v := (0 : Int32)) hx hb dX0_closeBays_9 (by decide) ?_
  refine lv_istore_n (lv' := [(3, .int (0 : Int32)), (0, .ref a_o), (1, .ref a_p1), (2, .int w2)]) hx hb dX0_closeBays_10 rfl hl (by decide) rfl (fun ls hl => ?_)
  obtain ⟨z5, hE6, hz7⟩ := cz_x2 h
  have hX8 : ∀ (y11 : Int32) (q12 : (Nat → Int32)) (H : Heap) (locs : List Loc) (ls : Array Slot), z5 = (y11, q12) → va_P D vwCl [oX0 a_o a_o_inner a_o_owners a_o_nears a_o_basePlaces a_o_baseFactors a_o_baseStarts v_o_bases v_o_thirds, aI cI a_o_inner 120 q12, oX4 a_p1 v_p1_wide v_p1_high v_p1_wells a_p1_kinds a_p1_wellPlaces a_p1_wellWorths a_p1_rules, aI cI a_p1_kinds 120 f_p1_kinds] H → va_D A [oX0 a_o a_o_inner a_o_owners a_o_nears a_o_basePlaces a_o_baseFactors a_o_baseStarts v_o_bases v_o_thirds, aI cI a_o_inner 120 q12, oX4 a_p1 v_p1_wide v_p1_high v_p1_wells a_p1_kinds a_p1_wellPlaces a_p1_wellWorths a_p1_rules, aI cI a_p1_kinds 120 f_p1_kinds] → va_S A s.heap H locs → lv_has ls 5 [] → W p l e (cz_rm 2 52) s m ag below meth c H locs 0 0 Q (F0 m 60 ls []) := by
    intro y11 q12 H locs ls h hP hD hS hl
    replace h := hz7 _ _ h
    obtain rfl := cz_i h
    exact hQ _ _ _ _ hP hS dX0_closeBays_60
  clear h
  have hL9 : ∀ (k : Nat) (x3 : Int32) (g4 : (Nat → Int32)) (H : Heap) (locs : List Loc) (ls : Array Slot), f_X0_closeBays_L11 n f_p1_kinds w2 k x3 g4 = some z5 → va_P D vwCl [oX0 a_o a_o_inner a_o_owners a_o_nears a_o_basePlaces a_o_baseFactors a_o_baseStarts v_o_bases v_o_thirds, aI cI a_o_inner 120 g4, oX4 a_p1 v_p1_wide v_p1_high v_p1_wells a_p1_kinds a_p1_wellPlaces a_p1_wellWorths a_p1_rules, aI cI a_p1_kinds 120 f_p1_kinds] H → va_D A [oX0 a_o a_o_inner a_o_owners a_o_nears a_o_basePlaces a_o_baseFactors a_o_baseStarts v_o_bases v_o_thirds, aI cI a_o_inner 120 g4, oX4 a_p1 v_p1_wide v_p1_high v_p1_wells a_p1_kinds a_p1_wellPlaces a_p1_wellWorths a_p1_rules, aI cI a_p1_kinds 120 f_p1_kinds] → va_S A s.heap H locs → lv_has ls 5 [(0, .ref a_o), (1, .ref a_p1), (2, .int w2), (3, .int x3)] → W p l e (cz_rm 2 52) s m ag below meth c H locs 0 0 Q (F0 m 11 ls []) := by
    intro k
    induction k with
    | zero =>
      intro x3 g4 H locs ls h
      rw [f_X0_closeBays_L11] at h
      cases h
    | succ k ih13 =>
      intro x3 g4 H locs ls h hP hD hS hl
      rw [f_X0_closeBays_L11] at h
      refine lv_iload_n hx hb dX0_closeBays_11 rfl (lv_at hl 3 rfl) ?_
      refine lv_bipush (v := (120 : Int32)) hx hb dX0_closeBays_12 (by decide) ?_
      refine lv_icmp_ge (tgt := 60) hx hb dX0_closeBays_14 (by decide) (fun c14 => ?_) (fun c14 => ?_)
      · replace h := cz_t c14 h
        exact hX8 _ _ _ _ _ (cz_i h).symm hP hD hS (lv_sub hl [] rfl)
      · replace h := cz_f c14 h
        refine lv_aload_n hx hb dX0_closeBays_17 rfl (lv_at hl 1 rfl) ?_
        refine lv_iload_n hx hb dX0_closeBays_18 rfl (lv_at hl 3 rfl) ?_
        obtain ⟨x15, hc16, h⟩ := cz_e1 h
        refine cz_callV (As := [.int x3]) (rest := []) (is := [2, 3]) (isR := [0, 1]) (rs := [oX0 a_o a_o_inner a_o_owners a_o_nears a_o_basePlaces a_o_baseFactors a_o_baseStarts v_o_bases v_o_thirds, aI cI a_o_inner 120 g4]) (as := [a_o, a_o_inner, a_p1, a_p1_kinds]) (ws1 := [oX0 a_o a_o_inner a_o_owners a_o_nears a_o_basePlaces a_o_baseFactors a_o_baseStarts v_o_bases v_o_thirds, aI cI a_o_inner 120 g4, oX4 a_p1 v_p1_wide v_p1_high v_p1_wells a_p1_kinds a_p1_wellPlaces a_p1_wellWorths a_p1_rules, aI cI a_p1_kinds 120 f_p1_kinds]) (q0 := 0) (ci := 4) ⟨hx, hb, hml, hown, hts⟩ (c_X4_kindOf l D cI a_p1 a_p1_kinds a_p1_wellPlaces a_p1_wellWorths a_p1_rules v_p1_wide v_p1_high v_p1_wells f_p1_kinds x3 n x15 hc16) mw_2_129 mw_2_93 mw_2_94 mw_1_3 mw_2_95 hd_X4_kindOf ⟨Nat.le_of_ble_eq_true rfl, Nat.le_of_ble_eq_true rfl⟩ hK hN hP hD hS rfl rfl rfl rfl rfl rfl rfl rfl rfl rfl rfl rfl hl.1 rfl (Nat.le_of_ble_eq_true rfl) dX0_closeBays_19 ⟨Nat.le_of_ble_eq_true rfl, Nat.le_of_ble_eq_true rfl⟩ (fun H locs hP hD hS => ?_)
        refine W.eq (g2 := F0 m 22 ls [.int x15]) rfl ?_
        refine lv_istore (lv' := [(4, .int x15), (0, .ref a_o), (1, .ref a_p1), (2, .int w2), (3, .int x3)]) hx hb dX0_closeBays_22 hl (by decide) rfl (fun ls hl => ?_)
        refine lv_iload hx hb dX0_closeBays_24 (lv_at hl 0 rfl) ?_
        refine lv_iconst (v := (1 : Int32)) hx hb dX0_closeBays_26 (by decide) ?_
        obtain ⟨z21, hE19, hz18⟩ := cz_x1 h
        have hJ20 : ∀ (g17 : (Nat → Int32)) (H : Heap) (locs : List Loc) (ls : Array Slot), z21 = g17 → va_P D vwCl [oX0 a_o a_o_inner a_o_owners a_o_nears a_o_basePlaces a_o_baseFactors a_o_baseStarts v_o_bases v_o_thirds, aI cI a_o_inner 120 g17, oX4 a_p1 v_p1_wide v_p1_high v_p1_wells a_p1_kinds a_p1_wellPlaces a_p1_wellWorths a_p1_rules, aI cI a_p1_kinds 120 f_p1_kinds] H → va_D A [oX0 a_o a_o_inner a_o_owners a_o_nears a_o_basePlaces a_o_baseFactors a_o_baseStarts v_o_bases v_o_thirds, aI cI a_o_inner 120 g17, oX4 a_p1 v_p1_wide v_p1_high v_p1_wells a_p1_kinds a_p1_wellPlaces a_p1_wellWorths a_p1_rules, aI cI a_p1_kinds 120 f_p1_kinds] → va_S A s.heap H locs → lv_has ls 5 [(0, .ref a_o), (1, .ref a_p1), (2, .int w2), (3, .int x3)] → W p l e (cz_rm 2 52) s m ag below meth c H locs 0 0 Q (F0 m 54 ls []) := by
          intro g17 H locs ls h hP hD hS hl
          replace h := hz18 _ h
          obtain ⟨x22, ex22⟩ : ∃ z : Int32, z = x3 + (1 : Int32) := ⟨_, rfl⟩
          replace h := cz_ltE ex22 h
          refine lv_iinc (v := x22) (lv' := [(3, .int x22), (0, .ref a_o), (1, .ref a_p1), (2, .int w2)]) hx hb dX0_closeBays_54 hl (k := 3) rfl (by rw [ex22]; rfl) (by decide) rfl (fun ls hl => ?_)
          refine lv_goto (tgt := 11) hx hb dX0_closeBays_57 (by decide) ?_
          exact ih13 _ _ _ _ _ h hP hD hS (lv_sub hl [1, 2, 3, 0] rfl)
        clear h
        have h := hE19
        refine lv_icmp_lt (tgt := 54) hx hb dX0_closeBays_27 (by decide) (fun c23 => ?_) (fun c23 => ?_)
        · replace h := cz_t c23 h
          exact hJ20 _ _ _ _ (cz_i h).symm hP hD hS (lv_sub hl [1, 2, 3, 4] rfl)
        · replace h := cz_f c23 h
          refine lv_iload hx hb dX0_closeBays_30 (lv_at hl 0 rfl) ?_
          refine lv_iconst (v := (4 : Int32)) hx hb dX0_closeBays_32 (by decide) ?_
          refine lv_icmp_ge (tgt := 54) hx hb dX0_closeBays_33 (by decide) (fun c24 => ?_) (fun c24 => ?_)
          · replace h := cz_t c24 h
            exact hJ20 _ _ _ _ (cz_i h).symm hP hD hS (lv_sub hl [1, 2, 3, 4] rfl)
          · replace h := cz_f c24 h
            refine lv_aload_n hx hb dX0_closeBays_36 rfl (lv_at hl 1 rfl) ?_
            refine lv_aload_n hx hb dX0_closeBays_37 rfl (lv_at hl 2 rfl) ?_
            refine lv_iload_n hx hb dX0_closeBays_38 rfl (lv_at hl 3 rfl) ?_
            refine lv_iload_n hx hb dX0_closeBays_39 rfl (lv_at hl 4 rfl) ?_
            refine lv_iconst (v := (1 : Int32)) hx hb dX0_closeBays_40 (by decide) ?_
            refine lv_iconst (v := (0 : Int32)) hx hb dX0_closeBays_41 (by decide) ?_
            obtain ⟨g25, hc26, h⟩ := cz_e1 h
            refine cz_callV (As := [.ref a_p1, .int w2, .int x3, .int (1 : Int32), .int (0 : Int32)]) (rest := []) (is := [0, 1, 2, 3]) (isR := []) (rs := []) (as := [a_o, a_o_inner, a_p1, a_p1_kinds]) (ws1 := [oX0 a_o a_o_inner a_o_owners a_o_nears a_o_basePlaces a_o_baseFactors a_o_baseStarts v_o_bases v_o_thirds, aI cI a_o_inner 120 g25, oX4 a_p1 v_p1_wide v_p1_high v_p1_wells a_p1_kinds a_p1_wellPlaces a_p1_wellWorths a_p1_rules, aI cI a_p1_kinds 120 f_p1_kinds]) (q0 := 0) (ci := 0) ⟨hx, hb, hml, hown, hts⟩ (c_X0_closeBay l D cI a_o a_o_inner a_p1 a_p1_kinds a_o_owners a_o_nears a_o_basePlaces a_o_baseFactors a_o_baseStarts a_p1_wellPlaces a_p1_wellWorths a_p1_rules v_o_bases v_o_thirds g4 v_p1_wide v_p1_high v_p1_wells f_p1_kinds w2 x3 (1 : Int32) (0 : Int32) n g25 hc26) mw_2_130 mw_2_131 mw_2_132 mw_1_6 mw_2_133 hd_X0_closeBay ⟨Nat.le_of_ble_eq_true rfl, Nat.le_of_ble_eq_true rfl⟩ hK hN hP hD hS rfl rfl rfl rfl rfl rfl rfl rfl rfl rfl rfl rfl hl.1 rfl (Nat.le_of_ble_eq_true rfl) dX0_closeBays_42 ⟨Nat.le_of_ble_eq_true rfl, Nat.le_of_ble_eq_true rfl⟩ (fun H locs hP hD hS => ?_)
            refine W.eq (g2 := F0 m 45 ls []) rfl ?_
            refine lv_aload_n hx hb dX0_closeBays_45 rfl (lv_at hl 1 rfl) ?_
            refine lv_aload_n hx hb dX0_closeBays_46 rfl (lv_at hl 2 rfl) ?_
            refine lv_iload_n hx hb dX0_closeBays_47 rfl (lv_at hl 3 rfl) ?_
            refine lv_iload_n hx hb dX0_closeBays_48 rfl (lv_at hl 4 rfl) ?_
            refine lv_iconst (v := (0 : Int32)) hx hb dX0_closeBays_49 (by decide) ?_
            refine lv_iconst (v := (1 : Int32)) hx hb dX0_closeBays_50 (by decide) ?_
            obtain ⟨g27, hc28, h⟩ := cz_e1 h
            refine cz_callV (As := [.ref a_p1, .int w2, .int x3, .int (0 : Int32), .int (1 : Int32)]) (rest := []) (is := [0, 1, 2, 3]) (isR := []) (rs := []) (as := [a_o, a_o_inner, a_p1, a_p1_kinds]) (ws1 := [oX0 a_o a_o_inner a_o_owners a_o_nears a_o_basePlaces a_o_baseFactors a_o_baseStarts v_o_bases v_o_thirds, aI cI a_o_inner 120 g27, oX4 a_p1 v_p1_wide v_p1_high v_p1_wells a_p1_kinds a_p1_wellPlaces a_p1_wellWorths a_p1_rules, aI cI a_p1_kinds 120 f_p1_kinds]) (q0 := 0) (ci := 0) ⟨hx, hb, hml, hown, hts⟩ (c_X0_closeBay l D cI a_o a_o_inner a_p1 a_p1_kinds a_o_owners a_o_nears a_o_basePlaces a_o_baseFactors a_o_baseStarts a_p1_wellPlaces a_p1_wellWorths a_p1_rules v_o_bases v_o_thirds g25 v_p1_wide v_p1_high v_p1_wells f_p1_kinds w2 x3 (0 : Int32) (1 : Int32) n g27 hc28) mw_2_130 mw_2_131 mw_2_132 mw_1_6 mw_2_133 hd_X0_closeBay ⟨Nat.le_of_ble_eq_true rfl, Nat.le_of_ble_eq_true rfl⟩ hK hN hP hD hS rfl rfl rfl rfl rfl rfl rfl rfl rfl rfl rfl rfl hl.1 rfl (Nat.le_of_ble_eq_true rfl) dX0_closeBays_51 ⟨Nat.le_of_ble_eq_true rfl, Nat.le_of_ble_eq_true rfl⟩ (fun H locs hP hD hS => ?_)
            refine W.eq (g2 := F0 m 54 ls []) rfl ?_
            exact hJ20 _ _ _ _ (cz_i h).symm hP hD hS (lv_sub hl [1, 2, 3, 4] rfl)
  exact hL9 n _ _ _ _ _ hE6 hP hD hS (lv_sub hl [1, 2, 3, 0] rfl)
set_option maxHeartbeats 4000000 in
set_option maxRecDepth 100000 in
theorem c_X0_addBase (l : Launch) (D : va_G) (cI : ClassId) (a_o a_o_basePlaces a_o_baseFactors a_o_inner a_o_owners a_o_nears a_o_baseStarts : Nat) (v_o_bases : Int32) (v_o_thirds : Int32) (f_o_basePlaces : (Nat → Int32)) (f_o_baseFactors : (Nat → Int32)) (w1 : Int32) (w2 : Int32) (n : Nat) (r_v_o_bases : Int32) (r_f_o_basePlaces : (Nat → Int32)) (r_f_o_baseFactors : (Nat → Int32)) (h : f_X0_addBase n v_o_bases f_o_basePlaces f_o_baseFactors w1 w2 = some (r_v_o_bases, r_f_o_basePlaces, r_f_o_baseFactors)) : cz_M l yX0_addBase cX0_addBase 3 none 0 0 D cI [.ref a_o, .int w1, .int w2] [oX0 a_o a_o_inner a_o_owners a_o_nears a_o_basePlaces a_o_baseFactors a_o_baseStarts v_o_bases v_o_thirds, aI cI a_o_basePlaces 120 f_o_basePlaces, aI cI a_o_baseFactors 120 f_o_baseFactors] none [oX0 a_o a_o_inner a_o_owners a_o_nears a_o_basePlaces a_o_baseFactors a_o_baseStarts r_v_o_bases v_o_thirds, aI cI a_o_basePlaces 120 r_f_o_basePlaces, aI cI a_o_baseFactors 120 r_f_o_baseFactors] := by
  refine cz_startV (by decide) (Nat.le_of_ble_eq_true rfl) ?_
  intro p e s m ag below meth c A Q hx hb hml hown hts hK hN hQ H locs hP hD hS ls hl
  replace hown : s.vm.findClass RX0 = some m.cls := hown
  replace hl : lv_has ls 3 [(0, .ref a_o), (1, .int w1), (2, .int w2)] := hl
  unfold f_X0_addBase at h
  refine lv_aload_n hx hb dX0_addBase_0 rfl (lv_at hl 0 rfl) ?_
  refine va_get (D := D) (ci := 0) (v := .int v_o_bases) (C := RX0) (T := TX0) (N := 8) hx hb hts in_X0 hown hK hP 0 rfl rfl 6 (by decide) (hts _ mw_1_115) (fun _ h9 => h9) rfl dX0_addBase_1 ?_
  refine lv_if_lt (tgt := 46) hx hb dX0_addBase_4 (by decide) (fun c1 => ?_) (fun c1 => ?_)
  · replace h := cz_t c1 h
    obtain ⟨rfl, rfl, rfl⟩ := cz_j3 (cz_i h)
    exact hQ _ _ _ _ hP hS dX0_addBase_46
  · replace h := cz_f c1 h
    refine lv_aload_n hx hb dX0_addBase_7 rfl (lv_at hl 0 rfl) ?_
    refine va_get (D := D) (ci := 0) (v := .int v_o_bases) (C := RX0) (T := TX0) (N := 8) hx hb hts in_X0 hown hK hP 0 rfl rfl 6 (by decide) (hts _ mw_1_115) (fun _ h9 => h9) rfl dX0_addBase_8 ?_
    refine lv_bipush (v := (120 : Int32)) hx hb dX0_addBase_11 (by decide) ?_
    refine lv_icmp_ge (tgt := 46) hx hb dX0_addBase_13 (by decide) (fun c2 => ?_) (fun c2 => ?_)
    · replace h := cz_t c2 h
      obtain ⟨rfl, rfl, rfl⟩ := cz_j3 (cz_i h)
      exact hQ _ _ _ _ hP hS dX0_addBase_46
    · replace h := cz_f c2 h
      refine lv_aload_n hx hb dX0_addBase_16 rfl (lv_at hl 0 rfl) ?_
      refine va_get (D := D) (ci := 0) (v := .ref a_o_basePlaces) (C := RX0) (T := TX0) (N := 8) hx hb hts in_X0 hown hK hP 0 rfl rfl 3 (by decide) (hts _ mw_1_112) (fun _ h9 => h9) rfl dX0_addBase_17 ?_
      refine lv_aload_n hx hb dX0_addBase_20 rfl (lv_at hl 0 rfl) ?_
      refine va_get (D := D) (ci := 0) (v := .int v_o_bases) (C := RX0) (T := TX0) (N := 8) hx hb hts in_X0 hown hK hP 0 rfl rfl 6 (by decide) (hts _ mw_1_115) (fun _ h9 => h9) rfl dX0_addBase_21 ?_
      refine lv_iload_n hx hb dX0_addBase_24 rfl (lv_at hl 1 rfl) ?_
      refine cz_iast hx hb hK hP hD hS 1 0 rfl rfl (cz_wrE h).1 dX0_addBase_25 (fun g3 H locs eg3 hP hD hS => ?_)
      replace h := cz_wrK eg3 h
      replace hP : va_P D vwCl [oX0 a_o a_o_inner a_o_owners a_o_nears a_o_basePlaces a_o_baseFactors a_o_baseStarts v_o_bases v_o_thirds, aI cI a_o_basePlaces 120 g3, aI cI a_o_baseFactors 120 f_o_baseFactors] H := hP
      replace hD : va_D A [oX0 a_o a_o_inner a_o_owners a_o_nears a_o_basePlaces a_o_baseFactors a_o_baseStarts v_o_bases v_o_thirds, aI cI a_o_basePlaces 120 g3, aI cI a_o_baseFactors 120 f_o_baseFactors] := hD
      refine lv_aload_n hx hb dX0_addBase_26 rfl (lv_at hl 0 rfl) ?_
      refine va_get (D := D) (ci := 0) (v := .ref a_o_baseFactors) (C := RX0) (T := TX0) (N := 8) hx hb hts in_X0 hown hK hP 0 rfl rfl 4 (by decide) (hts _ mw_1_113) (fun _ h9 => h9) rfl dX0_addBase_27 ?_
      refine lv_aload_n hx hb dX0_addBase_30 rfl (lv_at hl 0 rfl) ?_
      refine va_get (D := D) (ci := 0) (v := .int v_o_bases) (C := RX0) (T := TX0) (N := 8) hx hb hts in_X0 hown hK hP 0 rfl rfl 6 (by decide) (hts _ mw_1_115) (fun _ h9 => h9) rfl dX0_addBase_31 ?_
      refine lv_iload_n hx hb dX0_addBase_34 rfl (lv_at hl 2 rfl) ?_
      refine cz_iast hx hb hK hP hD hS 2 0 rfl rfl (cz_wrE h).1 dX0_addBase_35 (fun g4 H locs eg4 hP hD hS => ?_)
      replace h := cz_wrK eg4 h
      replace hP : va_P D vwCl [oX0 a_o a_o_inner a_o_owners a_o_nears a_o_basePlaces a_o_baseFactors a_o_baseStarts v_o_bases v_o_thirds, aI cI a_o_basePlaces 120 g3, aI cI a_o_baseFactors 120 g4] H := hP
      replace hD : va_D A [oX0 a_o a_o_inner a_o_owners a_o_nears a_o_basePlaces a_o_baseFactors a_o_baseStarts v_o_bases v_o_thirds, aI cI a_o_basePlaces 120 g3, aI cI a_o_baseFactors 120 g4] := hD
      refine lv_aload_n hx hb dX0_addBase_36 rfl (lv_at hl 0 rfl) ?_
      refine lv_dup hx hb dX0_addBase_37 rfl ?_
      refine va_get (D := D) (ci := 0) (v := .int v_o_bases) (C := RX0) (T := TX0) (N := 8) hx hb hts in_X0 hown hK hP 0 rfl rfl 6 (by decide) (hts _ mw_1_115) (fun _ h9 => h9) rfl dX0_addBase_38 ?_
      refine lv_iconst (v := (1 : Int32)) hx hb dX0_addBase_41 (by decide) ?_
      refine lv_iadd hx hb dX0_addBase_42 ?_
      refine lv_topi (fun x5 ex5 => ?_)
      replace h := cz_ltE ex5 h
      refine va_put (D := D) (ci := 0) (v := .int x5) (ty := .int) (C := RX0) (T := TX0) (N := 8) hx hb hts in_X0 tyX0 tyX0_ok nmX0 hown hK hP hD hS 0 rfl rfl 6 (by decide) (hts _ mw_1_115) (fun _ h9 => h9) rfl (by decide +kernel) rfl rfl (Nat.le_of_ble_eq_true rfl) dX0_addBase_43 (fun H locs hP hD hS => ?_)
      replace hP : va_P D vwCl [oX0 a_o a_o_inner a_o_owners a_o_nears a_o_basePlaces a_o_baseFactors a_o_baseStarts x5 v_o_thirds, aI cI a_o_basePlaces 120 g3, aI cI a_o_baseFactors 120 g4] H := hP
      replace hD : va_D A [oX0 a_o a_o_inner a_o_owners a_o_nears a_o_basePlaces a_o_baseFactors a_o_baseStarts x5 v_o_thirds, aI cI a_o_basePlaces 120 g3, aI cI a_o_baseFactors 120 g4] := hD
      obtain ⟨rfl, rfl, rfl⟩ := cz_j3 (cz_i h)
      exact hQ _ _ _ _ hP hS dX0_addBase_46
set_option maxHeartbeats 4000000 in
set_option maxRecDepth 100000 in
theorem c_X0_layBases (l : Launch) (D : va_G) (cI : ClassId) (a_o a_o_inner a_o_basePlaces a_o_baseFactors a_o_baseStarts a_p1 a_p1_kinds a_o_owners a_o_nears a_p1_wellPlaces a_p1_wellWorths a_p1_rules : Nat) (v_o_bases : Int32) (v_o_thirds : Int32) (f_o_inner : (Nat → Int32)) (f_o_basePlaces : (Nat → Int32)) (f_o_baseFactors : (Nat → Int32)) (f_o_baseStarts : (Nat → Int32)) (v_p1_wide : Int32) (v_p1_high : Int32) (v_p1_wells : Int32) (f_p1_kinds : (Nat → Int32)) (w2 : Int32) (n : Nat) (r_v_o_bases : Int32) (r_f_o_basePlaces : (Nat → Int32)) (r_f_o_baseFactors : (Nat → Int32)) (r_f_o_baseStarts : (Nat → Int32)) (h : f_X0_layBases n v_o_bases f_o_inner f_o_basePlaces f_o_baseFactors f_o_baseStarts f_p1_kinds w2 = some (r_v_o_bases, r_f_o_basePlaces, r_f_o_baseFactors, r_f_o_baseStarts)) : cz_M l yX0_layBases cX0_layBases 6 none 1 22 D cI [.ref a_o, .ref a_p1, .int w2] [oX0 a_o a_o_inner a_o_owners a_o_nears a_o_basePlaces a_o_baseFactors a_o_baseStarts v_o_bases v_o_thirds, aI cI a_o_inner 120 f_o_inner, aI cI a_o_basePlaces 120 f_o_basePlaces, aI cI a_o_baseFactors 120 f_o_baseFactors, aI cI a_o_baseStarts 4 f_o_baseStarts, oX4 a_p1 v_p1_wide v_p1_high v_p1_wells a_p1_kinds a_p1_wellPlaces a_p1_wellWorths a_p1_rules, aI cI a_p1_kinds 120 f_p1_kinds] none [oX0 a_o a_o_inner a_o_owners a_o_nears a_o_basePlaces a_o_baseFactors a_o_baseStarts r_v_o_bases v_o_thirds, aI cI a_o_inner 120 f_o_inner, aI cI a_o_basePlaces 120 r_f_o_basePlaces, aI cI a_o_baseFactors 120 r_f_o_baseFactors, aI cI a_o_baseStarts 4 r_f_o_baseStarts, oX4 a_p1 v_p1_wide v_p1_high v_p1_wells a_p1_kinds a_p1_wellPlaces a_p1_wellWorths a_p1_rules, aI cI a_p1_kinds 120 f_p1_kinds] := by
  refine cz_startV (by decide) (Nat.le_of_ble_eq_true rfl) ?_
  intro p e s m ag below meth c A Q hx hb hml hown hts hK hN hQ H locs hP hD hS ls hl
  replace hown : s.vm.findClass RX0 = some m.cls := hown
  replace hl : lv_has ls 6 [(0, .ref a_o), (1, .ref a_p1), (2, .int w2)] := hl
  unfold f_X0_layBases at h
  refine lv_aload_n hx hb dX0_layBases_0 rfl (lv_at hl 0 rfl) ?_
  refine lv_iconst (v := (0 : Int32)) hx hb dX0_layBases_1 (by decide) ?_
  refine va_put (D := D) (ci := 0) (v := .int (0 : Int32)) (ty := .int) (C := RX0) (T := TX0) (N := 8) hx hb hts in_X0 tyX0 tyX0_ok nmX0 hown hK hP hD hS 0 rfl rfl 6 (by decide) (hts _ mw_1_115) (fun _ h9 => h9) rfl (by decide +kernel) rfl rfl (Nat.le_of_ble_eq_true rfl) dX0_layBases_2 (fun H locs hP hD hS => ?_)
  replace hP : va_P D vwCl [oX0 a_o a_o_inner a_o_owners a_o_nears a_o_basePlaces a_o_baseFactors a_o_baseStarts (0 : Int32) v_o_thirds, aI cI a_o_inner 120 f_o_inner, aI cI a_o_basePlaces 120 f_o_basePlaces, aI cI a_o_baseFactors 120 f_o_baseFactors, aI cI a_o_baseStarts 4 f_o_baseStarts, oX4 a_p1 v_p1_wide v_p1_high v_p1_wells a_p1_kinds a_p1_wellPlaces a_p1_wellWorths a_p1_rules, aI cI a_p1_kinds 120 f_p1_kinds] H := hP
  replace hD : va_D A [oX0 a_o a_o_inner a_o_owners a_o_nears a_o_basePlaces a_o_baseFactors a_o_baseStarts (0 : Int32) v_o_thirds, aI cI a_o_inner 120 f_o_inner, aI cI a_o_basePlaces 120 f_o_basePlaces, aI cI a_o_baseFactors 120 f_o_baseFactors, aI cI a_o_baseStarts 4 f_o_baseStarts, oX4 a_p1 v_p1_wide v_p1_high v_p1_wells a_p1_kinds a_p1_wellPlaces a_p1_wellWorths a_p1_rules, aI cI a_p1_kinds 120 f_p1_kinds] := hD
  refine lv_iconst (v := (0 : Int32)) hx hb dX0_layBases_5 (by decide) ?_
  refine lv_istore_n (lv' := [(3, .int (0 : Int32)), (0, .ref a_o), (1, .ref a_p1), (2, .int w2)]) hx hb dX0_layBases_6 rfl hl (by decide) rfl (fun ls hl => ?_)
  obtain ⟨z6, hE7, hz8⟩ := cz_x5 h
  have hX9 : ∀ (y12 : Int32) (y13 : Int32) (q14 : (Nat → Int32)) (q15 : (Nat → Int32)) (q16 : (Nat → Int32)) (H : Heap) (locs : List Loc) (ls : Array Slot), z6 = (y12, y13, q14, q15, q16) → va_P D vwCl [oX0 a_o a_o_inner a_o_owners a_o_nears a_o_basePlaces a_o_baseFactors a_o_baseStarts y13 v_o_thirds, aI cI a_o_inner 120 f_o_inner, aI cI a_o_basePlaces 120 q14, aI cI a_o_baseFactors 120 q15, aI cI a_o_baseStarts 4 q16, oX4 a_p1 v_p1_wide v_p1_high v_p1_wells a_p1_kinds a_p1_wellPlaces a_p1_wellWorths a_p1_rules, aI cI a_p1_kinds 120 f_p1_kinds] H → va_D A [oX0 a_o a_o_inner a_o_owners a_o_nears a_o_basePlaces a_o_baseFactors a_o_baseStarts y13 v_o_thirds, aI cI a_o_inner 120 f_o_inner, aI cI a_o_basePlaces 120 q14, aI cI a_o_baseFactors 120 q15, aI cI a_o_baseStarts 4 q16, oX4 a_p1 v_p1_wide v_p1_high v_p1_wells a_p1_kinds a_p1_wellPlaces a_p1_wellWorths a_p1_rules, aI cI a_p1_kinds 120 f_p1_kinds] → va_S A s.heap H locs → lv_has ls 6 [(0, .ref a_o)] → W p l e (cz_rm 1 22) s m ag below meth c H locs 0 0 Q (F0 m 109 ls []) := by
    intro y12 y13 q14 q15 q16 H locs ls h hP hD hS hl
    replace h := hz8 _ _ _ _ _ h
    refine lv_aload_n hx hb dX0_layBases_109 rfl (lv_at hl 0 rfl) ?_
    refine va_get (D := D) (ci := 0) (v := .ref a_o_baseStarts) (C := RX0) (T := TX0) (N := 8) hx hb hts in_X0 hown hK hP 0 rfl rfl 5 (by decide) (hts _ mw_1_114) (fun _ h9 => h9) rfl dX0_layBases_110 ?_
    refine lv_iconst (v := (3 : Int32)) hx hb dX0_layBases_113 (by decide) ?_
    refine lv_aload_n hx hb dX0_layBases_114 rfl (lv_at hl 0 rfl) ?_
    refine va_get (D := D) (ci := 0) (v := .int y13) (C := RX0) (T := TX0) (N := 8) hx hb hts in_X0 hown hK hP 0 rfl rfl 6 (by decide) (hts _ mw_1_115) (fun _ h9 => h9) rfl dX0_layBases_115 ?_
    refine cz_iast hx hb hK hP hD hS 4 0 rfl rfl (cz_wrE h).1 dX0_layBases_118 (fun g17 H locs eg17 hP hD hS => ?_)
    replace h := cz_wrK eg17 h
    replace hP : va_P D vwCl [oX0 a_o a_o_inner a_o_owners a_o_nears a_o_basePlaces a_o_baseFactors a_o_baseStarts y13 v_o_thirds, aI cI a_o_inner 120 f_o_inner, aI cI a_o_basePlaces 120 q14, aI cI a_o_baseFactors 120 q15, aI cI a_o_baseStarts 4 g17, oX4 a_p1 v_p1_wide v_p1_high v_p1_wells a_p1_kinds a_p1_wellPlaces a_p1_wellWorths a_p1_rules, aI cI a_p1_kinds 120 f_p1_kinds] H := hP
    replace hD : va_D A [oX0 a_o a_o_inner a_o_owners a_o_nears a_o_basePlaces a_o_baseFactors a_o_baseStarts y13 v_o_thirds, aI cI a_o_inner 120 f_o_inner, aI cI a_o_basePlaces 120 q14, aI cI a_o_baseFactors 120 q15, aI cI a_o_baseStarts 4 g17, oX4 a_p1 v_p1_wide v_p1_high v_p1_wells a_p1_kinds a_p1_wellPlaces a_p1_wellWorths a_p1_rules, aI cI a_p1_kinds 120 f_p1_kinds] := hD
    obtain ⟨rfl, rfl, rfl, rfl⟩ := cz_j4 (cz_i h)
    exact hQ _ _ _ _ hP hS dX0_layBases_119
  clear h
  have hL10 : ∀ (k : Nat) (x1 : Int32) (x2 : Int32) (g3 : (Nat → Int32)) (g4 : (Nat → Int32)) (g5 : (Nat → Int32)) (H : Heap) (locs : List Loc) (ls : Array Slot), f_X0_layBases_L7 n f_o_inner f_p1_kinds w2 k x1 x2 g3 g4 g5 = some z6 → va_P D vwCl [oX0 a_o a_o_inner a_o_owners a_o_nears a_o_basePlaces a_o_baseFactors a_o_baseStarts x2 v_o_thirds, aI cI a_o_inner 120 f_o_inner, aI cI a_o_basePlaces 120 g3, aI cI a_o_baseFactors 120 g4, aI cI a_o_baseStarts 4 g5, oX4 a_p1 v_p1_wide v_p1_high v_p1_wells a_p1_kinds a_p1_wellPlaces a_p1_wellWorths a_p1_rules, aI cI a_p1_kinds 120 f_p1_kinds] H → va_D A [oX0 a_o a_o_inner a_o_owners a_o_nears a_o_basePlaces a_o_baseFactors a_o_baseStarts x2 v_o_thirds, aI cI a_o_inner 120 f_o_inner, aI cI a_o_basePlaces 120 g3, aI cI a_o_baseFactors 120 g4, aI cI a_o_baseStarts 4 g5, oX4 a_p1 v_p1_wide v_p1_high v_p1_wells a_p1_kinds a_p1_wellPlaces a_p1_wellWorths a_p1_rules, aI cI a_p1_kinds 120 f_p1_kinds] → va_S A s.heap H locs → lv_has ls 6 [(0, .ref a_o), (1, .ref a_p1), (2, .int w2), (3, .int x1)] → W p l e (cz_rm 1 22) s m ag below meth c H locs 0 0 Q (F0 m 7 ls []) := by
    intro k
    induction k with
    | zero =>
      intro x1 x2 g3 g4 g5 H locs ls h
      rw [f_X0_layBases_L7] at h
      cases h
    | succ k ih18 =>
      intro x1 x2 g3 g4 g5 H locs ls h hP hD hS hl
      rw [f_X0_layBases_L7] at h
      refine lv_iload_n hx hb dX0_layBases_7 rfl (lv_at hl 3 rfl) ?_
      refine lv_iconst (v := (3 : Int32)) hx hb dX0_layBases_8 (by decide) ?_
      refine lv_icmp_ge (tgt := 109) hx hb dX0_layBases_9 (by decide) (fun c19 => ?_) (fun c19 => ?_)
      · replace h := cz_t c19 h
        exact hX9 _ _ _ _ _ _ _ _ (cz_i h).symm hP hD hS (lv_sub hl [0] rfl)
      · replace h := cz_f c19 h
        refine lv_aload_n hx hb dX0_layBases_12 rfl (lv_at hl 0 rfl) ?_
        refine va_get (D := D) (ci := 0) (v := .ref a_o_baseStarts) (C := RX0) (T := TX0) (N := 8) hx hb hts in_X0 hown hK hP 0 rfl rfl 5 (by decide) (hts _ mw_1_114) (fun _ h9 => h9) rfl dX0_layBases_13 ?_
        refine lv_iload_n hx hb dX0_layBases_16 rfl (lv_at hl 3 rfl) ?_
        refine lv_aload_n hx hb dX0_layBases_17 rfl (lv_at hl 0 rfl) ?_
        refine va_get (D := D) (ci := 0) (v := .int x2) (C := RX0) (T := TX0) (N := 8) hx hb hts in_X0 hown hK hP 0 rfl rfl 6 (by decide) (hts _ mw_1_115) (fun _ h9 => h9) rfl dX0_layBases_18 ?_
        refine cz_iast hx hb hK hP hD hS 4 0 rfl rfl (cz_wrE h).1 dX0_layBases_21 (fun g20 H locs eg20 hP hD hS => ?_)
        replace h := cz_wrK eg20 h
        replace hP : va_P D vwCl [oX0 a_o a_o_inner a_o_owners a_o_nears a_o_basePlaces a_o_baseFactors a_o_baseStarts x2 v_o_thirds, aI cI a_o_inner 120 f_o_inner, aI cI a_o_basePlaces 120 g3, aI cI a_o_baseFactors 120 g4, aI cI a_o_baseStarts 4 g20, oX4 a_p1 v_p1_wide v_p1_high v_p1_wells a_p1_kinds a_p1_wellPlaces a_p1_wellWorths a_p1_rules, aI cI a_p1_kinds 120 f_p1_kinds] H := hP
        replace hD : va_D A [oX0 a_o a_o_inner a_o_owners a_o_nears a_o_basePlaces a_o_baseFactors a_o_baseStarts x2 v_o_thirds, aI cI a_o_inner 120 f_o_inner, aI cI a_o_basePlaces 120 g3, aI cI a_o_baseFactors 120 g4, aI cI a_o_baseStarts 4 g20, oX4 a_p1 v_p1_wide v_p1_high v_p1_wells a_p1_kinds a_p1_wellPlaces a_p1_wellWorths a_p1_rules, aI cI a_p1_kinds 120 f_p1_kinds] := hD
        refine lv_iconst (v := (0 : Int32)) hx hb dX0_layBases_22 (by decide) ?_
        refine lv_istore (lv' := [(4, .int (0 : Int32)), (0, .ref a_o), (1, .ref a_p1), (2, .int w2), (3, .int x1)]) hx hb dX0_layBases_23 hl (by decide) rfl (fun ls hl => ?_)
        obtain ⟨z25, hE26, hz27⟩ := cz_x4 h
        have hX28 : ∀ (y31 : Int32) (y32 : Int32) (q33 : (Nat → Int32)) (q34 : (Nat → Int32)) (H : Heap) (locs : List Loc) (ls : Array Slot), z25 = (y31, y32, q33, q34) → va_P D vwCl [oX0 a_o a_o_inner a_o_owners a_o_nears a_o_basePlaces a_o_baseFactors a_o_baseStarts y32 v_o_thirds, aI cI a_o_inner 120 f_o_inner, aI cI a_o_basePlaces 120 q33, aI cI a_o_baseFactors 120 q34, aI cI a_o_baseStarts 4 g20, oX4 a_p1 v_p1_wide v_p1_high v_p1_wells a_p1_kinds a_p1_wellPlaces a_p1_wellWorths a_p1_rules, aI cI a_p1_kinds 120 f_p1_kinds] H → va_D A [oX0 a_o a_o_inner a_o_owners a_o_nears a_o_basePlaces a_o_baseFactors a_o_baseStarts y32 v_o_thirds, aI cI a_o_inner 120 f_o_inner, aI cI a_o_basePlaces 120 q33, aI cI a_o_baseFactors 120 q34, aI cI a_o_baseStarts 4 g20, oX4 a_p1 v_p1_wide v_p1_high v_p1_wells a_p1_kinds a_p1_wellPlaces a_p1_wellWorths a_p1_rules, aI cI a_p1_kinds 120 f_p1_kinds] → va_S A s.heap H locs → lv_has ls 6 [(0, .ref a_o), (1, .ref a_p1), (2, .int w2), (3, .int x1)] → W p l e (cz_rm 1 22) s m ag below meth c H locs 0 0 Q (F0 m 103 ls []) := by
          intro y31 y32 q33 q34 H locs ls h hP hD hS hl
          replace h := hz27 _ _ _ _ h
          obtain ⟨x35, ex35⟩ : ∃ z : Int32, z = x1 + (1 : Int32) := ⟨_, rfl⟩
          replace h := cz_ltE ex35 h
          refine lv_iinc (v := x35) (lv' := [(3, .int x35), (0, .ref a_o), (1, .ref a_p1), (2, .int w2)]) hx hb dX0_layBases_103 hl (k := 3) rfl (by rw [ex35]; rfl) (by decide) rfl (fun ls hl => ?_)
          refine lv_goto (tgt := 7) hx hb dX0_layBases_106 (by decide) ?_
          exact ih18 _ _ _ _ _ _ _ _ h hP hD hS (lv_sub hl [1, 2, 3, 0] rfl)
        clear h
        have hL29 : ∀ (k : Nat) (x21 : Int32) (x22 : Int32) (g23 : (Nat → Int32)) (g24 : (Nat → Int32)) (H : Heap) (locs : List Loc) (ls : Array Slot), f_X0_layBases_L25 n f_o_inner f_p1_kinds w2 x1 k x21 x22 g23 g24 = some z25 → va_P D vwCl [oX0 a_o a_o_inner a_o_owners a_o_nears a_o_basePlaces a_o_baseFactors a_o_baseStarts x22 v_o_thirds, aI cI a_o_inner 120 f_o_inner, aI cI a_o_basePlaces 120 g23, aI cI a_o_baseFactors 120 g24, aI cI a_o_baseStarts 4 g20, oX4 a_p1 v_p1_wide v_p1_high v_p1_wells a_p1_kinds a_p1_wellPlaces a_p1_wellWorths a_p1_rules, aI cI a_p1_kinds 120 f_p1_kinds] H → va_D A [oX0 a_o a_o_inner a_o_owners a_o_nears a_o_basePlaces a_o_baseFactors a_o_baseStarts x22 v_o_thirds, aI cI a_o_inner 120 f_o_inner, aI cI a_o_basePlaces 120 g23, aI cI a_o_baseFactors 120 g24, aI cI a_o_baseStarts 4 g20, oX4 a_p1 v_p1_wide v_p1_high v_p1_wells a_p1_kinds a_p1_wellPlaces a_p1_wellWorths a_p1_rules, aI cI a_p1_kinds 120 f_p1_kinds] → va_S A s.heap H locs → lv_has ls 6 [(0, .ref a_o), (1, .ref a_p1), (2, .int w2), (3, .int x1), (4, .int x21)] → W p l e (cz_rm 1 22) s m ag below meth c H locs 0 0 Q (F0 m 25 ls []) := by
          intro k
          induction k with
          | zero =>
            intro x21 x22 g23 g24 H locs ls h
            rw [f_X0_layBases_L25] at h
            cases h
          | succ k ih36 =>
            intro x21 x22 g23 g24 H locs ls h hP hD hS hl
            rw [f_X0_layBases_L25] at h
            refine lv_iload hx hb dX0_layBases_25 (lv_at hl 4 rfl) ?_
            refine lv_bipush (v := (120 : Int32)) hx hb dX0_layBases_27 (by decide) ?_
            refine lv_icmp_ge (tgt := 103) hx hb dX0_layBases_29 (by decide) (fun c37 => ?_) (fun c37 => ?_)
            · replace h := cz_t c37 h
              exact hX28 _ _ _ _ _ _ _ (cz_i h).symm hP hD hS (lv_sub hl [0, 1, 2, 3] rfl)
            · replace h := cz_f c37 h
              refine lv_aload_n hx hb dX0_layBases_32 rfl (lv_at hl 1 rfl) ?_
              refine lv_iload hx hb dX0_layBases_33 (lv_at hl 4 rfl) ?_
              obtain ⟨x38, hc39, h⟩ := cz_e1 h
              refine cz_callV (As := [.int x21]) (rest := []) (is := [5, 6]) (isR := [0, 1, 2, 3, 4]) (rs := [oX0 a_o a_o_inner a_o_owners a_o_nears a_o_basePlaces a_o_baseFactors a_o_baseStarts x22 v_o_thirds, aI cI a_o_inner 120 f_o_inner, aI cI a_o_basePlaces 120 g23, aI cI a_o_baseFactors 120 g24, aI cI a_o_baseStarts 4 g20]) (as := [a_o, a_o_inner, a_o_basePlaces, a_o_baseFactors, a_o_baseStarts, a_p1, a_p1_kinds]) (ws1 := [oX0 a_o a_o_inner a_o_owners a_o_nears a_o_basePlaces a_o_baseFactors a_o_baseStarts x22 v_o_thirds, aI cI a_o_inner 120 f_o_inner, aI cI a_o_basePlaces 120 g23, aI cI a_o_baseFactors 120 g24, aI cI a_o_baseStarts 4 g20, oX4 a_p1 v_p1_wide v_p1_high v_p1_wells a_p1_kinds a_p1_wellPlaces a_p1_wellWorths a_p1_rules, aI cI a_p1_kinds 120 f_p1_kinds]) (q0 := 0) (ci := 4) ⟨hx, hb, hml, hown, hts⟩ (c_X4_kindOf l D cI a_p1 a_p1_kinds a_p1_wellPlaces a_p1_wellWorths a_p1_rules v_p1_wide v_p1_high v_p1_wells f_p1_kinds x21 n x38 hc39) mw_2_129 mw_2_93 mw_2_94 mw_1_3 mw_2_95 hd_X4_kindOf ⟨Nat.le_of_ble_eq_true rfl, Nat.le_of_ble_eq_true rfl⟩ hK hN hP hD hS rfl rfl rfl rfl rfl rfl rfl rfl rfl rfl rfl rfl hl.1 rfl (Nat.le_of_ble_eq_true rfl) dX0_layBases_35 ⟨Nat.le_of_ble_eq_true rfl, Nat.le_of_ble_eq_true rfl⟩ (fun H locs hP hD hS => ?_)
              refine W.eq (g2 := F0 m 38 ls [.int x38]) rfl ?_
              refine lv_istore (lv' := [(5, .int x38), (0, .ref a_o), (1, .ref a_p1), (2, .int w2), (3, .int x1), (4, .int x21)]) hx hb dX0_layBases_38 hl (by decide) rfl (fun ls hl => ?_)
              refine lv_iload hx hb dX0_layBases_40 (lv_at hl 0 rfl) ?_
              refine lv_iconst (v := (1 : Int32)) hx hb dX0_layBases_42 (by decide) ?_
              refine lv_iload_n hx hb dX0_layBases_43 rfl (lv_at hl 4 rfl) ?_
              refine lv_iadd hx hb dX0_layBases_44 ?_
              obtain ⟨z46, hE44, hz43⟩ := cz_x3 h
              have hJ45 : ∀ (x40 : Int32) (g41 : (Nat → Int32)) (g42 : (Nat → Int32)) (H : Heap) (locs : List Loc) (ls : Array Slot), z46 = (x40, g41, g42) → va_P D vwCl [oX0 a_o a_o_inner a_o_owners a_o_nears a_o_basePlaces a_o_baseFactors a_o_baseStarts x40 v_o_thirds, aI cI a_o_inner 120 f_o_inner, aI cI a_o_basePlaces 120 g41, aI cI a_o_baseFactors 120 g42, aI cI a_o_baseStarts 4 g20, oX4 a_p1 v_p1_wide v_p1_high v_p1_wells a_p1_kinds a_p1_wellPlaces a_p1_wellWorths a_p1_rules, aI cI a_p1_kinds 120 f_p1_kinds] H → va_D A [oX0 a_o a_o_inner a_o_owners a_o_nears a_o_basePlaces a_o_baseFactors a_o_baseStarts x40 v_o_thirds, aI cI a_o_inner 120 f_o_inner, aI cI a_o_basePlaces 120 g41, aI cI a_o_baseFactors 120 g42, aI cI a_o_baseStarts 4 g20, oX4 a_p1 v_p1_wide v_p1_high v_p1_wells a_p1_kinds a_p1_wellPlaces a_p1_wellWorths a_p1_rules, aI cI a_p1_kinds 120 f_p1_kinds] → va_S A s.heap H locs → lv_has ls 6 [(0, .ref a_o), (1, .ref a_p1), (2, .int w2), (3, .int x1), (4, .int x21)] → W p l e (cz_rm 1 22) s m ag below meth c H locs 0 0 Q (F0 m 97 ls []) := by
                intro x40 g41 g42 H locs ls h hP hD hS hl
                replace h := hz43 _ _ _ h
                obtain ⟨x47, ex47⟩ : ∃ z : Int32, z = x21 + (1 : Int32) := ⟨_, rfl⟩
                replace h := cz_ltE ex47 h
                refine lv_iinc (v := x47) (lv' := [(4, .int x47), (0, .ref a_o), (1, .ref a_p1), (2, .int w2), (3, .int x1)]) hx hb dX0_layBases_97 hl (k := 4) rfl (by rw [ex47]; rfl) (by decide) rfl (fun ls hl => ?_)
                refine lv_goto (tgt := 25) hx hb dX0_layBases_100 (by decide) ?_
                exact ih36 _ _ _ _ _ _ _ h hP hD hS (lv_sub hl [1, 2, 3, 4, 0] rfl)
              clear h
              have h := hE44
              refine lv_icmp_eq (tgt := 59) hx hb dX0_layBases_45 (by decide) (fun c48 => ?_) (fun c48 => ?_)
              · replace h := cz_t c48 h
                refine lv_aload_n hx hb dX0_layBases_59 rfl (lv_at hl 1 rfl) ?_
                refine lv_iload hx hb dX0_layBases_60 (lv_at hl 5 rfl) ?_
                refine lv_iconst (v := (1 : Int32)) hx hb dX0_layBases_62 (by decide) ?_
                obtain ⟨x49, g50, g51, hc52, h⟩ := cz_e3 h
                refine cz_callV (As := [.int x21, .int (1 : Int32)]) (rest := []) (is := [0, 2, 3]) (isR := [1, 4, 5, 6]) (rs := [aI cI a_o_inner 120 f_o_inner, aI cI a_o_baseStarts 4 g20, oX4 a_p1 v_p1_wide v_p1_high v_p1_wells a_p1_kinds a_p1_wellPlaces a_p1_wellWorths a_p1_rules, aI cI a_p1_kinds 120 f_p1_kinds]) (as := [a_o, a_o_inner, a_o_basePlaces, a_o_baseFactors, a_o_baseStarts, a_p1, a_p1_kinds]) (ws1 := [oX0 a_o a_o_inner a_o_owners a_o_nears a_o_basePlaces a_o_baseFactors a_o_baseStarts x49 v_o_thirds, aI cI a_o_inner 120 f_o_inner, aI cI a_o_basePlaces 120 g50, aI cI a_o_baseFactors 120 g51, aI cI a_o_baseStarts 4 g20, oX4 a_p1 v_p1_wide v_p1_high v_p1_wells a_p1_kinds a_p1_wellPlaces a_p1_wellWorths a_p1_rules, aI cI a_p1_kinds 120 f_p1_kinds]) (q0 := 0) (ci := 0) ⟨hx, hb, hml, hown, hts⟩ (c_X0_addBase l D cI a_o a_o_basePlaces a_o_baseFactors a_o_inner a_o_owners a_o_nears a_o_baseStarts x22 v_o_thirds g23 g24 x21 (1 : Int32) n x49 g50 g51 hc52) mw_2_147 mw_2_148 mw_2_149 mw_1_6 mw_2_150 hd_X0_addBase ⟨Nat.le_of_ble_eq_true rfl, Nat.le_of_ble_eq_true rfl⟩ hK hN hP hD hS rfl rfl rfl rfl rfl rfl rfl rfl rfl rfl rfl rfl hl.1 rfl (Nat.le_of_ble_eq_true rfl) dX0_layBases_63 ⟨Nat.le_of_ble_eq_true rfl, Nat.le_of_ble_eq_true rfl⟩ (fun H locs hP hD hS => ?_)
                refine W.eq (g2 := F0 m 66 ls []) rfl ?_
                refine lv_goto (tgt := 97) hx hb dX0_layBases_66 (by decide) ?_
                exact hJ45 _ _ _ _ _ _ (cz_i h).symm hP hD hS (lv_sub hl [1, 2, 3, 4, 5] rfl)
              · replace h := cz_f c48 h
                refine lv_aload_n hx hb dX0_layBases_48 rfl (lv_at hl 1 rfl) ?_
                refine va_get (D := D) (ci := 0) (v := .ref a_o_inner) (C := RX0) (T := TX0) (N := 8) hx hb hts in_X0 hown hK hP 0 rfl rfl 0 (by decide) (hts _ mw_1_109) (fun _ h9 => h9) rfl dX0_layBases_49 ?_
                refine lv_iload hx hb dX0_layBases_52 (lv_at hl 5 rfl) ?_
                refine cz_iald hx hb hK hP 1 0 rfl rfl (cz_rdE h).1 dX0_layBases_54 (fun x53 ex53 => ?_)
                replace h := cz_rdK ex53 h
                refine lv_iload_n hx hb dX0_layBases_55 rfl (lv_at hl 4 rfl) ?_
                refine lv_icmp_ne (tgt := 69) hx hb dX0_layBases_56 (by decide) (fun c54 => ?_) (fun c54 => ?_)
                · replace h := cz_f c54 h
                  refine lv_iload hx hb dX0_layBases_69 (lv_at hl 0 rfl) ?_
                  refine lv_iconst (v := (4 : Int32)) hx hb dX0_layBases_71 (by decide) ?_
                  refine lv_iload_n hx hb dX0_layBases_72 rfl (lv_at hl 4 rfl) ?_
                  refine lv_iadd hx hb dX0_layBases_73 ?_
                  refine lv_icmp_ne (tgt := 97) hx hb dX0_layBases_74 (by decide) (fun c55 => ?_) (fun c55 => ?_)
                  · replace h := cz_f c55 h
                    exact hJ45 _ _ _ _ _ _ (cz_i h).symm hP hD hS (lv_sub hl [1, 2, 3, 4, 5] rfl)
                  · replace h := cz_t c55 h
                    refine lv_iload_n hx hb dX0_layBases_77 rfl (lv_at hl 3 rfl) ?_
                    refine lv_if_le (tgt := 97) hx hb dX0_layBases_78 (by decide) (fun c56 => ?_) (fun c56 => ?_)
                    · replace h := cz_t c56 h
                      exact hJ45 _ _ _ _ _ _ (cz_i h).symm hP hD hS (lv_sub hl [1, 2, 3, 4, 5] rfl)
                    · replace h := cz_f c56 h
                      refine lv_aload_n hx hb dX0_layBases_81 rfl (lv_at hl 1 rfl) ?_
                      refine lv_iload hx hb dX0_layBases_82 (lv_at hl 5 rfl) ?_
                      refine lv_iload_n hx hb dX0_layBases_84 rfl (lv_at hl 3 rfl) ?_
                      refine lv_iconst (v := (1 : Int32)) hx hb dX0_layBases_85 (by decide) ?_
                      obtain ⟨z61, hE59, hz58⟩ := cz_ltV h
                      have hJ60 : ∀ (x57 : Int32) (H : Heap) (locs : List Loc) (ls : Array Slot), z61 = x57 → va_P D vwCl [oX0 a_o a_o_inner a_o_owners a_o_nears a_o_basePlaces a_o_baseFactors a_o_baseStarts x22 v_o_thirds, aI cI a_o_inner 120 f_o_inner, aI cI a_o_basePlaces 120 g23, aI cI a_o_baseFactors 120 g24, aI cI a_o_baseStarts 4 g20, oX4 a_p1 v_p1_wide v_p1_high v_p1_wells a_p1_kinds a_p1_wellPlaces a_p1_wellWorths a_p1_rules, aI cI a_p1_kinds 120 f_p1_kinds] H → va_D A [oX0 a_o a_o_inner a_o_owners a_o_nears a_o_basePlaces a_o_baseFactors a_o_baseStarts x22 v_o_thirds, aI cI a_o_inner 120 f_o_inner, aI cI a_o_basePlaces 120 g23, aI cI a_o_baseFactors 120 g24, aI cI a_o_baseStarts 4 g20, oX4 a_p1 v_p1_wide v_p1_high v_p1_wells a_p1_kinds a_p1_wellPlaces a_p1_wellWorths a_p1_rules, aI cI a_p1_kinds 120 f_p1_kinds] → va_S A s.heap H locs → lv_has ls 6 [(0, .ref a_o), (1, .ref a_p1), (2, .int w2), (3, .int x1), (4, .int x21)] → W p l e (cz_rm 1 22) s m ag below meth c H locs 0 0 Q (F0 m 94 ls [.int x57, .int x21, .ref a_o]) := by
                        intro x57 H locs ls h hP hD hS hl
                        replace h := hz58 _ h
                        obtain ⟨x62, g63, g64, hc65, h⟩ := cz_e3 h
                        refine cz_callV (As := [.int x21, .int x57]) (rest := []) (is := [0, 2, 3]) (isR := [1, 4, 5, 6]) (rs := [aI cI a_o_inner 120 f_o_inner, aI cI a_o_baseStarts 4 g20, oX4 a_p1 v_p1_wide v_p1_high v_p1_wells a_p1_kinds a_p1_wellPlaces a_p1_wellWorths a_p1_rules, aI cI a_p1_kinds 120 f_p1_kinds]) (as := [a_o, a_o_inner, a_o_basePlaces, a_o_baseFactors, a_o_baseStarts, a_p1, a_p1_kinds]) (ws1 := [oX0 a_o a_o_inner a_o_owners a_o_nears a_o_basePlaces a_o_baseFactors a_o_baseStarts x62 v_o_thirds, aI cI a_o_inner 120 f_o_inner, aI cI a_o_basePlaces 120 g63, aI cI a_o_baseFactors 120 g64, aI cI a_o_baseStarts 4 g20, oX4 a_p1 v_p1_wide v_p1_high v_p1_wells a_p1_kinds a_p1_wellPlaces a_p1_wellWorths a_p1_rules, aI cI a_p1_kinds 120 f_p1_kinds]) (q0 := 0) (ci := 0) ⟨hx, hb, hml, hown, hts⟩ (c_X0_addBase l D cI a_o a_o_basePlaces a_o_baseFactors a_o_inner a_o_owners a_o_nears a_o_baseStarts x22 v_o_thirds g23 g24 x21 x57 n x62 g63 g64 hc65) mw_2_147 mw_2_148 mw_2_149 mw_1_6 mw_2_150 hd_X0_addBase ⟨Nat.le_of_ble_eq_true rfl, Nat.le_of_ble_eq_true rfl⟩ hK hN hP hD hS rfl rfl rfl rfl rfl rfl rfl rfl rfl rfl rfl rfl hl.1 rfl (Nat.le_of_ble_eq_true rfl) dX0_layBases_94 ⟨Nat.le_of_ble_eq_true rfl, Nat.le_of_ble_eq_true rfl⟩ (fun H locs hP hD hS => ?_)
                        refine W.eq (g2 := F0 m 97 ls []) rfl ?_
                        exact hJ45 _ _ _ _ _ _ (cz_i h).symm hP hD hS (lv_sub hl [0, 1, 2, 3, 4] rfl)
                      clear h
                      have h := hE59
                      refine lv_icmp_ne (tgt := 93) hx hb dX0_layBases_86 (by decide) (fun c66 => ?_) (fun c66 => ?_)
                      · replace h := cz_f c66 h
                        refine lv_iconst (v := (1 : Int32)) hx hb dX0_layBases_93 (by decide) ?_
                        exact hJ60 _ _ _ _ h.symm hP hD hS (lv_sub hl [1, 2, 3, 4, 5] rfl)
                      · replace h := cz_t c66 h
                        refine lv_iconst (v := (4 : Int32)) hx hb dX0_layBases_89 (by decide) ?_
                        refine lv_goto (tgt := 94) hx hb dX0_layBases_90 (by decide) ?_
                        exact hJ60 _ _ _ _ h.symm hP hD hS (lv_sub hl [1, 2, 3, 4, 5] rfl)
                · replace h := cz_t c54 h
                  refine lv_aload_n hx hb dX0_layBases_59 rfl (lv_at hl 1 rfl) ?_
                  refine lv_iload hx hb dX0_layBases_60 (lv_at hl 5 rfl) ?_
                  refine lv_iconst (v := (1 : Int32)) hx hb dX0_layBases_62 (by decide) ?_
                  obtain ⟨x67, g68, g69, hc70, h⟩ := cz_e3 h
                  refine cz_callV (As := [.int x21, .int (1 : Int32)]) (rest := []) (is := [0, 2, 3]) (isR := [1, 4, 5, 6]) (rs := [aI cI a_o_inner 120 f_o_inner, aI cI a_o_baseStarts 4 g20, oX4 a_p1 v_p1_wide v_p1_high v_p1_wells a_p1_kinds a_p1_wellPlaces a_p1_wellWorths a_p1_rules, aI cI a_p1_kinds 120 f_p1_kinds]) (as := [a_o, a_o_inner, a_o_basePlaces, a_o_baseFactors, a_o_baseStarts, a_p1, a_p1_kinds]) (ws1 := [oX0 a_o a_o_inner a_o_owners a_o_nears a_o_basePlaces a_o_baseFactors a_o_baseStarts x67 v_o_thirds, aI cI a_o_inner 120 f_o_inner, aI cI a_o_basePlaces 120 g68, aI cI a_o_baseFactors 120 g69, aI cI a_o_baseStarts 4 g20, oX4 a_p1 v_p1_wide v_p1_high v_p1_wells a_p1_kinds a_p1_wellPlaces a_p1_wellWorths a_p1_rules, aI cI a_p1_kinds 120 f_p1_kinds]) (q0 := 0) (ci := 0) ⟨hx, hb, hml, hown, hts⟩ (c_X0_addBase l D cI a_o a_o_basePlaces a_o_baseFactors a_o_inner a_o_owners a_o_nears a_o_baseStarts x22 v_o_thirds g23 g24 x21 (1 : Int32) n x67 g68 g69 hc70) mw_2_147 mw_2_148 mw_2_149 mw_1_6 mw_2_150 hd_X0_addBase ⟨Nat.le_of_ble_eq_true rfl, Nat.le_of_ble_eq_true rfl⟩ hK hN hP hD hS rfl rfl rfl rfl rfl rfl rfl rfl rfl rfl rfl rfl hl.1 rfl (Nat.le_of_ble_eq_true rfl) dX0_layBases_63 ⟨Nat.le_of_ble_eq_true rfl, Nat.le_of_ble_eq_true rfl⟩ (fun H locs hP hD hS => ?_)
                  refine W.eq (g2 := F0 m 66 ls []) rfl ?_
                  refine lv_goto (tgt := 97) hx hb dX0_layBases_66 (by decide) ?_
                  exact hJ45 _ _ _ _ _ _ (cz_i h).symm hP hD hS (lv_sub hl [1, 2, 3, 4, 5] rfl)
        exact hL29 n _ _ _ _ _ _ _ hE26 hP hD hS (lv_sub hl [1, 2, 3, 4, 0] rfl)
  exact hL10 n _ _ _ _ _ _ _ _ hE7 hP hD hS (lv_sub hl [1, 2, 3, 0] rfl)
set_option maxHeartbeats 4000000 in
set_option maxRecDepth 100000 in
theorem c_X5_isLand (l : Launch) (D : va_G) (cI : ClassId)  (w1 : Int32) (n : Nat) (r : Int32) (h : f_X5_isLand n w1 = some r) : cz_M l yX5_isLand cX5_isLand 1 (some .boolean) 0 0 D cI [.int w1] [] (some (.int r)) [] := by
  refine cz_startZ (by decide) (Nat.le_of_ble_eq_true rfl) ?_
  intro p e s m ag below meth c A Q hx hb hml hown hts hK hN hQ H locs hP hD hS ls hl
  replace hown : s.vm.findClass RX5 = some m.cls := hown
  replace hl : lv_has ls 1 [(0, .int w1)] := hl
  unfold f_X5_isLand at h
  refine lv_iload_n hx hb dX5_isLand_0 rfl (lv_at hl 0 rfl) ?_
  refine lv_if_lt (tgt := 13) hx hb dX5_isLand_1 (by decide) (fun c1 => ?_) (fun c1 => ?_)
  · replace h := cz_t c1 h
    refine lv_iconst (v := (0 : Int32)) hx hb dX5_isLand_13 (by decide) ?_
    obtain rfl := cz_i h
    exact hQ _ _ _ _ (by decide) hP hS dX5_isLand_14
  · replace h := cz_f c1 h
    refine lv_iload_n hx hb dX5_isLand_4 rfl (lv_at hl 0 rfl) ?_
    refine lv_iconst (v := (3 : Int32)) hx hb dX5_isLand_5 (by decide) ?_
    refine lv_icmp_ge (tgt := 13) hx hb dX5_isLand_6 (by decide) (fun c2 => ?_) (fun c2 => ?_)
    · replace h := cz_t c2 h
      refine lv_iconst (v := (0 : Int32)) hx hb dX5_isLand_13 (by decide) ?_
      obtain rfl := cz_i h
      exact hQ _ _ _ _ (by decide) hP hS dX5_isLand_14
    · replace h := cz_f c2 h
      refine lv_iconst (v := (1 : Int32)) hx hb dX5_isLand_9 (by decide) ?_
      refine lv_goto (tgt := 14) hx hb dX5_isLand_10 (by decide) ?_
      obtain rfl := cz_i h
      exact hQ _ _ _ _ (by decide) hP hS dX5_isLand_14
set_option maxHeartbeats 4000000 in
set_option maxRecDepth 100000 in
theorem c_X0_squareTo (l : Launch) (D : va_G) (cI : ClassId) (a_o a_o_basePlaces a_o_baseFactors a_o_inner a_o_owners a_o_nears a_o_baseStarts : Nat) (v_o_bases : Int32) (v_o_thirds : Int32) (f_o_basePlaces : (Nat → Int32)) (f_o_baseFactors : (Nat → Int32)) (w1 : Int32) (w2 : Int32) (n : Nat) (r : Int32) (h : f_X0_squareTo n f_o_basePlaces f_o_baseFactors w1 w2 = some r) : cz_M l yX0_squareTo cX0_squareTo 5 (some .int) 0 0 D cI [.ref a_o, .int w1, .int w2] [oX0 a_o a_o_inner a_o_owners a_o_nears a_o_basePlaces a_o_baseFactors a_o_baseStarts v_o_bases v_o_thirds, aI cI a_o_basePlaces 120 f_o_basePlaces, aI cI a_o_baseFactors 120 f_o_baseFactors] (some (.int r)) [oX0 a_o a_o_inner a_o_owners a_o_nears a_o_basePlaces a_o_baseFactors a_o_baseStarts v_o_bases v_o_thirds, aI cI a_o_basePlaces 120 f_o_basePlaces, aI cI a_o_baseFactors 120 f_o_baseFactors] := by
  refine cz_startI (by decide) (Nat.le_of_ble_eq_true rfl) ?_
  intro p e s m ag below meth c A Q hx hb hml hown hts hK hN hQ H locs hP hD hS ls hl
  replace hown : s.vm.findClass RX0 = some m.cls := hown
  replace hl : lv_has ls 5 [(0, .ref a_o), (1, .int w1), (2, .int w2)] := hl
  unfold f_X0_squareTo at h
  refine lv_iload_n hx hb dX0_squareTo_0 rfl (lv_at hl 2 rfl) ?_
  refine lv_if_lt (tgt := 10) hx hb dX0_squareTo_1 (by decide) (fun c1 => ?_) (fun c1 => ?_)
  · replace h := cz_t c1 h
    refine lv_iconst (v := (0 : Int32)) hx hb dX0_squareTo_10 (by decide) ?_
    obtain rfl := cz_i h
    exact hQ _ _ _ _ hP hS dX0_squareTo_11
  · replace h := cz_f c1 h
    refine lv_iload_n hx hb dX0_squareTo_4 rfl (lv_at hl 2 rfl) ?_
    refine lv_bipush (v := (120 : Int32)) hx hb dX0_squareTo_5 (by decide) ?_
    refine lv_icmp_lt (tgt := 12) hx hb dX0_squareTo_7 (by decide) (fun c2 => ?_) (fun c2 => ?_)
    · replace h := cz_t c2 h
      refine lv_iload_n hx hb dX0_squareTo_12 rfl (lv_at hl 1 rfl) ?_
      refine lv_bipush (v := (12 : Int32)) hx hb dX0_squareTo_13 (by decide) ?_
      refine lv_irem hx hb dX0_squareTo_15 (by decide) ?_
      refine lv_aload_n hx hb dX0_squareTo_16 rfl (lv_at hl 0 rfl) ?_
      refine va_get (D := D) (ci := 0) (v := .ref a_o_basePlaces) (C := RX0) (T := TX0) (N := 8) hx hb hts in_X0 hown hK hP 0 rfl rfl 3 (by decide) (hts _ mw_1_112) (fun _ h9 => h9) rfl dX0_squareTo_17 ?_
      refine lv_iload_n hx hb dX0_squareTo_20 rfl (lv_at hl 2 rfl) ?_
      refine cz_iald hx hb hK hP 1 0 rfl rfl (cz_rdE h).1 dX0_squareTo_21 (fun x3 ex3 => ?_)
      replace h := cz_rdK ex3 h
      refine lv_bipush (v := (12 : Int32)) hx hb dX0_squareTo_22 (by decide) ?_
      refine lv_irem hx hb dX0_squareTo_24 (by decide) ?_
      refine lv_isub hx hb dX0_squareTo_25 ?_
      refine lv_topi (fun x4 ex4 => ?_)
      replace h := cz_ltE ex4 h
      refine lv_istore_n (lv' := [(3, .int x4), (0, .ref a_o), (1, .int w1), (2, .int w2)]) hx hb dX0_squareTo_26 rfl hl (by decide) rfl (fun ls hl => ?_)
      refine lv_iload_n hx hb dX0_squareTo_27 rfl (lv_at hl 2 rfl) ?_
      refine lv_bipush (v := (12 : Int32)) hx hb dX0_squareTo_28 (by decide) ?_
      refine lv_idiv hx hb dX0_squareTo_30 (by decide) ?_
      refine lv_aload_n hx hb dX0_squareTo_31 rfl (lv_at hl 1 rfl) ?_
      refine va_get (D := D) (ci := 0) (v := .ref a_o_basePlaces) (C := RX0) (T := TX0) (N := 8) hx hb hts in_X0 hown hK hP 0 rfl rfl 3 (by decide) (hts _ mw_1_112) (fun _ h9 => h9) rfl dX0_squareTo_32 ?_
      refine lv_iload_n hx hb dX0_squareTo_35 rfl (lv_at hl 3 rfl) ?_
      refine cz_iald hx hb hK hP 1 0 rfl rfl (cz_rdE h).1 dX0_squareTo_36 (fun x5 ex5 => ?_)
      replace h := cz_rdK ex5 h
      refine lv_bipush (v := (12 : Int32)) hx hb dX0_squareTo_37 (by decide) ?_
      refine lv_idiv hx hb dX0_squareTo_39 (by decide) ?_
      refine lv_isub hx hb dX0_squareTo_40 ?_
      refine lv_topi (fun x6 ex6 => ?_)
      replace h := cz_ltE ex6 h
      refine lv_istore (lv' := [(4, .int x6), (3, .int x4), (0, .ref a_o), (1, .int w1), (2, .int w2)]) hx hb dX0_squareTo_41 hl (by decide) rfl (fun ls hl => ?_)
      refine lv_iload_n hx hb dX0_squareTo_43 rfl (lv_at hl 1 rfl) ?_
      refine lv_iload_n hx hb dX0_squareTo_44 rfl (lv_at hl 1 rfl) ?_
      refine lv_imul hx hb dX0_squareTo_45 ?_
      refine lv_iload hx hb dX0_squareTo_46 (lv_at hl 0 rfl) ?_
      refine lv_iload hx hb dX0_squareTo_48 (lv_at hl 0 rfl) ?_
      refine lv_imul hx hb dX0_squareTo_50 ?_
      refine lv_iadd hx hb dX0_squareTo_51 ?_
      refine lv_aload_n hx hb dX0_squareTo_52 rfl (lv_at hl 2 rfl) ?_
      refine va_get (D := D) (ci := 0) (v := .ref a_o_baseFactors) (C := RX0) (T := TX0) (N := 8) hx hb hts in_X0 hown hK hP 0 rfl rfl 4 (by decide) (hts _ mw_1_113) (fun _ h9 => h9) rfl dX0_squareTo_53 ?_
      refine lv_iload_n hx hb dX0_squareTo_56 rfl (lv_at hl 4 rfl) ?_
      refine cz_iald hx hb hK hP 2 0 rfl rfl (cz_rdE h).1 dX0_squareTo_57 (fun x7 ex7 => ?_)
      replace h := cz_rdK ex7 h
      refine lv_imul hx hb dX0_squareTo_58 ?_
      obtain rfl := cz_i h
      exact hQ _ _ _ _ hP hS dX0_squareTo_59
    · replace h := cz_f c2 h
      refine lv_iconst (v := (0 : Int32)) hx hb dX0_squareTo_10 (by decide) ?_
      obtain rfl := cz_i h
      exact hQ _ _ _ _ hP hS dX0_squareTo_11
set_option maxHeartbeats 4000000 in
set_option maxRecDepth 100000 in
theorem c_X0_nearestBase (l : Launch) (D : va_G) (cI : ClassId) (a_o a_o_basePlaces a_o_baseFactors a_o_baseStarts a_o_inner a_o_owners a_o_nears : Nat) (v_o_bases : Int32) (v_o_thirds : Int32) (f_o_basePlaces : (Nat → Int32)) (f_o_baseFactors : (Nat → Int32)) (f_o_baseStarts : (Nat → Int32)) (w1 : Int32) (w2 : Int32) (n : Nat) (r : Int32) (h : f_X0_nearestBase n f_o_basePlaces f_o_baseFactors f_o_baseStarts w1 w2 = some r) : cz_M l yX0_nearestBase cX0_nearestBase 7 (some .int) 1 24 D cI [.ref a_o, .int w1, .int w2] [oX0 a_o a_o_inner a_o_owners a_o_nears a_o_basePlaces a_o_baseFactors a_o_baseStarts v_o_bases v_o_thirds, aI cI a_o_basePlaces 120 f_o_basePlaces, aI cI a_o_baseFactors 120 f_o_baseFactors, aI cI a_o_baseStarts 4 f_o_baseStarts] (some (.int r)) [oX0 a_o a_o_inner a_o_owners a_o_nears a_o_basePlaces a_o_baseFactors a_o_baseStarts v_o_bases v_o_thirds, aI cI a_o_basePlaces 120 f_o_basePlaces, aI cI a_o_baseFactors 120 f_o_baseFactors, aI cI a_o_baseStarts 4 f_o_baseStarts] := by
  refine cz_startI (by decide) (Nat.le_of_ble_eq_true rfl) ?_
  intro p e s m ag below meth c A Q hx hb hml hown hts hK hN hQ H locs hP hD hS ls hl
  replace hown : s.vm.findClass RX0 = some m.cls := hown
  replace hl : lv_has ls 7 [(0, .ref a_o), (1, .int w1), (2, .int w2)] := hl
  unfold f_X0_nearestBase at h
  refine lv_iload_n hx hb dX0_nearestBase_0 rfl (lv_at hl 2 rfl) ?_
  obtain ⟨x1, hc2, h⟩ := cz_e1 h
  refine cz_callSN (As := [.int w2]) (rest := []) (is := []) (isR := [0, 1, 2, 3]) (rs := [oX0 a_o a_o_inner a_o_owners a_o_nears a_o_basePlaces a_o_baseFactors a_o_baseStarts v_o_bases v_o_thirds, aI cI a_o_basePlaces 120 f_o_basePlaces, aI cI a_o_baseFactors 120 f_o_baseFactors, aI cI a_o_baseStarts 4 f_o_baseStarts]) (as := [a_o, a_o_basePlaces, a_o_baseFactors, a_o_baseStarts]) (ws1 := [oX0 a_o a_o_inner a_o_owners a_o_nears a_o_basePlaces a_o_baseFactors a_o_baseStarts v_o_bases v_o_thirds, aI cI a_o_basePlaces 120 f_o_basePlaces, aI cI a_o_baseFactors 120 f_o_baseFactors, aI cI a_o_baseStarts 4 f_o_baseStarts]) ⟨hx, hb, hml, hown, hts⟩ (c_X5_isLand l D cI   w2 n x1 hc2) nw_20 mw_2_160 mw_1_1 mw_2_161 hd_X5_isLand ⟨Nat.le_of_ble_eq_true rfl, Nat.le_of_ble_eq_true rfl⟩ hK hN hP hD hS rfl rfl rfl rfl rfl rfl rfl rfl rfl hl.1 rfl (Nat.le_of_ble_eq_true rfl) dX0_nearestBase_1 ⟨Nat.le_of_ble_eq_true rfl, Nat.le_of_ble_eq_true rfl⟩ (fun H locs hP hD hS => ?_)
  refine W.eq (g2 := F0 m 4 ls [.int x1]) rfl ?_
  refine lv_if_ne (tgt := 9) hx hb dX0_nearestBase_4 (by decide) (fun c3 => ?_) (fun c3 => ?_)
  · replace h := cz_f c3 h
    refine lv_iconst (v := (-1 : Int32)) hx hb dX0_nearestBase_9 (by decide) ?_
    refine lv_istore_n (lv' := [(3, .int (-1 : Int32)), (0, .ref a_o), (1, .int w1), (2, .int w2)]) hx hb dX0_nearestBase_10 rfl hl (by decide) rfl (fun ls hl => ?_)
    refine lv_iconst (v := (0 : Int32)) hx hb dX0_nearestBase_11 (by decide) ?_
    refine lv_istore (lv' := [(4, .int (0 : Int32)), (3, .int (-1 : Int32)), (0, .ref a_o), (1, .int w1), (2, .int w2)]) hx hb dX0_nearestBase_12 hl (by decide) rfl (fun ls hl => ?_)
    refine lv_aload_n hx hb dX0_nearestBase_14 rfl (lv_at hl 2 rfl) ?_
    refine va_get (D := D) (ci := 0) (v := .ref a_o_baseStarts) (C := RX0) (T := TX0) (N := 8) hx hb hts in_X0 hown hK hP 0 rfl rfl 5 (by decide) (hts _ mw_1_114) (fun _ h9 => h9) rfl dX0_nearestBase_15 ?_
    refine lv_iload_n hx hb dX0_nearestBase_18 rfl (lv_at hl 4 rfl) ?_
    refine cz_iald hx hb hK hP 3 0 rfl rfl (cz_rdE h).1 dX0_nearestBase_19 (fun x4 ex4 => ?_)
    replace h := cz_rdK ex4 h
    refine lv_istore (lv' := [(5, .int x4), (4, .int (0 : Int32)), (3, .int (-1 : Int32)), (0, .ref a_o), (1, .int w1), (2, .int w2)]) hx hb dX0_nearestBase_20 hl (by decide) rfl (fun ls hl => ?_)
    obtain ⟨z8, hE9, hz10⟩ := cz_x3 h
    have hX11 : ∀ (y14 : Int32) (y15 : Int32) (y16 : Int32) (H : Heap) (locs : List Loc) (ls : Array Slot), z8 = (y14, y15, y16) → va_P D vwCl [oX0 a_o a_o_inner a_o_owners a_o_nears a_o_basePlaces a_o_baseFactors a_o_baseStarts v_o_bases v_o_thirds, aI cI a_o_basePlaces 120 f_o_basePlaces, aI cI a_o_baseFactors 120 f_o_baseFactors, aI cI a_o_baseStarts 4 f_o_baseStarts] H → va_D A [oX0 a_o a_o_inner a_o_owners a_o_nears a_o_basePlaces a_o_baseFactors a_o_baseStarts v_o_bases v_o_thirds, aI cI a_o_basePlaces 120 f_o_basePlaces, aI cI a_o_baseFactors 120 f_o_baseFactors, aI cI a_o_baseStarts 4 f_o_baseStarts] → va_S A s.heap H locs → lv_has ls 7 [(3, .int y14)] → W p l e (cz_rm 1 24) s m ag below meth c H locs 0 0 Q (F0 m 68 ls []) := by
      intro y14 y15 y16 H locs ls h hP hD hS hl
      replace h := hz10 _ _ _ h
      refine lv_iload_n hx hb dX0_nearestBase_68 rfl (lv_at hl 0 rfl) ?_
      obtain rfl := cz_i h
      exact hQ _ _ _ _ hP hS dX0_nearestBase_69
    clear h
    have hL12 : ∀ (k : Nat) (x5 : Int32) (x6 : Int32) (x7 : Int32) (H : Heap) (locs : List Loc) (ls : Array Slot), f_X0_nearestBase_L22 n f_o_basePlaces f_o_baseFactors f_o_baseStarts w1 w2 k x5 x6 x7 = some z8 → va_P D vwCl [oX0 a_o a_o_inner a_o_owners a_o_nears a_o_basePlaces a_o_baseFactors a_o_baseStarts v_o_bases v_o_thirds, aI cI a_o_basePlaces 120 f_o_basePlaces, aI cI a_o_baseFactors 120 f_o_baseFactors, aI cI a_o_baseStarts 4 f_o_baseStarts] H → va_D A [oX0 a_o a_o_inner a_o_owners a_o_nears a_o_basePlaces a_o_baseFactors a_o_baseStarts v_o_bases v_o_thirds, aI cI a_o_basePlaces 120 f_o_basePlaces, aI cI a_o_baseFactors 120 f_o_baseFactors, aI cI a_o_baseStarts 4 f_o_baseStarts] → va_S A s.heap H locs → lv_has ls 7 [(0, .ref a_o), (1, .int w1), (2, .int w2), (3, .int x5), (4, .int x6), (5, .int x7)] → W p l e (cz_rm 1 24) s m ag below meth c H locs 0 0 Q (F0 m 22 ls []) := by
      intro k
      induction k with
      | zero =>
        intro x5 x6 x7 H locs ls h
        rw [f_X0_nearestBase_L22] at h
        cases h
      | succ k ih17 =>
        intro x5 x6 x7 H locs ls h hP hD hS hl
        rw [f_X0_nearestBase_L22] at h
        refine lv_iload hx hb dX0_nearestBase_22 (lv_at hl 5 rfl) ?_
        refine lv_aload_n hx hb dX0_nearestBase_24 rfl (lv_at hl 0 rfl) ?_
        refine va_get (D := D) (ci := 0) (v := .ref a_o_baseStarts) (C := RX0) (T := TX0) (N := 8) hx hb hts in_X0 hown hK hP 0 rfl rfl 5 (by decide) (hts _ mw_1_114) (fun _ h9 => h9) rfl dX0_nearestBase_25 ?_
        refine lv_iload_n hx hb dX0_nearestBase_28 rfl (lv_at hl 2 rfl) ?_
        refine lv_iconst (v := (1 : Int32)) hx hb dX0_nearestBase_29 (by decide) ?_
        refine lv_iadd hx hb dX0_nearestBase_30 ?_
        refine cz_iald hx hb hK hP 3 0 rfl rfl (cz_rdE h).1 dX0_nearestBase_31 (fun x18 ex18 => ?_)
        replace h := cz_rdK ex18 h
        refine lv_icmp_ge (tgt := 68) hx hb dX0_nearestBase_32 (by decide) (fun c19 => ?_) (fun c19 => ?_)
        · replace h := cz_t c19 h
          exact hX11 _ _ _ _ _ _ (cz_i h).symm hP hD hS (lv_sub hl [3] rfl)
        · replace h := cz_f c19 h
          refine lv_aload_n hx hb dX0_nearestBase_35 rfl (lv_at hl 0 rfl) ?_
          refine lv_iload_n hx hb dX0_nearestBase_36 rfl (lv_at hl 1 rfl) ?_
          refine lv_iload hx hb dX0_nearestBase_37 (lv_at hl 5 rfl) ?_
          obtain ⟨x20, hc21, h⟩ := cz_e1 h
          refine cz_callV (As := [.int w1, .int x7]) (rest := []) (is := [0, 1, 2]) (isR := [3]) (rs := [aI cI a_o_baseStarts 4 f_o_baseStarts]) (as := [a_o, a_o_basePlaces, a_o_baseFactors, a_o_baseStarts]) (ws1 := [oX0 a_o a_o_inner a_o_owners a_o_nears a_o_basePlaces a_o_baseFactors a_o_baseStarts v_o_bases v_o_thirds, aI cI a_o_basePlaces 120 f_o_basePlaces, aI cI a_o_baseFactors 120 f_o_baseFactors, aI cI a_o_baseStarts 4 f_o_baseStarts]) (q0 := 0) (ci := 0) ⟨hx, hb, hml, hown, hts⟩ (c_X0_squareTo l D cI a_o a_o_basePlaces a_o_baseFactors a_o_inner a_o_owners a_o_nears a_o_baseStarts v_o_bases v_o_thirds f_o_basePlaces f_o_baseFactors w1 x7 n x20 hc21) mw_2_167 mw_2_168 mw_2_169 mw_1_6 mw_2_170 hd_X0_squareTo ⟨Nat.le_of_ble_eq_true rfl, Nat.le_of_ble_eq_true rfl⟩ hK hN hP hD hS rfl rfl rfl rfl rfl rfl rfl rfl rfl rfl rfl rfl hl.1 rfl (Nat.le_of_ble_eq_true rfl) dX0_nearestBase_39 ⟨Nat.le_of_ble_eq_true rfl, Nat.le_of_ble_eq_true rfl⟩ (fun H locs hP hD hS => ?_)
          refine W.eq (g2 := F0 m 42 ls [.int x20]) rfl ?_
          refine lv_istore (lv' := [(6, .int x20), (0, .ref a_o), (1, .int w1), (2, .int w2), (3, .int x5), (4, .int x6), (5, .int x7)]) hx hb dX0_nearestBase_42 hl (by decide) rfl (fun ls hl => ?_)
          refine lv_iload_n hx hb dX0_nearestBase_44 rfl (lv_at hl 4 rfl) ?_
          obtain ⟨z27, hE25, hz24⟩ := cz_v2 h
          have hJ26 : ∀ (x22 : Int32) (x23 : Int32) (H : Heap) (locs : List Loc) (ls : Array Slot), z27 = (x22, x23) → va_P D vwCl [oX0 a_o a_o_inner a_o_owners a_o_nears a_o_basePlaces a_o_baseFactors a_o_baseStarts v_o_bases v_o_thirds, aI cI a_o_basePlaces 120 f_o_basePlaces, aI cI a_o_baseFactors 120 f_o_baseFactors, aI cI a_o_baseStarts 4 f_o_baseStarts] H → va_D A [oX0 a_o a_o_inner a_o_owners a_o_nears a_o_basePlaces a_o_baseFactors a_o_baseStarts v_o_bases v_o_thirds, aI cI a_o_basePlaces 120 f_o_basePlaces, aI cI a_o_baseFactors 120 f_o_baseFactors, aI cI a_o_baseStarts 4 f_o_baseStarts] → va_S A s.heap H locs → lv_has ls 7 [(0, .ref a_o), (1, .int w1), (2, .int w2), (3, .int x22), (4, .int x23), (5, .int x7)] → W p l e (cz_rm 1 24) s m ag below meth c H locs 0 0 Q (F0 m 62 ls []) := by
            intro x22 x23 H locs ls h hP hD hS hl
            replace h := hz24 _ _ h
            obtain ⟨x28, ex28⟩ : ∃ z : Int32, z = x7 + (1 : Int32) := ⟨_, rfl⟩
            replace h := cz_ltE ex28 h
            refine lv_iinc (v := x28) (lv' := [(5, .int x28), (0, .ref a_o), (1, .int w1), (2, .int w2), (3, .int x22), (4, .int x23)]) hx hb dX0_nearestBase_62 hl (k := 5) rfl (by rw [ex28]; rfl) (by decide) rfl (fun ls hl => ?_)
            refine lv_goto (tgt := 22) hx hb dX0_nearestBase_65 (by decide) ?_
            exact ih17 _ _ _ _ _ _ h hP hD hS (lv_sub hl [1, 2, 3, 4, 5, 0] rfl)
          clear h
          have h := hE25
          refine lv_if_lt (tgt := 55) hx hb dX0_nearestBase_45 (by decide) (fun c29 => ?_) (fun c29 => ?_)
          · replace h := cz_t c29 h
            refine lv_iload hx hb dX0_nearestBase_55 (lv_at hl 6 rfl) ?_
            refine lv_istore_n (lv' := [(3, .int x7), (6, .int x20), (0, .ref a_o), (1, .int w1), (2, .int w2), (4, .int x6), (5, .int x7)]) hx hb dX0_nearestBase_57 rfl hl (by decide) rfl (fun ls hl => ?_)
            refine lv_iload hx hb dX0_nearestBase_58 (lv_at hl 1 rfl) ?_
            refine lv_istore (lv' := [(4, .int x20), (3, .int x7), (6, .int x20), (0, .ref a_o), (1, .int w1), (2, .int w2), (5, .int x7)]) hx hb dX0_nearestBase_60 hl (by decide) rfl (fun ls hl => ?_)
            exact hJ26 _ _ _ _ _ h.symm hP hD hS (lv_sub hl [3, 4, 5, 1, 0, 6] rfl)
          · replace h := cz_f c29 h
            refine lv_iload hx hb dX0_nearestBase_48 (lv_at hl 0 rfl) ?_
            refine lv_iload hx hb dX0_nearestBase_50 (lv_at hl 5 rfl) ?_
            refine lv_icmp_ge (tgt := 62) hx hb dX0_nearestBase_52 (by decide) (fun c30 => ?_) (fun c30 => ?_)
            · replace h := cz_t c30 h
              exact hJ26 _ _ _ _ _ h.symm hP hD hS (lv_sub hl [1, 2, 3, 4, 5, 6] rfl)
            · replace h := cz_f c30 h
              refine lv_iload hx hb dX0_nearestBase_55 (lv_at hl 6 rfl) ?_
              refine lv_istore_n (lv' := [(3, .int x7), (6, .int x20), (0, .ref a_o), (1, .int w1), (2, .int w2), (4, .int x6), (5, .int x7)]) hx hb dX0_nearestBase_57 rfl hl (by decide) rfl (fun ls hl => ?_)
              refine lv_iload hx hb dX0_nearestBase_58 (lv_at hl 1 rfl) ?_
              refine lv_istore (lv' := [(4, .int x20), (3, .int x7), (6, .int x20), (0, .ref a_o), (1, .int w1), (2, .int w2), (5, .int x7)]) hx hb dX0_nearestBase_60 hl (by decide) rfl (fun ls hl => ?_)
              exact hJ26 _ _ _ _ _ h.symm hP hD hS (lv_sub hl [3, 4, 5, 1, 0, 6] rfl)
    exact hL12 n _ _ _ _ _ _ hE9 hP hD hS (lv_sub hl [3, 4, 5, 2, 1, 0] rfl)
  · replace h := cz_t c3 h
    refine lv_iconst (v := (-1 : Int32)) hx hb dX0_nearestBase_7 (by decide) ?_
    obtain rfl := cz_i h
    exact hQ _ _ _ _ hP hS dX0_nearestBase_8
set_option maxHeartbeats 4000000 in
set_option maxRecDepth 100000 in
theorem c_X0_measure (l : Launch) (D : va_G) (cI : ClassId) (a_o a_o_inner a_o_nears a_o_basePlaces a_o_baseFactors a_o_baseStarts a_p1 a_p1_kinds a_o_owners a_p1_wellPlaces a_p1_wellWorths a_p1_rules : Nat) (v_o_bases : Int32) (v_o_thirds : Int32) (f_o_inner : (Nat → Int32)) (f_o_nears : (Nat → Int32)) (f_o_basePlaces : (Nat → Int32)) (f_o_baseFactors : (Nat → Int32)) (f_o_baseStarts : (Nat → Int32)) (v_p1_wide : Int32) (v_p1_high : Int32) (v_p1_wells : Int32) (f_p1_kinds : (Nat → Int32)) (n : Nat) (r_f_o_nears : (Nat → Int32)) (h : f_X0_measure n f_o_inner f_o_nears f_o_basePlaces f_o_baseFactors f_o_baseStarts f_p1_kinds = some r_f_o_nears) : cz_M l yX0_measure cX0_measure 5 none 2 50 D cI [.ref a_o, .ref a_p1] [oX0 a_o a_o_inner a_o_owners a_o_nears a_o_basePlaces a_o_baseFactors a_o_baseStarts v_o_bases v_o_thirds, aI cI a_o_inner 120 f_o_inner, aI cI a_o_nears 360 f_o_nears, aI cI a_o_basePlaces 120 f_o_basePlaces, aI cI a_o_baseFactors 120 f_o_baseFactors, aI cI a_o_baseStarts 4 f_o_baseStarts, oX4 a_p1 v_p1_wide v_p1_high v_p1_wells a_p1_kinds a_p1_wellPlaces a_p1_wellWorths a_p1_rules, aI cI a_p1_kinds 120 f_p1_kinds] none [oX0 a_o a_o_inner a_o_owners a_o_nears a_o_basePlaces a_o_baseFactors a_o_baseStarts v_o_bases v_o_thirds, aI cI a_o_inner 120 f_o_inner, aI cI a_o_nears 360 r_f_o_nears, aI cI a_o_basePlaces 120 f_o_basePlaces, aI cI a_o_baseFactors 120 f_o_baseFactors, aI cI a_o_baseStarts 4 f_o_baseStarts, oX4 a_p1 v_p1_wide v_p1_high v_p1_wells a_p1_kinds a_p1_wellPlaces a_p1_wellWorths a_p1_rules, aI cI a_p1_kinds 120 f_p1_kinds] := by
  refine cz_startV (by decide) (Nat.le_of_ble_eq_true rfl) ?_
  intro p e s m ag below meth c A Q hx hb hml hown hts hK hN hQ H locs hP hD hS ls hl
  replace hown : s.vm.findClass RX0 = some m.cls := hown
  replace hl : lv_has ls 5 [(0, .ref a_o), (1, .ref a_p1)] := hl
  unfold f_X0_measure at h
  refine lv_iconst (v := (0 : Int32)) hx hb dX0_measure_0 (by decide) ?_
  refine lv_istore_n (lv' := [(2, .int (0 : Int32)), (0, .ref a_o), (1, .ref a_p1)]) hx hb dX0_measure_1 rfl hl (by decide) rfl (fun ls hl => ?_)
  obtain ⟨z3, hE4, hz5⟩ := cz_x2 h
  have hX6 : ∀ (y9 : Int32) (q10 : (Nat → Int32)) (H : Heap) (locs : List Loc) (ls : Array Slot), z3 = (y9, q10) → va_P D vwCl [oX0 a_o a_o_inner a_o_owners a_o_nears a_o_basePlaces a_o_baseFactors a_o_baseStarts v_o_bases v_o_thirds, aI cI a_o_inner 120 f_o_inner, aI cI a_o_nears 360 q10, aI cI a_o_basePlaces 120 f_o_basePlaces, aI cI a_o_baseFactors 120 f_o_baseFactors, aI cI a_o_baseStarts 4 f_o_baseStarts, oX4 a_p1 v_p1_wide v_p1_high v_p1_wells a_p1_kinds a_p1_wellPlaces a_p1_wellWorths a_p1_rules, aI cI a_p1_kinds 120 f_p1_kinds] H → va_D A [oX0 a_o a_o_inner a_o_owners a_o_nears a_o_basePlaces a_o_baseFactors a_o_baseStarts v_o_bases v_o_thirds, aI cI a_o_inner 120 f_o_inner, aI cI a_o_nears 360 q10, aI cI a_o_basePlaces 120 f_o_basePlaces, aI cI a_o_baseFactors 120 f_o_baseFactors, aI cI a_o_baseStarts 4 f_o_baseStarts, oX4 a_p1 v_p1_wide v_p1_high v_p1_wells a_p1_kinds a_p1_wellPlaces a_p1_wellWorths a_p1_rules, aI cI a_p1_kinds 120 f_p1_kinds] → va_S A s.heap H locs → lv_has ls 5 [] → W p l e (cz_rm 2 50) s m ag below meth c H locs 0 0 Q (F0 m 81 ls []) := by
    intro y9 q10 H locs ls h hP hD hS hl
    replace h := hz5 _ _ h
    obtain rfl := cz_i h
    exact hQ _ _ _ _ hP hS dX0_measure_81
  clear h
  have hL7 : ∀ (k : Nat) (x1 : Int32) (g2 : (Nat → Int32)) (H : Heap) (locs : List Loc) (ls : Array Slot), f_X0_measure_L2 n f_o_inner f_o_basePlaces f_o_baseFactors f_o_baseStarts f_p1_kinds k x1 g2 = some z3 → va_P D vwCl [oX0 a_o a_o_inner a_o_owners a_o_nears a_o_basePlaces a_o_baseFactors a_o_baseStarts v_o_bases v_o_thirds, aI cI a_o_inner 120 f_o_inner, aI cI a_o_nears 360 g2, aI cI a_o_basePlaces 120 f_o_basePlaces, aI cI a_o_baseFactors 120 f_o_baseFactors, aI cI a_o_baseStarts 4 f_o_baseStarts, oX4 a_p1 v_p1_wide v_p1_high v_p1_wells a_p1_kinds a_p1_wellPlaces a_p1_wellWorths a_p1_rules, aI cI a_p1_kinds 120 f_p1_kinds] H → va_D A [oX0 a_o a_o_inner a_o_owners a_o_nears a_o_basePlaces a_o_baseFactors a_o_baseStarts v_o_bases v_o_thirds, aI cI a_o_inner 120 f_o_inner, aI cI a_o_nears 360 g2, aI cI a_o_basePlaces 120 f_o_basePlaces, aI cI a_o_baseFactors 120 f_o_baseFactors, aI cI a_o_baseStarts 4 f_o_baseStarts, oX4 a_p1 v_p1_wide v_p1_high v_p1_wells a_p1_kinds a_p1_wellPlaces a_p1_wellWorths a_p1_rules, aI cI a_p1_kinds 120 f_p1_kinds] → va_S A s.heap H locs → lv_has ls 5 [(0, .ref a_o), (1, .ref a_p1), (2, .int x1)] → W p l e (cz_rm 2 50) s m ag below meth c H locs 0 0 Q (F0 m 2 ls []) := by
    intro k
    induction k with
    | zero =>
      intro x1 g2 H locs ls h
      rw [f_X0_measure_L2] at h
      cases h
    | succ k ih11 =>
      intro x1 g2 H locs ls h hP hD hS hl
      rw [f_X0_measure_L2] at h
      refine lv_iload_n hx hb dX0_measure_2 rfl (lv_at hl 2 rfl) ?_
      refine lv_bipush (v := (120 : Int32)) hx hb dX0_measure_3 (by decide) ?_
      refine lv_icmp_ge (tgt := 81) hx hb dX0_measure_5 (by decide) (fun c12 => ?_) (fun c12 => ?_)
      · replace h := cz_t c12 h
        exact hX6 _ _ _ _ _ (cz_i h).symm hP hD hS (lv_sub hl [] rfl)
      · replace h := cz_f c12 h
        refine lv_aload_n hx hb dX0_measure_8 rfl (lv_at hl 1 rfl) ?_
        refine lv_iload_n hx hb dX0_measure_9 rfl (lv_at hl 2 rfl) ?_
        obtain ⟨x13, hc14, h⟩ := cz_e1 h
        refine cz_callV (As := [.int x1]) (rest := []) (is := [6, 7]) (isR := [0, 1, 2, 3, 4, 5]) (rs := [oX0 a_o a_o_inner a_o_owners a_o_nears a_o_basePlaces a_o_baseFactors a_o_baseStarts v_o_bases v_o_thirds, aI cI a_o_inner 120 f_o_inner, aI cI a_o_nears 360 g2, aI cI a_o_basePlaces 120 f_o_basePlaces, aI cI a_o_baseFactors 120 f_o_baseFactors, aI cI a_o_baseStarts 4 f_o_baseStarts]) (as := [a_o, a_o_inner, a_o_nears, a_o_basePlaces, a_o_baseFactors, a_o_baseStarts, a_p1, a_p1_kinds]) (ws1 := [oX0 a_o a_o_inner a_o_owners a_o_nears a_o_basePlaces a_o_baseFactors a_o_baseStarts v_o_bases v_o_thirds, aI cI a_o_inner 120 f_o_inner, aI cI a_o_nears 360 g2, aI cI a_o_basePlaces 120 f_o_basePlaces, aI cI a_o_baseFactors 120 f_o_baseFactors, aI cI a_o_baseStarts 4 f_o_baseStarts, oX4 a_p1 v_p1_wide v_p1_high v_p1_wells a_p1_kinds a_p1_wellPlaces a_p1_wellWorths a_p1_rules, aI cI a_p1_kinds 120 f_p1_kinds]) (q0 := 0) (ci := 4) ⟨hx, hb, hml, hown, hts⟩ (c_X4_kindOf l D cI a_p1 a_p1_kinds a_p1_wellPlaces a_p1_wellWorths a_p1_rules v_p1_wide v_p1_high v_p1_wells f_p1_kinds x1 n x13 hc14) mw_2_129 mw_2_93 mw_2_94 mw_1_3 mw_2_95 hd_X4_kindOf ⟨Nat.le_of_ble_eq_true rfl, Nat.le_of_ble_eq_true rfl⟩ hK hN hP hD hS rfl rfl rfl rfl rfl rfl rfl rfl rfl rfl rfl rfl hl.1 rfl (Nat.le_of_ble_eq_true rfl) dX0_measure_10 ⟨Nat.le_of_ble_eq_true rfl, Nat.le_of_ble_eq_true rfl⟩ (fun H locs hP hD hS => ?_)
        refine W.eq (g2 := F0 m 13 ls [.int x13]) rfl ?_
        obtain ⟨z19, hE17, hz16⟩ := cz_x1 h
        have hJ18 : ∀ (g15 : (Nat → Int32)) (H : Heap) (locs : List Loc) (ls : Array Slot), z19 = g15 → va_P D vwCl [oX0 a_o a_o_inner a_o_owners a_o_nears a_o_basePlaces a_o_baseFactors a_o_baseStarts v_o_bases v_o_thirds, aI cI a_o_inner 120 f_o_inner, aI cI a_o_nears 360 g15, aI cI a_o_basePlaces 120 f_o_basePlaces, aI cI a_o_baseFactors 120 f_o_baseFactors, aI cI a_o_baseStarts 4 f_o_baseStarts, oX4 a_p1 v_p1_wide v_p1_high v_p1_wells a_p1_kinds a_p1_wellPlaces a_p1_wellWorths a_p1_rules, aI cI a_p1_kinds 120 f_p1_kinds] H → va_D A [oX0 a_o a_o_inner a_o_owners a_o_nears a_o_basePlaces a_o_baseFactors a_o_baseStarts v_o_bases v_o_thirds, aI cI a_o_inner 120 f_o_inner, aI cI a_o_nears 360 g15, aI cI a_o_basePlaces 120 f_o_basePlaces, aI cI a_o_baseFactors 120 f_o_baseFactors, aI cI a_o_baseStarts 4 f_o_baseStarts, oX4 a_p1 v_p1_wide v_p1_high v_p1_wells a_p1_kinds a_p1_wellPlaces a_p1_wellWorths a_p1_rules, aI cI a_p1_kinds 120 f_p1_kinds] → va_S A s.heap H locs → lv_has ls 5 [(0, .ref a_o), (1, .ref a_p1), (2, .int x1)] → W p l e (cz_rm 2 50) s m ag below meth c H locs 0 0 Q (F0 m 75 ls []) := by
          intro g15 H locs ls h hP hD hS hl
          replace h := hz16 _ h
          obtain ⟨x20, ex20⟩ : ∃ z : Int32, z = x1 + (1 : Int32) := ⟨_, rfl⟩
          replace h := cz_ltE ex20 h
          refine lv_iinc (v := x20) (lv' := [(2, .int x20), (0, .ref a_o), (1, .ref a_p1)]) hx hb dX0_measure_75 hl (k := 2) rfl (by rw [ex20]; rfl) (by decide) rfl (fun ls hl => ?_)
          refine lv_goto (tgt := 2) hx hb dX0_measure_78 (by decide) ?_
          exact ih11 _ _ _ _ _ h hP hD hS (lv_sub hl [1, 2, 0] rfl)
        clear h
        have h := hE17
        refine lv_if_ne (tgt := 75) hx hb dX0_measure_13 (by decide) (fun c21 => ?_) (fun c21 => ?_)
        · replace h := cz_f c21 h
          exact hJ18 _ _ _ _ (cz_i h).symm hP hD hS (lv_sub hl [0, 1, 2] rfl)
        · replace h := cz_t c21 h
          refine lv_aload_n hx hb dX0_measure_16 rfl (lv_at hl 0 rfl) ?_
          refine va_get (D := D) (ci := 0) (v := .ref a_o_inner) (C := RX0) (T := TX0) (N := 8) hx hb hts in_X0 hown hK hP 0 rfl rfl 0 (by decide) (hts _ mw_1_109) (fun _ h9 => h9) rfl dX0_measure_17 ?_
          refine lv_iload_n hx hb dX0_measure_20 rfl (lv_at hl 2 rfl) ?_
          refine cz_iald hx hb hK hP 1 0 rfl rfl (cz_rdE h).1 dX0_measure_21 (fun x22 ex22 => ?_)
          replace h := cz_rdK ex22 h
          refine lv_bipush (v := (-9 : Int32)) hx hb dX0_measure_22 (by decide) ?_
          refine lv_icmp_ne (tgt := 75) hx hb dX0_measure_24 (by decide) (fun c23 => ?_) (fun c23 => ?_)
          · replace h := cz_f c23 h
            exact hJ18 _ _ _ _ (cz_i h).symm hP hD hS (lv_sub hl [0, 1, 2] rfl)
          · replace h := cz_t c23 h
            refine lv_iconst (v := (0 : Int32)) hx hb dX0_measure_27 (by decide) ?_
            refine lv_istore_n (lv' := [(3, .int (0 : Int32)), (0, .ref a_o), (1, .ref a_p1), (2, .int x1)]) hx hb dX0_measure_28 rfl hl (by decide) rfl (fun ls hl => ?_)
            obtain ⟨z26, hE27, hz28⟩ := cz_x2 h
            have hX29 : ∀ (y32 : Int32) (q33 : (Nat → Int32)) (H : Heap) (locs : List Loc) (ls : Array Slot), z26 = (y32, q33) → va_P D vwCl [oX0 a_o a_o_inner a_o_owners a_o_nears a_o_basePlaces a_o_baseFactors a_o_baseStarts v_o_bases v_o_thirds, aI cI a_o_inner 120 f_o_inner, aI cI a_o_nears 360 q33, aI cI a_o_basePlaces 120 f_o_basePlaces, aI cI a_o_baseFactors 120 f_o_baseFactors, aI cI a_o_baseStarts 4 f_o_baseStarts, oX4 a_p1 v_p1_wide v_p1_high v_p1_wells a_p1_kinds a_p1_wellPlaces a_p1_wellWorths a_p1_rules, aI cI a_p1_kinds 120 f_p1_kinds] H → va_D A [oX0 a_o a_o_inner a_o_owners a_o_nears a_o_basePlaces a_o_baseFactors a_o_baseStarts v_o_bases v_o_thirds, aI cI a_o_inner 120 f_o_inner, aI cI a_o_nears 360 q33, aI cI a_o_basePlaces 120 f_o_basePlaces, aI cI a_o_baseFactors 120 f_o_baseFactors, aI cI a_o_baseStarts 4 f_o_baseStarts, oX4 a_p1 v_p1_wide v_p1_high v_p1_wells a_p1_kinds a_p1_wellPlaces a_p1_wellWorths a_p1_rules, aI cI a_p1_kinds 120 f_p1_kinds] → va_S A s.heap H locs → lv_has ls 5 [(0, .ref a_o), (1, .ref a_p1), (2, .int x1)] → W p l e (cz_rm 2 50) s m ag below meth c H locs 0 0 Q (F0 m 75 ls []) := by
              intro y32 q33 H locs ls h hP hD hS hl
              replace h := hz28 _ _ h
              exact hJ18 _ _ _ _ (cz_i h).symm hP hD hS (lv_sub hl [0, 1, 2] rfl)
            clear h
            have hL30 : ∀ (k : Nat) (x24 : Int32) (g25 : (Nat → Int32)) (H : Heap) (locs : List Loc) (ls : Array Slot), f_X0_measure_L29 n f_o_basePlaces f_o_baseFactors f_o_baseStarts x1 k x24 g25 = some z26 → va_P D vwCl [oX0 a_o a_o_inner a_o_owners a_o_nears a_o_basePlaces a_o_baseFactors a_o_baseStarts v_o_bases v_o_thirds, aI cI a_o_inner 120 f_o_inner, aI cI a_o_nears 360 g25, aI cI a_o_basePlaces 120 f_o_basePlaces, aI cI a_o_baseFactors 120 f_o_baseFactors, aI cI a_o_baseStarts 4 f_o_baseStarts, oX4 a_p1 v_p1_wide v_p1_high v_p1_wells a_p1_kinds a_p1_wellPlaces a_p1_wellWorths a_p1_rules, aI cI a_p1_kinds 120 f_p1_kinds] H → va_D A [oX0 a_o a_o_inner a_o_owners a_o_nears a_o_basePlaces a_o_baseFactors a_o_baseStarts v_o_bases v_o_thirds, aI cI a_o_inner 120 f_o_inner, aI cI a_o_nears 360 g25, aI cI a_o_basePlaces 120 f_o_basePlaces, aI cI a_o_baseFactors 120 f_o_baseFactors, aI cI a_o_baseStarts 4 f_o_baseStarts, oX4 a_p1 v_p1_wide v_p1_high v_p1_wells a_p1_kinds a_p1_wellPlaces a_p1_wellWorths a_p1_rules, aI cI a_p1_kinds 120 f_p1_kinds] → va_S A s.heap H locs → lv_has ls 5 [(0, .ref a_o), (1, .ref a_p1), (2, .int x1), (3, .int x24)] → W p l e (cz_rm 2 50) s m ag below meth c H locs 0 0 Q (F0 m 29 ls []) := by
              intro k
              induction k with
              | zero =>
                intro x24 g25 H locs ls h
                rw [f_X0_measure_L29] at h
                cases h
              | succ k ih34 =>
                intro x24 g25 H locs ls h hP hD hS hl
                rw [f_X0_measure_L29] at h
                refine lv_iload_n hx hb dX0_measure_29 rfl (lv_at hl 3 rfl) ?_
                refine lv_iconst (v := (3 : Int32)) hx hb dX0_measure_30 (by decide) ?_
                refine lv_icmp_ge (tgt := 75) hx hb dX0_measure_31 (by decide) (fun c35 => ?_) (fun c35 => ?_)
                · replace h := cz_t c35 h
                  exact hX29 _ _ _ _ _ (cz_i h).symm hP hD hS (lv_sub hl [0, 1, 2] rfl)
                · replace h := cz_f c35 h
                  refine lv_aload_n hx hb dX0_measure_34 rfl (lv_at hl 0 rfl) ?_
                  refine lv_iload_n hx hb dX0_measure_35 rfl (lv_at hl 2 rfl) ?_
                  refine lv_iload_n hx hb dX0_measure_36 rfl (lv_at hl 3 rfl) ?_
                  obtain ⟨x36, hc37, h⟩ := cz_e1 h
                  refine cz_callV (As := [.int x1, .int x24]) (rest := []) (is := [0, 3, 4, 5]) (isR := [1, 2, 6, 7]) (rs := [aI cI a_o_inner 120 f_o_inner, aI cI a_o_nears 360 g25, oX4 a_p1 v_p1_wide v_p1_high v_p1_wells a_p1_kinds a_p1_wellPlaces a_p1_wellWorths a_p1_rules, aI cI a_p1_kinds 120 f_p1_kinds]) (as := [a_o, a_o_inner, a_o_nears, a_o_basePlaces, a_o_baseFactors, a_o_baseStarts, a_p1, a_p1_kinds]) (ws1 := [oX0 a_o a_o_inner a_o_owners a_o_nears a_o_basePlaces a_o_baseFactors a_o_baseStarts v_o_bases v_o_thirds, aI cI a_o_inner 120 f_o_inner, aI cI a_o_nears 360 g25, aI cI a_o_basePlaces 120 f_o_basePlaces, aI cI a_o_baseFactors 120 f_o_baseFactors, aI cI a_o_baseStarts 4 f_o_baseStarts, oX4 a_p1 v_p1_wide v_p1_high v_p1_wells a_p1_kinds a_p1_wellPlaces a_p1_wellWorths a_p1_rules, aI cI a_p1_kinds 120 f_p1_kinds]) (q0 := 0) (ci := 0) ⟨hx, hb, hml, hown, hts⟩ (c_X0_nearestBase l D cI a_o a_o_basePlaces a_o_baseFactors a_o_baseStarts a_o_inner a_o_owners a_o_nears v_o_bases v_o_thirds f_o_basePlaces f_o_baseFactors f_o_baseStarts x1 x24 n x36 hc37) mw_2_201 mw_2_163 mw_2_164 mw_1_6 mw_2_165 hd_X0_nearestBase ⟨Nat.le_of_ble_eq_true rfl, Nat.le_of_ble_eq_true rfl⟩ hK hN hP hD hS rfl rfl rfl rfl rfl rfl rfl rfl rfl rfl rfl rfl hl.1 rfl (Nat.le_of_ble_eq_true rfl) dX0_measure_37 ⟨Nat.le_of_ble_eq_true rfl, Nat.le_of_ble_eq_true rfl⟩ (fun H locs hP hD hS => ?_)
                  refine W.eq (g2 := F0 m 40 ls [.int x36]) rfl ?_
                  refine lv_istore (lv' := [(4, .int x36), (0, .ref a_o), (1, .ref a_p1), (2, .int x1), (3, .int x24)]) hx hb dX0_measure_40 hl (by decide) rfl (fun ls hl => ?_)
                  refine lv_aload_n hx hb dX0_measure_42 rfl (lv_at hl 1 rfl) ?_
                  refine va_get (D := D) (ci := 0) (v := .ref a_o_nears) (C := RX0) (T := TX0) (N := 8) hx hb hts in_X0 hown hK hP 0 rfl rfl 2 (by decide) (hts _ mw_1_111) (fun _ h9 => h9) rfl dX0_measure_43 ?_
                  refine lv_iload_n hx hb dX0_measure_46 rfl (lv_at hl 3 rfl) ?_
                  refine lv_iconst (v := (3 : Int32)) hx hb dX0_measure_47 (by decide) ?_
                  refine lv_imul hx hb dX0_measure_48 ?_
                  refine lv_iload_n hx hb dX0_measure_49 rfl (lv_at hl 4 rfl) ?_
                  refine lv_iadd hx hb dX0_measure_50 ?_
                  refine lv_iload hx hb dX0_measure_51 (lv_at hl 0 rfl) ?_
                  obtain ⟨z42, hE40, hz39⟩ := cz_x1 h
                  have hJ41 : ∀ (x38 : Int32) (H : Heap) (locs : List Loc) (ls : Array Slot), z42 = x38 → va_P D vwCl [oX0 a_o a_o_inner a_o_owners a_o_nears a_o_basePlaces a_o_baseFactors a_o_baseStarts v_o_bases v_o_thirds, aI cI a_o_inner 120 f_o_inner, aI cI a_o_nears 360 g25, aI cI a_o_basePlaces 120 f_o_basePlaces, aI cI a_o_baseFactors 120 f_o_baseFactors, aI cI a_o_baseStarts 4 f_o_baseStarts, oX4 a_p1 v_p1_wide v_p1_high v_p1_wells a_p1_kinds a_p1_wellPlaces a_p1_wellWorths a_p1_rules, aI cI a_p1_kinds 120 f_p1_kinds] H → va_D A [oX0 a_o a_o_inner a_o_owners a_o_nears a_o_basePlaces a_o_baseFactors a_o_baseStarts v_o_bases v_o_thirds, aI cI a_o_inner 120 f_o_inner, aI cI a_o_nears 360 g25, aI cI a_o_basePlaces 120 f_o_basePlaces, aI cI a_o_baseFactors 120 f_o_baseFactors, aI cI a_o_baseStarts 4 f_o_baseStarts, oX4 a_p1 v_p1_wide v_p1_high v_p1_wells a_p1_kinds a_p1_wellPlaces a_p1_wellWorths a_p1_rules, aI cI a_p1_kinds 120 f_p1_kinds] → va_S A s.heap H locs → lv_has ls 5 [(0, .ref a_o), (1, .ref a_p1), (2, .int x1), (3, .int x24)] → W p l e (cz_rm 2 50) s m ag below meth c H locs 0 0 Q (F0 m 68 ls [.int x38, .int ((x1 * (3 : Int32)) + x24), .ref a_o_nears]) := by
                    intro x38 H locs ls h hP hD hS hl
                    replace h := hz39 _ h
                    refine cz_iast hx hb hK hP hD hS 2 0 rfl rfl (cz_wrE h).1 dX0_measure_68 (fun g43 H locs eg43 hP hD hS => ?_)
                    replace h := cz_wrK eg43 h
                    replace hP : va_P D vwCl [oX0 a_o a_o_inner a_o_owners a_o_nears a_o_basePlaces a_o_baseFactors a_o_baseStarts v_o_bases v_o_thirds, aI cI a_o_inner 120 f_o_inner, aI cI a_o_nears 360 g43, aI cI a_o_basePlaces 120 f_o_basePlaces, aI cI a_o_baseFactors 120 f_o_baseFactors, aI cI a_o_baseStarts 4 f_o_baseStarts, oX4 a_p1 v_p1_wide v_p1_high v_p1_wells a_p1_kinds a_p1_wellPlaces a_p1_wellWorths a_p1_rules, aI cI a_p1_kinds 120 f_p1_kinds] H := hP
                    replace hD : va_D A [oX0 a_o a_o_inner a_o_owners a_o_nears a_o_basePlaces a_o_baseFactors a_o_baseStarts v_o_bases v_o_thirds, aI cI a_o_inner 120 f_o_inner, aI cI a_o_nears 360 g43, aI cI a_o_basePlaces 120 f_o_basePlaces, aI cI a_o_baseFactors 120 f_o_baseFactors, aI cI a_o_baseStarts 4 f_o_baseStarts, oX4 a_p1 v_p1_wide v_p1_high v_p1_wells a_p1_kinds a_p1_wellPlaces a_p1_wellWorths a_p1_rules, aI cI a_p1_kinds 120 f_p1_kinds] := hD
                    obtain ⟨x44, ex44⟩ : ∃ z : Int32, z = x24 + (1 : Int32) := ⟨_, rfl⟩
                    replace h := cz_ltE ex44 h
                    refine lv_iinc (v := x44) (lv' := [(3, .int x44), (0, .ref a_o), (1, .ref a_p1), (2, .int x1)]) hx hb dX0_measure_69 hl (k := 3) rfl (by rw [ex44]; rfl) (by decide) rfl (fun ls hl => ?_)
                    refine lv_goto (tgt := 29) hx hb dX0_measure_72 (by decide) ?_
                    exact ih34 _ _ _ _ _ h hP hD hS (lv_sub hl [1, 2, 3, 0] rfl)
                  clear h
                  have h := hE40
                  refine lv_if_ge (tgt := 61) hx hb dX0_measure_53 (by decide) (fun c45 => ?_) (fun c45 => ?_)
                  · replace h := cz_t c45 h
                    refine lv_aload_n hx hb dX0_measure_61 rfl (lv_at hl 1 rfl) ?_
                    refine lv_iload_n hx hb dX0_measure_62 rfl (lv_at hl 3 rfl) ?_
                    refine lv_iload hx hb dX0_measure_63 (lv_at hl 0 rfl) ?_
                    obtain ⟨x46, hc47, h⟩ := cz_e1 h
                    refine cz_callV (As := [.int x1, .int x36]) (rest := [.int ((x1 * (3 : Int32)) + x24), .ref a_o_nears]) (is := [0, 3, 4]) (isR := [1, 2, 5, 6, 7]) (rs := [aI cI a_o_inner 120 f_o_inner, aI cI a_o_nears 360 g25, aI cI a_o_baseStarts 4 f_o_baseStarts, oX4 a_p1 v_p1_wide v_p1_high v_p1_wells a_p1_kinds a_p1_wellPlaces a_p1_wellWorths a_p1_rules, aI cI a_p1_kinds 120 f_p1_kinds]) (as := [a_o, a_o_inner, a_o_nears, a_o_basePlaces, a_o_baseFactors, a_o_baseStarts, a_p1, a_p1_kinds]) (ws1 := [oX0 a_o a_o_inner a_o_owners a_o_nears a_o_basePlaces a_o_baseFactors a_o_baseStarts v_o_bases v_o_thirds, aI cI a_o_inner 120 f_o_inner, aI cI a_o_nears 360 g25, aI cI a_o_basePlaces 120 f_o_basePlaces, aI cI a_o_baseFactors 120 f_o_baseFactors, aI cI a_o_baseStarts 4 f_o_baseStarts, oX4 a_p1 v_p1_wide v_p1_high v_p1_wells a_p1_kinds a_p1_wellPlaces a_p1_wellWorths a_p1_rules, aI cI a_p1_kinds 120 f_p1_kinds]) (q0 := 0) (ci := 0) ⟨hx, hb, hml, hown, hts⟩ (c_X0_squareTo l D cI a_o a_o_basePlaces a_o_baseFactors a_o_inner a_o_owners a_o_nears a_o_baseStarts v_o_bases v_o_thirds f_o_basePlaces f_o_baseFactors x1 x36 n x46 hc47) mw_2_167 mw_2_168 mw_2_169 mw_1_6 mw_2_170 hd_X0_squareTo ⟨Nat.le_of_ble_eq_true rfl, Nat.le_of_ble_eq_true rfl⟩ hK hN hP hD hS rfl rfl rfl rfl rfl rfl rfl rfl rfl rfl rfl rfl hl.1 rfl (Nat.le_of_ble_eq_true rfl) dX0_measure_65 ⟨Nat.le_of_ble_eq_true rfl, Nat.le_of_ble_eq_true rfl⟩ (fun H locs hP hD hS => ?_)
                    refine W.eq (g2 := F0 m 68 ls [.int x46, .int ((x1 * (3 : Int32)) + x24), .ref a_o_nears]) rfl ?_
                    exact hJ41 _ _ _ _ (cz_i h).symm hP hD hS (lv_sub hl [1, 2, 3, 4] rfl)
                  · replace h := cz_f c45 h
                    refine lv_bipush (v := (-9 : Int32)) hx hb dX0_measure_56 (by decide) ?_
                    refine lv_goto (tgt := 68) hx hb dX0_measure_58 (by decide) ?_
                    exact hJ41 _ _ _ _ (cz_i h).symm hP hD hS (lv_sub hl [1, 2, 3, 4] rfl)
            exact hL30 n _ _ _ _ _ hE27 hP hD hS (lv_sub hl [1, 2, 3, 0] rfl)
  exact hL7 n _ _ _ _ _ hE4 hP hD hS (lv_sub hl [1, 2, 0] rfl)
