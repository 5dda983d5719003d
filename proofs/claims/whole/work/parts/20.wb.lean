set_option maxHeartbeats 4000000 in
set_option maxRecDepth 100000 in
theorem c_X0_nearOf (l : Launch) (D : va_G) (cI : ClassId) (a_o a_o_nears a_o_inner a_o_owners a_o_basePlaces a_o_baseFactors a_o_baseStarts : Nat) (v_o_bases : Int32) (v_o_thirds : Int32) (f_o_nears : (Nat → Int32)) (w1 : Int32) (w2 : Int32) (n : Nat) (r : Int32) (h : f_X0_nearOf n f_o_nears w1 w2 = some r) : cz_M l yX0_nearOf cX0_nearOf 4 (some .int) 0 0 D cI [.ref a_o, .int w1, .int w2] [oX0 a_o a_o_inner a_o_owners a_o_nears a_o_basePlaces a_o_baseFactors a_o_baseStarts v_o_bases v_o_thirds, aI cI a_o_nears 360 f_o_nears] (some (.int r)) [oX0 a_o a_o_inner a_o_owners a_o_nears a_o_basePlaces a_o_baseFactors a_o_baseStarts v_o_bases v_o_thirds, aI cI a_o_nears 360 f_o_nears] := by
  refine cz_startI (by decide) (Nat.le_of_ble_eq_true rfl) ?_
  intro p e s m ag below meth c A Q hx hb hml hown hts hK hN hQ H locs hP hD hS ls hl
  replace hown : s.vm.findClass RX0 = some m.cls := hown
  replace hl : lv_has ls 4 [(0, .ref a_o), (1, .int w1), (2, .int w2)] := hl
  unfold f_X0_nearOf at h
  refine lv_iload_n hx hb dX0_nearOf_0 rfl (lv_at hl 1 rfl) ?_
  refine lv_iconst (v := (3 : Int32)) hx hb dX0_nearOf_1 (by decide) ?_
  refine lv_imul hx hb dX0_nearOf_2 ?_
  refine lv_iload_n hx hb dX0_nearOf_3 rfl (lv_at hl 2 rfl) ?_
  refine lv_iadd hx hb dX0_nearOf_4 ?_
  refine lv_topi (fun x1 ex1 => ?_)
  replace h := cz_ltE ex1 h
  refine lv_istore_n (lv' := [(3, .int x1), (0, .ref a_o), (1, .int w1), (2, .int w2)]) hx hb dX0_nearOf_5 rfl hl (by decide) rfl (fun ls hl => ?_)
  refine lv_iload_n hx hb dX0_nearOf_6 rfl (lv_at hl 0 rfl) ?_
  refine lv_if_lt (tgt := 28) hx hb dX0_nearOf_7 (by decide) (fun c2 => ?_) (fun c2 => ?_)
  · replace h := cz_t c2 h
    refine lv_bipush (v := (-9 : Int32)) hx hb dX0_nearOf_28 (by decide) ?_
    obtain rfl := cz_i h
    exact hQ _ _ _ _ hP hS dX0_nearOf_30
  · replace h := cz_f c2 h
    refine lv_iload_n hx hb dX0_nearOf_10 rfl (lv_at hl 0 rfl) ?_
    refine lv_aload_n hx hb dX0_nearOf_11 rfl (lv_at hl 1 rfl) ?_
    refine va_get (D := D) (ci := 0) (v := .ref a_o_nears) (C := RX0) (T := TX0) (N := 8) hx hb hts in_X0 hown hK hP 0 rfl rfl 2 (by decide) (hts _ mw_1_111) (fun _ h9 => h9) rfl dX0_nearOf_12 ?_
    refine va_alen (v := (360 : Int32)) hx hb hK hP 1 0 rfl rfl rfl dX0_nearOf_15 ?_
    refine lv_icmp_ge (tgt := 28) hx hb dX0_nearOf_16 (by decide) (fun c3 => ?_) (fun c3 => ?_)
    · replace h := cz_t c3 h
      refine lv_bipush (v := (-9 : Int32)) hx hb dX0_nearOf_28 (by decide) ?_
      obtain rfl := cz_i h
      exact hQ _ _ _ _ hP hS dX0_nearOf_30
    · replace h := cz_f c3 h
      refine lv_aload_n hx hb dX0_nearOf_19 rfl (lv_at hl 1 rfl) ?_
      refine va_get (D := D) (ci := 0) (v := .ref a_o_nears) (C := RX0) (T := TX0) (N := 8) hx hb hts in_X0 hown hK hP 0 rfl rfl 2 (by decide) (hts _ mw_1_111) (fun _ h9 => h9) rfl dX0_nearOf_20 ?_
      refine lv_iload_n hx hb dX0_nearOf_23 rfl (lv_at hl 0 rfl) ?_
      refine cz_iald hx hb hK hP 1 0 rfl rfl (cz_rdE h).1 dX0_nearOf_24 (fun x4 ex4 => ?_)
      replace h := cz_rdK ex4 h
      refine lv_goto (tgt := 30) hx hb dX0_nearOf_25 (by decide) ?_
      obtain rfl := cz_i h
      exact hQ _ _ _ _ hP hS dX0_nearOf_30
set_option maxHeartbeats 4000000 in
set_option maxRecDepth 100000 in
theorem c_X0_percent (l : Launch) (D : va_G) (cI : ClassId)  (w1 : Int32) (w2 : Int32) (n : Nat) (r : Int32) (h : f_X0_percent n w1 w2 = some r) : cz_M l yX0_percent cX0_percent 2 (some .int) 0 0 D cI [.int w1, .int w2] [] (some (.int r)) [] := by
  refine cz_startI (by decide) (Nat.le_of_ble_eq_true rfl) ?_
  intro p e s m ag below meth c A Q hx hb hml hown hts hK hN hQ H locs hP hD hS ls hl
  replace hown : s.vm.findClass RX0 = some m.cls := hown
  replace hl : lv_has ls 2 [(0, .int w1), (1, .int w2)] := hl
  unfold f_X0_percent at h
  refine lv_iload_n hx hb dX0_percent_0 rfl (lv_at hl 0 rfl) ?_
  refine lv_if_ne (tgt := 9) hx hb dX0_percent_1 (by decide) (fun c1 => ?_) (fun c1 => ?_)
  · replace h := cz_f c1 h
    refine lv_iload_n hx hb dX0_percent_9 rfl (lv_at hl 0 rfl) ?_
    refine lv_iconst (v := (1 : Int32)) hx hb dX0_percent_10 (by decide) ?_
    refine lv_icmp_ne (tgt := 21) hx hb dX0_percent_11 (by decide) (fun c2 => ?_) (fun c2 => ?_)
    · replace h := cz_f c2 h
      refine lv_bipush (v := (100 : Int32)) hx hb dX0_percent_21 (by decide) ?_
      obtain rfl := cz_i h
      exact hQ _ _ _ _ hP hS dX0_percent_23
    · replace h := cz_t c2 h
      refine lv_bipush (v := (100 : Int32)) hx hb dX0_percent_14 (by decide) ?_
      refine lv_iload_n hx hb dX0_percent_16 rfl (lv_at hl 1 rfl) ?_
      refine lv_iadd hx hb dX0_percent_17 ?_
      refine lv_goto (tgt := 23) hx hb dX0_percent_18 (by decide) ?_
      obtain rfl := cz_i h
      exact hQ _ _ _ _ hP hS dX0_percent_23
  · replace h := cz_t c1 h
    refine lv_bipush (v := (100 : Int32)) hx hb dX0_percent_4 (by decide) ?_
    refine lv_iload_n hx hb dX0_percent_6 rfl (lv_at hl 1 rfl) ?_
    refine lv_isub hx hb dX0_percent_7 ?_
    obtain rfl := cz_i h
    exact hQ _ _ _ _ hP hS dX0_percent_8
set_option maxHeartbeats 4000000 in
set_option maxRecDepth 100000 in
theorem c_X0_nearestLand (l : Launch) (D : va_G) (cI : ClassId) (a_o a_o_nears a_o_inner a_o_owners a_o_basePlaces a_o_baseFactors a_o_baseStarts : Nat) (v_o_bases : Int32) (v_o_thirds : Int32) (f_o_nears : (Nat → Int32)) (w1 : Int32) (w2 : Int32) (w3 : Int32) (n : Nat) (r : Int32) (r_v_o_thirds : Int32) (h : f_X0_nearestLand n v_o_thirds f_o_nears w1 w2 w3 = some (r, r_v_o_thirds)) : cz_M l yX0_nearestLand cX0_nearestLand 10 (some .int) 1 23 D cI [.ref a_o, .int w1, .int w2, .int w3] [oX0 a_o a_o_inner a_o_owners a_o_nears a_o_basePlaces a_o_baseFactors a_o_baseStarts v_o_bases v_o_thirds, aI cI a_o_nears 360 f_o_nears] (some (.int r)) [oX0 a_o a_o_inner a_o_owners a_o_nears a_o_basePlaces a_o_baseFactors a_o_baseStarts v_o_bases r_v_o_thirds, aI cI a_o_nears 360 f_o_nears] := by
  refine cz_startI (by decide) (Nat.le_of_ble_eq_true rfl) ?_
  intro p e s m ag below meth c A Q hx hb hml hown hts hK hN hQ H locs hP hD hS ls hl
  replace hown : s.vm.findClass RX0 = some m.cls := hown
  replace hl : lv_has ls 10 [(0, .ref a_o), (1, .int w1), (2, .int w2), (3, .int w3)] := hl
  unfold f_X0_nearestLand at h
  refine lv_bipush (v := (-3 : Int32)) hx hb dX0_nearestLand_0 (by decide) ?_
  refine lv_istore (lv' := [(4, .int (-3 : Int32)), (0, .ref a_o), (1, .int w1), (2, .int w2), (3, .int w3)]) hx hb dX0_nearestLand_2 hl (by decide) rfl (fun ls hl => ?_)
  refine lv_iconst (v := (0 : Int32)) hx hb dX0_nearestLand_4 (by decide) ?_
  refine lv_istore (lv' := [(5, .int (0 : Int32)), (4, .int (-3 : Int32)), (0, .ref a_o), (1, .int w1), (2, .int w2), (3, .int w3)]) hx hb dX0_nearestLand_5 hl (by decide) rfl (fun ls hl => ?_)
  refine lv_iconst (v := (0 : Int32)) hx hb dX0_nearestLand_7 (by decide) ?_
  refine lv_istore (lv' := [(6, .int (0 : Int32)), (5, .int (0 : Int32)), (4, .int (-3 : Int32)), (0, .ref a_o), (1, .int w1), (2, .int w2), (3, .int w3)]) hx hb dX0_nearestLand_8 hl (by decide) rfl (fun ls hl => ?_)
  refine lv_iconst (v := (0 : Int32)) hx hb dX0_nearestLand_10 (by decide) ?_
  refine lv_istore (lv' := [(7, .int (0 : Int32)), (6, .int (0 : Int32)), (5, .int (0 : Int32)), (4, .int (-3 : Int32)), (0, .ref a_o), (1, .int w1), (2, .int w2), (3, .int w3)]) hx hb dX0_nearestLand_11 hl (by decide) rfl (fun ls hl => ?_)
  obtain ⟨z5, hE6, hz7⟩ := cz_x4 h
  have hX8 : ∀ (y11 : Int32) (y12 : Int32) (y13 : Int32) (y14 : Int32) (H : Heap) (locs : List Loc) (ls : Array Slot), z5 = (y11, y12, y13, y14) → va_P D vwCl [oX0 a_o a_o_inner a_o_owners a_o_nears a_o_basePlaces a_o_baseFactors a_o_baseStarts v_o_bases v_o_thirds, aI cI a_o_nears 360 f_o_nears] H → va_D A [oX0 a_o a_o_inner a_o_owners a_o_nears a_o_basePlaces a_o_baseFactors a_o_baseStarts v_o_bases v_o_thirds, aI cI a_o_nears 360 f_o_nears] → va_S A s.heap H locs → lv_has ls 10 [(0, .ref a_o), (4, .int y11), (6, .int y13)] → W p l e (cz_rm 1 23) s m ag below meth c H locs 0 0 Q (F0 m 98 ls []) := by
    intro y11 y12 y13 y14 H locs ls h hP hD hS hl
    replace h := hz7 _ _ _ _ h
    refine lv_iload hx hb dX0_nearestLand_98 (lv_at hl 2 rfl) ?_
    refine lv_iconst (v := (3 : Int32)) hx hb dX0_nearestLand_100 (by decide) ?_
    refine lv_icmp_ne (tgt := 114) hx hb dX0_nearestLand_101 (by decide) (fun c15 => ?_) (fun c15 => ?_)
    · replace h := cz_f c15 h
      refine lv_iload hx hb dX0_nearestLand_114 (lv_at hl 1 rfl) ?_
      obtain ⟨rfl, rfl⟩ := cz_j2 (cz_i h)
      exact hQ _ _ _ _ hP hS dX0_nearestLand_116
    · replace h := cz_t c15 h
      refine lv_aload_n hx hb dX0_nearestLand_104 rfl (lv_at hl 0 rfl) ?_
      refine lv_dup hx hb dX0_nearestLand_105 rfl ?_
      refine va_get (D := D) (ci := 0) (v := .int v_o_thirds) (C := RX0) (T := TX0) (N := 8) hx hb hts in_X0 hown hK hP 0 rfl rfl 7 (by decide) (hts _ mw_1_116) (fun _ h9 => h9) rfl dX0_nearestLand_106 ?_
      refine lv_iconst (v := (1 : Int32)) hx hb dX0_nearestLand_109 (by decide) ?_
      refine lv_iadd hx hb dX0_nearestLand_110 ?_
      refine lv_topi (fun x16 ex16 => ?_)
      replace h := cz_ltE ex16 h
      refine va_put (D := D) (ci := 0) (v := .int x16) (ty := .int) (C := RX0) (T := TX0) (N := 8) hx hb hts in_X0 tyX0 tyX0_ok nmX0 hown hK hP hD hS 0 rfl rfl 7 (by decide) (hts _ mw_1_116) (fun _ h9 => h9) rfl (by decide +kernel) rfl rfl (Nat.le_of_ble_eq_true rfl) dX0_nearestLand_111 (fun H locs hP hD hS => ?_)
      replace hP : va_P D vwCl [oX0 a_o a_o_inner a_o_owners a_o_nears a_o_basePlaces a_o_baseFactors a_o_baseStarts v_o_bases x16, aI cI a_o_nears 360 f_o_nears] H := hP
      replace hD : va_D A [oX0 a_o a_o_inner a_o_owners a_o_nears a_o_basePlaces a_o_baseFactors a_o_baseStarts v_o_bases x16, aI cI a_o_nears 360 f_o_nears] := hD
      refine lv_iload hx hb dX0_nearestLand_114 (lv_at hl 1 rfl) ?_
      obtain ⟨rfl, rfl⟩ := cz_j2 (cz_i h)
      exact hQ _ _ _ _ hP hS dX0_nearestLand_116
  clear h
  have hL9 : ∀ (k : Nat) (x1 : Int32) (x2 : Int32) (x3 : Int32) (x4 : Int32) (H : Heap) (locs : List Loc) (ls : Array Slot), f_X0_nearestLand_L13 n f_o_nears w1 w2 w3 k x1 x2 x3 x4 = some z5 → va_P D vwCl [oX0 a_o a_o_inner a_o_owners a_o_nears a_o_basePlaces a_o_baseFactors a_o_baseStarts v_o_bases v_o_thirds, aI cI a_o_nears 360 f_o_nears] H → va_D A [oX0 a_o a_o_inner a_o_owners a_o_nears a_o_basePlaces a_o_baseFactors a_o_baseStarts v_o_bases v_o_thirds, aI cI a_o_nears 360 f_o_nears] → va_S A s.heap H locs → lv_has ls 10 [(0, .ref a_o), (1, .int w1), (2, .int w2), (3, .int w3), (4, .int x1), (5, .int x2), (6, .int x3), (7, .int x4)] → W p l e (cz_rm 1 23) s m ag below meth c H locs 0 0 Q (F0 m 13 ls []) := by
    intro k
    induction k with
    | zero =>
      intro x1 x2 x3 x4 H locs ls h
      rw [f_X0_nearestLand_L13] at h
      cases h
    | succ k ih17 =>
      intro x1 x2 x3 x4 H locs ls h hP hD hS hl
      rw [f_X0_nearestLand_L13] at h
      refine lv_iload hx hb dX0_nearestLand_13 (lv_at hl 7 rfl) ?_
      refine lv_iconst (v := (3 : Int32)) hx hb dX0_nearestLand_15 (by decide) ?_
      refine lv_icmp_ge (tgt := 98) hx hb dX0_nearestLand_16 (by decide) (fun c18 => ?_) (fun c18 => ?_)
      · replace h := cz_t c18 h
        exact hX8 _ _ _ _ _ _ _ (cz_i h).symm hP hD hS (lv_sub hl [0, 4, 6] rfl)
      · replace h := cz_f c18 h
        refine lv_aload_n hx hb dX0_nearestLand_19 rfl (lv_at hl 0 rfl) ?_
        refine lv_iload_n hx hb dX0_nearestLand_20 rfl (lv_at hl 1 rfl) ?_
        refine lv_iload hx hb dX0_nearestLand_21 (lv_at hl 7 rfl) ?_
        obtain ⟨x19, hc20, h⟩ := cz_e1 h
        refine cz_callV (As := [.int w1, .int x4]) (rest := []) (is := [0, 1]) (isR := []) (rs := []) (as := [a_o, a_o_nears]) (ws1 := [oX0 a_o a_o_inner a_o_owners a_o_nears a_o_basePlaces a_o_baseFactors a_o_baseStarts v_o_bases v_o_thirds, aI cI a_o_nears 360 f_o_nears]) (q0 := 0) (ci := 0) ⟨hx, hb, hml, hown, hts⟩ (c_X0_nearOf l D cI a_o a_o_nears a_o_inner a_o_owners a_o_basePlaces a_o_baseFactors a_o_baseStarts v_o_bases v_o_thirds f_o_nears w1 x4 n x19 hc20) mw_2_210 mw_2_211 mw_2_212 mw_1_6 mw_2_213 hd_X0_nearOf ⟨Nat.le_of_ble_eq_true rfl, Nat.le_of_ble_eq_true rfl⟩ hK hN hP hD hS rfl rfl rfl rfl rfl rfl rfl rfl rfl rfl rfl rfl hl.1 rfl (Nat.le_of_ble_eq_true rfl) dX0_nearestLand_23 ⟨Nat.le_of_ble_eq_true rfl, Nat.le_of_ble_eq_true rfl⟩ (fun H locs hP hD hS => ?_)
        refine W.eq (g2 := F0 m 26 ls [.int x19]) rfl ?_
        refine lv_istore (lv' := [(8, .int x19), (0, .ref a_o), (1, .int w1), (2, .int w2), (3, .int w3), (4, .int x1), (5, .int x2), (6, .int x3), (7, .int x4)]) hx hb dX0_nearestLand_26 hl (by decide) rfl (fun ls hl => ?_)
        refine lv_iload hx hb dX0_nearestLand_28 (lv_at hl 0 rfl) ?_
        obtain ⟨z27, hE25, hz24⟩ := cz_x3 h
        have hJ26 : ∀ (x21 : Int32) (x22 : Int32) (x23 : Int32) (H : Heap) (locs : List Loc) (ls : Array Slot), z27 = (x21, x22, x23) → va_P D vwCl [oX0 a_o a_o_inner a_o_owners a_o_nears a_o_basePlaces a_o_baseFactors a_o_baseStarts v_o_bases v_o_thirds, aI cI a_o_nears 360 f_o_nears] H → va_D A [oX0 a_o a_o_inner a_o_owners a_o_nears a_o_basePlaces a_o_baseFactors a_o_baseStarts v_o_bases v_o_thirds, aI cI a_o_nears 360 f_o_nears] → va_S A s.heap H locs → lv_has ls 10 [(0, .ref a_o), (1, .int w1), (2, .int w2), (3, .int w3), (4, .int x21), (5, .int x22), (6, .int x23), (7, .int x4)] → W p l e (cz_rm 1 23) s m ag below meth c H locs 0 0 Q (F0 m 92 ls []) := by
          intro x21 x22 x23 H locs ls h hP hD hS hl
          replace h := hz24 _ _ _ h
          obtain ⟨x28, ex28⟩ : ∃ z : Int32, z = x4 + (1 : Int32) := ⟨_, rfl⟩
          replace h := cz_ltE ex28 h
          refine lv_iinc (v := x28) (lv' := [(7, .int x28), (0, .ref a_o), (1, .int w1), (2, .int w2), (3, .int w3), (4, .int x21), (5, .int x22), (6, .int x23)]) hx hb dX0_nearestLand_92 hl (k := 7) rfl (by rw [ex28]; rfl) (by decide) rfl (fun ls hl => ?_)
          refine lv_goto (tgt := 13) hx hb dX0_nearestLand_95 (by decide) ?_
          exact ih17 _ _ _ _ _ _ _ h hP hD hS (lv_sub hl [1, 2, 3, 4, 5, 6, 7, 0] rfl)
        clear h
        have h := hE25
        refine lv_if_lt (tgt := 92) hx hb dX0_nearestLand_30 (by decide) (fun c29 => ?_) (fun c29 => ?_)
        · replace h := cz_t c29 h
          exact hJ26 _ _ _ _ _ _ (cz_i h).symm hP hD hS (lv_sub hl [1, 2, 3, 4, 5, 6, 7, 8] rfl)
        · replace h := cz_f c29 h
          refine lv_iload hx hb dX0_nearestLand_33 (lv_at hl 0 rfl) ?_
          refine lv_iload_n hx hb dX0_nearestLand_35 rfl (lv_at hl 3 rfl) ?_
          refine lv_icmp_gt (tgt := 92) hx hb dX0_nearestLand_36 (by decide) (fun c30 => ?_) (fun c30 => ?_)
          · replace h := cz_t c30 h
            exact hJ26 _ _ _ _ _ _ (cz_i h).symm hP hD hS (lv_sub hl [1, 2, 3, 4, 5, 6, 7, 8] rfl)
          · replace h := cz_f c30 h
            refine lv_iload hx hb dX0_nearestLand_39 (lv_at hl 0 rfl) ?_
            refine lv_iload hx hb dX0_nearestLand_41 (lv_at hl 8 rfl) ?_
            refine lv_iload_n hx hb dX0_nearestLand_43 rfl (lv_at hl 4 rfl) ?_
            obtain ⟨x31, hc32, h⟩ := cz_e1 h
            refine cz_callS (As := [.int x4, .int w3]) (rest := [.int x19]) (is := []) (isR := [0, 1]) (rs := [oX0 a_o a_o_inner a_o_owners a_o_nears a_o_basePlaces a_o_baseFactors a_o_baseStarts v_o_bases v_o_thirds, aI cI a_o_nears 360 f_o_nears]) (as := [a_o, a_o_nears]) (ws1 := [oX0 a_o a_o_inner a_o_owners a_o_nears a_o_basePlaces a_o_baseFactors a_o_baseStarts v_o_bases v_o_thirds, aI cI a_o_nears 360 f_o_nears]) ⟨hx, hb, hml, hown, hts⟩ (c_X0_percent l D cI   x4 w3 n x31 hc32) mw_2_214 mw_2_215 mw_1_6 mw_2_216 hd_X0_percent ⟨Nat.le_of_ble_eq_true rfl, Nat.le_of_ble_eq_true rfl⟩ hK hN hP hD hS rfl rfl rfl rfl rfl rfl rfl rfl rfl hl.1 rfl (Nat.le_of_ble_eq_true rfl) dX0_nearestLand_44 ⟨Nat.le_of_ble_eq_true rfl, Nat.le_of_ble_eq_true rfl⟩ (fun H locs hP hD hS => ?_)
            refine W.eq (g2 := F0 m 47 ls [.int x31, .int x19]) rfl ?_
            refine lv_imul hx hb dX0_nearestLand_47 ?_
            refine lv_topi (fun x33 ex33 => ?_)
            replace h := cz_ltE ex33 h
            refine lv_istore (lv' := [(9, .int x33), (8, .int x19), (0, .ref a_o), (1, .int w1), (2, .int w2), (3, .int w3), (4, .int x1), (5, .int x2), (6, .int x3), (7, .int x4)]) hx hb dX0_nearestLand_48 hl (by decide) rfl (fun ls hl => ?_)
            refine lv_iload hx hb dX0_nearestLand_50 (lv_at hl 6 rfl) ?_
            refine lv_bipush (v := (-3 : Int32)) hx hb dX0_nearestLand_52 (by decide) ?_
            refine lv_icmp_eq (tgt := 64) hx hb dX0_nearestLand_54 (by decide) (fun c34 => ?_) (fun c34 => ?_)
            · replace h := cz_t c34 h
              refine lv_iload hx hb dX0_nearestLand_64 (lv_at hl 9 rfl) ?_
              refine lv_istore (lv' := [(4, .int x4), (9, .int x33), (8, .int x19), (0, .ref a_o), (1, .int w1), (2, .int w2), (3, .int w3), (5, .int x2), (6, .int x3), (7, .int x4)]) hx hb dX0_nearestLand_66 hl (by decide) rfl (fun ls hl => ?_)
              refine lv_iload hx hb dX0_nearestLand_68 (lv_at hl 1 rfl) ?_
              refine lv_istore (lv' := [(5, .int x33), (4, .int x4), (9, .int x33), (8, .int x19), (0, .ref a_o), (1, .int w1), (2, .int w2), (3, .int w3), (6, .int x3), (7, .int x4)]) hx hb dX0_nearestLand_70 hl (by decide) rfl (fun ls hl => ?_)
              refine lv_iconst (v := (1 : Int32)) hx hb dX0_nearestLand_72 (by decide) ?_
              refine lv_istore (lv' := [(6, .int (1 : Int32)), (5, .int x33), (4, .int x4), (9, .int x33), (8, .int x19), (0, .ref a_o), (1, .int w1), (2, .int w2), (3, .int w3), (7, .int x4)]) hx hb dX0_nearestLand_73 hl (by decide) rfl (fun ls hl => ?_)
              refine lv_goto (tgt := 92) hx hb dX0_nearestLand_75 (by decide) ?_
              exact hJ26 _ _ _ _ _ _ (cz_i h).symm hP hD hS (lv_sub hl [5, 6, 7, 8, 2, 1, 0, 9] rfl)
            · replace h := cz_f c34 h
              refine lv_iload hx hb dX0_nearestLand_57 (lv_at hl 0 rfl) ?_
              refine lv_iload hx hb dX0_nearestLand_59 (lv_at hl 7 rfl) ?_
              refine lv_icmp_ge (tgt := 78) hx hb dX0_nearestLand_61 (by decide) (fun c35 => ?_) (fun c35 => ?_)
              · replace h := cz_t c35 h
                refine lv_iload hx hb dX0_nearestLand_78 (lv_at hl 0 rfl) ?_
                refine lv_iload hx hb dX0_nearestLand_80 (lv_at hl 7 rfl) ?_
                refine lv_icmp_ne (tgt := 92) hx hb dX0_nearestLand_82 (by decide) (fun c36 => ?_) (fun c36 => ?_)
                · replace h := cz_f c36 h
                  exact hJ26 _ _ _ _ _ _ (cz_i h).symm hP hD hS (lv_sub hl [2, 3, 4, 5, 6, 7, 8, 9] rfl)
                · replace h := cz_t c36 h
                  refine lv_bipush (v := (-2 : Int32)) hx hb dX0_nearestLand_85 (by decide) ?_
                  refine lv_istore (lv' := [(4, .int (-2 : Int32)), (9, .int x33), (8, .int x19), (0, .ref a_o), (1, .int w1), (2, .int w2), (3, .int w3), (5, .int x2), (6, .int x3), (7, .int x4)]) hx hb dX0_nearestLand_87 hl (by decide) rfl (fun ls hl => ?_)
                  obtain ⟨x37, ex37⟩ : ∃ z : Int32, z = x3 + (1 : Int32) := ⟨_, rfl⟩
                  replace h := cz_ltE ex37 h
                  refine lv_iinc (v := x37) (lv' := [(6, .int x37), (4, .int (-2 : Int32)), (9, .int x33), (8, .int x19), (0, .ref a_o), (1, .int w1), (2, .int w2), (3, .int w3), (5, .int x2), (7, .int x4)]) hx hb dX0_nearestLand_89 hl (k := 8) rfl (by rw [ex37]; rfl) (by decide) rfl (fun ls hl => ?_)
                  exact hJ26 _ _ _ _ _ _ (cz_i h).symm hP hD hS (lv_sub hl [4, 5, 6, 7, 1, 8, 0, 9] rfl)
              · replace h := cz_f c35 h
                refine lv_iload hx hb dX0_nearestLand_64 (lv_at hl 9 rfl) ?_
                refine lv_istore (lv' := [(4, .int x4), (9, .int x33), (8, .int x19), (0, .ref a_o), (1, .int w1), (2, .int w2), (3, .int w3), (5, .int x2), (6, .int x3), (7, .int x4)]) hx hb dX0_nearestLand_66 hl (by decide) rfl (fun ls hl => ?_)
                refine lv_iload hx hb dX0_nearestLand_68 (lv_at hl 1 rfl) ?_
                refine lv_istore (lv' := [(5, .int x33), (4, .int x4), (9, .int x33), (8, .int x19), (0, .ref a_o), (1, .int w1), (2, .int w2), (3, .int w3), (6, .int x3), (7, .int x4)]) hx hb dX0_nearestLand_70 hl (by decide) rfl (fun ls hl => ?_)
                refine lv_iconst (v := (1 : Int32)) hx hb dX0_nearestLand_72 (by decide) ?_
                refine lv_istore (lv' := [(6, .int (1 : Int32)), (5, .int x33), (4, .int x4), (9, .int x33), (8, .int x19), (0, .ref a_o), (1, .int w1), (2, .int w2), (3, .int w3), (7, .int x4)]) hx hb dX0_nearestLand_73 hl (by decide) rfl (fun ls hl => ?_)
                refine lv_goto (tgt := 92) hx hb dX0_nearestLand_75 (by decide) ?_
                exact hJ26 _ _ _ _ _ _ (cz_i h).symm hP hD hS (lv_sub hl [5, 6, 7, 8, 2, 1, 0, 9] rfl)
  exact hL9 n _ _ _ _ _ _ _ hE6 hP hD hS (lv_sub hl [4, 5, 6, 7, 3, 2, 1, 0] rfl)
set_option maxHeartbeats 4000000 in
set_option maxRecDepth 100000 in
theorem c_X0_shareOut (l : Launch) (D : va_G) (cI : ClassId) (a_o a_o_inner a_o_owners a_o_nears a_p1 a_p1_kinds a_o_basePlaces a_o_baseFactors a_o_baseStarts a_p1_wellPlaces a_p1_wellWorths a_p1_rules : Nat) (v_o_bases : Int32) (v_o_thirds : Int32) (f_o_inner : (Nat → Int32)) (f_o_owners : (Nat → Int32)) (f_o_nears : (Nat → Int32)) (v_p1_wide : Int32) (v_p1_high : Int32) (v_p1_wells : Int32) (f_p1_kinds : (Nat → Int32)) (w2 : Int32) (w3 : Int32) (n : Nat) (r_v_o_thirds : Int32) (r_f_o_owners : (Nat → Int32)) (h : f_X0_shareOut n v_o_thirds f_o_inner f_o_owners f_o_nears f_p1_kinds w2 w3 = some (r_v_o_thirds, r_f_o_owners)) : cz_M l yX0_shareOut cX0_shareOut 5 none 2 52 D cI [.ref a_o, .ref a_p1, .int w2, .int w3] [oX0 a_o a_o_inner a_o_owners a_o_nears a_o_basePlaces a_o_baseFactors a_o_baseStarts v_o_bases v_o_thirds, aI cI a_o_inner 120 f_o_inner, aI cI a_o_owners 120 f_o_owners, aI cI a_o_nears 360 f_o_nears, oX4 a_p1 v_p1_wide v_p1_high v_p1_wells a_p1_kinds a_p1_wellPlaces a_p1_wellWorths a_p1_rules, aI cI a_p1_kinds 120 f_p1_kinds] none [oX0 a_o a_o_inner a_o_owners a_o_nears a_o_basePlaces a_o_baseFactors a_o_baseStarts v_o_bases r_v_o_thirds, aI cI a_o_inner 120 f_o_inner, aI cI a_o_owners 120 r_f_o_owners, aI cI a_o_nears 360 f_o_nears, oX4 a_p1 v_p1_wide v_p1_high v_p1_wells a_p1_kinds a_p1_wellPlaces a_p1_wellWorths a_p1_rules, aI cI a_p1_kinds 120 f_p1_kinds] := by
  refine cz_startV (by decide) (Nat.le_of_ble_eq_true rfl) ?_
  intro p e s m ag below meth c A Q hx hb hml hown hts hK hN hQ H locs hP hD hS ls hl
  replace hown : s.vm.findClass RX0 = some m.cls := hown
  replace hl : lv_has ls 5 [(0, .ref a_o), (1, .ref a_p1), (2, .int w2), (3, .int w3)] := hl
  unfold f_X0_shareOut at h
  refine lv_aload_n hx hb dX0_shareOut_0 rfl (lv_at hl 0 rfl) ?_
  refine lv_iconst (v := (0 : Int32)) hx hb dX0_shareOut_1 (by decide) ?_
  refine va_put (D := D) (ci := 0) (v := .int (0 : Int32)) (ty := .int) (C := RX0) (T := TX0) (N := 8) hx hb hts in_X0 tyX0 tyX0_ok nmX0 hown hK hP hD hS 0 rfl rfl 7 (by decide) (hts _ mw_1_116) (fun _ h9 => h9) rfl (by decide +kernel) rfl rfl (Nat.le_of_ble_eq_true rfl) dX0_shareOut_2 (fun H locs hP hD hS => ?_)
  replace hP : va_P D vwCl [oX0 a_o a_o_inner a_o_owners a_o_nears a_o_basePlaces a_o_baseFactors a_o_baseStarts v_o_bases (0 : Int32), aI cI a_o_inner 120 f_o_inner, aI cI a_o_owners 120 f_o_owners, aI cI a_o_nears 360 f_o_nears, oX4 a_p1 v_p1_wide v_p1_high v_p1_wells a_p1_kinds a_p1_wellPlaces a_p1_wellWorths a_p1_rules, aI cI a_p1_kinds 120 f_p1_kinds] H := hP
  replace hD : va_D A [oX0 a_o a_o_inner a_o_owners a_o_nears a_o_basePlaces a_o_baseFactors a_o_baseStarts v_o_bases (0 : Int32), aI cI a_o_inner 120 f_o_inner, aI cI a_o_owners 120 f_o_owners, aI cI a_o_nears 360 f_o_nears, oX4 a_p1 v_p1_wide v_p1_high v_p1_wells a_p1_kinds a_p1_wellPlaces a_p1_wellWorths a_p1_rules, aI cI a_p1_kinds 120 f_p1_kinds] := hD
  refine lv_iconst (v := (0 : Int32)) hx hb dX0_shareOut_5 (by decide) ?_
  refine lv_istore (lv' := [(4, .int (0 : Int32)), (0, .ref a_o), (1, .ref a_p1), (2, .int w2), (3, .int w3)]) hx hb dX0_shareOut_6 hl (by decide) rfl (fun ls hl => ?_)
  obtain ⟨z4, hE5, hz6⟩ := cz_x3 h
  have hX7 : ∀ (y10 : Int32) (y11 : Int32) (q12 : (Nat → Int32)) (H : Heap) (locs : List Loc) (ls : Array Slot), z4 = (y10, y11, q12) → va_P D vwCl [oX0 a_o a_o_inner a_o_owners a_o_nears a_o_basePlaces a_o_baseFactors a_o_baseStarts v_o_bases y11, aI cI a_o_inner 120 f_o_inner, aI cI a_o_owners 120 q12, aI cI a_o_nears 360 f_o_nears, oX4 a_p1 v_p1_wide v_p1_high v_p1_wells a_p1_kinds a_p1_wellPlaces a_p1_wellWorths a_p1_rules, aI cI a_p1_kinds 120 f_p1_kinds] H → va_D A [oX0 a_o a_o_inner a_o_owners a_o_nears a_o_basePlaces a_o_baseFactors a_o_baseStarts v_o_bases y11, aI cI a_o_inner 120 f_o_inner, aI cI a_o_owners 120 q12, aI cI a_o_nears 360 f_o_nears, oX4 a_p1 v_p1_wide v_p1_high v_p1_wells a_p1_kinds a_p1_wellPlaces a_p1_wellWorths a_p1_rules, aI cI a_p1_kinds 120 f_p1_kinds] → va_S A s.heap H locs → lv_has ls 5 [] → W p l e (cz_rm 2 52) s m ag below meth c H locs 0 0 Q (F0 m 88 ls []) := by
    intro y10 y11 q12 H locs ls h hP hD hS hl
    replace h := hz6 _ _ _ h
    obtain ⟨rfl, rfl⟩ := cz_j2 (cz_i h)
    exact hQ _ _ _ _ hP hS dX0_shareOut_88
  clear h
  have hL8 : ∀ (k : Nat) (x1 : Int32) (x2 : Int32) (g3 : (Nat → Int32)) (H : Heap) (locs : List Loc) (ls : Array Slot), f_X0_shareOut_L8 n f_o_inner f_o_nears f_p1_kinds w2 w3 k x1 x2 g3 = some z4 → va_P D vwCl [oX0 a_o a_o_inner a_o_owners a_o_nears a_o_basePlaces a_o_baseFactors a_o_baseStarts v_o_bases x2, aI cI a_o_inner 120 f_o_inner, aI cI a_o_owners 120 g3, aI cI a_o_nears 360 f_o_nears, oX4 a_p1 v_p1_wide v_p1_high v_p1_wells a_p1_kinds a_p1_wellPlaces a_p1_wellWorths a_p1_rules, aI cI a_p1_kinds 120 f_p1_kinds] H → va_D A [oX0 a_o a_o_inner a_o_owners a_o_nears a_o_basePlaces a_o_baseFactors a_o_baseStarts v_o_bases x2, aI cI a_o_inner 120 f_o_inner, aI cI a_o_owners 120 g3, aI cI a_o_nears 360 f_o_nears, oX4 a_p1 v_p1_wide v_p1_high v_p1_wells a_p1_kinds a_p1_wellPlaces a_p1_wellWorths a_p1_rules, aI cI a_p1_kinds 120 f_p1_kinds] → va_S A s.heap H locs → lv_has ls 5 [(0, .ref a_o), (1, .ref a_p1), (2, .int w2), (3, .int w3), (4, .int x1)] → W p l e (cz_rm 2 52) s m ag below meth c H locs 0 0 Q (F0 m 8 ls []) := by
    intro k
    induction k with
    | zero =>
      intro x1 x2 g3 H locs ls h
      rw [f_X0_shareOut_L8] at h
      cases h
    | succ k ih13 =>
      intro x1 x2 g3 H locs ls h hP hD hS hl
      rw [f_X0_shareOut_L8] at h
      refine lv_iload hx hb dX0_shareOut_8 (lv_at hl 4 rfl) ?_
      refine lv_bipush (v := (120 : Int32)) hx hb dX0_shareOut_10 (by decide) ?_
      refine lv_icmp_ge (tgt := 88) hx hb dX0_shareOut_12 (by decide) (fun c14 => ?_) (fun c14 => ?_)
      · replace h := cz_t c14 h
        exact hX7 _ _ _ _ _ _ (cz_i h).symm hP hD hS (lv_sub hl [] rfl)
      · replace h := cz_f c14 h
        refine lv_aload_n hx hb dX0_shareOut_15 rfl (lv_at hl 1 rfl) ?_
        refine lv_iload hx hb dX0_shareOut_16 (lv_at hl 4 rfl) ?_
        obtain ⟨x15, hc16, h⟩ := cz_e1 h
        refine cz_callV (As := [.int x1]) (rest := []) (is := [4, 5]) (isR := [0, 1, 2, 3]) (rs := [oX0 a_o a_o_inner a_o_owners a_o_nears a_o_basePlaces a_o_baseFactors a_o_baseStarts v_o_bases x2, aI cI a_o_inner 120 f_o_inner, aI cI a_o_owners 120 g3, aI cI a_o_nears 360 f_o_nears]) (as := [a_o, a_o_inner, a_o_owners, a_o_nears, a_p1, a_p1_kinds]) (ws1 := [oX0 a_o a_o_inner a_o_owners a_o_nears a_o_basePlaces a_o_baseFactors a_o_baseStarts v_o_bases x2, aI cI a_o_inner 120 f_o_inner, aI cI a_o_owners 120 g3, aI cI a_o_nears 360 f_o_nears, oX4 a_p1 v_p1_wide v_p1_high v_p1_wells a_p1_kinds a_p1_wellPlaces a_p1_wellWorths a_p1_rules, aI cI a_p1_kinds 120 f_p1_kinds]) (q0 := 0) (ci := 4) ⟨hx, hb, hml, hown, hts⟩ (c_X4_kindOf l D cI a_p1 a_p1_kinds a_p1_wellPlaces a_p1_wellWorths a_p1_rules v_p1_wide v_p1_high v_p1_wells f_p1_kinds x1 n x15 hc16) mw_2_129 mw_2_93 mw_2_94 mw_1_3 mw_2_95 hd_X4_kindOf ⟨Nat.le_of_ble_eq_true rfl, Nat.le_of_ble_eq_true rfl⟩ hK hN hP hD hS rfl rfl rfl rfl rfl rfl rfl rfl rfl rfl rfl rfl hl.1 rfl (Nat.le_of_ble_eq_true rfl) dX0_shareOut_18 ⟨Nat.le_of_ble_eq_true rfl, Nat.le_of_ble_eq_true rfl⟩ (fun H locs hP hD hS => ?_)
        refine W.eq (g2 := F0 m 21 ls [.int x15]) rfl ?_
        obtain ⟨z22, hE20, hz19⟩ := cz_x2 h
        have hJ21 : ∀ (x17 : Int32) (g18 : (Nat → Int32)) (H : Heap) (locs : List Loc) (ls : Array Slot), z22 = (x17, g18) → va_P D vwCl [oX0 a_o a_o_inner a_o_owners a_o_nears a_o_basePlaces a_o_baseFactors a_o_baseStarts v_o_bases x17, aI cI a_o_inner 120 f_o_inner, aI cI a_o_owners 120 g18, aI cI a_o_nears 360 f_o_nears, oX4 a_p1 v_p1_wide v_p1_high v_p1_wells a_p1_kinds a_p1_wellPlaces a_p1_wellWorths a_p1_rules, aI cI a_p1_kinds 120 f_p1_kinds] H → va_D A [oX0 a_o a_o_inner a_o_owners a_o_nears a_o_basePlaces a_o_baseFactors a_o_baseStarts v_o_bases x17, aI cI a_o_inner 120 f_o_inner, aI cI a_o_owners 120 g18, aI cI a_o_nears 360 f_o_nears, oX4 a_p1 v_p1_wide v_p1_high v_p1_wells a_p1_kinds a_p1_wellPlaces a_p1_wellWorths a_p1_rules, aI cI a_p1_kinds 120 f_p1_kinds] → va_S A s.heap H locs → lv_has ls 5 [(0, .ref a_o), (1, .ref a_p1), (2, .int w2), (3, .int w3), (4, .int x1)] → W p l e (cz_rm 2 52) s m ag below meth c H locs 0 0 Q (F0 m 82 ls []) := by
          intro x17 g18 H locs ls h hP hD hS hl
          replace h := hz19 _ _ h
          obtain ⟨x23, ex23⟩ : ∃ z : Int32, z = x1 + (1 : Int32) := ⟨_, rfl⟩
          replace h := cz_ltE ex23 h
          refine lv_iinc (v := x23) (lv' := [(4, .int x23), (0, .ref a_o), (1, .ref a_p1), (2, .int w2), (3, .int w3)]) hx hb dX0_shareOut_82 hl (k := 4) rfl (by rw [ex23]; rfl) (by decide) rfl (fun ls hl => ?_)
          refine lv_goto (tgt := 8) hx hb dX0_shareOut_85 (by decide) ?_
          exact ih13 _ _ _ _ _ _ h hP hD hS (lv_sub hl [1, 2, 3, 4, 0] rfl)
        clear h
        have h := hE20
        refine lv_if_eq (tgt := 36) hx hb dX0_shareOut_21 (by decide) (fun c24 => ?_) (fun c24 => ?_)
        · replace h := cz_t c24 h
          refine lv_aload_n hx hb dX0_shareOut_36 rfl (lv_at hl 0 rfl) ?_
          refine va_get (D := D) (ci := 0) (v := .ref a_o_inner) (C := RX0) (T := TX0) (N := 8) hx hb hts in_X0 hown hK hP 0 rfl rfl 0 (by decide) (hts _ mw_1_109) (fun _ h9 => h9) rfl dX0_shareOut_37 ?_
          refine lv_iload hx hb dX0_shareOut_40 (lv_at hl 4 rfl) ?_
          refine cz_iald hx hb hK hP 1 0 rfl rfl (cz_rdE h).1 dX0_shareOut_42 (fun x25 ex25 => ?_)
          replace h := cz_rdK ex25 h
          refine lv_bipush (v := (-9 : Int32)) hx hb dX0_shareOut_43 (by decide) ?_
          refine lv_icmp_eq (tgt := 65) hx hb dX0_shareOut_45 (by decide) (fun c26 => ?_) (fun c26 => ?_)
          · replace h := cz_t c26 h
            refine lv_aload_n hx hb dX0_shareOut_65 rfl (lv_at hl 0 rfl) ?_
            refine va_get (D := D) (ci := 0) (v := .ref a_o_owners) (C := RX0) (T := TX0) (N := 8) hx hb hts in_X0 hown hK hP 0 rfl rfl 1 (by decide) (hts _ mw_1_110) (fun _ h9 => h9) rfl dX0_shareOut_66 ?_
            refine lv_iload hx hb dX0_shareOut_69 (lv_at hl 4 rfl) ?_
            refine lv_aload_n hx hb dX0_shareOut_71 rfl (lv_at hl 0 rfl) ?_
            refine lv_iload hx hb dX0_shareOut_72 (lv_at hl 4 rfl) ?_
            refine lv_iload_n hx hb dX0_shareOut_74 rfl (lv_at hl 2 rfl) ?_
            refine lv_iload_n hx hb dX0_shareOut_75 rfl (lv_at hl 2 rfl) ?_
            refine lv_imul hx hb dX0_shareOut_76 ?_
            refine lv_iload_n hx hb dX0_shareOut_77 rfl (lv_at hl 3 rfl) ?_
            obtain ⟨x27, x28, hc29, h⟩ := cz_e2 h
            refine cz_callV (As := [.int x1, .int (w2 * w2), .int w3]) (rest := [.int x1, .ref a_o_owners]) (is := [0, 3]) (isR := [1, 2, 4, 5]) (rs := [aI cI a_o_inner 120 f_o_inner, aI cI a_o_owners 120 g3, oX4 a_p1 v_p1_wide v_p1_high v_p1_wells a_p1_kinds a_p1_wellPlaces a_p1_wellWorths a_p1_rules, aI cI a_p1_kinds 120 f_p1_kinds]) (as := [a_o, a_o_inner, a_o_owners, a_o_nears, a_p1, a_p1_kinds]) (ws1 := [oX0 a_o a_o_inner a_o_owners a_o_nears a_o_basePlaces a_o_baseFactors a_o_baseStarts v_o_bases x28, aI cI a_o_inner 120 f_o_inner, aI cI a_o_owners 120 g3, aI cI a_o_nears 360 f_o_nears, oX4 a_p1 v_p1_wide v_p1_high v_p1_wells a_p1_kinds a_p1_wellPlaces a_p1_wellWorths a_p1_rules, aI cI a_p1_kinds 120 f_p1_kinds]) (q0 := 0) (ci := 0) ⟨hx, hb, hml, hown, hts⟩ (c_X0_nearestLand l D cI a_o a_o_nears a_o_inner a_o_owners a_o_basePlaces a_o_baseFactors a_o_baseStarts v_o_bases x2 f_o_nears x1 (w2 * w2) w3 n x27 x28 hc29) mw_2_206 mw_2_207 mw_2_208 mw_1_6 mw_2_209 hd_X0_nearestLand ⟨Nat.le_of_ble_eq_true rfl, Nat.le_of_ble_eq_true rfl⟩ hK hN hP hD hS rfl rfl rfl rfl rfl rfl rfl rfl rfl rfl rfl rfl hl.1 rfl (Nat.le_of_ble_eq_true rfl) dX0_shareOut_78 ⟨Nat.le_of_ble_eq_true rfl, Nat.le_of_ble_eq_true rfl⟩ (fun H locs hP hD hS => ?_)
            refine W.eq (g2 := F0 m 81 ls [.int x27, .int x1, .ref a_o_owners]) rfl ?_
            refine cz_iast hx hb hK hP hD hS 2 0 rfl rfl (cz_wrE h).1 dX0_shareOut_81 (fun g30 H locs eg30 hP hD hS => ?_)
            replace h := cz_wrK eg30 h
            replace hP : va_P D vwCl [oX0 a_o a_o_inner a_o_owners a_o_nears a_o_basePlaces a_o_baseFactors a_o_baseStarts v_o_bases x28, aI cI a_o_inner 120 f_o_inner, aI cI a_o_owners 120 g30, aI cI a_o_nears 360 f_o_nears, oX4 a_p1 v_p1_wide v_p1_high v_p1_wells a_p1_kinds a_p1_wellPlaces a_p1_wellWorths a_p1_rules, aI cI a_p1_kinds 120 f_p1_kinds] H := hP
            replace hD : va_D A [oX0 a_o a_o_inner a_o_owners a_o_nears a_o_basePlaces a_o_baseFactors a_o_baseStarts v_o_bases x28, aI cI a_o_inner 120 f_o_inner, aI cI a_o_owners 120 g30, aI cI a_o_nears 360 f_o_nears, oX4 a_p1 v_p1_wide v_p1_high v_p1_wells a_p1_kinds a_p1_wellPlaces a_p1_wellWorths a_p1_rules, aI cI a_p1_kinds 120 f_p1_kinds] := hD
            exact hJ21 _ _ _ _ _ (cz_i h).symm hP hD hS (lv_sub hl [0, 1, 2, 3, 4] rfl)
          · replace h := cz_f c26 h
            refine lv_aload_n hx hb dX0_shareOut_48 rfl (lv_at hl 0 rfl) ?_
            refine va_get (D := D) (ci := 0) (v := .ref a_o_owners) (C := RX0) (T := TX0) (N := 8) hx hb hts in_X0 hown hK hP 0 rfl rfl 1 (by decide) (hts _ mw_1_110) (fun _ h9 => h9) rfl dX0_shareOut_49 ?_
            refine lv_iload hx hb dX0_shareOut_52 (lv_at hl 4 rfl) ?_
            refine lv_aload_n hx hb dX0_shareOut_54 rfl (lv_at hl 0 rfl) ?_
            refine va_get (D := D) (ci := 0) (v := .ref a_o_inner) (C := RX0) (T := TX0) (N := 8) hx hb hts in_X0 hown hK hP 0 rfl rfl 0 (by decide) (hts _ mw_1_109) (fun _ h9 => h9) rfl dX0_shareOut_55 ?_
            refine lv_iload hx hb dX0_shareOut_58 (lv_at hl 4 rfl) ?_
            refine cz_iald hx hb hK hP 1 0 rfl rfl (cz_rdE h).1 dX0_shareOut_60 (fun x31 ex31 => ?_)
            replace h := cz_rdK ex31 h
            refine cz_iast hx hb hK hP hD hS 2 0 rfl rfl (cz_wrE h).1 dX0_shareOut_61 (fun g32 H locs eg32 hP hD hS => ?_)
            replace h := cz_wrK eg32 h
            replace hP : va_P D vwCl [oX0 a_o a_o_inner a_o_owners a_o_nears a_o_basePlaces a_o_baseFactors a_o_baseStarts v_o_bases x2, aI cI a_o_inner 120 f_o_inner, aI cI a_o_owners 120 g32, aI cI a_o_nears 360 f_o_nears, oX4 a_p1 v_p1_wide v_p1_high v_p1_wells a_p1_kinds a_p1_wellPlaces a_p1_wellWorths a_p1_rules, aI cI a_p1_kinds 120 f_p1_kinds] H := hP
            replace hD : va_D A [oX0 a_o a_o_inner a_o_owners a_o_nears a_o_basePlaces a_o_baseFactors a_o_baseStarts v_o_bases x2, aI cI a_o_inner 120 f_o_inner, aI cI a_o_owners 120 g32, aI cI a_o_nears 360 f_o_nears, oX4 a_p1 v_p1_wide v_p1_high v_p1_wells a_p1_kinds a_p1_wellPlaces a_p1_wellWorths a_p1_rules, aI cI a_p1_kinds 120 f_p1_kinds] := hD
            refine lv_goto (tgt := 82) hx hb dX0_shareOut_62 (by decide) ?_
            exact hJ21 _ _ _ _ _ (cz_i h).symm hP hD hS (lv_sub hl [0, 1, 2, 3, 4] rfl)
        · replace h := cz_f c24 h
          refine lv_aload_n hx hb dX0_shareOut_24 rfl (lv_at hl 0 rfl) ?_
          refine va_get (D := D) (ci := 0) (v := .ref a_o_owners) (C := RX0) (T := TX0) (N := 8) hx hb hts in_X0 hown hK hP 0 rfl rfl 1 (by decide) (hts _ mw_1_110) (fun _ h9 => h9) rfl dX0_shareOut_25 ?_
          refine lv_iload hx hb dX0_shareOut_28 (lv_at hl 4 rfl) ?_
          refine lv_bipush (v := (-9 : Int32)) hx hb dX0_shareOut_30 (by decide) ?_
          refine cz_iast hx hb hK hP hD hS 2 0 rfl rfl (cz_wrE h).1 dX0_shareOut_32 (fun g33 H locs eg33 hP hD hS => ?_)
          replace h := cz_wrK eg33 h
          replace hP : va_P D vwCl [oX0 a_o a_o_inner a_o_owners a_o_nears a_o_basePlaces a_o_baseFactors a_o_baseStarts v_o_bases x2, aI cI a_o_inner 120 f_o_inner, aI cI a_o_owners 120 g33, aI cI a_o_nears 360 f_o_nears, oX4 a_p1 v_p1_wide v_p1_high v_p1_wells a_p1_kinds a_p1_wellPlaces a_p1_wellWorths a_p1_rules, aI cI a_p1_kinds 120 f_p1_kinds] H := hP
          replace hD : va_D A [oX0 a_o a_o_inner a_o_owners a_o_nears a_o_basePlaces a_o_baseFactors a_o_baseStarts v_o_bases x2, aI cI a_o_inner 120 f_o_inner, aI cI a_o_owners 120 g33, aI cI a_o_nears 360 f_o_nears, oX4 a_p1 v_p1_wide v_p1_high v_p1_wells a_p1_kinds a_p1_wellPlaces a_p1_wellWorths a_p1_rules, aI cI a_p1_kinds 120 f_p1_kinds] := hD
          refine lv_goto (tgt := 82) hx hb dX0_shareOut_33 (by decide) ?_
          exact hJ21 _ _ _ _ _ (cz_i h).symm hP hD hS (lv_sub hl [0, 1, 2, 3, 4] rfl)
  exact hL8 n _ _ _ _ _ _ hE5 hP hD hS (lv_sub hl [1, 2, 3, 4, 0] rfl)
set_option maxHeartbeats 4000000 in
set_option maxRecDepth 100000 in
theorem c_X0_draw (l : Launch) (D : va_G) (cI : ClassId) (a_o a_o_inner a_o_owners a_o_nears a_o_basePlaces a_o_baseFactors a_o_baseStarts a_p1 a_p1_kinds a_p2 a_p1_wellPlaces a_p1_wellWorths a_p1_rules : Nat) (v_o_bases : Int32) (v_o_thirds : Int32) (f_o_inner : (Nat → Int32)) (f_o_owners : (Nat → Int32)) (f_o_nears : (Nat → Int32)) (f_o_basePlaces : (Nat → Int32)) (f_o_baseFactors : (Nat → Int32)) (f_o_baseStarts : (Nat → Int32)) (v_p1_wide : Int32) (v_p1_high : Int32) (v_p1_wells : Int32) (f_p1_kinds : (Nat → Int32)) (v_p2_mouth : Int32) (v_p2_weight : Int32) (v_p2_reach : Int32) (v_p2_bend : Int32) (n : Nat) (r_v_o_bases : Int32) (r_v_o_thirds : Int32) (r_f_o_inner : (Nat → Int32)) (r_f_o_owners : (Nat → Int32)) (r_f_o_nears : (Nat → Int32)) (r_f_o_basePlaces : (Nat → Int32)) (r_f_o_baseFactors : (Nat → Int32)) (r_f_o_baseStarts : (Nat → Int32)) (h : f_X0_draw n v_o_bases v_o_thirds f_o_inner f_o_owners f_o_nears f_o_basePlaces f_o_baseFactors f_o_baseStarts f_p1_kinds v_p2_mouth v_p2_weight v_p2_reach v_p2_bend = some (r_v_o_bases, r_v_o_thirds, r_f_o_inner, r_f_o_owners, r_f_o_nears, r_f_o_basePlaces, r_f_o_baseFactors, r_f_o_baseStarts)) : cz_M l yX0_draw cX0_draw 3 none 3 76 D cI [.ref a_o, .ref a_p1, .ref a_p2] [oX0 a_o a_o_inner a_o_owners a_o_nears a_o_basePlaces a_o_baseFactors a_o_baseStarts v_o_bases v_o_thirds, aI cI a_o_inner 120 f_o_inner, aI cI a_o_owners 120 f_o_owners, aI cI a_o_nears 360 f_o_nears, aI cI a_o_basePlaces 120 f_o_basePlaces, aI cI a_o_baseFactors 120 f_o_baseFactors, aI cI a_o_baseStarts 4 f_o_baseStarts, oX4 a_p1 v_p1_wide v_p1_high v_p1_wells a_p1_kinds a_p1_wellPlaces a_p1_wellWorths a_p1_rules, aI cI a_p1_kinds 120 f_p1_kinds, oX2 a_p2 v_p2_mouth v_p2_weight v_p2_reach v_p2_bend] none [oX0 a_o a_o_inner a_o_owners a_o_nears a_o_basePlaces a_o_baseFactors a_o_baseStarts r_v_o_bases r_v_o_thirds, aI cI a_o_inner 120 r_f_o_inner, aI cI a_o_owners 120 r_f_o_owners, aI cI a_o_nears 360 r_f_o_nears, aI cI a_o_basePlaces 120 r_f_o_basePlaces, aI cI a_o_baseFactors 120 r_f_o_baseFactors, aI cI a_o_baseStarts 4 r_f_o_baseStarts, oX4 a_p1 v_p1_wide v_p1_high v_p1_wells a_p1_kinds a_p1_wellPlaces a_p1_wellWorths a_p1_rules, aI cI a_p1_kinds 120 f_p1_kinds, oX2 a_p2 v_p2_mouth v_p2_weight v_p2_reach v_p2_bend] := by
  refine cz_startV (by decide) (Nat.le_of_ble_eq_true rfl) ?_
  intro p e s m ag below meth c A Q hx hb hml hown hts hK hN hQ H locs hP hD hS ls hl
  replace hown : s.vm.findClass RX0 = some m.cls := hown
  replace hl : lv_has ls 3 [(0, .ref a_o), (1, .ref a_p1), (2, .ref a_p2)] := hl
  unfold f_X0_draw at h
  refine lv_aload_n hx hb dX0_draw_0 rfl (lv_at hl 0 rfl) ?_
  refine lv_aload_n hx hb dX0_draw_1 rfl (lv_at hl 1 rfl) ?_
  refine lv_aload_n hx hb dX0_draw_2 rfl (lv_at hl 2 rfl) ?_
  refine va_getN (D := D) (ci := 2) (v := .int v_p2_mouth) (C := RX2) (T := TX2) (N := 4) hx hb hts in_X2 hown hK hP 9 rfl rfl 0 (by decide) (hN.use nw_3) (fun _ h9 => h9) rfl dX0_draw_3 ?_
  obtain ⟨g1, hc2, h⟩ := cz_e1 h
  refine cz_callV (As := [.ref a_p1, .int v_p2_mouth]) (rest := []) (is := [0, 1, 7, 8]) (isR := [2, 3, 4, 5, 6, 9]) (rs := [aI cI a_o_owners 120 f_o_owners, aI cI a_o_nears 360 f_o_nears, aI cI a_o_basePlaces 120 f_o_basePlaces, aI cI a_o_baseFactors 120 f_o_baseFactors, aI cI a_o_baseStarts 4 f_o_baseStarts, oX2 a_p2 v_p2_mouth v_p2_weight v_p2_reach v_p2_bend]) (as := [a_o, a_o_inner, a_o_owners, a_o_nears, a_o_basePlaces, a_o_baseFactors, a_o_baseStarts, a_p1, a_p1_kinds, a_p2]) (ws1 := [oX0 a_o a_o_inner a_o_owners a_o_nears a_o_basePlaces a_o_baseFactors a_o_baseStarts v_o_bases v_o_thirds, aI cI a_o_inner 120 g1, aI cI a_o_owners 120 f_o_owners, aI cI a_o_nears 360 f_o_nears, aI cI a_o_basePlaces 120 f_o_basePlaces, aI cI a_o_baseFactors 120 f_o_baseFactors, aI cI a_o_baseStarts 4 f_o_baseStarts, oX4 a_p1 v_p1_wide v_p1_high v_p1_wells a_p1_kinds a_p1_wellPlaces a_p1_wellWorths a_p1_rules, aI cI a_p1_kinds 120 f_p1_kinds, oX2 a_p2 v_p2_mouth v_p2_weight v_p2_reach v_p2_bend]) (q0 := 0) (ci := 0) ⟨hx, hb, hml, hown, hts⟩ (c_X0_closeBays l D cI a_o a_o_inner a_p1 a_p1_kinds a_o_owners a_o_nears a_o_basePlaces a_o_baseFactors a_o_baseStarts a_p1_wellPlaces a_p1_wellWorths a_p1_rules v_o_bases v_o_thirds f_o_inner v_p1_wide v_p1_high v_p1_wells f_p1_kinds v_p2_mouth n g1 hc2) mw_2_195 mw_2_125 mw_2_126 mw_1_6 mw_2_127 hd_X0_closeBays ⟨Nat.le_of_ble_eq_true rfl, Nat.le_of_ble_eq_true rfl⟩ hK hN hP hD hS rfl rfl rfl rfl rfl rfl rfl rfl rfl rfl rfl rfl hl.1 rfl (Nat.le_of_ble_eq_true rfl) dX0_draw_6 ⟨Nat.le_of_ble_eq_true rfl, Nat.le_of_ble_eq_true rfl⟩ (fun H locs hP hD hS => ?_)
  refine W.eq (g2 := F0 m 9 ls []) rfl ?_
  refine lv_aload_n hx hb dX0_draw_9 rfl (lv_at hl 0 rfl) ?_
  refine lv_aload_n hx hb dX0_draw_10 rfl (lv_at hl 1 rfl) ?_
  refine lv_aload_n hx hb dX0_draw_11 rfl (lv_at hl 2 rfl) ?_
  refine va_getN (D := D) (ci := 2) (v := .int v_p2_weight) (C := RX2) (T := TX2) (N := 4) hx hb hts in_X2 hown hK hP 9 rfl rfl 1 (by decide) (hN.use nw_5) (fun _ h9 => h9) rfl dX0_draw_12 ?_
  obtain ⟨x3, g4, g5, g6, hc7, h⟩ := cz_e4 h
  refine cz_callV (As := [.ref a_p1, .int v_p2_weight]) (rest := []) (is := [0, 1, 4, 5, 6, 7, 8]) (isR := [2, 3, 9]) (rs := [aI cI a_o_owners 120 f_o_owners, aI cI a_o_nears 360 f_o_nears, oX2 a_p2 v_p2_mouth v_p2_weight v_p2_reach v_p2_bend]) (as := [a_o, a_o_inner, a_o_owners, a_o_nears, a_o_basePlaces, a_o_baseFactors, a_o_baseStarts, a_p1, a_p1_kinds, a_p2]) (ws1 := [oX0 a_o a_o_inner a_o_owners a_o_nears a_o_basePlaces a_o_baseFactors a_o_baseStarts x3 v_o_thirds, aI cI a_o_inner 120 g1, aI cI a_o_owners 120 f_o_owners, aI cI a_o_nears 360 f_o_nears, aI cI a_o_basePlaces 120 g4, aI cI a_o_baseFactors 120 g5, aI cI a_o_baseStarts 4 g6, oX4 a_p1 v_p1_wide v_p1_high v_p1_wells a_p1_kinds a_p1_wellPlaces a_p1_wellWorths a_p1_rules, aI cI a_p1_kinds 120 f_p1_kinds, oX2 a_p2 v_p2_mouth v_p2_weight v_p2_reach v_p2_bend]) (q0 := 0) (ci := 0) ⟨hx, hb, hml, hown, hts⟩ (c_X0_layBases l D cI a_o a_o_inner a_o_basePlaces a_o_baseFactors a_o_baseStarts a_p1 a_p1_kinds a_o_owners a_o_nears a_p1_wellPlaces a_p1_wellWorths a_p1_rules v_o_bases v_o_thirds g1 f_o_basePlaces f_o_baseFactors f_o_baseStarts v_p1_wide v_p1_high v_p1_wells f_p1_kinds v_p2_weight n x3 g4 g5 g6 hc7) mw_2_196 mw_2_144 mw_2_145 mw_1_6 mw_2_146 hd_X0_layBases ⟨Nat.le_of_ble_eq_true rfl, Nat.le_of_ble_eq_true rfl⟩ hK hN hP hD hS rfl rfl rfl rfl rfl rfl rfl rfl rfl rfl rfl rfl hl.1 rfl (Nat.le_of_ble_eq_true rfl) dX0_draw_15 ⟨Nat.le_of_ble_eq_true rfl, Nat.le_of_ble_eq_true rfl⟩ (fun H locs hP hD hS => ?_)
  refine W.eq (g2 := F0 m 18 ls []) rfl ?_
  refine lv_aload_n hx hb dX0_draw_18 rfl (lv_at hl 0 rfl) ?_
  refine lv_aload_n hx hb dX0_draw_19 rfl (lv_at hl 1 rfl) ?_
  obtain ⟨g8, hc9, h⟩ := cz_e1 h
  refine cz_callV (As := [.ref a_p1]) (rest := []) (is := [0, 1, 3, 4, 5, 6, 7, 8]) (isR := [2, 9]) (rs := [aI cI a_o_owners 120 f_o_owners, oX2 a_p2 v_p2_mouth v_p2_weight v_p2_reach v_p2_bend]) (as := [a_o, a_o_inner, a_o_owners, a_o_nears, a_o_basePlaces, a_o_baseFactors, a_o_baseStarts, a_p1, a_p1_kinds, a_p2]) (ws1 := [oX0 a_o a_o_inner a_o_owners a_o_nears a_o_basePlaces a_o_baseFactors a_o_baseStarts x3 v_o_thirds, aI cI a_o_inner 120 g1, aI cI a_o_owners 120 f_o_owners, aI cI a_o_nears 360 g8, aI cI a_o_basePlaces 120 g4, aI cI a_o_baseFactors 120 g5, aI cI a_o_baseStarts 4 g6, oX4 a_p1 v_p1_wide v_p1_high v_p1_wells a_p1_kinds a_p1_wellPlaces a_p1_wellWorths a_p1_rules, aI cI a_p1_kinds 120 f_p1_kinds, oX2 a_p2 v_p2_mouth v_p2_weight v_p2_reach v_p2_bend]) (q0 := 0) (ci := 0) ⟨hx, hb, hml, hown, hts⟩ (c_X0_measure l D cI a_o a_o_inner a_o_nears a_o_basePlaces a_o_baseFactors a_o_baseStarts a_p1 a_p1_kinds a_o_owners a_p1_wellPlaces a_p1_wellWorths a_p1_rules x3 v_o_thirds g1 f_o_nears g4 g5 g6 v_p1_wide v_p1_high v_p1_wells f_p1_kinds  n g8 hc9) mw_2_197 mw_2_198 mw_2_199 mw_1_6 mw_2_200 hd_X0_measure ⟨Nat.le_of_ble_eq_true rfl, Nat.le_of_ble_eq_true rfl⟩ hK hN hP hD hS rfl rfl rfl rfl rfl rfl rfl rfl rfl rfl rfl rfl hl.1 rfl (Nat.le_of_ble_eq_true rfl) dX0_draw_20 ⟨Nat.le_of_ble_eq_true rfl, Nat.le_of_ble_eq_true rfl⟩ (fun H locs hP hD hS => ?_)
  refine W.eq (g2 := F0 m 23 ls []) rfl ?_
  refine lv_aload_n hx hb dX0_draw_23 rfl (lv_at hl 0 rfl) ?_
  refine lv_aload_n hx hb dX0_draw_24 rfl (lv_at hl 1 rfl) ?_
  refine lv_aload_n hx hb dX0_draw_25 rfl (lv_at hl 2 rfl) ?_
  refine va_getN (D := D) (ci := 2) (v := .int v_p2_reach) (C := RX2) (T := TX2) (N := 4) hx hb hts in_X2 hown hK hP 9 rfl rfl 2 (by decide) (hN.use nw_7) (fun _ h9 => h9) rfl dX0_draw_26 ?_
  refine lv_aload_n hx hb dX0_draw_29 rfl (lv_at hl 2 rfl) ?_
  refine va_getN (D := D) (ci := 2) (v := .int v_p2_bend) (C := RX2) (T := TX2) (N := 4) hx hb hts in_X2 hown hK hP 9 rfl rfl 3 (by decide) (hN.use nw_9) (fun _ h9 => h9) rfl dX0_draw_30 ?_
  obtain ⟨x10, g11, hc12, h⟩ := cz_e2 h
  refine cz_callV (As := [.ref a_p1, .int v_p2_reach, .int v_p2_bend]) (rest := []) (is := [0, 1, 2, 3, 7, 8]) (isR := [4, 5, 6, 9]) (rs := [aI cI a_o_basePlaces 120 g4, aI cI a_o_baseFactors 120 g5, aI cI a_o_baseStarts 4 g6, oX2 a_p2 v_p2_mouth v_p2_weight v_p2_reach v_p2_bend]) (as := [a_o, a_o_inner, a_o_owners, a_o_nears, a_o_basePlaces, a_o_baseFactors, a_o_baseStarts, a_p1, a_p1_kinds, a_p2]) (ws1 := [oX0 a_o a_o_inner a_o_owners a_o_nears a_o_basePlaces a_o_baseFactors a_o_baseStarts x3 x10, aI cI a_o_inner 120 g1, aI cI a_o_owners 120 g11, aI cI a_o_nears 360 g8, aI cI a_o_basePlaces 120 g4, aI cI a_o_baseFactors 120 g5, aI cI a_o_baseStarts 4 g6, oX4 a_p1 v_p1_wide v_p1_high v_p1_wells a_p1_kinds a_p1_wellPlaces a_p1_wellWorths a_p1_rules, aI cI a_p1_kinds 120 f_p1_kinds, oX2 a_p2 v_p2_mouth v_p2_weight v_p2_reach v_p2_bend]) (q0 := 0) (ci := 0) ⟨hx, hb, hml, hown, hts⟩ (c_X0_shareOut l D cI a_o a_o_inner a_o_owners a_o_nears a_p1 a_p1_kinds a_o_basePlaces a_o_baseFactors a_o_baseStarts a_p1_wellPlaces a_p1_wellWorths a_p1_rules x3 v_o_thirds g1 f_o_owners g8 v_p1_wide v_p1_high v_p1_wells f_p1_kinds v_p2_reach v_p2_bend n x10 g11 hc12) mw_2_202 mw_2_203 mw_2_204 mw_1_6 mw_2_205 hd_X0_shareOut ⟨Nat.le_of_ble_eq_true rfl, Nat.le_of_ble_eq_true rfl⟩ hK hN hP hD hS rfl rfl rfl rfl rfl rfl rfl rfl rfl rfl rfl rfl hl.1 rfl (Nat.le_of_ble_eq_true rfl) dX0_draw_33 ⟨Nat.le_of_ble_eq_true rfl, Nat.le_of_ble_eq_true rfl⟩ (fun H locs hP hD hS => ?_)
  refine W.eq (g2 := F0 m 36 ls []) rfl ?_
  obtain ⟨rfl, rfl, rfl, rfl, rfl, rfl, rfl, rfl⟩ := cz_j8 (cz_i h)
  exact hQ _ _ _ _ hP hS dX0_draw_36
set_option maxHeartbeats 4000000 in
set_option maxRecDepth 100000 in
theorem c_X0_placeOfBase (l : Launch) (D : va_G) (cI : ClassId) (a_o a_o_basePlaces a_o_inner a_o_owners a_o_nears a_o_baseFactors a_o_baseStarts : Nat) (v_o_bases : Int32) (v_o_thirds : Int32) (f_o_basePlaces : (Nat → Int32)) (w1 : Int32) (n : Nat) (r : Int32) (h : f_X0_placeOfBase n f_o_basePlaces w1 = some r) : cz_M l yX0_placeOfBase cX0_placeOfBase 2 (some .int) 0 0 D cI [.ref a_o, .int w1] [oX0 a_o a_o_inner a_o_owners a_o_nears a_o_basePlaces a_o_baseFactors a_o_baseStarts v_o_bases v_o_thirds, aI cI a_o_basePlaces 120 f_o_basePlaces] (some (.int r)) [oX0 a_o a_o_inner a_o_owners a_o_nears a_o_basePlaces a_o_baseFactors a_o_baseStarts v_o_bases v_o_thirds, aI cI a_o_basePlaces 120 f_o_basePlaces] := by
  refine cz_startI (by decide) (Nat.le_of_ble_eq_true rfl) ?_
  intro p e s m ag below meth c A Q hx hb hml hown hts hK hN hQ H locs hP hD hS ls hl
  replace hown : s.vm.findClass RX0 = some m.cls := hown
  replace hl : lv_has ls 2 [(0, .ref a_o), (1, .int w1)] := hl
  unfold f_X0_placeOfBase at h
  refine lv_iload_n hx hb dX0_placeOfBase_0 rfl (lv_at hl 1 rfl) ?_
  refine lv_if_lt (tgt := 19) hx hb dX0_placeOfBase_1 (by decide) (fun c1 => ?_) (fun c1 => ?_)
  · replace h := cz_t c1 h
    refine lv_iconst (v := (-1 : Int32)) hx hb dX0_placeOfBase_19 (by decide) ?_
    obtain rfl := cz_i h
    exact hQ _ _ _ _ hP hS dX0_placeOfBase_20
  · replace h := cz_f c1 h
    refine lv_iload_n hx hb dX0_placeOfBase_4 rfl (lv_at hl 1 rfl) ?_
    refine lv_bipush (v := (120 : Int32)) hx hb dX0_placeOfBase_5 (by decide) ?_
    refine lv_icmp_ge (tgt := 19) hx hb dX0_placeOfBase_7 (by decide) (fun c2 => ?_) (fun c2 => ?_)
    · replace h := cz_t c2 h
      refine lv_iconst (v := (-1 : Int32)) hx hb dX0_placeOfBase_19 (by decide) ?_
      obtain rfl := cz_i h
      exact hQ _ _ _ _ hP hS dX0_placeOfBase_20
    · replace h := cz_f c2 h
      refine lv_aload_n hx hb dX0_placeOfBase_10 rfl (lv_at hl 0 rfl) ?_
      refine va_get (D := D) (ci := 0) (v := .ref a_o_basePlaces) (C := RX0) (T := TX0) (N := 8) hx hb hts in_X0 hown hK hP 0 rfl rfl 3 (by decide) (hts _ mw_1_112) (fun _ h9 => h9) rfl dX0_placeOfBase_11 ?_
      refine lv_iload_n hx hb dX0_placeOfBase_14 rfl (lv_at hl 1 rfl) ?_
      refine cz_iald hx hb hK hP 1 0 rfl rfl (cz_rdE h).1 dX0_placeOfBase_15 (fun x3 ex3 => ?_)
      replace h := cz_rdK ex3 h
      refine lv_goto (tgt := 20) hx hb dX0_placeOfBase_16 (by decide) ?_
      obtain rfl := cz_i h
      exact hQ _ _ _ _ hP hS dX0_placeOfBase_20
set_option maxHeartbeats 4000000 in
set_option maxRecDepth 100000 in
theorem c_X0_innerOf (l : Launch) (D : va_G) (cI : ClassId) (a_o a_o_inner a_o_owners a_o_nears a_o_basePlaces a_o_baseFactors a_o_baseStarts : Nat) (v_o_bases : Int32) (v_o_thirds : Int32) (f_o_inner : (Nat → Int32)) (w1 : Int32) (n : Nat) (r : Int32) (h : f_X0_innerOf n f_o_inner w1 = some r) : cz_M l yX0_innerOf cX0_innerOf 2 (some .int) 0 0 D cI [.ref a_o, .int w1] [oX0 a_o a_o_inner a_o_owners a_o_nears a_o_basePlaces a_o_baseFactors a_o_baseStarts v_o_bases v_o_thirds, aI cI a_o_inner 120 f_o_inner] (some (.int r)) [oX0 a_o a_o_inner a_o_owners a_o_nears a_o_basePlaces a_o_baseFactors a_o_baseStarts v_o_bases v_o_thirds, aI cI a_o_inner 120 f_o_inner] := by
  refine cz_startI (by decide) (Nat.le_of_ble_eq_true rfl) ?_
  intro p e s m ag below meth c A Q hx hb hml hown hts hK hN hQ H locs hP hD hS ls hl
  replace hown : s.vm.findClass RX0 = some m.cls := hown
  replace hl : lv_has ls 2 [(0, .ref a_o), (1, .int w1)] := hl
  unfold f_X0_innerOf at h
  refine lv_iload_n hx hb dX0_innerOf_0 rfl (lv_at hl 1 rfl) ?_
  refine lv_if_lt (tgt := 19) hx hb dX0_innerOf_1 (by decide) (fun c1 => ?_) (fun c1 => ?_)
  · replace h := cz_t c1 h
    refine lv_bipush (v := (-9 : Int32)) hx hb dX0_innerOf_19 (by decide) ?_
    obtain rfl := cz_i h
    exact hQ _ _ _ _ hP hS dX0_innerOf_21
  · replace h := cz_f c1 h
    refine lv_iload_n hx hb dX0_innerOf_4 rfl (lv_at hl 1 rfl) ?_
    refine lv_bipush (v := (120 : Int32)) hx hb dX0_innerOf_5 (by decide) ?_
    refine lv_icmp_ge (tgt := 19) hx hb dX0_innerOf_7 (by decide) (fun c2 => ?_) (fun c2 => ?_)
    · replace h := cz_t c2 h
      refine lv_bipush (v := (-9 : Int32)) hx hb dX0_innerOf_19 (by decide) ?_
      obtain rfl := cz_i h
      exact hQ _ _ _ _ hP hS dX0_innerOf_21
    · replace h := cz_f c2 h
      refine lv_aload_n hx hb dX0_innerOf_10 rfl (lv_at hl 0 rfl) ?_
      refine va_get (D := D) (ci := 0) (v := .ref a_o_inner) (C := RX0) (T := TX0) (N := 8) hx hb hts in_X0 hown hK hP 0 rfl rfl 0 (by decide) (hts _ mw_1_109) (fun _ h9 => h9) rfl dX0_innerOf_11 ?_
      refine lv_iload_n hx hb dX0_innerOf_14 rfl (lv_at hl 1 rfl) ?_
      refine cz_iald hx hb hK hP 1 0 rfl rfl (cz_rdE h).1 dX0_innerOf_15 (fun x3 ex3 => ?_)
      replace h := cz_rdK ex3 h
      refine lv_goto (tgt := 21) hx hb dX0_innerOf_16 (by decide) ?_
      obtain rfl := cz_i h
      exact hQ _ _ _ _ hP hS dX0_innerOf_21
set_option maxHeartbeats 4000000 in
set_option maxRecDepth 100000 in
theorem c_X0_ownerOf (l : Launch) (D : va_G) (cI : ClassId) (a_o a_o_owners a_o_inner a_o_nears a_o_basePlaces a_o_baseFactors a_o_baseStarts : Nat) (v_o_bases : Int32) (v_o_thirds : Int32) (f_o_owners : (Nat → Int32)) (w1 : Int32) (n : Nat) (r : Int32) (h : f_X0_ownerOf n f_o_owners w1 = some r) : cz_M l yX0_ownerOf cX0_ownerOf 2 (some .int) 0 0 D cI [.ref a_o, .int w1] [oX0 a_o a_o_inner a_o_owners a_o_nears a_o_basePlaces a_o_baseFactors a_o_baseStarts v_o_bases v_o_thirds, aI cI a_o_owners 120 f_o_owners] (some (.int r)) [oX0 a_o a_o_inner a_o_owners a_o_nears a_o_basePlaces a_o_baseFactors a_o_baseStarts v_o_bases v_o_thirds, aI cI a_o_owners 120 f_o_owners] := by
  refine cz_startI (by decide) (Nat.le_of_ble_eq_true rfl) ?_
  intro p e s m ag below meth c A Q hx hb hml hown hts hK hN hQ H locs hP hD hS ls hl
  replace hown : s.vm.findClass RX0 = some m.cls := hown
  replace hl : lv_has ls 2 [(0, .ref a_o), (1, .int w1)] := hl
  unfold f_X0_ownerOf at h
  refine lv_iload_n hx hb dX0_ownerOf_0 rfl (lv_at hl 1 rfl) ?_
  refine lv_if_lt (tgt := 19) hx hb dX0_ownerOf_1 (by decide) (fun c1 => ?_) (fun c1 => ?_)
  · replace h := cz_t c1 h
    refine lv_bipush (v := (-9 : Int32)) hx hb dX0_ownerOf_19 (by decide) ?_
    obtain rfl := cz_i h
    exact hQ _ _ _ _ hP hS dX0_ownerOf_21
  · replace h := cz_f c1 h
    refine lv_iload_n hx hb dX0_ownerOf_4 rfl (lv_at hl 1 rfl) ?_
    refine lv_bipush (v := (120 : Int32)) hx hb dX0_ownerOf_5 (by decide) ?_
    refine lv_icmp_ge (tgt := 19) hx hb dX0_ownerOf_7 (by decide) (fun c2 => ?_) (fun c2 => ?_)
    · replace h := cz_t c2 h
      refine lv_bipush (v := (-9 : Int32)) hx hb dX0_ownerOf_19 (by decide) ?_
      obtain rfl := cz_i h
      exact hQ _ _ _ _ hP hS dX0_ownerOf_21
    · replace h := cz_f c2 h
      refine lv_aload_n hx hb dX0_ownerOf_10 rfl (lv_at hl 0 rfl) ?_
      refine va_get (D := D) (ci := 0) (v := .ref a_o_owners) (C := RX0) (T := TX0) (N := 8) hx hb hts in_X0 hown hK hP 0 rfl rfl 1 (by decide) (hts _ mw_1_110) (fun _ h9 => h9) rfl dX0_ownerOf_11 ?_
      refine lv_iload_n hx hb dX0_ownerOf_14 rfl (lv_at hl 1 rfl) ?_
      refine cz_iald hx hb hK hP 1 0 rfl rfl (cz_rdE h).1 dX0_ownerOf_15 (fun x3 ex3 => ?_)
      replace h := cz_rdK ex3 h
      refine lv_goto (tgt := 21) hx hb dX0_ownerOf_16 (by decide) ?_
      obtain rfl := cz_i h
      exact hQ _ _ _ _ hP hS dX0_ownerOf_21
set_option maxHeartbeats 4000000 in
set_option maxRecDepth 100000 in
theorem c_X0_isEvenAt (l : Launch) (D : va_G) (cI : ClassId) (a_o a_o_owners a_o_inner a_o_nears a_o_basePlaces a_o_baseFactors a_o_baseStarts : Nat) (v_o_bases : Int32) (v_o_thirds : Int32) (f_o_owners : (Nat → Int32)) (w1 : Int32) (w2 : Int32) (n : Nat) (r : Int32) (h : f_X0_isEvenAt n f_o_owners w1 w2 = some r) : cz_M l yX0_isEvenAt cX0_isEvenAt 3 (some .boolean) 1 21 D cI [.ref a_o, .int w1, .int w2] [oX0 a_o a_o_inner a_o_owners a_o_nears a_o_basePlaces a_o_baseFactors a_o_baseStarts v_o_bases v_o_thirds, aI cI a_o_owners 120 f_o_owners] (some (.int r)) [oX0 a_o a_o_inner a_o_owners a_o_nears a_o_basePlaces a_o_baseFactors a_o_baseStarts v_o_bases v_o_thirds, aI cI a_o_owners 120 f_o_owners] := by
  refine cz_startZ (by decide) (Nat.le_of_ble_eq_true rfl) ?_
  intro p e s m ag below meth c A Q hx hb hml hown hts hK hN hQ H locs hP hD hS ls hl
  replace hown : s.vm.findClass RX0 = some m.cls := hown
  replace hl : lv_has ls 3 [(0, .ref a_o), (1, .int w1), (2, .int w2)] := hl
  unfold f_X0_isEvenAt at h
  refine lv_aload_n hx hb dX0_isEvenAt_0 rfl (lv_at hl 0 rfl) ?_
  refine lv_iload_n hx hb dX0_isEvenAt_1 rfl (lv_at hl 1 rfl) ?_
  refine lv_iload_n hx hb dX0_isEvenAt_2 rfl (lv_at hl 2 rfl) ?_
  obtain ⟨x1, hc2, h⟩ := cz_e1 h
  refine cz_callS (As := [.int w1, .int w2]) (rest := [.ref a_o]) (is := []) (isR := [0, 1]) (rs := [oX0 a_o a_o_inner a_o_owners a_o_nears a_o_basePlaces a_o_baseFactors a_o_baseStarts v_o_bases v_o_thirds, aI cI a_o_owners 120 f_o_owners]) (as := [a_o, a_o_owners]) (ws1 := [oX0 a_o a_o_inner a_o_owners a_o_nears a_o_basePlaces a_o_baseFactors a_o_baseStarts v_o_bases v_o_thirds, aI cI a_o_owners 120 f_o_owners]) ⟨hx, hb, hml, hown, hts⟩ (c_X4_placeAt l D cI   w1 w2 n x1 hc2) mw_2_138 mw_2_90 mw_1_3 mw_2_91 hd_X4_placeAt ⟨Nat.le_of_ble_eq_true rfl, Nat.le_of_ble_eq_true rfl⟩ hK hN hP hD hS rfl rfl rfl rfl rfl rfl rfl rfl rfl hl.1 rfl (Nat.le_of_ble_eq_true rfl) dX0_isEvenAt_3 ⟨Nat.le_of_ble_eq_true rfl, Nat.le_of_ble_eq_true rfl⟩ (fun H locs hP hD hS => ?_)
  refine W.eq (g2 := F0 m 6 ls [.int x1, .ref a_o]) rfl ?_
  obtain ⟨x3, hc4, h⟩ := cz_e1 h
  refine cz_callV (As := [.int x1]) (rest := []) (is := [0, 1]) (isR := []) (rs := []) (as := [a_o, a_o_owners]) (ws1 := [oX0 a_o a_o_inner a_o_owners a_o_nears a_o_basePlaces a_o_baseFactors a_o_baseStarts v_o_bases v_o_thirds, aI cI a_o_owners 120 f_o_owners]) (q0 := 0) (ci := 0) ⟨hx, hb, hml, hown, hts⟩ (c_X0_ownerOf l D cI a_o a_o_owners a_o_inner a_o_nears a_o_basePlaces a_o_baseFactors a_o_baseStarts v_o_bases v_o_thirds f_o_owners x1 n x3 hc4) mw_3_59 mw_2_218 mw_2_219 mw_1_6 mw_2_220 hd_X0_ownerOf ⟨Nat.le_of_ble_eq_true rfl, Nat.le_of_ble_eq_true rfl⟩ hK hN hP hD hS rfl rfl rfl rfl rfl rfl rfl rfl rfl rfl rfl rfl hl.1 rfl (Nat.le_of_ble_eq_true rfl) dX0_isEvenAt_6 ⟨Nat.le_of_ble_eq_true rfl, Nat.le_of_ble_eq_true rfl⟩ (fun H locs hP hD hS => ?_)
  refine W.eq (g2 := F0 m 9 ls [.int x3]) rfl ?_
  refine lv_bipush (v := (-2 : Int32)) hx hb dX0_isEvenAt_9 (by decide) ?_
  refine lv_icmp_ne (tgt := 18) hx hb dX0_isEvenAt_11 (by decide) (fun c5 => ?_) (fun c5 => ?_)
  · replace h := cz_f c5 h
    refine lv_iconst (v := (0 : Int32)) hx hb dX0_isEvenAt_18 (by decide) ?_
    obtain rfl := cz_i h
    exact hQ _ _ _ _ (by decide) hP hS dX0_isEvenAt_19
  · replace h := cz_t c5 h
    refine lv_iconst (v := (1 : Int32)) hx hb dX0_isEvenAt_14 (by decide) ?_
    refine lv_goto (tgt := 19) hx hb dX0_isEvenAt_15 (by decide) ?_
    obtain rfl := cz_i h
    exact hQ _ _ _ _ (by decide) hP hS dX0_isEvenAt_19
set_option maxHeartbeats 4000000 in
set_option maxRecDepth 100000 in
theorem c_X0_areaOf (l : Launch) (D : va_G) (cI : ClassId) (a_o a_o_owners a_o_inner a_o_nears a_o_basePlaces a_o_baseFactors a_o_baseStarts : Nat) (v_o_bases : Int32) (v_o_thirds : Int32) (f_o_owners : (Nat → Int32)) (w1 : Int32) (n : Nat) (r : Int32) (h : f_X0_areaOf n f_o_owners w1 = some r) : cz_M l yX0_areaOf cX0_areaOf 4 (some .int) 0 0 D cI [.ref a_o, .int w1] [oX0 a_o a_o_inner a_o_owners a_o_nears a_o_basePlaces a_o_baseFactors a_o_baseStarts v_o_bases v_o_thirds, aI cI a_o_owners 120 f_o_owners] (some (.int r)) [oX0 a_o a_o_inner a_o_owners a_o_nears a_o_basePlaces a_o_baseFactors a_o_baseStarts v_o_bases v_o_thirds, aI cI a_o_owners 120 f_o_owners] := by
  refine cz_startI (by decide) (Nat.le_of_ble_eq_true rfl) ?_
  intro p e s m ag below meth c A Q hx hb hml hown hts hK hN hQ H locs hP hD hS ls hl
  replace hown : s.vm.findClass RX0 = some m.cls := hown
  replace hl : lv_has ls 4 [(0, .ref a_o), (1, .int w1)] := hl
  unfold f_X0_areaOf at h
  refine lv_iconst (v := (0 : Int32)) hx hb dX0_areaOf_0 (by decide) ?_
  refine lv_istore_n (lv' := [(2, .int (0 : Int32)), (0, .ref a_o), (1, .int w1)]) hx hb dX0_areaOf_1 rfl hl (by decide) rfl (fun ls hl => ?_)
  refine lv_iconst (v := (0 : Int32)) hx hb dX0_areaOf_2 (by decide) ?_
  refine lv_istore_n (lv' := [(3, .int (0 : Int32)), (2, .int (0 : Int32)), (0, .ref a_o), (1, .int w1)]) hx hb dX0_areaOf_3 rfl hl (by decide) rfl (fun ls hl => ?_)
  obtain ⟨z3, hE4, hz5⟩ := cz_x2 h
  have hX6 : ∀ (y9 : Int32) (y10 : Int32) (H : Heap) (locs : List Loc) (ls : Array Slot), z3 = (y9, y10) → va_P D vwCl [oX0 a_o a_o_inner a_o_owners a_o_nears a_o_basePlaces a_o_baseFactors a_o_baseStarts v_o_bases v_o_thirds, aI cI a_o_owners 120 f_o_owners] H → va_D A [oX0 a_o a_o_inner a_o_owners a_o_nears a_o_basePlaces a_o_baseFactors a_o_baseStarts v_o_bases v_o_thirds, aI cI a_o_owners 120 f_o_owners] → va_S A s.heap H locs → lv_has ls 4 [(2, .int y9)] → W p l e (cz_rm 0 0) s m ag below meth c H locs 0 0 Q (F0 m 29 ls []) := by
    intro y9 y10 H locs ls h hP hD hS hl
    replace h := hz5 _ _ h
    refine lv_iload_n hx hb dX0_areaOf_29 rfl (lv_at hl 0 rfl) ?_
    obtain rfl := cz_i h
    exact hQ _ _ _ _ hP hS dX0_areaOf_30
  clear h
  have hL7 : ∀ (k : Nat) (x1 : Int32) (x2 : Int32) (H : Heap) (locs : List Loc) (ls : Array Slot), f_X0_areaOf_L4 n f_o_owners w1 k x1 x2 = some z3 → va_P D vwCl [oX0 a_o a_o_inner a_o_owners a_o_nears a_o_basePlaces a_o_baseFactors a_o_baseStarts v_o_bases v_o_thirds, aI cI a_o_owners 120 f_o_owners] H → va_D A [oX0 a_o a_o_inner a_o_owners a_o_nears a_o_basePlaces a_o_baseFactors a_o_baseStarts v_o_bases v_o_thirds, aI cI a_o_owners 120 f_o_owners] → va_S A s.heap H locs → lv_has ls 4 [(0, .ref a_o), (1, .int w1), (2, .int x1), (3, .int x2)] → W p l e (cz_rm 0 0) s m ag below meth c H locs 0 0 Q (F0 m 4 ls []) := by
    intro k
    induction k with
    | zero =>
      intro x1 x2 H locs ls h
      rw [f_X0_areaOf_L4] at h
      cases h
    | succ k ih11 =>
      intro x1 x2 H locs ls h hP hD hS hl
      rw [f_X0_areaOf_L4] at h
      refine lv_iload_n hx hb dX0_areaOf_4 rfl (lv_at hl 3 rfl) ?_
      refine lv_bipush (v := (120 : Int32)) hx hb dX0_areaOf_5 (by decide) ?_
      refine lv_icmp_ge (tgt := 29) hx hb dX0_areaOf_7 (by decide) (fun c12 => ?_) (fun c12 => ?_)
      · replace h := cz_t c12 h
        exact hX6 _ _ _ _ _ (cz_i h).symm hP hD hS (lv_sub hl [2] rfl)
      · replace h := cz_f c12 h
        refine lv_aload_n hx hb dX0_areaOf_10 rfl (lv_at hl 0 rfl) ?_
        refine va_get (D := D) (ci := 0) (v := .ref a_o_owners) (C := RX0) (T := TX0) (N := 8) hx hb hts in_X0 hown hK hP 0 rfl rfl 1 (by decide) (hts _ mw_1_110) (fun _ h9 => h9) rfl dX0_areaOf_11 ?_
        refine lv_iload_n hx hb dX0_areaOf_14 rfl (lv_at hl 3 rfl) ?_
        refine cz_iald hx hb hK hP 1 0 rfl rfl (cz_rdE h).1 dX0_areaOf_15 (fun x13 ex13 => ?_)
        replace h := cz_rdK ex13 h
        refine lv_iload_n hx hb dX0_areaOf_16 rfl (lv_at hl 1 rfl) ?_
        obtain ⟨z18, hE16, hz15⟩ := cz_x1 h
        have hJ17 : ∀ (x14 : Int32) (H : Heap) (locs : List Loc) (ls : Array Slot), z18 = x14 → va_P D vwCl [oX0 a_o a_o_inner a_o_owners a_o_nears a_o_basePlaces a_o_baseFactors a_o_baseStarts v_o_bases v_o_thirds, aI cI a_o_owners 120 f_o_owners] H → va_D A [oX0 a_o a_o_inner a_o_owners a_o_nears a_o_basePlaces a_o_baseFactors a_o_baseStarts v_o_bases v_o_thirds, aI cI a_o_owners 120 f_o_owners] → va_S A s.heap H locs → lv_has ls 4 [(0, .ref a_o), (1, .int w1), (2, .int x14), (3, .int x2)] → W p l e (cz_rm 0 0) s m ag below meth c H locs 0 0 Q (F0 m 23 ls []) := by
          intro x14 H locs ls h hP hD hS hl
          replace h := hz15 _ h
          obtain ⟨x19, ex19⟩ : ∃ z : Int32, z = x2 + (1 : Int32) := ⟨_, rfl⟩
          replace h := cz_ltE ex19 h
          refine lv_iinc (v := x19) (lv' := [(3, .int x19), (0, .ref a_o), (1, .int w1), (2, .int x14)]) hx hb dX0_areaOf_23 hl (k := 3) rfl (by rw [ex19]; rfl) (by decide) rfl (fun ls hl => ?_)
          refine lv_goto (tgt := 4) hx hb dX0_areaOf_26 (by decide) ?_
          exact ih11 _ _ _ _ _ h hP hD hS (lv_sub hl [1, 2, 3, 0] rfl)
        clear h
        have h := hE16
        refine lv_icmp_ne (tgt := 23) hx hb dX0_areaOf_17 (by decide) (fun c20 => ?_) (fun c20 => ?_)
        · replace h := cz_f c20 h
          exact hJ17 _ _ _ _ (cz_i h).symm hP hD hS (lv_sub hl [0, 1, 2, 3] rfl)
        · replace h := cz_t c20 h
          obtain ⟨x21, ex21⟩ : ∃ z : Int32, z = x1 + (1 : Int32) := ⟨_, rfl⟩
          replace h := cz_ltE ex21 h
          refine lv_iinc (v := x21) (lv' := [(2, .int x21), (0, .ref a_o), (1, .int w1), (3, .int x2)]) hx hb dX0_areaOf_20 hl (k := 2) rfl (by rw [ex21]; rfl) (by decide) rfl (fun ls hl => ?_)
          exact hJ17 _ _ _ _ (cz_i h).symm hP hD hS (lv_sub hl [1, 2, 0, 3] rfl)
  exact hL7 n _ _ _ _ _ hE4 hP hD hS (lv_sub hl [2, 3, 1, 0] rfl)
set_option maxHeartbeats 4000000 in
set_option maxRecDepth 100000 in
theorem c_X0_differences (l : Launch) (D : va_G) (cI : ClassId) (a_o a_o_owners a_p1 a_p1_owners a_o_inner a_o_nears a_o_basePlaces a_o_baseFactors a_o_baseStarts a_p1_inner a_p1_nears a_p1_basePlaces a_p1_baseFactors a_p1_baseStarts : Nat) (v_o_bases : Int32) (v_o_thirds : Int32) (f_o_owners : (Nat → Int32)) (v_p1_bases : Int32) (v_p1_thirds : Int32) (f_p1_owners : (Nat → Int32)) (w2 : Int32) (n : Nat) (r : Int32) (h : f_X0_differences n f_o_owners f_p1_owners w2 = some r) : cz_M l yX0_differences cX0_differences 5 (some .int) 0 0 D cI [.ref a_o, .ref a_p1, .int w2] [oX0 a_o a_o_inner a_o_owners a_o_nears a_o_basePlaces a_o_baseFactors a_o_baseStarts v_o_bases v_o_thirds, aI cI a_o_owners 120 f_o_owners, oX0 a_p1 a_p1_inner a_p1_owners a_p1_nears a_p1_basePlaces a_p1_baseFactors a_p1_baseStarts v_p1_bases v_p1_thirds, aI cI a_p1_owners 120 f_p1_owners] (some (.int r)) [oX0 a_o a_o_inner a_o_owners a_o_nears a_o_basePlaces a_o_baseFactors a_o_baseStarts v_o_bases v_o_thirds, aI cI a_o_owners 120 f_o_owners, oX0 a_p1 a_p1_inner a_p1_owners a_p1_nears a_p1_basePlaces a_p1_baseFactors a_p1_baseStarts v_p1_bases v_p1_thirds, aI cI a_p1_owners 120 f_p1_owners] := by
  refine cz_startI (by decide) (Nat.le_of_ble_eq_true rfl) ?_
  intro p e s m ag below meth c A Q hx hb hml hown hts hK hN hQ H locs hP hD hS ls hl
  replace hown : s.vm.findClass RX0 = some m.cls := hown
  replace hl : lv_has ls 5 [(0, .ref a_o), (1, .ref a_p1), (2, .int w2)] := hl
  unfold f_X0_differences at h
  refine lv_iconst (v := (0 : Int32)) hx hb dX0_differences_0 (by decide) ?_
  refine lv_istore_n (lv' := [(3, .int (0 : Int32)), (0, .ref a_o), (1, .ref a_p1), (2, .int w2)]) hx hb dX0_differences_1 rfl hl (by decide) rfl (fun ls hl => ?_)
  refine lv_iconst (v := (0 : Int32)) hx hb dX0_differences_2 (by decide) ?_
  refine lv_istore (lv' := [(4, .int (0 : Int32)), (3, .int (0 : Int32)), (0, .ref a_o), (1, .ref a_p1), (2, .int w2)]) hx hb dX0_differences_3 hl (by decide) rfl (fun ls hl => ?_)
  obtain ⟨z3, hE4, hz5⟩ := cz_x2 h
  have hX6 : ∀ (y9 : Int32) (y10 : Int32) (H : Heap) (locs : List Loc) (ls : Array Slot), z3 = (y9, y10) → va_P D vwCl [oX0 a_o a_o_inner a_o_owners a_o_nears a_o_basePlaces a_o_baseFactors a_o_baseStarts v_o_bases v_o_thirds, aI cI a_o_owners 120 f_o_owners, oX0 a_p1 a_p1_inner a_p1_owners a_p1_nears a_p1_basePlaces a_p1_baseFactors a_p1_baseStarts v_p1_bases v_p1_thirds, aI cI a_p1_owners 120 f_p1_owners] H → va_D A [oX0 a_o a_o_inner a_o_owners a_o_nears a_o_basePlaces a_o_baseFactors a_o_baseStarts v_o_bases v_o_thirds, aI cI a_o_owners 120 f_o_owners, oX0 a_p1 a_p1_inner a_p1_owners a_p1_nears a_p1_basePlaces a_p1_baseFactors a_p1_baseStarts v_p1_bases v_p1_thirds, aI cI a_p1_owners 120 f_p1_owners] → va_S A s.heap H locs → lv_has ls 5 [(3, .int y9)] → W p l e (cz_rm 0 0) s m ag below meth c H locs 0 0 Q (F0 m 44 ls []) := by
    intro y9 y10 H locs ls h hP hD hS hl
    replace h := hz5 _ _ h
    refine lv_iload_n hx hb dX0_differences_44 rfl (lv_at hl 0 rfl) ?_
    obtain rfl := cz_i h
    exact hQ _ _ _ _ hP hS dX0_differences_45
  clear h
  have hL7 : ∀ (k : Nat) (x1 : Int32) (x2 : Int32) (H : Heap) (locs : List Loc) (ls : Array Slot), f_X0_differences_L5 n f_o_owners f_p1_owners w2 k x1 x2 = some z3 → va_P D vwCl [oX0 a_o a_o_inner a_o_owners a_o_nears a_o_basePlaces a_o_baseFactors a_o_baseStarts v_o_bases v_o_thirds, aI cI a_o_owners 120 f_o_owners, oX0 a_p1 a_p1_inner a_p1_owners a_p1_nears a_p1_basePlaces a_p1_baseFactors a_p1_baseStarts v_p1_bases v_p1_thirds, aI cI a_p1_owners 120 f_p1_owners] H → va_D A [oX0 a_o a_o_inner a_o_owners a_o_nears a_o_basePlaces a_o_baseFactors a_o_baseStarts v_o_bases v_o_thirds, aI cI a_o_owners 120 f_o_owners, oX0 a_p1 a_p1_inner a_p1_owners a_p1_nears a_p1_basePlaces a_p1_baseFactors a_p1_baseStarts v_p1_bases v_p1_thirds, aI cI a_p1_owners 120 f_p1_owners] → va_S A s.heap H locs → lv_has ls 5 [(0, .ref a_o), (1, .ref a_p1), (2, .int w2), (3, .int x1), (4, .int x2)] → W p l e (cz_rm 0 0) s m ag below meth c H locs 0 0 Q (F0 m 5 ls []) := by
    intro k
    induction k with
    | zero =>
      intro x1 x2 H locs ls h
      rw [f_X0_differences_L5] at h
      cases h
    | succ k ih11 =>
      intro x1 x2 H locs ls h hP hD hS hl
      rw [f_X0_differences_L5] at h
      refine lv_iload hx hb dX0_differences_5 (lv_at hl 4 rfl) ?_
      refine lv_bipush (v := (120 : Int32)) hx hb dX0_differences_7 (by decide) ?_
      refine lv_icmp_ge (tgt := 44) hx hb dX0_differences_9 (by decide) (fun c12 => ?_) (fun c12 => ?_)
      · replace h := cz_t c12 h
        exact hX6 _ _ _ _ _ (cz_i h).symm hP hD hS (lv_sub hl [3] rfl)
      · replace h := cz_f c12 h
        refine lv_iload hx hb dX0_differences_12 (lv_at hl 4 rfl) ?_
        refine lv_iload_n hx hb dX0_differences_14 rfl (lv_at hl 2 rfl) ?_
        obtain ⟨z17, hE15, hz14⟩ := cz_x1 h
        have hJ16 : ∀ (x13 : Int32) (H : Heap) (locs : List Loc) (ls : Array Slot), z17 = x13 → va_P D vwCl [oX0 a_o a_o_inner a_o_owners a_o_nears a_o_basePlaces a_o_baseFactors a_o_baseStarts v_o_bases v_o_thirds, aI cI a_o_owners 120 f_o_owners, oX0 a_p1 a_p1_inner a_p1_owners a_p1_nears a_p1_basePlaces a_p1_baseFactors a_p1_baseStarts v_p1_bases v_p1_thirds, aI cI a_p1_owners 120 f_p1_owners] H → va_D A [oX0 a_o a_o_inner a_o_owners a_o_nears a_o_basePlaces a_o_baseFactors a_o_baseStarts v_o_bases v_o_thirds, aI cI a_o_owners 120 f_o_owners, oX0 a_p1 a_p1_inner a_p1_owners a_p1_nears a_p1_basePlaces a_p1_baseFactors a_p1_baseStarts v_p1_bases v_p1_thirds, aI cI a_p1_owners 120 f_p1_owners] → va_S A s.heap H locs → lv_has ls 5 [(0, .ref a_o), (1, .ref a_p1), (2, .int w2), (3, .int x13), (4, .int x2)] → W p l e (cz_rm 0 0) s m ag below meth c H locs 0 0 Q (F0 m 38 ls []) := by
          intro x13 H locs ls h hP hD hS hl
          replace h := hz14 _ h
          obtain ⟨x18, ex18⟩ : ∃ z : Int32, z = x2 + (1 : Int32) := ⟨_, rfl⟩
          replace h := cz_ltE ex18 h
          refine lv_iinc (v := x18) (lv' := [(4, .int x18), (0, .ref a_o), (1, .ref a_p1), (2, .int w2), (3, .int x13)]) hx hb dX0_differences_38 hl (k := 4) rfl (by rw [ex18]; rfl) (by decide) rfl (fun ls hl => ?_)
          refine lv_goto (tgt := 5) hx hb dX0_differences_41 (by decide) ?_
          exact ih11 _ _ _ _ _ h hP hD hS (lv_sub hl [1, 2, 3, 4, 0] rfl)
        clear h
        have h := hE15
        refine lv_icmp_eq (tgt := 38) hx hb dX0_differences_15 (by decide) (fun c19 => ?_) (fun c19 => ?_)
        · replace h := cz_t c19 h
          exact hJ16 _ _ _ _ (cz_i h).symm hP hD hS (lv_sub hl [0, 1, 2, 3, 4] rfl)
        · replace h := cz_f c19 h
          refine lv_aload_n hx hb dX0_differences_18 rfl (lv_at hl 0 rfl) ?_
          refine va_get (D := D) (ci := 0) (v := .ref a_o_owners) (C := RX0) (T := TX0) (N := 8) hx hb hts in_X0 hown hK hP 0 rfl rfl 1 (by decide) (hts _ mw_1_110) (fun _ h9 => h9) rfl dX0_differences_19 ?_
          refine lv_iload hx hb dX0_differences_22 (lv_at hl 4 rfl) ?_
          refine cz_iald hx hb hK hP 1 0 rfl rfl (cz_rdE h).1 dX0_differences_24 (fun x20 ex20 => ?_)
          replace h := cz_rdK ex20 h
          refine lv_aload_n hx hb dX0_differences_25 rfl (lv_at hl 1 rfl) ?_
          refine va_get (D := D) (ci := 0) (v := .ref a_p1_owners) (C := RX0) (T := TX0) (N := 8) hx hb hts in_X0 hown hK hP 2 rfl rfl 1 (by decide) (hts _ mw_1_110) (fun _ h9 => h9) rfl dX0_differences_26 ?_
          refine lv_iload hx hb dX0_differences_29 (lv_at hl 4 rfl) ?_
          refine cz_iald hx hb hK hP 3 0 rfl rfl (cz_rdE h).1 dX0_differences_31 (fun x21 ex21 => ?_)
          replace h := cz_rdK ex21 h
          refine lv_icmp_eq (tgt := 38) hx hb dX0_differences_32 (by decide) (fun c22 => ?_) (fun c22 => ?_)
          · replace h := cz_t c22 h
            exact hJ16 _ _ _ _ (cz_i h).symm hP hD hS (lv_sub hl [0, 1, 2, 3, 4] rfl)
          · replace h := cz_f c22 h
            obtain ⟨x23, ex23⟩ : ∃ z : Int32, z = x1 + (1 : Int32) := ⟨_, rfl⟩
            replace h := cz_ltE ex23 h
            refine lv_iinc (v := x23) (lv' := [(3, .int x23), (0, .ref a_o), (1, .ref a_p1), (2, .int w2), (4, .int x2)]) hx hb dX0_differences_35 hl (k := 3) rfl (by rw [ex23]; rfl) (by decide) rfl (fun ls hl => ?_)
            exact hJ16 _ _ _ _ (cz_i h).symm hP hD hS (lv_sub hl [1, 2, 3, 0, 4] rfl)
  exact hL7 n _ _ _ _ _ hE4 hP hD hS (lv_sub hl [2, 3, 4, 1, 0] rfl)
set_option maxHeartbeats 4000000 in
set_option maxRecDepth 100000 in
theorem c_X1_enqueue (l : Launch) (D : va_G) (cI : ClassId) (a_o a_o_partOf a_o_queue a_p1 a_p1_owners a_p1_inner a_p1_nears a_p1_basePlaces a_p1_baseFactors a_p1_baseStarts : Nat) (v_o_queued : Int32) (f_o_partOf : (Nat → Int32)) (f_o_queue : (Nat → Int32)) (v_p1_bases : Int32) (v_p1_thirds : Int32) (f_p1_owners : (Nat → Int32)) (w2 : Int32) (w3 : Int32) (n : Nat) (r_v_o_queued : Int32) (r_f_o_partOf : (Nat → Int32)) (r_f_o_queue : (Nat → Int32)) (h : f_X1_enqueue n v_o_queued f_o_partOf f_o_queue f_p1_owners w2 w3 = some (r_v_o_queued, r_f_o_partOf, r_f_o_queue)) : cz_M l yX1_enqueue cX1_enqueue 4 none 1 21 D cI [.ref a_o, .ref a_p1, .int w2, .int w3] [oX1 a_o a_o_partOf a_o_queue v_o_queued, aI cI a_o_partOf 120 f_o_partOf, aI cI a_o_queue 120 f_o_queue, oX0 a_p1 a_p1_inner a_p1_owners a_p1_nears a_p1_basePlaces a_p1_baseFactors a_p1_baseStarts v_p1_bases v_p1_thirds, aI cI a_p1_owners 120 f_p1_owners] none [oX1 a_o a_o_partOf a_o_queue r_v_o_queued, aI cI a_o_partOf 120 r_f_o_partOf, aI cI a_o_queue 120 r_f_o_queue, oX0 a_p1 a_p1_inner a_p1_owners a_p1_nears a_p1_basePlaces a_p1_baseFactors a_p1_baseStarts v_p1_bases v_p1_thirds, aI cI a_p1_owners 120 f_p1_owners] := by
  refine cz_startV (by decide) (Nat.le_of_ble_eq_true rfl) ?_
  intro p e s m ag below meth c A Q hx hb hml hown hts hK hN hQ H locs hP hD hS ls hl
  replace hown : s.vm.findClass RX1 = some m.cls := hown
  replace hl : lv_has ls 4 [(0, .ref a_o), (1, .ref a_p1), (2, .int w2), (3, .int w3)] := hl
  unfold f_X1_enqueue at h
  refine lv_iload_n hx hb dX1_enqueue_0 rfl (lv_at hl 2 rfl) ?_
  refine lv_if_lt (tgt := 72) hx hb dX1_enqueue_1 (by decide) (fun c1 => ?_) (fun c1 => ?_)
  · replace h := cz_t c1 h
    obtain ⟨rfl, rfl, rfl⟩ := cz_j3 (cz_i h)
    exact hQ _ _ _ _ hP hS dX1_enqueue_72
  · replace h := cz_f c1 h
    refine lv_iload_n hx hb dX1_enqueue_4 rfl (lv_at hl 2 rfl) ?_
    refine lv_bipush (v := (120 : Int32)) hx hb dX1_enqueue_5 (by decide) ?_
    refine lv_icmp_ge (tgt := 72) hx hb dX1_enqueue_7 (by decide) (fun c2 => ?_) (fun c2 => ?_)
    · replace h := cz_t c2 h
      obtain ⟨rfl, rfl, rfl⟩ := cz_j3 (cz_i h)
      exact hQ _ _ _ _ hP hS dX1_enqueue_72
    · replace h := cz_f c2 h
      refine lv_aload_n hx hb dX1_enqueue_10 rfl (lv_at hl 0 rfl) ?_
      refine va_get (D := D) (ci := 1) (v := .int v_o_queued) (C := RX1) (T := TX1) (N := 3) hx hb hts in_X1 hown hK hP 0 rfl rfl 2 (by decide) (hts _ mw_1_143) (fun _ h9 => h9) rfl dX1_enqueue_11 ?_
      refine lv_if_lt (tgt := 72) hx hb dX1_enqueue_14 (by decide) (fun c3 => ?_) (fun c3 => ?_)
      · replace h := cz_t c3 h
        obtain ⟨rfl, rfl, rfl⟩ := cz_j3 (cz_i h)
        exact hQ _ _ _ _ hP hS dX1_enqueue_72
      · replace h := cz_f c3 h
        refine lv_aload_n hx hb dX1_enqueue_17 rfl (lv_at hl 0 rfl) ?_
        refine va_get (D := D) (ci := 1) (v := .int v_o_queued) (C := RX1) (T := TX1) (N := 3) hx hb hts in_X1 hown hK hP 0 rfl rfl 2 (by decide) (hts _ mw_1_143) (fun _ h9 => h9) rfl dX1_enqueue_18 ?_
        refine lv_bipush (v := (120 : Int32)) hx hb dX1_enqueue_21 (by decide) ?_
        refine lv_icmp_ge (tgt := 72) hx hb dX1_enqueue_23 (by decide) (fun c4 => ?_) (fun c4 => ?_)
        · replace h := cz_t c4 h
          obtain ⟨rfl, rfl, rfl⟩ := cz_j3 (cz_i h)
          exact hQ _ _ _ _ hP hS dX1_enqueue_72
        · replace h := cz_f c4 h
          refine lv_aload_n hx hb dX1_enqueue_26 rfl (lv_at hl 0 rfl) ?_
          refine va_get (D := D) (ci := 1) (v := .ref a_o_partOf) (C := RX1) (T := TX1) (N := 3) hx hb hts in_X1 hown hK hP 0 rfl rfl 0 (by decide) (hts _ mw_1_141) (fun _ h9 => h9) rfl dX1_enqueue_27 ?_
          refine lv_iload_n hx hb dX1_enqueue_30 rfl (lv_at hl 2 rfl) ?_
          refine cz_iald hx hb hK hP 1 0 rfl rfl (cz_rdE h).1 dX1_enqueue_31 (fun x5 ex5 => ?_)
          replace h := cz_rdK ex5 h
          refine lv_if_ne (tgt := 72) hx hb dX1_enqueue_32 (by decide) (fun c6 => ?_) (fun c6 => ?_)
          · replace h := cz_f c6 h
            obtain ⟨rfl, rfl, rfl⟩ := cz_j3 (cz_i h)
            exact hQ _ _ _ _ hP hS dX1_enqueue_72
          · replace h := cz_t c6 h
            refine lv_aload_n hx hb dX1_enqueue_35 rfl (lv_at hl 1 rfl) ?_
            refine lv_iload_n hx hb dX1_enqueue_36 rfl (lv_at hl 2 rfl) ?_
            obtain ⟨x7, hc8, h⟩ := cz_e1 h
            refine cz_callV (As := [.int w2]) (rest := []) (is := [3, 4]) (isR := [0, 1, 2]) (rs := [oX1 a_o a_o_partOf a_o_queue v_o_queued, aI cI a_o_partOf 120 f_o_partOf, aI cI a_o_queue 120 f_o_queue]) (as := [a_o, a_o_partOf, a_o_queue, a_p1, a_p1_owners]) (ws1 := [oX1 a_o a_o_partOf a_o_queue v_o_queued, aI cI a_o_partOf 120 f_o_partOf, aI cI a_o_queue 120 f_o_queue, oX0 a_p1 a_p1_inner a_p1_owners a_p1_nears a_p1_basePlaces a_p1_baseFactors a_p1_baseStarts v_p1_bases v_p1_thirds, aI cI a_p1_owners 120 f_p1_owners]) (q0 := 0) (ci := 0) ⟨hx, hb, hml, hown, hts⟩ (c_X0_ownerOf l D cI a_p1 a_p1_owners a_p1_inner a_p1_nears a_p1_basePlaces a_p1_baseFactors a_p1_baseStarts v_p1_bases v_p1_thirds f_p1_owners w2 n x7 hc8) mw_3_37 mw_2_218 mw_2_219 mw_1_6 mw_2_220 hd_X0_ownerOf ⟨Nat.le_of_ble_eq_true rfl, Nat.le_of_ble_eq_true rfl⟩ hK hN hP hD hS rfl rfl rfl rfl rfl rfl rfl rfl rfl rfl rfl rfl hl.1 rfl (Nat.le_of_ble_eq_true rfl) dX1_enqueue_37 ⟨Nat.le_of_ble_eq_true rfl, Nat.le_of_ble_eq_true rfl⟩ (fun H locs hP hD hS => ?_)
            refine W.eq (g2 := F0 m 40 ls [.int x7]) rfl ?_
            refine lv_bipush (v := (-2 : Int32)) hx hb dX1_enqueue_40 (by decide) ?_
            refine lv_icmp_ne (tgt := 72) hx hb dX1_enqueue_42 (by decide) (fun c9 => ?_) (fun c9 => ?_)
            · replace h := cz_f c9 h
              obtain ⟨rfl, rfl, rfl⟩ := cz_j3 (cz_i h)
              exact hQ _ _ _ _ hP hS dX1_enqueue_72
            · replace h := cz_t c9 h
              refine lv_aload_n hx hb dX1_enqueue_45 rfl (lv_at hl 0 rfl) ?_
              refine va_get (D := D) (ci := 1) (v := .ref a_o_partOf) (C := RX1) (T := TX1) (N := 3) hx hb hts in_X1 hown hK hP 0 rfl rfl 0 (by decide) (hts _ mw_1_141) (fun _ h9 => h9) rfl dX1_enqueue_46 ?_
              refine lv_iload_n hx hb dX1_enqueue_49 rfl (lv_at hl 2 rfl) ?_
              refine lv_iload_n hx hb dX1_enqueue_50 rfl (lv_at hl 3 rfl) ?_
              refine cz_iast hx hb hK hP hD hS 1 0 rfl rfl (cz_wrE h).1 dX1_enqueue_51 (fun g10 H locs eg10 hP hD hS => ?_)
              replace h := cz_wrK eg10 h
              replace hP : va_P D vwCl [oX1 a_o a_o_partOf a_o_queue v_o_queued, aI cI a_o_partOf 120 g10, aI cI a_o_queue 120 f_o_queue, oX0 a_p1 a_p1_inner a_p1_owners a_p1_nears a_p1_basePlaces a_p1_baseFactors a_p1_baseStarts v_p1_bases v_p1_thirds, aI cI a_p1_owners 120 f_p1_owners] H := hP
              replace hD : va_D A [oX1 a_o a_o_partOf a_o_queue v_o_queued, aI cI a_o_partOf 120 g10, aI cI a_o_queue 120 f_o_queue, oX0 a_p1 a_p1_inner a_p1_owners a_p1_nears a_p1_basePlaces a_p1_baseFactors a_p1_baseStarts v_p1_bases v_p1_thirds, aI cI a_p1_owners 120 f_p1_owners] := hD
              refine lv_aload_n hx hb dX1_enqueue_52 rfl (lv_at hl 0 rfl) ?_
              refine va_get (D := D) (ci := 1) (v := .ref a_o_queue) (C := RX1) (T := TX1) (N := 3) hx hb hts in_X1 hown hK hP 0 rfl rfl 1 (by decide) (hts _ mw_1_142) (fun _ h9 => h9) rfl dX1_enqueue_53 ?_
              refine lv_aload_n hx hb dX1_enqueue_56 rfl (lv_at hl 0 rfl) ?_
              refine va_get (D := D) (ci := 1) (v := .int v_o_queued) (C := RX1) (T := TX1) (N := 3) hx hb hts in_X1 hown hK hP 0 rfl rfl 2 (by decide) (hts _ mw_1_143) (fun _ h9 => h9) rfl dX1_enqueue_57 ?_
              refine lv_iload_n hx hb dX1_enqueue_60 rfl (lv_at hl 2 rfl) ?_
              refine cz_iast hx hb hK hP hD hS 2 0 rfl rfl (cz_wrE h).1 dX1_enqueue_61 (fun g11 H locs eg11 hP hD hS => ?_)
              replace h := cz_wrK eg11 h
              replace hP : va_P D vwCl [oX1 a_o a_o_partOf a_o_queue v_o_queued, aI cI a_o_partOf 120 g10, aI cI a_o_queue 120 g11, oX0 a_p1 a_p1_inner a_p1_owners a_p1_nears a_p1_basePlaces a_p1_baseFactors a_p1_baseStarts v_p1_bases v_p1_thirds, aI cI a_p1_owners 120 f_p1_owners] H := hP
              replace hD : va_D A [oX1 a_o a_o_partOf a_o_queue v_o_queued, aI cI a_o_partOf 120 g10, aI cI a_o_queue 120 g11, oX0 a_p1 a_p1_inner a_p1_owners a_p1_nears a_p1_basePlaces a_p1_baseFactors a_p1_baseStarts v_p1_bases v_p1_thirds, aI cI a_p1_owners 120 f_p1_owners] := hD
              refine lv_aload_n hx hb dX1_enqueue_62 rfl (lv_at hl 0 rfl) ?_
              refine lv_dup hx hb dX1_enqueue_63 rfl ?_
              refine va_get (D := D) (ci := 1) (v := .int v_o_queued) (C := RX1) (T := TX1) (N := 3) hx hb hts in_X1 hown hK hP 0 rfl rfl 2 (by decide) (hts _ mw_1_143) (fun _ h9 => h9) rfl dX1_enqueue_64 ?_
              refine lv_iconst (v := (1 : Int32)) hx hb dX1_enqueue_67 (by decide) ?_
              refine lv_iadd hx hb dX1_enqueue_68 ?_
              refine lv_topi (fun x12 ex12 => ?_)
              replace h := cz_ltE ex12 h
              refine va_put (D := D) (ci := 1) (v := .int x12) (ty := .int) (C := RX1) (T := TX1) (N := 3) hx hb hts in_X1 tyX1 tyX1_ok nmX1 hown hK hP hD hS 0 rfl rfl 2 (by decide) (hts _ mw_1_143) (fun _ h9 => h9) rfl (by decide +kernel) rfl rfl (Nat.le_of_ble_eq_true rfl) dX1_enqueue_69 (fun H locs hP hD hS => ?_)
              replace hP : va_P D vwCl [oX1 a_o a_o_partOf a_o_queue x12, aI cI a_o_partOf 120 g10, aI cI a_o_queue 120 g11, oX0 a_p1 a_p1_inner a_p1_owners a_p1_nears a_p1_basePlaces a_p1_baseFactors a_p1_baseStarts v_p1_bases v_p1_thirds, aI cI a_p1_owners 120 f_p1_owners] H := hP
              replace hD : va_D A [oX1 a_o a_o_partOf a_o_queue x12, aI cI a_o_partOf 120 g10, aI cI a_o_queue 120 g11, oX0 a_p1 a_p1_inner a_p1_owners a_p1_nears a_p1_basePlaces a_p1_baseFactors a_p1_baseStarts v_p1_bases v_p1_thirds, aI cI a_p1_owners 120 f_p1_owners] := hD
              obtain ⟨rfl, rfl, rfl⟩ := cz_j3 (cz_i h)
              exact hQ _ _ _ _ hP hS dX1_enqueue_72
set_option maxHeartbeats 4000000 in
set_option maxRecDepth 100000 in
theorem c_X1_followPart (l : Launch) (D : va_G) (cI : ClassId) (a_o a_o_partOf a_o_queue a_p1 a_p1_owners a_p1_inner a_p1_nears a_p1_basePlaces a_p1_baseFactors a_p1_baseStarts : Nat) (v_o_queued : Int32) (f_o_partOf : (Nat → Int32)) (f_o_queue : (Nat → Int32)) (v_p1_bases : Int32) (v_p1_thirds : Int32) (f_p1_owners : (Nat → Int32)) (w2 : Int32) (w3 : Int32) (n : Nat) (r_v_o_queued : Int32) (r_f_o_partOf : (Nat → Int32)) (r_f_o_queue : (Nat → Int32)) (h : f_X1_followPart n v_o_queued f_o_partOf f_o_queue f_p1_owners w2 w3 = some (r_v_o_queued, r_f_o_partOf, r_f_o_queue)) : cz_M l yX1_followPart cX1_followPart 9 none 2 44 D cI [.ref a_o, .ref a_p1, .int w2, .int w3] [oX1 a_o a_o_partOf a_o_queue v_o_queued, aI cI a_o_partOf 120 f_o_partOf, aI cI a_o_queue 120 f_o_queue, oX0 a_p1 a_p1_inner a_p1_owners a_p1_nears a_p1_basePlaces a_p1_baseFactors a_p1_baseStarts v_p1_bases v_p1_thirds, aI cI a_p1_owners 120 f_p1_owners] none [oX1 a_o a_o_partOf a_o_queue r_v_o_queued, aI cI a_o_partOf 120 r_f_o_partOf, aI cI a_o_queue 120 r_f_o_queue, oX0 a_p1 a_p1_inner a_p1_owners a_p1_nears a_p1_basePlaces a_p1_baseFactors a_p1_baseStarts v_p1_bases v_p1_thirds, aI cI a_p1_owners 120 f_p1_owners] := by
  refine cz_startV (by decide) (Nat.le_of_ble_eq_true rfl) ?_
  intro p e s m ag below meth c A Q hx hb hml hown hts hK hN hQ H locs hP hD hS ls hl
  replace hown : s.vm.findClass RX1 = some m.cls := hown
  replace hl : lv_has ls 9 [(0, .ref a_o), (1, .ref a_p1), (2, .int w2), (3, .int w3)] := hl
  unfold f_X1_followPart at h
  refine lv_aload_n hx hb dX1_followPart_0 rfl (lv_at hl 0 rfl) ?_
  refine lv_iconst (v := (0 : Int32)) hx hb dX1_followPart_1 (by decide) ?_
  refine va_put (D := D) (ci := 1) (v := .int (0 : Int32)) (ty := .int) (C := RX1) (T := TX1) (N := 3) hx hb hts in_X1 tyX1 tyX1_ok nmX1 hown hK hP hD hS 0 rfl rfl 2 (by decide) (hts _ mw_1_143) (fun _ h9 => h9) rfl (by decide +kernel) rfl rfl (Nat.le_of_ble_eq_true rfl) dX1_followPart_2 (fun H locs hP hD hS => ?_)
  replace hP : va_P D vwCl [oX1 a_o a_o_partOf a_o_queue (0 : Int32), aI cI a_o_partOf 120 f_o_partOf, aI cI a_o_queue 120 f_o_queue, oX0 a_p1 a_p1_inner a_p1_owners a_p1_nears a_p1_basePlaces a_p1_baseFactors a_p1_baseStarts v_p1_bases v_p1_thirds, aI cI a_p1_owners 120 f_p1_owners] H := hP
  replace hD : va_D A [oX1 a_o a_o_partOf a_o_queue (0 : Int32), aI cI a_o_partOf 120 f_o_partOf, aI cI a_o_queue 120 f_o_queue, oX0 a_p1 a_p1_inner a_p1_owners a_p1_nears a_p1_basePlaces a_p1_baseFactors a_p1_baseStarts v_p1_bases v_p1_thirds, aI cI a_p1_owners 120 f_p1_owners] := hD
  refine lv_aload_n hx hb dX1_followPart_5 rfl (lv_at hl 0 rfl) ?_
  refine lv_aload_n hx hb dX1_followPart_6 rfl (lv_at hl 1 rfl) ?_
  refine lv_iload_n hx hb dX1_followPart_7 rfl (lv_at hl 2 rfl) ?_
  refine lv_iload_n hx hb dX1_followPart_8 rfl (lv_at hl 3 rfl) ?_
  obtain ⟨x1, g2, g3, hc4, h⟩ := cz_e3 h
  refine cz_callV (As := [.ref a_p1, .int w2, .int w3]) (rest := []) (is := [0, 1, 2, 3, 4]) (isR := []) (rs := []) (as := [a_o, a_o_partOf, a_o_queue, a_p1, a_p1_owners]) (ws1 := [oX1 a_o a_o_partOf a_o_queue x1, aI cI a_o_partOf 120 g2, aI cI a_o_queue 120 g3, oX0 a_p1 a_p1_inner a_p1_owners a_p1_nears a_p1_basePlaces a_p1_baseFactors a_p1_baseStarts v_p1_bases v_p1_thirds, aI cI a_p1_owners 120 f_p1_owners]) (q0 := 0) (ci := 1) ⟨hx, hb, hml, hown, hts⟩ (c_X1_enqueue l D cI a_o a_o_partOf a_o_queue a_p1 a_p1_owners a_p1_inner a_p1_nears a_p1_basePlaces a_p1_baseFactors a_p1_baseStarts (0 : Int32) f_o_partOf f_o_queue v_p1_bases v_p1_thirds f_p1_owners w2 w3 n x1 g2 g3 hc4) mw_3_42 mw_3_43 mw_3_44 mw_1_7 mw_3_45 hd_X1_enqueue ⟨Nat.le_of_ble_eq_true rfl, Nat.le_of_ble_eq_true rfl⟩ hK hN hP hD hS rfl rfl rfl rfl rfl rfl rfl rfl rfl rfl rfl rfl hl.1 rfl (Nat.le_of_ble_eq_true rfl) dX1_followPart_9 ⟨Nat.le_of_ble_eq_true rfl, Nat.le_of_ble_eq_true rfl⟩ (fun H locs hP hD hS => ?_)
  refine W.eq (g2 := F0 m 12 ls []) rfl ?_
  refine lv_iconst (v := (0 : Int32)) hx hb dX1_followPart_12 (by decide) ?_
  refine lv_istore (lv' := [(4, .int (0 : Int32)), (0, .ref a_o), (1, .ref a_p1), (2, .int w2), (3, .int w3)]) hx hb dX1_followPart_13 hl (by decide) rfl (fun ls hl => ?_)
  obtain ⟨z9, hE10, hz11⟩ := cz_x4 h
  have hX12 : ∀ (y15 : Int32) (y16 : Int32) (q17 : (Nat → Int32)) (q18 : (Nat → Int32)) (H : Heap) (locs : List Loc) (ls : Array Slot), z9 = (y15, y16, q17, q18) → va_P D vwCl [oX1 a_o a_o_partOf a_o_queue y16, aI cI a_o_partOf 120 q17, aI cI a_o_queue 120 q18, oX0 a_p1 a_p1_inner a_p1_owners a_p1_nears a_p1_basePlaces a_p1_baseFactors a_p1_baseStarts v_p1_bases v_p1_thirds, aI cI a_p1_owners 120 f_p1_owners] H → va_D A [oX1 a_o a_o_partOf a_o_queue y16, aI cI a_o_partOf 120 q17, aI cI a_o_queue 120 q18, oX0 a_p1 a_p1_inner a_p1_owners a_p1_nears a_p1_basePlaces a_p1_baseFactors a_p1_baseStarts v_p1_bases v_p1_thirds, aI cI a_p1_owners 120 f_p1_owners] → va_S A s.heap H locs → lv_has ls 9 [] → W p l e (cz_rm 2 44) s m ag below meth c H locs 0 0 Q (F0 m 110 ls []) := by
    intro y15 y16 q17 q18 H locs ls h hP hD hS hl
    replace h := hz11 _ _ _ _ h
    obtain ⟨rfl, rfl, rfl⟩ := cz_j3 (cz_i h)
    exact hQ _ _ _ _ hP hS dX1_followPart_110
  clear h
  have hL13 : ∀ (k : Nat) (x5 : Int32) (x6 : Int32) (g7 : (Nat → Int32)) (g8 : (Nat → Int32)) (H : Heap) (locs : List Loc) (ls : Array Slot), f_X1_followPart_L15 n f_p1_owners w3 k x5 x6 g7 g8 = some z9 → va_P D vwCl [oX1 a_o a_o_partOf a_o_queue x6, aI cI a_o_partOf 120 g7, aI cI a_o_queue 120 g8, oX0 a_p1 a_p1_inner a_p1_owners a_p1_nears a_p1_basePlaces a_p1_baseFactors a_p1_baseStarts v_p1_bases v_p1_thirds, aI cI a_p1_owners 120 f_p1_owners] H → va_D A [oX1 a_o a_o_partOf a_o_queue x6, aI cI a_o_partOf 120 g7, aI cI a_o_queue 120 g8, oX0 a_p1 a_p1_inner a_p1_owners a_p1_nears a_p1_basePlaces a_p1_baseFactors a_p1_baseStarts v_p1_bases v_p1_thirds, aI cI a_p1_owners 120 f_p1_owners] → va_S A s.heap H locs → lv_has ls 9 [(0, .ref a_o), (1, .ref a_p1), (3, .int w3), (4, .int x5)] → W p l e (cz_rm 2 44) s m ag below meth c H locs 0 0 Q (F0 m 15 ls []) := by
    intro k
    induction k with
    | zero =>
      intro x5 x6 g7 g8 H locs ls h
      rw [f_X1_followPart_L15] at h
      cases h
    | succ k ih19 =>
      intro x5 x6 g7 g8 H locs ls h hP hD hS hl
      rw [f_X1_followPart_L15] at h
      refine lv_iload hx hb dX1_followPart_15 (lv_at hl 3 rfl) ?_
      refine lv_aload_n hx hb dX1_followPart_17 rfl (lv_at hl 0 rfl) ?_
      refine va_get (D := D) (ci := 1) (v := .int x6) (C := RX1) (T := TX1) (N := 3) hx hb hts in_X1 hown hK hP 0 rfl rfl 2 (by decide) (hts _ mw_1_143) (fun _ h9 => h9) rfl dX1_followPart_18 ?_
      refine lv_icmp_ge (tgt := 110) hx hb dX1_followPart_21 (by decide) (fun c20 => ?_) (fun c20 => ?_)
      · replace h := cz_t c20 h
        exact hX12 _ _ _ _ _ _ _ (cz_i h).symm hP hD hS (lv_sub hl [] rfl)
      · replace h := cz_f c20 h
        refine lv_iload hx hb dX1_followPart_24 (lv_at hl 3 rfl) ?_
        refine lv_bipush (v := (120 : Int32)) hx hb dX1_followPart_26 (by decide) ?_
        refine lv_icmp_ge (tgt := 110) hx hb dX1_followPart_28 (by decide) (fun c21 => ?_) (fun c21 => ?_)
        · replace h := cz_t c21 h
          exact hX12 _ _ _ _ _ _ _ (cz_i h).symm hP hD hS (lv_sub hl [] rfl)
        · replace h := cz_f c21 h
          refine lv_aload_n hx hb dX1_followPart_31 rfl (lv_at hl 0 rfl) ?_
          refine va_get (D := D) (ci := 1) (v := .ref a_o_queue) (C := RX1) (T := TX1) (N := 3) hx hb hts in_X1 hown hK hP 0 rfl rfl 1 (by decide) (hts _ mw_1_142) (fun _ h9 => h9) rfl dX1_followPart_32 ?_
          refine lv_iload hx hb dX1_followPart_35 (lv_at hl 3 rfl) ?_
          refine cz_iald hx hb hK hP 2 0 rfl rfl (cz_rdE h).1 dX1_followPart_37 (fun x22 ex22 => ?_)
          replace h := cz_rdK ex22 h
          refine lv_bipush (v := (12 : Int32)) hx hb dX1_followPart_38 (by decide) ?_
          refine lv_irem hx hb dX1_followPart_40 (by decide) ?_
          refine lv_topi (fun x23 ex23 => ?_)
          replace h := cz_ltE ex23 h
          refine lv_istore (lv' := [(5, .int x23), (0, .ref a_o), (1, .ref a_p1), (3, .int w3), (4, .int x5)]) hx hb dX1_followPart_41 hl (by decide) rfl (fun ls hl => ?_)
          refine lv_aload_n hx hb dX1_followPart_43 rfl (lv_at hl 1 rfl) ?_
          refine va_get (D := D) (ci := 1) (v := .ref a_o_queue) (C := RX1) (T := TX1) (N := 3) hx hb hts in_X1 hown hK hP 0 rfl rfl 1 (by decide) (hts _ mw_1_142) (fun _ h9 => h9) rfl dX1_followPart_44 ?_
          refine lv_iload hx hb dX1_followPart_47 (lv_at hl 4 rfl) ?_
          refine cz_iald hx hb hK hP 2 0 rfl rfl (cz_rdE h).1 dX1_followPart_49 (fun x24 ex24 => ?_)
          replace h := cz_rdK ex24 h
          refine lv_bipush (v := (12 : Int32)) hx hb dX1_followPart_50 (by decide) ?_
          refine lv_idiv hx hb dX1_followPart_52 (by decide) ?_
          refine lv_topi (fun x25 ex25 => ?_)
          replace h := cz_ltE ex25 h
          refine lv_istore (lv' := [(6, .int x25), (5, .int x23), (0, .ref a_o), (1, .ref a_p1), (3, .int w3), (4, .int x5)]) hx hb dX1_followPart_53 hl (by decide) rfl (fun ls hl => ?_)
          refine lv_iconst (v := (-1 : Int32)) hx hb dX1_followPart_55 (by decide) ?_
          refine lv_istore (lv' := [(7, .int (-1 : Int32)), (6, .int x25), (5, .int x23), (0, .ref a_o), (1, .ref a_p1), (3, .int w3), (4, .int x5)]) hx hb dX1_followPart_56 hl (by decide) rfl (fun ls hl => ?_)
          obtain ⟨z30, hE31, hz32⟩ := cz_x4 h
          have hX33 : ∀ (y36 : Int32) (y37 : Int32) (q38 : (Nat → Int32)) (q39 : (Nat → Int32)) (H : Heap) (locs : List Loc) (ls : Array Slot), z30 = (y36, y37, q38, q39) → va_P D vwCl [oX1 a_o a_o_partOf a_o_queue y37, aI cI a_o_partOf 120 q38, aI cI a_o_queue 120 q39, oX0 a_p1 a_p1_inner a_p1_owners a_p1_nears a_p1_basePlaces a_p1_baseFactors a_p1_baseStarts v_p1_bases v_p1_thirds, aI cI a_p1_owners 120 f_p1_owners] H → va_D A [oX1 a_o a_o_partOf a_o_queue y37, aI cI a_o_partOf 120 q38, aI cI a_o_queue 120 q39, oX0 a_p1 a_p1_inner a_p1_owners a_p1_nears a_p1_basePlaces a_p1_baseFactors a_p1_baseStarts v_p1_bases v_p1_thirds, aI cI a_p1_owners 120 f_p1_owners] → va_S A s.heap H locs → lv_has ls 9 [(0, .ref a_o), (1, .ref a_p1), (3, .int w3), (4, .int x5)] → W p l e (cz_rm 2 44) s m ag below meth c H locs 0 0 Q (F0 m 104 ls []) := by
            intro y36 y37 q38 q39 H locs ls h hP hD hS hl
            replace h := hz32 _ _ _ _ h
            obtain ⟨x40, ex40⟩ : ∃ z : Int32, z = x5 + (1 : Int32) := ⟨_, rfl⟩
            replace h := cz_ltE ex40 h
            refine lv_iinc (v := x40) (lv' := [(4, .int x40), (0, .ref a_o), (1, .ref a_p1), (3, .int w3)]) hx hb dX1_followPart_104 hl (k := 3) rfl (by rw [ex40]; rfl) (by decide) rfl (fun ls hl => ?_)
            refine lv_goto (tgt := 15) hx hb dX1_followPart_107 (by decide) ?_
            exact ih19 _ _ _ _ _ _ _ h hP hD hS (lv_sub hl [1, 2, 3, 0] rfl)
          clear h
          have hL34 : ∀ (k : Nat) (x26 : Int32) (x27 : Int32) (g28 : (Nat → Int32)) (g29 : (Nat → Int32)) (H : Heap) (locs : List Loc) (ls : Array Slot), f_X1_followPart_L58 n f_p1_owners w3 x23 x25 k x26 x27 g28 g29 = some z30 → va_P D vwCl [oX1 a_o a_o_partOf a_o_queue x27, aI cI a_o_partOf 120 g28, aI cI a_o_queue 120 g29, oX0 a_p1 a_p1_inner a_p1_owners a_p1_nears a_p1_basePlaces a_p1_baseFactors a_p1_baseStarts v_p1_bases v_p1_thirds, aI cI a_p1_owners 120 f_p1_owners] H → va_D A [oX1 a_o a_o_partOf a_o_queue x27, aI cI a_o_partOf 120 g28, aI cI a_o_queue 120 g29, oX0 a_p1 a_p1_inner a_p1_owners a_p1_nears a_p1_basePlaces a_p1_baseFactors a_p1_baseStarts v_p1_bases v_p1_thirds, aI cI a_p1_owners 120 f_p1_owners] → va_S A s.heap H locs → lv_has ls 9 [(0, .ref a_o), (1, .ref a_p1), (3, .int w3), (4, .int x5), (5, .int x23), (6, .int x25), (7, .int x26)] → W p l e (cz_rm 2 44) s m ag below meth c H locs 0 0 Q (F0 m 58 ls []) := by
            intro k
            induction k with
            | zero =>
              intro x26 x27 g28 g29 H locs ls h
              rw [f_X1_followPart_L58] at h
              cases h
            | succ k ih41 =>
              intro x26 x27 g28 g29 H locs ls h hP hD hS hl
              rw [f_X1_followPart_L58] at h
              refine lv_iload hx hb dX1_followPart_58 (lv_at hl 6 rfl) ?_
              refine lv_iconst (v := (1 : Int32)) hx hb dX1_followPart_60 (by decide) ?_
              refine lv_icmp_gt (tgt := 104) hx hb dX1_followPart_61 (by decide) (fun c42 => ?_) (fun c42 => ?_)
              · replace h := cz_t c42 h
                exact hX33 _ _ _ _ _ _ _ (cz_i h).symm hP hD hS (lv_sub hl [0, 1, 2, 3] rfl)
              · replace h := cz_f c42 h
                refine lv_iconst (v := (-1 : Int32)) hx hb dX1_followPart_64 (by decide) ?_
                refine lv_istore (lv' := [(8, .int (-1 : Int32)), (0, .ref a_o), (1, .ref a_p1), (3, .int w3), (4, .int x5), (5, .int x23), (6, .int x25), (7, .int x26)]) hx hb dX1_followPart_65 hl (by decide) rfl (fun ls hl => ?_)
                obtain ⟨z47, hE48, hz49⟩ := cz_x4 h
                have hX50 : ∀ (y53 : Int32) (y54 : Int32) (q55 : (Nat → Int32)) (q56 : (Nat → Int32)) (H : Heap) (locs : List Loc) (ls : Array Slot), z47 = (y53, y54, q55, q56) → va_P D vwCl [oX1 a_o a_o_partOf a_o_queue y54, aI cI a_o_partOf 120 q55, aI cI a_o_queue 120 q56, oX0 a_p1 a_p1_inner a_p1_owners a_p1_nears a_p1_basePlaces a_p1_baseFactors a_p1_baseStarts v_p1_bases v_p1_thirds, aI cI a_p1_owners 120 f_p1_owners] H → va_D A [oX1 a_o a_o_partOf a_o_queue y54, aI cI a_o_partOf 120 q55, aI cI a_o_queue 120 q56, oX0 a_p1 a_p1_inner a_p1_owners a_p1_nears a_p1_basePlaces a_p1_baseFactors a_p1_baseStarts v_p1_bases v_p1_thirds, aI cI a_p1_owners 120 f_p1_owners] → va_S A s.heap H locs → lv_has ls 9 [(0, .ref a_o), (1, .ref a_p1), (3, .int w3), (4, .int x5), (5, .int x23), (6, .int x25), (7, .int x26)] → W p l e (cz_rm 2 44) s m ag below meth c H locs 0 0 Q (F0 m 98 ls []) := by
                  intro y53 y54 q55 q56 H locs ls h hP hD hS hl
                  replace h := hz49 _ _ _ _ h
                  obtain ⟨x57, ex57⟩ : ∃ z : Int32, z = x26 + (1 : Int32) := ⟨_, rfl⟩
                  replace h := cz_ltE ex57 h
                  refine lv_iinc (v := x57) (lv' := [(7, .int x57), (0, .ref a_o), (1, .ref a_p1), (3, .int w3), (4, .int x5), (5, .int x23), (6, .int x25)]) hx hb dX1_followPart_98 hl (k := 6) rfl (by rw [ex57]; rfl) (by decide) rfl (fun ls hl => ?_)
                  refine lv_goto (tgt := 58) hx hb dX1_followPart_101 (by decide) ?_
                  exact ih41 _ _ _ _ _ _ _ h hP hD hS (lv_sub hl [1, 2, 3, 4, 5, 6, 0] rfl)
                clear h
                have hL51 : ∀ (k : Nat) (x43 : Int32) (x44 : Int32) (g45 : (Nat → Int32)) (g46 : (Nat → Int32)) (H : Heap) (locs : List Loc) (ls : Array Slot), f_X1_followPart_L67 n f_p1_owners w3 x23 x25 x26 k x43 x44 g45 g46 = some z47 → va_P D vwCl [oX1 a_o a_o_partOf a_o_queue x44, aI cI a_o_partOf 120 g45, aI cI a_o_queue 120 g46, oX0 a_p1 a_p1_inner a_p1_owners a_p1_nears a_p1_basePlaces a_p1_baseFactors a_p1_baseStarts v_p1_bases v_p1_thirds, aI cI a_p1_owners 120 f_p1_owners] H → va_D A [oX1 a_o a_o_partOf a_o_queue x44, aI cI a_o_partOf 120 g45, aI cI a_o_queue 120 g46, oX0 a_p1 a_p1_inner a_p1_owners a_p1_nears a_p1_basePlaces a_p1_baseFactors a_p1_baseStarts v_p1_bases v_p1_thirds, aI cI a_p1_owners 120 f_p1_owners] → va_S A s.heap H locs → lv_has ls 9 [(0, .ref a_o), (1, .ref a_p1), (3, .int w3), (4, .int x5), (5, .int x23), (6, .int x25), (7, .int x26), (8, .int x43)] → W p l e (cz_rm 2 44) s m ag below meth c H locs 0 0 Q (F0 m 67 ls []) := by
                  intro k
                  induction k with
                  | zero =>
                    intro x43 x44 g45 g46 H locs ls h
                    rw [f_X1_followPart_L67] at h
                    cases h
                  | succ k ih58 =>
                    intro x43 x44 g45 g46 H locs ls h hP hD hS hl
                    rw [f_X1_followPart_L67] at h
                    refine lv_iload hx hb dX1_followPart_67 (lv_at hl 7 rfl) ?_
                    refine lv_iconst (v := (1 : Int32)) hx hb dX1_followPart_69 (by decide) ?_
                    refine lv_icmp_gt (tgt := 98) hx hb dX1_followPart_70 (by decide) (fun c59 => ?_) (fun c59 => ?_)
                    · replace h := cz_t c59 h
                      exact hX50 _ _ _ _ _ _ _ (cz_i h).symm hP hD hS (lv_sub hl [0, 1, 2, 3, 4, 5, 6] rfl)
                    · replace h := cz_f c59 h
                      refine lv_aload_n hx hb dX1_followPart_73 rfl (lv_at hl 0 rfl) ?_
                      refine lv_aload_n hx hb dX1_followPart_74 rfl (lv_at hl 1 rfl) ?_
                      refine lv_iload hx hb dX1_followPart_75 (lv_at hl 4 rfl) ?_
                      refine lv_iload hx hb dX1_followPart_77 (lv_at hl 7 rfl) ?_
                      refine lv_iadd hx hb dX1_followPart_79 ?_
                      refine lv_iload hx hb dX1_followPart_80 (lv_at hl 5 rfl) ?_
                      refine lv_iload hx hb dX1_followPart_82 (lv_at hl 6 rfl) ?_
                      refine lv_iadd hx hb dX1_followPart_84 ?_
                      obtain ⟨x60, hc61, h⟩ := cz_e1 h
                      refine cz_callS (As := [.int (x23 + x43), .int (x25 + x26)]) (rest := [.ref a_p1, .ref a_o]) (is := []) (isR := [0, 1, 2, 3, 4]) (rs := [oX1 a_o a_o_partOf a_o_queue x44, aI cI a_o_partOf 120 g45, aI cI a_o_queue 120 g46, oX0 a_p1 a_p1_inner a_p1_owners a_p1_nears a_p1_basePlaces a_p1_baseFactors a_p1_baseStarts v_p1_bases v_p1_thirds, aI cI a_p1_owners 120 f_p1_owners]) (as := [a_o, a_o_partOf, a_o_queue, a_p1, a_p1_owners]) (ws1 := [oX1 a_o a_o_partOf a_o_queue x44, aI cI a_o_partOf 120 g45, aI cI a_o_queue 120 g46, oX0 a_p1 a_p1_inner a_p1_owners a_p1_nears a_p1_basePlaces a_p1_baseFactors a_p1_baseStarts v_p1_bases v_p1_thirds, aI cI a_p1_owners 120 f_p1_owners]) ⟨hx, hb, hml, hown, hts⟩ (c_X4_placeAt l D cI   (x23 + x43) (x25 + x26) n x60 hc61) mw_3_46 mw_2_90 mw_1_3 mw_2_91 hd_X4_placeAt ⟨Nat.le_of_ble_eq_true rfl, Nat.le_of_ble_eq_true rfl⟩ hK hN hP hD hS rfl rfl rfl rfl rfl rfl rfl rfl rfl hl.1 rfl (Nat.le_of_ble_eq_true rfl) dX1_followPart_85 ⟨Nat.le_of_ble_eq_true rfl, Nat.le_of_ble_eq_true rfl⟩ (fun H locs hP hD hS => ?_)
                      refine W.eq (g2 := F0 m 88 ls [.int x60, .ref a_p1, .ref a_o]) rfl ?_
                      refine lv_iload_n hx hb dX1_followPart_88 rfl (lv_at hl 2 rfl) ?_
                      obtain ⟨x62, g63, g64, hc65, h⟩ := cz_e3 h
                      refine cz_callV (As := [.ref a_p1, .int x60, .int w3]) (rest := []) (is := [0, 1, 2, 3, 4]) (isR := []) (rs := []) (as := [a_o, a_o_partOf, a_o_queue, a_p1, a_p1_owners]) (ws1 := [oX1 a_o a_o_partOf a_o_queue x62, aI cI a_o_partOf 120 g63, aI cI a_o_queue 120 g64, oX0 a_p1 a_p1_inner a_p1_owners a_p1_nears a_p1_basePlaces a_p1_baseFactors a_p1_baseStarts v_p1_bases v_p1_thirds, aI cI a_p1_owners 120 f_p1_owners]) (q0 := 0) (ci := 1) ⟨hx, hb, hml, hown, hts⟩ (c_X1_enqueue l D cI a_o a_o_partOf a_o_queue a_p1 a_p1_owners a_p1_inner a_p1_nears a_p1_basePlaces a_p1_baseFactors a_p1_baseStarts x44 g45 g46 v_p1_bases v_p1_thirds f_p1_owners x60 w3 n x62 g63 g64 hc65) mw_3_42 mw_3_43 mw_3_44 mw_1_7 mw_3_45 hd_X1_enqueue ⟨Nat.le_of_ble_eq_true rfl, Nat.le_of_ble_eq_true rfl⟩ hK hN hP hD hS rfl rfl rfl rfl rfl rfl rfl rfl rfl rfl rfl rfl hl.1 rfl (Nat.le_of_ble_eq_true rfl) dX1_followPart_89 ⟨Nat.le_of_ble_eq_true rfl, Nat.le_of_ble_eq_true rfl⟩ (fun H locs hP hD hS => ?_)
                      refine W.eq (g2 := F0 m 92 ls []) rfl ?_
                      obtain ⟨x66, ex66⟩ : ∃ z : Int32, z = x43 + (1 : Int32) := ⟨_, rfl⟩
                      replace h := cz_ltE ex66 h
                      refine lv_iinc (v := x66) (lv' := [(8, .int x66), (0, .ref a_o), (1, .ref a_p1), (3, .int w3), (4, .int x5), (5, .int x23), (6, .int x25), (7, .int x26)]) hx hb dX1_followPart_92 hl (k := 7) rfl (by rw [ex66]; rfl) (by decide) rfl (fun ls hl => ?_)
                      refine lv_goto (tgt := 67) hx hb dX1_followPart_95 (by decide) ?_
                      exact ih58 _ _ _ _ _ _ _ h hP hD hS (lv_sub hl [1, 2, 3, 4, 5, 6, 7, 0] rfl)
                exact hL51 n _ _ _ _ _ _ _ hE48 hP hD hS (lv_sub hl [1, 2, 3, 4, 5, 6, 7, 0] rfl)
          exact hL34 n _ _ _ _ _ _ _ hE31 hP hD hS (lv_sub hl [3, 4, 5, 6, 2, 1, 0] rfl)
  exact hL13 n _ _ _ _ _ _ _ hE10 hP hD hS (lv_sub hl [1, 2, 4, 0] rfl)
set_option maxHeartbeats 4000000 in
set_option maxRecDepth 100000 in
theorem c_X1_countParts (l : Launch) (D : va_G) (cI : ClassId) (a_o a_o_partOf a_o_queue a_p1 a_p1_owners a_p1_inner a_p1_nears a_p1_basePlaces a_p1_baseFactors a_p1_baseStarts : Nat) (v_o_queued : Int32) (f_o_partOf : (Nat → Int32)) (f_o_queue : (Nat → Int32)) (v_p1_bases : Int32) (v_p1_thirds : Int32) (f_p1_owners : (Nat → Int32)) (n : Nat) (r : Int32) (r_v_o_queued : Int32) (r_f_o_partOf : (Nat → Int32)) (r_f_o_queue : (Nat → Int32)) (h : f_X1_countParts n v_o_queued f_o_partOf f_o_queue f_p1_owners = some (r, r_v_o_queued, r_f_o_partOf, r_f_o_queue)) : cz_M l yX1_countParts cX1_countParts 4 (some .int) 3 72 D cI [.ref a_o, .ref a_p1] [oX1 a_o a_o_partOf a_o_queue v_o_queued, aI cI a_o_partOf 120 f_o_partOf, aI cI a_o_queue 120 f_o_queue, oX0 a_p1 a_p1_inner a_p1_owners a_p1_nears a_p1_basePlaces a_p1_baseFactors a_p1_baseStarts v_p1_bases v_p1_thirds, aI cI a_p1_owners 120 f_p1_owners] (some (.int r)) [oX1 a_o a_o_partOf a_o_queue r_v_o_queued, aI cI a_o_partOf 120 r_f_o_partOf, aI cI a_o_queue 120 r_f_o_queue, oX0 a_p1 a_p1_inner a_p1_owners a_p1_nears a_p1_basePlaces a_p1_baseFactors a_p1_baseStarts v_p1_bases v_p1_thirds, aI cI a_p1_owners 120 f_p1_owners] := by
  refine cz_startI (by decide) (Nat.le_of_ble_eq_true rfl) ?_
  intro p e s m ag below meth c A Q hx hb hml hown hts hK hN hQ H locs hP hD hS ls hl
  replace hown : s.vm.findClass RX1 = some m.cls := hown
  replace hl : lv_has ls 4 [(0, .ref a_o), (1, .ref a_p1)] := hl
  unfold f_X1_countParts at h
  refine lv_aload_n hx hb dX1_countParts_0 rfl (lv_at hl 0 rfl) ?_
  refine va_get (D := D) (ci := 1) (v := .ref a_o_partOf) (C := RX1) (T := TX1) (N := 3) hx hb hts in_X1 hown hK hP 0 rfl rfl 0 (by decide) (hts _ mw_1_141) (fun _ h9 => h9) rfl dX1_countParts_1 ?_
  refine lv_iconst (v := (0 : Int32)) hx hb dX1_countParts_4 (by decide) ?_
  obtain ⟨g1, hc2, h⟩ := cz_e1 h
  refine cz_callS (As := [.ref a_o_partOf, .int (0 : Int32)]) (rest := []) (is := [1]) (isR := [0, 2, 3, 4]) (rs := [oX1 a_o a_o_partOf a_o_queue v_o_queued, aI cI a_o_queue 120 f_o_queue, oX0 a_p1 a_p1_inner a_p1_owners a_p1_nears a_p1_basePlaces a_p1_baseFactors a_p1_baseStarts v_p1_bases v_p1_thirds, aI cI a_p1_owners 120 f_p1_owners]) (as := [a_o, a_o_partOf, a_o_queue, a_p1, a_p1_owners]) (ws1 := [oX1 a_o a_o_partOf a_o_queue v_o_queued, aI cI a_o_partOf 120 g1, aI cI a_o_queue 120 f_o_queue, oX0 a_p1 a_p1_inner a_p1_owners a_p1_nears a_p1_basePlaces a_p1_baseFactors a_p1_baseStarts v_p1_bases v_p1_thirds, aI cI a_p1_owners 120 f_p1_owners]) ⟨hx, hb, hml, hown, hts⟩ (c_J7_fill_53178 l D cI a_o_partOf f_o_partOf (0 : Int32) n g1 hc2) mw_3_36 mw_1_71 mw_1_5 mw_1_72 hd_J7_fill_53178 ⟨Nat.le_of_ble_eq_true rfl, Nat.le_of_ble_eq_true rfl⟩ hK hN hP hD hS rfl rfl rfl rfl rfl rfl rfl rfl rfl hl.1 rfl (Nat.le_of_ble_eq_true rfl) dX1_countParts_5 ⟨Nat.le_of_ble_eq_true rfl, Nat.le_of_ble_eq_true rfl⟩ (fun H locs hP hD hS => ?_)
  refine W.eq (g2 := F0 m 8 ls []) rfl ?_
  refine lv_iconst (v := (0 : Int32)) hx hb dX1_countParts_8 (by decide) ?_
  refine lv_istore_n (lv' := [(2, .int (0 : Int32)), (0, .ref a_o), (1, .ref a_p1)]) hx hb dX1_countParts_9 rfl hl (by decide) rfl (fun ls hl => ?_)
  refine lv_iconst (v := (0 : Int32)) hx hb dX1_countParts_10 (by decide) ?_
  refine lv_istore_n (lv' := [(3, .int (0 : Int32)), (2, .int (0 : Int32)), (0, .ref a_o), (1, .ref a_p1)]) hx hb dX1_countParts_11 rfl hl (by decide) rfl (fun ls hl => ?_)
  obtain ⟨z8, hE9, hz10⟩ := cz_x5 h
  have hX11 : ∀ (y14 : Int32) (y15 : Int32) (y16 : Int32) (q17 : (Nat → Int32)) (q18 : (Nat → Int32)) (H : Heap) (locs : List Loc) (ls : Array Slot), z8 = (y14, y15, y16, q17, q18) → va_P D vwCl [oX1 a_o a_o_partOf a_o_queue y16, aI cI a_o_partOf 120 q17, aI cI a_o_queue 120 q18, oX0 a_p1 a_p1_inner a_p1_owners a_p1_nears a_p1_basePlaces a_p1_baseFactors a_p1_baseStarts v_p1_bases v_p1_thirds, aI cI a_p1_owners 120 f_p1_owners] H → va_D A [oX1 a_o a_o_partOf a_o_queue y16, aI cI a_o_partOf 120 q17, aI cI a_o_queue 120 q18, oX0 a_p1 a_p1_inner a_p1_owners a_p1_nears a_p1_basePlaces a_p1_baseFactors a_p1_baseStarts v_p1_bases v_p1_thirds, aI cI a_p1_owners 120 f_p1_owners] → va_S A s.heap H locs → lv_has ls 4 [(2, .int y14)] → W p l e (cz_rm 3 72) s m ag below meth c H locs 0 0 Q (F0 m 53 ls []) := by
    intro y14 y15 y16 q17 q18 H locs ls h hP hD hS hl
    replace h := hz10 _ _ _ _ _ h
    refine lv_iload_n hx hb dX1_countParts_53 rfl (lv_at hl 0 rfl) ?_
    obtain ⟨rfl, rfl, rfl, rfl⟩ := cz_j4 (cz_i h)
    exact hQ _ _ _ _ hP hS dX1_countParts_54
  clear h
  have hL12 : ∀ (k : Nat) (x3 : Int32) (x4 : Int32) (x5 : Int32) (g6 : (Nat → Int32)) (g7 : (Nat → Int32)) (H : Heap) (locs : List Loc) (ls : Array Slot), f_X1_countParts_L12 n f_p1_owners k x3 x4 x5 g6 g7 = some z8 → va_P D vwCl [oX1 a_o a_o_partOf a_o_queue x5, aI cI a_o_partOf 120 g6, aI cI a_o_queue 120 g7, oX0 a_p1 a_p1_inner a_p1_owners a_p1_nears a_p1_basePlaces a_p1_baseFactors a_p1_baseStarts v_p1_bases v_p1_thirds, aI cI a_p1_owners 120 f_p1_owners] H → va_D A [oX1 a_o a_o_partOf a_o_queue x5, aI cI a_o_partOf 120 g6, aI cI a_o_queue 120 g7, oX0 a_p1 a_p1_inner a_p1_owners a_p1_nears a_p1_basePlaces a_p1_baseFactors a_p1_baseStarts v_p1_bases v_p1_thirds, aI cI a_p1_owners 120 f_p1_owners] → va_S A s.heap H locs → lv_has ls 4 [(0, .ref a_o), (1, .ref a_p1), (2, .int x3), (3, .int x4)] → W p l e (cz_rm 3 72) s m ag below meth c H locs 0 0 Q (F0 m 12 ls []) := by
    intro k
    induction k with
    | zero =>
      intro x3 x4 x5 g6 g7 H locs ls h
      rw [f_X1_countParts_L12] at h
      cases h
    | succ k ih19 =>
      intro x3 x4 x5 g6 g7 H locs ls h hP hD hS hl
      rw [f_X1_countParts_L12] at h
      refine lv_iload_n hx hb dX1_countParts_12 rfl (lv_at hl 3 rfl) ?_
      refine lv_bipush (v := (120 : Int32)) hx hb dX1_countParts_13 (by decide) ?_
      refine lv_icmp_ge (tgt := 53) hx hb dX1_countParts_15 (by decide) (fun c20 => ?_) (fun c20 => ?_)
      · replace h := cz_t c20 h
        exact hX11 _ _ _ _ _ _ _ _ (cz_i h).symm hP hD hS (lv_sub hl [2] rfl)
      · replace h := cz_f c20 h
        refine lv_aload_n hx hb dX1_countParts_18 rfl (lv_at hl 1 rfl) ?_
        refine lv_iload_n hx hb dX1_countParts_19 rfl (lv_at hl 3 rfl) ?_
        obtain ⟨x21, hc22, h⟩ := cz_e1 h
        refine cz_callV (As := [.int x4]) (rest := []) (is := [3, 4]) (isR := [0, 1, 2]) (rs := [oX1 a_o a_o_partOf a_o_queue x5, aI cI a_o_partOf 120 g6, aI cI a_o_queue 120 g7]) (as := [a_o, a_o_partOf, a_o_queue, a_p1, a_p1_owners]) (ws1 := [oX1 a_o a_o_partOf a_o_queue x5, aI cI a_o_partOf 120 g6, aI cI a_o_queue 120 g7, oX0 a_p1 a_p1_inner a_p1_owners a_p1_nears a_p1_basePlaces a_p1_baseFactors a_p1_baseStarts v_p1_bases v_p1_thirds, aI cI a_p1_owners 120 f_p1_owners]) (q0 := 0) (ci := 0) ⟨hx, hb, hml, hown, hts⟩ (c_X0_ownerOf l D cI a_p1 a_p1_owners a_p1_inner a_p1_nears a_p1_basePlaces a_p1_baseFactors a_p1_baseStarts v_p1_bases v_p1_thirds f_p1_owners x4 n x21 hc22) mw_3_37 mw_2_218 mw_2_219 mw_1_6 mw_2_220 hd_X0_ownerOf ⟨Nat.le_of_ble_eq_true rfl, Nat.le_of_ble_eq_true rfl⟩ hK hN hP hD hS rfl rfl rfl rfl rfl rfl rfl rfl rfl rfl rfl rfl hl.1 rfl (Nat.le_of_ble_eq_true rfl) dX1_countParts_20 ⟨Nat.le_of_ble_eq_true rfl, Nat.le_of_ble_eq_true rfl⟩ (fun H locs hP hD hS => ?_)
        refine W.eq (g2 := F0 m 23 ls [.int x21]) rfl ?_
        refine lv_bipush (v := (-2 : Int32)) hx hb dX1_countParts_23 (by decide) ?_
        obtain ⟨z30, hE28, hz27⟩ := cz_x4 h
        have hJ29 : ∀ (x23 : Int32) (x24 : Int32) (g25 : (Nat → Int32)) (g26 : (Nat → Int32)) (H : Heap) (locs : List Loc) (ls : Array Slot), z30 = (x23, x24, g25, g26) → va_P D vwCl [oX1 a_o a_o_partOf a_o_queue x24, aI cI a_o_partOf 120 g25, aI cI a_o_queue 120 g26, oX0 a_p1 a_p1_inner a_p1_owners a_p1_nears a_p1_basePlaces a_p1_baseFactors a_p1_baseStarts v_p1_bases v_p1_thirds, aI cI a_p1_owners 120 f_p1_owners] H → va_D A [oX1 a_o a_o_partOf a_o_queue x24, aI cI a_o_partOf 120 g25, aI cI a_o_queue 120 g26, oX0 a_p1 a_p1_inner a_p1_owners a_p1_nears a_p1_basePlaces a_p1_baseFactors a_p1_baseStarts v_p1_bases v_p1_thirds, aI cI a_p1_owners 120 f_p1_owners] → va_S A s.heap H locs → lv_has ls 4 [(0, .ref a_o), (1, .ref a_p1), (2, .int x23), (3, .int x4)] → W p l e (cz_rm 3 72) s m ag below meth c H locs 0 0 Q (F0 m 47 ls []) := by
          intro x23 x24 g25 g26 H locs ls h hP hD hS hl
          replace h := hz27 _ _ _ _ h
          obtain ⟨x31, ex31⟩ : ∃ z : Int32, z = x4 + (1 : Int32) := ⟨_, rfl⟩
          replace h := cz_ltE ex31 h
          refine lv_iinc (v := x31) (lv' := [(3, .int x31), (0, .ref a_o), (1, .ref a_p1), (2, .int x23)]) hx hb dX1_countParts_47 hl (k := 3) rfl (by rw [ex31]; rfl) (by decide) rfl (fun ls hl => ?_)
          refine lv_goto (tgt := 12) hx hb dX1_countParts_50 (by decide) ?_
          exact ih19 _ _ _ _ _ _ _ _ h hP hD hS (lv_sub hl [1, 2, 3, 0] rfl)
        clear h
        have h := hE28
        refine lv_icmp_ne (tgt := 47) hx hb dX1_countParts_25 (by decide) (fun c32 => ?_) (fun c32 => ?_)
        · replace h := cz_f c32 h
          exact hJ29 _ _ _ _ _ _ _ (cz_i h).symm hP hD hS (lv_sub hl [0, 1, 2, 3] rfl)
        · replace h := cz_t c32 h
          refine lv_aload_n hx hb dX1_countParts_28 rfl (lv_at hl 0 rfl) ?_
          refine va_get (D := D) (ci := 1) (v := .ref a_o_partOf) (C := RX1) (T := TX1) (N := 3) hx hb hts in_X1 hown hK hP 0 rfl rfl 0 (by decide) (hts _ mw_1_141) (fun _ h9 => h9) rfl dX1_countParts_29 ?_
          refine lv_iload_n hx hb dX1_countParts_32 rfl (lv_at hl 3 rfl) ?_
          refine cz_iald hx hb hK hP 1 0 rfl rfl (cz_rdE h).1 dX1_countParts_33 (fun x33 ex33 => ?_)
          replace h := cz_rdK ex33 h
          refine lv_if_ne (tgt := 47) hx hb dX1_countParts_34 (by decide) (fun c34 => ?_) (fun c34 => ?_)
          · replace h := cz_f c34 h
            exact hJ29 _ _ _ _ _ _ _ (cz_i h).symm hP hD hS (lv_sub hl [0, 1, 2, 3] rfl)
          · replace h := cz_t c34 h
            obtain ⟨x35, ex35⟩ : ∃ z : Int32, z = x3 + (1 : Int32) := ⟨_, rfl⟩
            replace h := cz_ltE ex35 h
            refine lv_iinc (v := x35) (lv' := [(2, .int x35), (0, .ref a_o), (1, .ref a_p1), (3, .int x4)]) hx hb dX1_countParts_37 hl (k := 2) rfl (by rw [ex35]; rfl) (by decide) rfl (fun ls hl => ?_)
            refine lv_aload_n hx hb dX1_countParts_40 rfl (lv_at hl 1 rfl) ?_
            refine lv_aload_n hx hb dX1_countParts_41 rfl (lv_at hl 2 rfl) ?_
            refine lv_iload_n hx hb dX1_countParts_42 rfl (lv_at hl 3 rfl) ?_
            refine lv_iload_n hx hb dX1_countParts_43 rfl (lv_at hl 0 rfl) ?_
            obtain ⟨x36, g37, g38, hc39, h⟩ := cz_e3 h
            refine cz_callV (As := [.ref a_p1, .int x4, .int x35]) (rest := []) (is := [0, 1, 2, 3, 4]) (isR := []) (rs := []) (as := [a_o, a_o_partOf, a_o_queue, a_p1, a_p1_owners]) (ws1 := [oX1 a_o a_o_partOf a_o_queue x36, aI cI a_o_partOf 120 g37, aI cI a_o_queue 120 g38, oX0 a_p1 a_p1_inner a_p1_owners a_p1_nears a_p1_basePlaces a_p1_baseFactors a_p1_baseStarts v_p1_bases v_p1_thirds, aI cI a_p1_owners 120 f_p1_owners]) (q0 := 0) (ci := 1) ⟨hx, hb, hml, hown, hts⟩ (c_X1_followPart l D cI a_o a_o_partOf a_o_queue a_p1 a_p1_owners a_p1_inner a_p1_nears a_p1_basePlaces a_p1_baseFactors a_p1_baseStarts x5 g6 g7 v_p1_bases v_p1_thirds f_p1_owners x4 x35 n x36 g37 g38 hc39) mw_3_38 mw_3_39 mw_3_40 mw_1_7 mw_3_41 hd_X1_followPart ⟨Nat.le_of_ble_eq_true rfl, Nat.le_of_ble_eq_true rfl⟩ hK hN hP hD hS rfl rfl rfl rfl rfl rfl rfl rfl rfl rfl rfl rfl hl.1 rfl (Nat.le_of_ble_eq_true rfl) dX1_countParts_44 ⟨Nat.le_of_ble_eq_true rfl, Nat.le_of_ble_eq_true rfl⟩ (fun H locs hP hD hS => ?_)
            refine W.eq (g2 := F0 m 47 ls []) rfl ?_
            exact hJ29 _ _ _ _ _ _ _ (cz_i h).symm hP hD hS (lv_sub hl [1, 2, 0, 3] rfl)
  exact hL12 n _ _ _ _ _ _ _ _ hE9 hP hD hS (lv_sub hl [2, 3, 1, 0] rfl)
set_option maxHeartbeats 4000000 in
set_option maxRecDepth 100000 in
theorem c_X1_countTurns (l : Launch) (D : va_G) (cI : ClassId) (a_o a_p1 a_p1_owners a_o_partOf a_o_queue a_p1_inner a_p1_nears a_p1_basePlaces a_p1_baseFactors a_p1_baseStarts : Nat) (v_o_queued : Int32) (v_p1_bases : Int32) (v_p1_thirds : Int32) (f_p1_owners : (Nat → Int32)) (n : Nat) (r : Int32) (h : f_X1_countTurns n f_p1_owners = some r) : cz_M l yX1_countTurns cX1_countTurns 6 (some .int) 2 43 D cI [.ref a_o, .ref a_p1] [oX1 a_o a_o_partOf a_o_queue v_o_queued, oX0 a_p1 a_p1_inner a_p1_owners a_p1_nears a_p1_basePlaces a_p1_baseFactors a_p1_baseStarts v_p1_bases v_p1_thirds, aI cI a_p1_owners 120 f_p1_owners] (some (.int r)) [oX1 a_o a_o_partOf a_o_queue v_o_queued, oX0 a_p1 a_p1_inner a_p1_owners a_p1_nears a_p1_basePlaces a_p1_baseFactors a_p1_baseStarts v_p1_bases v_p1_thirds, aI cI a_p1_owners 120 f_p1_owners] := by
  refine cz_startI (by decide) (Nat.le_of_ble_eq_true rfl) ?_
  intro p e s m ag below meth c A Q hx hb hml hown hts hK hN hQ H locs hP hD hS ls hl
  replace hown : s.vm.findClass RX1 = some m.cls := hown
  replace hl : lv_has ls 6 [(0, .ref a_o), (1, .ref a_p1)] := hl
  unfold f_X1_countTurns at h
  refine lv_iconst (v := (0 : Int32)) hx hb dX1_countTurns_0 (by decide) ?_
  refine lv_istore_n (lv' := [(2, .int (0 : Int32)), (0, .ref a_o), (1, .ref a_p1)]) hx hb dX1_countTurns_1 rfl hl (by decide) rfl (fun ls hl => ?_)
  refine lv_iconst (v := (0 : Int32)) hx hb dX1_countTurns_2 (by decide) ?_
  refine lv_istore_n (lv' := [(3, .int (0 : Int32)), (2, .int (0 : Int32)), (0, .ref a_o), (1, .ref a_p1)]) hx hb dX1_countTurns_3 rfl hl (by decide) rfl (fun ls hl => ?_)
  obtain ⟨z3, hE4, hz5⟩ := cz_x2 h
  have hX6 : ∀ (y9 : Int32) (y10 : Int32) (H : Heap) (locs : List Loc) (ls : Array Slot), z3 = (y9, y10) → va_P D vwCl [oX1 a_o a_o_partOf a_o_queue v_o_queued, oX0 a_p1 a_p1_inner a_p1_owners a_p1_nears a_p1_basePlaces a_p1_baseFactors a_p1_baseStarts v_p1_bases v_p1_thirds, aI cI a_p1_owners 120 f_p1_owners] H → va_D A [oX1 a_o a_o_partOf a_o_queue v_o_queued, oX0 a_p1 a_p1_inner a_p1_owners a_p1_nears a_p1_basePlaces a_p1_baseFactors a_p1_baseStarts v_p1_bases v_p1_thirds, aI cI a_p1_owners 120 f_p1_owners] → va_S A s.heap H locs → lv_has ls 6 [(2, .int y9)] → W p l e (cz_rm 2 43) s m ag below meth c H locs 0 0 Q (F0 m 94 ls []) := by
    intro y9 y10 H locs ls h hP hD hS hl
    replace h := hz5 _ _ h
    refine lv_iload_n hx hb dX1_countTurns_94 rfl (lv_at hl 0 rfl) ?_
    obtain rfl := cz_i h
    exact hQ _ _ _ _ hP hS dX1_countTurns_95
  clear h
  have hL7 : ∀ (k : Nat) (x1 : Int32) (x2 : Int32) (H : Heap) (locs : List Loc) (ls : Array Slot), f_X1_countTurns_L4 n f_p1_owners k x1 x2 = some z3 → va_P D vwCl [oX1 a_o a_o_partOf a_o_queue v_o_queued, oX0 a_p1 a_p1_inner a_p1_owners a_p1_nears a_p1_basePlaces a_p1_baseFactors a_p1_baseStarts v_p1_bases v_p1_thirds, aI cI a_p1_owners 120 f_p1_owners] H → va_D A [oX1 a_o a_o_partOf a_o_queue v_o_queued, oX0 a_p1 a_p1_inner a_p1_owners a_p1_nears a_p1_basePlaces a_p1_baseFactors a_p1_baseStarts v_p1_bases v_p1_thirds, aI cI a_p1_owners 120 f_p1_owners] → va_S A s.heap H locs → lv_has ls 6 [(1, .ref a_p1), (2, .int x1), (3, .int x2)] → W p l e (cz_rm 2 43) s m ag below meth c H locs 0 0 Q (F0 m 4 ls []) := by
    intro k
    induction k with
    | zero =>
      intro x1 x2 H locs ls h
      rw [f_X1_countTurns_L4] at h
      cases h
    | succ k ih11 =>
      intro x1 x2 H locs ls h hP hD hS hl
      rw [f_X1_countTurns_L4] at h
      refine lv_iload_n hx hb dX1_countTurns_4 rfl (lv_at hl 2 rfl) ?_
      refine lv_bipush (v := (120 : Int32)) hx hb dX1_countTurns_5 (by decide) ?_
      refine lv_icmp_ge (tgt := 94) hx hb dX1_countTurns_7 (by decide) (fun c12 => ?_) (fun c12 => ?_)
      · replace h := cz_t c12 h
        exact hX6 _ _ _ _ _ (cz_i h).symm hP hD hS (lv_sub hl [1] rfl)
      · replace h := cz_f c12 h
        refine lv_iload_n hx hb dX1_countTurns_10 rfl (lv_at hl 2 rfl) ?_
        refine lv_bipush (v := (12 : Int32)) hx hb dX1_countTurns_11 (by decide) ?_
        refine lv_irem hx hb dX1_countTurns_13 (by decide) ?_
        refine lv_topi (fun x13 ex13 => ?_)
        replace h := cz_ltE ex13 h
        refine lv_istore (lv' := [(4, .int x13), (1, .ref a_p1), (2, .int x1), (3, .int x2)]) hx hb dX1_countTurns_14 hl (by decide) rfl (fun ls hl => ?_)
        refine lv_iload_n hx hb dX1_countTurns_16 rfl (lv_at hl 3 rfl) ?_
        refine lv_bipush (v := (12 : Int32)) hx hb dX1_countTurns_17 (by decide) ?_
        refine lv_idiv hx hb dX1_countTurns_19 (by decide) ?_
        refine lv_topi (fun x14 ex14 => ?_)
        replace h := cz_ltE ex14 h
        refine lv_istore (lv' := [(5, .int x14), (4, .int x13), (1, .ref a_p1), (2, .int x1), (3, .int x2)]) hx hb dX1_countTurns_20 hl (by decide) rfl (fun ls hl => ?_)
        refine lv_aload_n hx hb dX1_countTurns_22 rfl (lv_at hl 2 rfl) ?_
        refine lv_iload hx hb dX1_countTurns_23 (lv_at hl 1 rfl) ?_
        refine lv_iload hx hb dX1_countTurns_25 (lv_at hl 0 rfl) ?_
        obtain ⟨x15, hc16, h⟩ := cz_e1 h
        refine cz_callV (As := [.int x13, .int x14]) (rest := []) (is := [1, 2]) (isR := [0]) (rs := [oX1 a_o a_o_partOf a_o_queue v_o_queued]) (as := [a_o, a_p1, a_p1_owners]) (ws1 := [oX1 a_o a_o_partOf a_o_queue v_o_queued, oX0 a_p1 a_p1_inner a_p1_owners a_p1_nears a_p1_basePlaces a_p1_baseFactors a_p1_baseStarts v_p1_bases v_p1_thirds, aI cI a_p1_owners 120 f_p1_owners]) (q0 := 0) (ci := 0) ⟨hx, hb, hml, hown, hts⟩ (c_X0_isEvenAt l D cI a_p1 a_p1_owners a_p1_inner a_p1_nears a_p1_basePlaces a_p1_baseFactors a_p1_baseStarts v_p1_bases v_p1_thirds f_p1_owners x13 x14 n x15 hc16) mw_3_55 mw_3_56 mw_3_57 mw_1_6 mw_3_58 hd_X0_isEvenAt ⟨Nat.le_of_ble_eq_true rfl, Nat.le_of_ble_eq_true rfl⟩ hK hN hP hD hS rfl rfl rfl rfl rfl rfl rfl rfl rfl rfl rfl rfl hl.1 rfl (Nat.le_of_ble_eq_true rfl) dX1_countTurns_27 ⟨Nat.le_of_ble_eq_true rfl, Nat.le_of_ble_eq_true rfl⟩ (fun H locs hP hD hS => ?_)
        refine W.eq (g2 := F0 m 30 ls [.int x15]) rfl ?_
        obtain ⟨z21, hE19, hz18⟩ := cz_x1 h
        have hJ20 : ∀ (x17 : Int32) (H : Heap) (locs : List Loc) (ls : Array Slot), z21 = x17 → va_P D vwCl [oX1 a_o a_o_partOf a_o_queue v_o_queued, oX0 a_p1 a_p1_inner a_p1_owners a_p1_nears a_p1_basePlaces a_p1_baseFactors a_p1_baseStarts v_p1_bases v_p1_thirds, aI cI a_p1_owners 120 f_p1_owners] H → va_D A [oX1 a_o a_o_partOf a_o_queue v_o_queued, oX0 a_p1 a_p1_inner a_p1_owners a_p1_nears a_p1_basePlaces a_p1_baseFactors a_p1_baseStarts v_p1_bases v_p1_thirds, aI cI a_p1_owners 120 f_p1_owners] → va_S A s.heap H locs → lv_has ls 6 [(1, .ref a_p1), (2, .int x17), (3, .int x2)] → W p l e (cz_rm 2 43) s m ag below meth c H locs 0 0 Q (F0 m 88 ls []) := by
          intro x17 H locs ls h hP hD hS hl
          replace h := hz18 _ h
          obtain ⟨x22, ex22⟩ : ∃ z : Int32, z = x2 + (1 : Int32) := ⟨_, rfl⟩
          replace h := cz_ltE ex22 h
          refine lv_iinc (v := x22) (lv' := [(3, .int x22), (1, .ref a_p1), (2, .int x17)]) hx hb dX1_countTurns_88 hl (k := 2) rfl (by rw [ex22]; rfl) (by decide) rfl (fun ls hl => ?_)
          refine lv_goto (tgt := 4) hx hb dX1_countTurns_91 (by decide) ?_
          exact ih11 _ _ _ _ _ h hP hD hS (lv_sub hl [1, 2, 0] rfl)
        clear h
        have h := hE19
        refine lv_if_eq (tgt := 88) hx hb dX1_countTurns_30 (by decide) (fun c23 => ?_) (fun c23 => ?_)
        · replace h := cz_t c23 h
          exact hJ20 _ _ _ _ (cz_i h).symm hP hD hS (lv_sub hl [2, 3, 4] rfl)
        · replace h := cz_f c23 h
          refine lv_aload_n hx hb dX1_countTurns_33 rfl (lv_at hl 2 rfl) ?_
          refine lv_iload hx hb dX1_countTurns_34 (lv_at hl 1 rfl) ?_
          refine lv_iconst (v := (1 : Int32)) hx hb dX1_countTurns_36 (by decide) ?_
          refine lv_isub hx hb dX1_countTurns_37 ?_
          refine lv_iload hx hb dX1_countTurns_38 (lv_at hl 0 rfl) ?_
          obtain ⟨x24, hc25, h⟩ := cz_e1 h
          refine cz_callV (As := [.int (x13 - (1 : Int32)), .int x14]) (rest := []) (is := [1, 2]) (isR := [0]) (rs := [oX1 a_o a_o_partOf a_o_queue v_o_queued]) (as := [a_o, a_p1, a_p1_owners]) (ws1 := [oX1 a_o a_o_partOf a_o_queue v_o_queued, oX0 a_p1 a_p1_inner a_p1_owners a_p1_nears a_p1_basePlaces a_p1_baseFactors a_p1_baseStarts v_p1_bases v_p1_thirds, aI cI a_p1_owners 120 f_p1_owners]) (q0 := 0) (ci := 0) ⟨hx, hb, hml, hown, hts⟩ (c_X0_isEvenAt l D cI a_p1 a_p1_owners a_p1_inner a_p1_nears a_p1_basePlaces a_p1_baseFactors a_p1_baseStarts v_p1_bases v_p1_thirds f_p1_owners (x13 - (1 : Int32)) x14 n x24 hc25) mw_3_55 mw_3_56 mw_3_57 mw_1_6 mw_3_58 hd_X0_isEvenAt ⟨Nat.le_of_ble_eq_true rfl, Nat.le_of_ble_eq_true rfl⟩ hK hN hP hD hS rfl rfl rfl rfl rfl rfl rfl rfl rfl rfl rfl rfl hl.1 rfl (Nat.le_of_ble_eq_true rfl) dX1_countTurns_40 ⟨Nat.le_of_ble_eq_true rfl, Nat.le_of_ble_eq_true rfl⟩ (fun H locs hP hD hS => ?_)
          refine W.eq (g2 := F0 m 43 ls [.int x24]) rfl ?_
          refine lv_if_ne (tgt := 59) hx hb dX1_countTurns_43 (by decide) (fun c26 => ?_) (fun c26 => ?_)
          · replace h := cz_f c26 h
            refine lv_aload_n hx hb dX1_countTurns_59 rfl (lv_at hl 2 rfl) ?_
            refine lv_iload hx hb dX1_countTurns_60 (lv_at hl 1 rfl) ?_
            refine lv_iload hx hb dX1_countTurns_62 (lv_at hl 0 rfl) ?_
            refine lv_iconst (v := (1 : Int32)) hx hb dX1_countTurns_64 (by decide) ?_
            refine lv_isub hx hb dX1_countTurns_65 ?_
            obtain ⟨x27, hc28, h⟩ := cz_e1 h
            refine cz_callV (As := [.int x13, .int (x14 - (1 : Int32))]) (rest := []) (is := [1, 2]) (isR := [0]) (rs := [oX1 a_o a_o_partOf a_o_queue v_o_queued]) (as := [a_o, a_p1, a_p1_owners]) (ws1 := [oX1 a_o a_o_partOf a_o_queue v_o_queued, oX0 a_p1 a_p1_inner a_p1_owners a_p1_nears a_p1_basePlaces a_p1_baseFactors a_p1_baseStarts v_p1_bases v_p1_thirds, aI cI a_p1_owners 120 f_p1_owners]) (q0 := 0) (ci := 0) ⟨hx, hb, hml, hown, hts⟩ (c_X0_isEvenAt l D cI a_p1 a_p1_owners a_p1_inner a_p1_nears a_p1_basePlaces a_p1_baseFactors a_p1_baseStarts v_p1_bases v_p1_thirds f_p1_owners x13 (x14 - (1 : Int32)) n x27 hc28) mw_3_55 mw_3_56 mw_3_57 mw_1_6 mw_3_58 hd_X0_isEvenAt ⟨Nat.le_of_ble_eq_true rfl, Nat.le_of_ble_eq_true rfl⟩ hK hN hP hD hS rfl rfl rfl rfl rfl rfl rfl rfl rfl rfl rfl rfl hl.1 rfl (Nat.le_of_ble_eq_true rfl) dX1_countTurns_66 ⟨Nat.le_of_ble_eq_true rfl, Nat.le_of_ble_eq_true rfl⟩ (fun H locs hP hD hS => ?_)
            refine W.eq (g2 := F0 m 69 ls [.int x27]) rfl ?_
            refine lv_if_ne (tgt := 85) hx hb dX1_countTurns_69 (by decide) (fun c29 => ?_) (fun c29 => ?_)
            · replace h := cz_f c29 h
              obtain ⟨x30, ex30⟩ : ∃ z : Int32, z = x1 + (1 : Int32) := ⟨_, rfl⟩
              replace h := cz_ltE ex30 h
              refine lv_iinc (v := x30) (lv' := [(2, .int x30), (5, .int x14), (4, .int x13), (1, .ref a_p1), (3, .int x2)]) hx hb dX1_countTurns_85 hl (k := 3) rfl (by rw [ex30]; rfl) (by decide) rfl (fun ls hl => ?_)
              exact hJ20 _ _ _ _ (cz_i h).symm hP hD hS (lv_sub hl [3, 0, 4] rfl)
            · replace h := cz_t c29 h
              refine lv_aload_n hx hb dX1_countTurns_72 rfl (lv_at hl 2 rfl) ?_
              refine lv_iload hx hb dX1_countTurns_73 (lv_at hl 1 rfl) ?_
              refine lv_iload hx hb dX1_countTurns_75 (lv_at hl 0 rfl) ?_
              refine lv_iconst (v := (1 : Int32)) hx hb dX1_countTurns_77 (by decide) ?_
              refine lv_iadd hx hb dX1_countTurns_78 ?_
              obtain ⟨x31, hc32, h⟩ := cz_e1 h
              refine cz_callV (As := [.int x13, .int (x14 + (1 : Int32))]) (rest := []) (is := [1, 2]) (isR := [0]) (rs := [oX1 a_o a_o_partOf a_o_queue v_o_queued]) (as := [a_o, a_p1, a_p1_owners]) (ws1 := [oX1 a_o a_o_partOf a_o_queue v_o_queued, oX0 a_p1 a_p1_inner a_p1_owners a_p1_nears a_p1_basePlaces a_p1_baseFactors a_p1_baseStarts v_p1_bases v_p1_thirds, aI cI a_p1_owners 120 f_p1_owners]) (q0 := 0) (ci := 0) ⟨hx, hb, hml, hown, hts⟩ (c_X0_isEvenAt l D cI a_p1 a_p1_owners a_p1_inner a_p1_nears a_p1_basePlaces a_p1_baseFactors a_p1_baseStarts v_p1_bases v_p1_thirds f_p1_owners x13 (x14 + (1 : Int32)) n x31 hc32) mw_3_55 mw_3_56 mw_3_57 mw_1_6 mw_3_58 hd_X0_isEvenAt ⟨Nat.le_of_ble_eq_true rfl, Nat.le_of_ble_eq_true rfl⟩ hK hN hP hD hS rfl rfl rfl rfl rfl rfl rfl rfl rfl rfl rfl rfl hl.1 rfl (Nat.le_of_ble_eq_true rfl) dX1_countTurns_79 ⟨Nat.le_of_ble_eq_true rfl, Nat.le_of_ble_eq_true rfl⟩ (fun H locs hP hD hS => ?_)
              refine W.eq (g2 := F0 m 82 ls [.int x31]) rfl ?_
              refine lv_if_eq (tgt := 88) hx hb dX1_countTurns_82 (by decide) (fun c33 => ?_) (fun c33 => ?_)
              · replace h := cz_t c33 h
                exact hJ20 _ _ _ _ (cz_i h).symm hP hD hS (lv_sub hl [2, 3, 4] rfl)
              · replace h := cz_f c33 h
                obtain ⟨x34, ex34⟩ : ∃ z : Int32, z = x1 + (1 : Int32) := ⟨_, rfl⟩
                replace h := cz_ltE ex34 h
                refine lv_iinc (v := x34) (lv' := [(2, .int x34), (5, .int x14), (4, .int x13), (1, .ref a_p1), (3, .int x2)]) hx hb dX1_countTurns_85 hl (k := 3) rfl (by rw [ex34]; rfl) (by decide) rfl (fun ls hl => ?_)
                exact hJ20 _ _ _ _ (cz_i h).symm hP hD hS (lv_sub hl [3, 0, 4] rfl)
          · replace h := cz_t c26 h
            refine lv_aload_n hx hb dX1_countTurns_46 rfl (lv_at hl 2 rfl) ?_
            refine lv_iload hx hb dX1_countTurns_47 (lv_at hl 1 rfl) ?_
            refine lv_iconst (v := (1 : Int32)) hx hb dX1_countTurns_49 (by decide) ?_
            refine lv_iadd hx hb dX1_countTurns_50 ?_
            refine lv_iload hx hb dX1_countTurns_51 (lv_at hl 0 rfl) ?_
            obtain ⟨x35, hc36, h⟩ := cz_e1 h
            refine cz_callV (As := [.int (x13 + (1 : Int32)), .int x14]) (rest := []) (is := [1, 2]) (isR := [0]) (rs := [oX1 a_o a_o_partOf a_o_queue v_o_queued]) (as := [a_o, a_p1, a_p1_owners]) (ws1 := [oX1 a_o a_o_partOf a_o_queue v_o_queued, oX0 a_p1 a_p1_inner a_p1_owners a_p1_nears a_p1_basePlaces a_p1_baseFactors a_p1_baseStarts v_p1_bases v_p1_thirds, aI cI a_p1_owners 120 f_p1_owners]) (q0 := 0) (ci := 0) ⟨hx, hb, hml, hown, hts⟩ (c_X0_isEvenAt l D cI a_p1 a_p1_owners a_p1_inner a_p1_nears a_p1_basePlaces a_p1_baseFactors a_p1_baseStarts v_p1_bases v_p1_thirds f_p1_owners (x13 + (1 : Int32)) x14 n x35 hc36) mw_3_55 mw_3_56 mw_3_57 mw_1_6 mw_3_58 hd_X0_isEvenAt ⟨Nat.le_of_ble_eq_true rfl, Nat.le_of_ble_eq_true rfl⟩ hK hN hP hD hS rfl rfl rfl rfl rfl rfl rfl rfl rfl rfl rfl rfl hl.1 rfl (Nat.le_of_ble_eq_true rfl) dX1_countTurns_53 ⟨Nat.le_of_ble_eq_true rfl, Nat.le_of_ble_eq_true rfl⟩ (fun H locs hP hD hS => ?_)
            refine W.eq (g2 := F0 m 56 ls [.int x35]) rfl ?_
            refine lv_if_eq (tgt := 88) hx hb dX1_countTurns_56 (by decide) (fun c37 => ?_) (fun c37 => ?_)
            · replace h := cz_t c37 h
              exact hJ20 _ _ _ _ (cz_i h).symm hP hD hS (lv_sub hl [2, 3, 4] rfl)
            · replace h := cz_f c37 h
              refine lv_aload_n hx hb dX1_countTurns_59 rfl (lv_at hl 2 rfl) ?_
              refine lv_iload hx hb dX1_countTurns_60 (lv_at hl 1 rfl) ?_
              refine lv_iload hx hb dX1_countTurns_62 (lv_at hl 0 rfl) ?_
              refine lv_iconst (v := (1 : Int32)) hx hb dX1_countTurns_64 (by decide) ?_
              refine lv_isub hx hb dX1_countTurns_65 ?_
              obtain ⟨x38, hc39, h⟩ := cz_e1 h
              refine cz_callV (As := [.int x13, .int (x14 - (1 : Int32))]) (rest := []) (is := [1, 2]) (isR := [0]) (rs := [oX1 a_o a_o_partOf a_o_queue v_o_queued]) (as := [a_o, a_p1, a_p1_owners]) (ws1 := [oX1 a_o a_o_partOf a_o_queue v_o_queued, oX0 a_p1 a_p1_inner a_p1_owners a_p1_nears a_p1_basePlaces a_p1_baseFactors a_p1_baseStarts v_p1_bases v_p1_thirds, aI cI a_p1_owners 120 f_p1_owners]) (q0 := 0) (ci := 0) ⟨hx, hb, hml, hown, hts⟩ (c_X0_isEvenAt l D cI a_p1 a_p1_owners a_p1_inner a_p1_nears a_p1_basePlaces a_p1_baseFactors a_p1_baseStarts v_p1_bases v_p1_thirds f_p1_owners x13 (x14 - (1 : Int32)) n x38 hc39) mw_3_55 mw_3_56 mw_3_57 mw_1_6 mw_3_58 hd_X0_isEvenAt ⟨Nat.le_of_ble_eq_true rfl, Nat.le_of_ble_eq_true rfl⟩ hK hN hP hD hS rfl rfl rfl rfl rfl rfl rfl rfl rfl rfl rfl rfl hl.1 rfl (Nat.le_of_ble_eq_true rfl) dX1_countTurns_66 ⟨Nat.le_of_ble_eq_true rfl, Nat.le_of_ble_eq_true rfl⟩ (fun H locs hP hD hS => ?_)
              refine W.eq (g2 := F0 m 69 ls [.int x38]) rfl ?_
              refine lv_if_ne (tgt := 85) hx hb dX1_countTurns_69 (by decide) (fun c40 => ?_) (fun c40 => ?_)
              · replace h := cz_f c40 h
                obtain ⟨x41, ex41⟩ : ∃ z : Int32, z = x1 + (1 : Int32) := ⟨_, rfl⟩
                replace h := cz_ltE ex41 h
                refine lv_iinc (v := x41) (lv' := [(2, .int x41), (5, .int x14), (4, .int x13), (1, .ref a_p1), (3, .int x2)]) hx hb dX1_countTurns_85 hl (k := 3) rfl (by rw [ex41]; rfl) (by decide) rfl (fun ls hl => ?_)
                exact hJ20 _ _ _ _ (cz_i h).symm hP hD hS (lv_sub hl [3, 0, 4] rfl)
              · replace h := cz_t c40 h
                refine lv_aload_n hx hb dX1_countTurns_72 rfl (lv_at hl 2 rfl) ?_
                refine lv_iload hx hb dX1_countTurns_73 (lv_at hl 1 rfl) ?_
                refine lv_iload hx hb dX1_countTurns_75 (lv_at hl 0 rfl) ?_
                refine lv_iconst (v := (1 : Int32)) hx hb dX1_countTurns_77 (by decide) ?_
                refine lv_iadd hx hb dX1_countTurns_78 ?_
                obtain ⟨x42, hc43, h⟩ := cz_e1 h
                refine cz_callV (As := [.int x13, .int (x14 + (1 : Int32))]) (rest := []) (is := [1, 2]) (isR := [0]) (rs := [oX1 a_o a_o_partOf a_o_queue v_o_queued]) (as := [a_o, a_p1, a_p1_owners]) (ws1 := [oX1 a_o a_o_partOf a_o_queue v_o_queued, oX0 a_p1 a_p1_inner a_p1_owners a_p1_nears a_p1_basePlaces a_p1_baseFactors a_p1_baseStarts v_p1_bases v_p1_thirds, aI cI a_p1_owners 120 f_p1_owners]) (q0 := 0) (ci := 0) ⟨hx, hb, hml, hown, hts⟩ (c_X0_isEvenAt l D cI a_p1 a_p1_owners a_p1_inner a_p1_nears a_p1_basePlaces a_p1_baseFactors a_p1_baseStarts v_p1_bases v_p1_thirds f_p1_owners x13 (x14 + (1 : Int32)) n x42 hc43) mw_3_55 mw_3_56 mw_3_57 mw_1_6 mw_3_58 hd_X0_isEvenAt ⟨Nat.le_of_ble_eq_true rfl, Nat.le_of_ble_eq_true rfl⟩ hK hN hP hD hS rfl rfl rfl rfl rfl rfl rfl rfl rfl rfl rfl rfl hl.1 rfl (Nat.le_of_ble_eq_true rfl) dX1_countTurns_79 ⟨Nat.le_of_ble_eq_true rfl, Nat.le_of_ble_eq_true rfl⟩ (fun H locs hP hD hS => ?_)
                refine W.eq (g2 := F0 m 82 ls [.int x42]) rfl ?_
                refine lv_if_eq (tgt := 88) hx hb dX1_countTurns_82 (by decide) (fun c44 => ?_) (fun c44 => ?_)
                · replace h := cz_t c44 h
                  exact hJ20 _ _ _ _ (cz_i h).symm hP hD hS (lv_sub hl [2, 3, 4] rfl)
                · replace h := cz_f c44 h
                  obtain ⟨x45, ex45⟩ : ∃ z : Int32, z = x1 + (1 : Int32) := ⟨_, rfl⟩
                  replace h := cz_ltE ex45 h
                  refine lv_iinc (v := x45) (lv' := [(2, .int x45), (5, .int x14), (4, .int x13), (1, .ref a_p1), (3, .int x2)]) hx hb dX1_countTurns_85 hl (k := 3) rfl (by rw [ex45]; rfl) (by decide) rfl (fun ls hl => ?_)
                  exact hJ20 _ _ _ _ (cz_i h).symm hP hD hS (lv_sub hl [3, 0, 4] rfl)
  exact hL7 n _ _ _ _ _ hE4 hP hD hS (lv_sub hl [3, 1, 0] rfl)
