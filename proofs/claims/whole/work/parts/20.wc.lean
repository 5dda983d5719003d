set_option maxHeartbeats 4000000 in
set_option maxRecDepth 100000 in
theorem c_X2_least (l : Launch) (D : va_G) (cI : ClassId)  (w1 : Int32) (n : Nat) (r : Int32) (h : f_X2_least n w1 = some r) : cz_M l yX2_least cX2_least 1 (some .int) 0 0 D cI [.int w1] [] (some (.int r)) [] := by
  refine cz_startI (by decide) (Nat.le_of_ble_eq_true rfl) ?_
  intro p e s m ag below meth c A Q hx hb hml hown hts hK hN hQ H locs hP hD hS ls hl
  replace hown : s.vm.findClass RX2 = some m.cls := hown
  replace hl : lv_has ls 1 [(0, .int w1)] := hl
  unfold f_X2_least at h
  refine lv_iload_n hx hb dX2_least_0 rfl (lv_at hl 0 rfl) ?_
  refine lv_iconst (v := (3 : Int32)) hx hb dX2_least_1 (by decide) ?_
  refine lv_icmp_ne (tgt := 10) hx hb dX2_least_2 (by decide) (fun c1 => ?_) (fun c1 => ?_)
  · replace h := cz_f c1 h
    refine lv_iconst (v := (0 : Int32)) hx hb dX2_least_10 (by decide) ?_
    obtain rfl := cz_i h
    exact hQ _ _ _ _ hP hS dX2_least_11
  · replace h := cz_t c1 h
    refine lv_bipush (v := (-50 : Int32)) hx hb dX2_least_5 (by decide) ?_
    refine lv_goto (tgt := 11) hx hb dX2_least_7 (by decide) ?_
    obtain rfl := cz_i h
    exact hQ _ _ _ _ hP hS dX2_least_11
set_option maxHeartbeats 4000000 in
set_option maxRecDepth 100000 in
theorem c_X2_greatest (l : Launch) (D : va_G) (cI : ClassId)  (w1 : Int32) (n : Nat) (r : Int32) (h : f_X2_greatest n w1 = some r) : cz_M l yX2_greatest cX2_greatest 1 (some .int) 0 0 D cI [.int w1] [] (some (.int r)) [] := by
  refine cz_startI (by decide) (Nat.le_of_ble_eq_true rfl) ?_
  intro p e s m ag below meth c A Q hx hb hml hown hts hK hN hQ H locs hP hD hS ls hl
  replace hown : s.vm.findClass RX2 = some m.cls := hown
  replace hl : lv_has ls 1 [(0, .int w1)] := hl
  unfold f_X2_greatest at h
  refine lv_iload_n hx hb dX2_greatest_0 rfl (lv_at hl 0 rfl) ?_
  by_cases c1 : w1 = (0 : Int32)
  · replace h := cz_t c1 h
    refine lv_tableIn (tgt := 28) (off := 27) hx hb dX2_greatest_1 (by rw [c1]; decide) (by rw [c1]; decide) (by rw [c1]; rfl) (by decide) ?_
    refine lv_bipush (v := (9 : Int32)) hx hb dX2_greatest_28 (by decide) ?_
    obtain rfl := cz_i h
    exact hQ _ _ _ _ hP hS dX2_greatest_30
  · replace h := cz_f c1 h
    by_cases c2 : w1 = (1 : Int32)
    · replace h := cz_t c2 h
      refine lv_tableIn (tgt := 31) (off := 30) hx hb dX2_greatest_1 (by rw [c2]; decide) (by rw [c2]; decide) (by rw [c2]; rfl) (by decide) ?_
      refine lv_iconst (v := (2 : Int32)) hx hb dX2_greatest_31 (by decide) ?_
      obtain rfl := cz_i h
      exact hQ _ _ _ _ hP hS dX2_greatest_32
    · replace h := cz_f c2 h
      by_cases c3 : w1 = (2 : Int32)
      · replace h := cz_t c3 h
        refine lv_tableIn (tgt := 33) (off := 32) hx hb dX2_greatest_1 (by rw [c3]; decide) (by rw [c3]; decide) (by rw [c3]; rfl) (by decide) ?_
        refine lv_bipush (v := (20 : Int32)) hx hb dX2_greatest_33 (by decide) ?_
        obtain rfl := cz_i h
        exact hQ _ _ _ _ hP hS dX2_greatest_35
      · replace h := cz_f c3 h
        refine lv_tableOut (tgt := 36) hx hb dX2_greatest_1 (cz_swOut w1 3 (by decide) (fun k hk => by rcases (show k = 0 ∨ k = 1 ∨ k = 2 by omega) with rfl | rfl | rfl <;> assumption)) (by decide) ?_
        refine lv_bipush (v := (50 : Int32)) hx hb dX2_greatest_36 (by decide) ?_
        obtain rfl := cz_i h
        exact hQ _ _ _ _ hP hS dX2_greatest_38
set_option maxHeartbeats 4000000 in
set_option maxRecDepth 100000 in
theorem c_X2_get (l : Launch) (D : va_G) (cI : ClassId) (a_o : Nat) (v_o_mouth : Int32) (v_o_weight : Int32) (v_o_reach : Int32) (v_o_bend : Int32) (w1 : Int32) (n : Nat) (r : Int32) (h : f_X2_get n v_o_mouth v_o_weight v_o_reach v_o_bend w1 = some r) : cz_M l yX2_get cX2_get 2 (some .int) 0 0 D cI [.ref a_o, .int w1] [oX2 a_o v_o_mouth v_o_weight v_o_reach v_o_bend] (some (.int r)) [oX2 a_o v_o_mouth v_o_weight v_o_reach v_o_bend] := by
  refine cz_startI (by decide) (Nat.le_of_ble_eq_true rfl) ?_
  intro p e s m ag below meth c A Q hx hb hml hown hts hK hN hQ H locs hP hD hS ls hl
  replace hown : s.vm.findClass RX2 = some m.cls := hown
  replace hl : lv_has ls 2 [(0, .ref a_o), (1, .int w1)] := hl
  unfold f_X2_get at h
  refine lv_iload_n hx hb dX2_get_0 rfl (lv_at hl 1 rfl) ?_
  by_cases c1 : w1 = (0 : Int32)
  · replace h := cz_t c1 h
    refine lv_tableIn (tgt := 28) (off := 27) hx hb dX2_get_1 (by rw [c1]; decide) (by rw [c1]; decide) (by rw [c1]; rfl) (by decide) ?_
    refine lv_aload_n hx hb dX2_get_28 rfl (lv_at hl 0 rfl) ?_
    refine va_get (D := D) (ci := 2) (v := .int v_o_mouth) (C := RX2) (T := TX2) (N := 4) hx hb hts in_X2 hown hK hP 0 rfl rfl 0 (by decide) (hts _ mw_1_50) (fun _ h9 => h9) rfl dX2_get_29 ?_
    obtain rfl := cz_i h
    exact hQ _ _ _ _ hP hS dX2_get_32
  · replace h := cz_f c1 h
    by_cases c2 : w1 = (1 : Int32)
    · replace h := cz_t c2 h
      refine lv_tableIn (tgt := 33) (off := 32) hx hb dX2_get_1 (by rw [c2]; decide) (by rw [c2]; decide) (by rw [c2]; rfl) (by decide) ?_
      refine lv_aload_n hx hb dX2_get_33 rfl (lv_at hl 0 rfl) ?_
      refine va_get (D := D) (ci := 2) (v := .int v_o_weight) (C := RX2) (T := TX2) (N := 4) hx hb hts in_X2 hown hK hP 0 rfl rfl 1 (by decide) (hts _ mw_1_53) (fun _ h9 => h9) rfl dX2_get_34 ?_
      obtain rfl := cz_i h
      exact hQ _ _ _ _ hP hS dX2_get_37
    · replace h := cz_f c2 h
      by_cases c3 : w1 = (2 : Int32)
      · replace h := cz_t c3 h
        refine lv_tableIn (tgt := 38) (off := 37) hx hb dX2_get_1 (by rw [c3]; decide) (by rw [c3]; decide) (by rw [c3]; rfl) (by decide) ?_
        refine lv_aload_n hx hb dX2_get_38 rfl (lv_at hl 0 rfl) ?_
        refine va_get (D := D) (ci := 2) (v := .int v_o_reach) (C := RX2) (T := TX2) (N := 4) hx hb hts in_X2 hown hK hP 0 rfl rfl 2 (by decide) (hts _ mw_1_56) (fun _ h9 => h9) rfl dX2_get_39 ?_
        obtain rfl := cz_i h
        exact hQ _ _ _ _ hP hS dX2_get_42
      · replace h := cz_f c3 h
        refine lv_tableOut (tgt := 43) hx hb dX2_get_1 (cz_swOut w1 3 (by decide) (fun k hk => by rcases (show k = 0 ∨ k = 1 ∨ k = 2 by omega) with rfl | rfl | rfl <;> assumption)) (by decide) ?_
        refine lv_aload_n hx hb dX2_get_43 rfl (lv_at hl 0 rfl) ?_
        refine va_get (D := D) (ci := 2) (v := .int v_o_bend) (C := RX2) (T := TX2) (N := 4) hx hb hts in_X2 hown hK hP 0 rfl rfl 3 (by decide) (hts _ mw_1_59) (fun _ h9 => h9) rfl dX2_get_44 ?_
        obtain rfl := cz_i h
        exact hQ _ _ _ _ hP hS dX2_get_47
set_option maxHeartbeats 4000000 in
set_option maxRecDepth 100000 in
theorem c_X2_set (l : Launch) (D : va_G) (cI : ClassId) (a_o : Nat) (v_o_mouth : Int32) (v_o_weight : Int32) (v_o_reach : Int32) (v_o_bend : Int32) (w1 : Int32) (w2 : Int32) (n : Nat) (r_v_o_mouth : Int32) (r_v_o_weight : Int32) (r_v_o_reach : Int32) (r_v_o_bend : Int32) (h : f_X2_set n v_o_mouth v_o_weight v_o_reach v_o_bend w1 w2 = some (r_v_o_mouth, r_v_o_weight, r_v_o_reach, r_v_o_bend)) : cz_M l yX2_set cX2_set 3 none 0 0 D cI [.ref a_o, .int w1, .int w2] [oX2 a_o v_o_mouth v_o_weight v_o_reach v_o_bend] none [oX2 a_o r_v_o_mouth r_v_o_weight r_v_o_reach r_v_o_bend] := by
  refine cz_startV (by decide) (Nat.le_of_ble_eq_true rfl) ?_
  intro p e s m ag below meth c A Q hx hb hml hown hts hK hN hQ H locs hP hD hS ls hl
  replace hown : s.vm.findClass RX2 = some m.cls := hown
  replace hl : lv_has ls 3 [(0, .ref a_o), (1, .int w1), (2, .int w2)] := hl
  unfold f_X2_set at h
  refine lv_iload_n hx hb dX2_set_0 rfl (lv_at hl 1 rfl) ?_
  by_cases c1 : w1 = (0 : Int32)
  · replace h := cz_t c1 h
    refine lv_tableIn (tgt := 28) (off := 27) hx hb dX2_set_1 (by rw [c1]; decide) (by rw [c1]; decide) (by rw [c1]; rfl) (by decide) ?_
    refine lv_aload_n hx hb dX2_set_28 rfl (lv_at hl 0 rfl) ?_
    refine lv_iload_n hx hb dX2_set_29 rfl (lv_at hl 2 rfl) ?_
    refine va_put (D := D) (ci := 2) (v := .int w2) (ty := .int) (C := RX2) (T := TX2) (N := 4) hx hb hts in_X2 tyX2 tyX2_ok nmX2 hown hK hP hD hS 0 rfl rfl 0 (by decide) (hts _ mw_1_50) (fun _ h9 => h9) rfl (by decide +kernel) rfl rfl (Nat.le_of_ble_eq_true rfl) dX2_set_30 (fun H locs hP hD hS => ?_)
    replace hP : va_P D vwCl [oX2 a_o w2 v_o_weight v_o_reach v_o_bend] H := hP
    replace hD : va_D A [oX2 a_o w2 v_o_weight v_o_reach v_o_bend] := hD
    refine lv_goto (tgt := 57) hx hb dX2_set_33 (by decide) ?_
    obtain ⟨rfl, rfl, rfl, rfl⟩ := cz_j4 (cz_i h)
    exact hQ _ _ _ _ hP hS dX2_set_57
  · replace h := cz_f c1 h
    by_cases c2 : w1 = (1 : Int32)
    · replace h := cz_t c2 h
      refine lv_tableIn (tgt := 36) (off := 35) hx hb dX2_set_1 (by rw [c2]; decide) (by rw [c2]; decide) (by rw [c2]; rfl) (by decide) ?_
      refine lv_aload_n hx hb dX2_set_36 rfl (lv_at hl 0 rfl) ?_
      refine lv_iload_n hx hb dX2_set_37 rfl (lv_at hl 2 rfl) ?_
      refine va_put (D := D) (ci := 2) (v := .int w2) (ty := .int) (C := RX2) (T := TX2) (N := 4) hx hb hts in_X2 tyX2 tyX2_ok nmX2 hown hK hP hD hS 0 rfl rfl 1 (by decide) (hts _ mw_1_53) (fun _ h9 => h9) rfl (by decide +kernel) rfl rfl (Nat.le_of_ble_eq_true rfl) dX2_set_38 (fun H locs hP hD hS => ?_)
      replace hP : va_P D vwCl [oX2 a_o v_o_mouth w2 v_o_reach v_o_bend] H := hP
      replace hD : va_D A [oX2 a_o v_o_mouth w2 v_o_reach v_o_bend] := hD
      refine lv_goto (tgt := 57) hx hb dX2_set_41 (by decide) ?_
      obtain ⟨rfl, rfl, rfl, rfl⟩ := cz_j4 (cz_i h)
      exact hQ _ _ _ _ hP hS dX2_set_57
    · replace h := cz_f c2 h
      by_cases c3 : w1 = (2 : Int32)
      · replace h := cz_t c3 h
        refine lv_tableIn (tgt := 44) (off := 43) hx hb dX2_set_1 (by rw [c3]; decide) (by rw [c3]; decide) (by rw [c3]; rfl) (by decide) ?_
        refine lv_aload_n hx hb dX2_set_44 rfl (lv_at hl 0 rfl) ?_
        refine lv_iload_n hx hb dX2_set_45 rfl (lv_at hl 2 rfl) ?_
        refine va_put (D := D) (ci := 2) (v := .int w2) (ty := .int) (C := RX2) (T := TX2) (N := 4) hx hb hts in_X2 tyX2 tyX2_ok nmX2 hown hK hP hD hS 0 rfl rfl 2 (by decide) (hts _ mw_1_56) (fun _ h9 => h9) rfl (by decide +kernel) rfl rfl (Nat.le_of_ble_eq_true rfl) dX2_set_46 (fun H locs hP hD hS => ?_)
        replace hP : va_P D vwCl [oX2 a_o v_o_mouth v_o_weight w2 v_o_bend] H := hP
        replace hD : va_D A [oX2 a_o v_o_mouth v_o_weight w2 v_o_bend] := hD
        refine lv_goto (tgt := 57) hx hb dX2_set_49 (by decide) ?_
        obtain ⟨rfl, rfl, rfl, rfl⟩ := cz_j4 (cz_i h)
        exact hQ _ _ _ _ hP hS dX2_set_57
      · replace h := cz_f c3 h
        refine lv_tableOut (tgt := 52) hx hb dX2_set_1 (cz_swOut w1 3 (by decide) (fun k hk => by rcases (show k = 0 ∨ k = 1 ∨ k = 2 by omega) with rfl | rfl | rfl <;> assumption)) (by decide) ?_
        refine lv_aload_n hx hb dX2_set_52 rfl (lv_at hl 0 rfl) ?_
        refine lv_iload_n hx hb dX2_set_53 rfl (lv_at hl 2 rfl) ?_
        refine va_put (D := D) (ci := 2) (v := .int w2) (ty := .int) (C := RX2) (T := TX2) (N := 4) hx hb hts in_X2 tyX2 tyX2_ok nmX2 hown hK hP hD hS 0 rfl rfl 3 (by decide) (hts _ mw_1_59) (fun _ h9 => h9) rfl (by decide +kernel) rfl rfl (Nat.le_of_ble_eq_true rfl) dX2_set_54 (fun H locs hP hD hS => ?_)
        replace hP : va_P D vwCl [oX2 a_o v_o_mouth v_o_weight v_o_reach w2] H := hP
        replace hD : va_D A [oX2 a_o v_o_mouth v_o_weight v_o_reach w2] := hD
        obtain ⟨rfl, rfl, rfl, rfl⟩ := cz_j4 (cz_i h)
        exact hQ _ _ _ _ hP hS dX2_set_57
set_option maxHeartbeats 4000000 in
set_option maxRecDepth 100000 in
theorem c_X2_copyFrom (l : Launch) (D : va_G) (cI : ClassId) (a_o a_p1 : Nat) (v_o_mouth : Int32) (v_o_weight : Int32) (v_o_reach : Int32) (v_o_bend : Int32) (v_p1_mouth : Int32) (v_p1_weight : Int32) (v_p1_reach : Int32) (v_p1_bend : Int32) (n : Nat) (r_v_o_mouth : Int32) (r_v_o_weight : Int32) (r_v_o_reach : Int32) (r_v_o_bend : Int32) (h : f_X2_copyFrom n v_o_mouth v_o_weight v_o_reach v_o_bend v_p1_mouth v_p1_weight v_p1_reach v_p1_bend = some (r_v_o_mouth, r_v_o_weight, r_v_o_reach, r_v_o_bend)) : cz_M l yX2_copyFrom cX2_copyFrom 2 none 0 0 D cI [.ref a_o, .ref a_p1] [oX2 a_o v_o_mouth v_o_weight v_o_reach v_o_bend, oX2 a_p1 v_p1_mouth v_p1_weight v_p1_reach v_p1_bend] none [oX2 a_o r_v_o_mouth r_v_o_weight r_v_o_reach r_v_o_bend, oX2 a_p1 v_p1_mouth v_p1_weight v_p1_reach v_p1_bend] := by
  refine cz_startV (by decide) (Nat.le_of_ble_eq_true rfl) ?_
  intro p e s m ag below meth c A Q hx hb hml hown hts hK hN hQ H locs hP hD hS ls hl
  replace hown : s.vm.findClass RX2 = some m.cls := hown
  replace hl : lv_has ls 2 [(0, .ref a_o), (1, .ref a_p1)] := hl
  unfold f_X2_copyFrom at h
  refine lv_aload_n hx hb dX2_copyFrom_0 rfl (lv_at hl 0 rfl) ?_
  refine lv_aload_n hx hb dX2_copyFrom_1 rfl (lv_at hl 1 rfl) ?_
  refine va_get (D := D) (ci := 2) (v := .int v_p1_mouth) (C := RX2) (T := TX2) (N := 4) hx hb hts in_X2 hown hK hP 1 rfl rfl 0 (by decide) (hts _ mw_1_50) (fun _ h9 => h9) rfl dX2_copyFrom_2 ?_
  refine va_put (D := D) (ci := 2) (v := .int v_p1_mouth) (ty := .int) (C := RX2) (T := TX2) (N := 4) hx hb hts in_X2 tyX2 tyX2_ok nmX2 hown hK hP hD hS 0 rfl rfl 0 (by decide) (hts _ mw_1_50) (fun _ h9 => h9) rfl (by decide +kernel) rfl rfl (Nat.le_of_ble_eq_true rfl) dX2_copyFrom_5 (fun H locs hP hD hS => ?_)
  replace hP : va_P D vwCl [oX2 a_o v_p1_mouth v_o_weight v_o_reach v_o_bend, oX2 a_p1 v_p1_mouth v_p1_weight v_p1_reach v_p1_bend] H := hP
  replace hD : va_D A [oX2 a_o v_p1_mouth v_o_weight v_o_reach v_o_bend, oX2 a_p1 v_p1_mouth v_p1_weight v_p1_reach v_p1_bend] := hD
  refine lv_aload_n hx hb dX2_copyFrom_8 rfl (lv_at hl 0 rfl) ?_
  refine lv_aload_n hx hb dX2_copyFrom_9 rfl (lv_at hl 1 rfl) ?_
  refine va_get (D := D) (ci := 2) (v := .int v_p1_weight) (C := RX2) (T := TX2) (N := 4) hx hb hts in_X2 hown hK hP 1 rfl rfl 1 (by decide) (hts _ mw_1_53) (fun _ h9 => h9) rfl dX2_copyFrom_10 ?_
  refine va_put (D := D) (ci := 2) (v := .int v_p1_weight) (ty := .int) (C := RX2) (T := TX2) (N := 4) hx hb hts in_X2 tyX2 tyX2_ok nmX2 hown hK hP hD hS 0 rfl rfl 1 (by decide) (hts _ mw_1_53) (fun _ h9 => h9) rfl (by decide +kernel) rfl rfl (Nat.le_of_ble_eq_true rfl) dX2_copyFrom_13 (fun H locs hP hD hS => ?_)
  replace hP : va_P D vwCl [oX2 a_o v_p1_mouth v_p1_weight v_o_reach v_o_bend, oX2 a_p1 v_p1_mouth v_p1_weight v_p1_reach v_p1_bend] H := hP
  replace hD : va_D A [oX2 a_o v_p1_mouth v_p1_weight v_o_reach v_o_bend, oX2 a_p1 v_p1_mouth v_p1_weight v_p1_reach v_p1_bend] := hD
  refine lv_aload_n hx hb dX2_copyFrom_16 rfl (lv_at hl 0 rfl) ?_
  refine lv_aload_n hx hb dX2_copyFrom_17 rfl (lv_at hl 1 rfl) ?_
  refine va_get (D := D) (ci := 2) (v := .int v_p1_reach) (C := RX2) (T := TX2) (N := 4) hx hb hts in_X2 hown hK hP 1 rfl rfl 2 (by decide) (hts _ mw_1_56) (fun _ h9 => h9) rfl dX2_copyFrom_18 ?_
  refine va_put (D := D) (ci := 2) (v := .int v_p1_reach) (ty := .int) (C := RX2) (T := TX2) (N := 4) hx hb hts in_X2 tyX2 tyX2_ok nmX2 hown hK hP hD hS 0 rfl rfl 2 (by decide) (hts _ mw_1_56) (fun _ h9 => h9) rfl (by decide +kernel) rfl rfl (Nat.le_of_ble_eq_true rfl) dX2_copyFrom_21 (fun H locs hP hD hS => ?_)
  replace hP : va_P D vwCl [oX2 a_o v_p1_mouth v_p1_weight v_p1_reach v_o_bend, oX2 a_p1 v_p1_mouth v_p1_weight v_p1_reach v_p1_bend] H := hP
  replace hD : va_D A [oX2 a_o v_p1_mouth v_p1_weight v_p1_reach v_o_bend, oX2 a_p1 v_p1_mouth v_p1_weight v_p1_reach v_p1_bend] := hD
  refine lv_aload_n hx hb dX2_copyFrom_24 rfl (lv_at hl 0 rfl) ?_
  refine lv_aload_n hx hb dX2_copyFrom_25 rfl (lv_at hl 1 rfl) ?_
  refine va_get (D := D) (ci := 2) (v := .int v_p1_bend) (C := RX2) (T := TX2) (N := 4) hx hb hts in_X2 hown hK hP 1 rfl rfl 3 (by decide) (hts _ mw_1_59) (fun _ h9 => h9) rfl dX2_copyFrom_26 ?_
  refine va_put (D := D) (ci := 2) (v := .int v_p1_bend) (ty := .int) (C := RX2) (T := TX2) (N := 4) hx hb hts in_X2 tyX2 tyX2_ok nmX2 hown hK hP hD hS 0 rfl rfl 3 (by decide) (hts _ mw_1_59) (fun _ h9 => h9) rfl (by decide +kernel) rfl rfl (Nat.le_of_ble_eq_true rfl) dX2_copyFrom_29 (fun H locs hP hD hS => ?_)
  replace hP : va_P D vwCl [oX2 a_o v_p1_mouth v_p1_weight v_p1_reach v_p1_bend, oX2 a_p1 v_p1_mouth v_p1_weight v_p1_reach v_p1_bend] H := hP
  replace hD : va_D A [oX2 a_o v_p1_mouth v_p1_weight v_p1_reach v_p1_bend, oX2 a_p1 v_p1_mouth v_p1_weight v_p1_reach v_p1_bend] := hD
  obtain ⟨rfl, rfl, rfl, rfl⟩ := cz_j4 (cz_i h)
  exact hQ _ _ _ _ hP hS dX2_copyFrom_32
set_option maxHeartbeats 4000000 in
set_option maxRecDepth 100000 in
theorem c_X2_becomeOption (l : Launch) (D : va_G) (cI : ClassId) (a_o a_p1 : Nat) (v_o_mouth : Int32) (v_o_weight : Int32) (v_o_reach : Int32) (v_o_bend : Int32) (v_p1_mouth : Int32) (v_p1_weight : Int32) (v_p1_reach : Int32) (v_p1_bend : Int32) (w2 : Int32) (n : Nat) (r_v_o_mouth : Int32) (r_v_o_weight : Int32) (r_v_o_reach : Int32) (r_v_o_bend : Int32) (h : f_X2_becomeOption n v_o_mouth v_o_weight v_o_reach v_o_bend v_p1_mouth v_p1_reach v_p1_bend w2 = some (r_v_o_mouth, r_v_o_weight, r_v_o_reach, r_v_o_bend)) : cz_M l yX2_becomeOption cX2_becomeOption 3 none 0 0 D cI [.ref a_o, .ref a_p1, .int w2] [oX2 a_o v_o_mouth v_o_weight v_o_reach v_o_bend, oX2 a_p1 v_p1_mouth v_p1_weight v_p1_reach v_p1_bend] none [oX2 a_o r_v_o_mouth r_v_o_weight r_v_o_reach r_v_o_bend, oX2 a_p1 v_p1_mouth v_p1_weight v_p1_reach v_p1_bend] := by
  refine cz_startV (by decide) (Nat.le_of_ble_eq_true rfl) ?_
  intro p e s m ag below meth c A Q hx hb hml hown hts hK hN hQ H locs hP hD hS ls hl
  replace hown : s.vm.findClass RX2 = some m.cls := hown
  replace hl : lv_has ls 3 [(0, .ref a_o), (1, .ref a_p1), (2, .int w2)] := hl
  unfold f_X2_becomeOption at h
  refine lv_aload_n hx hb dX2_becomeOption_0 rfl (lv_at hl 0 rfl) ?_
  refine lv_iload_n hx hb dX2_becomeOption_1 rfl (lv_at hl 2 rfl) ?_
  refine lv_iconst (v := (4 : Int32)) hx hb dX2_becomeOption_2 (by decide) ?_
  refine lv_idiv hx hb dX2_becomeOption_3 (by decide) ?_
  refine lv_topi (fun x1 ex1 => ?_)
  replace h := cz_ltE ex1 h
  refine va_put (D := D) (ci := 2) (v := .int x1) (ty := .int) (C := RX2) (T := TX2) (N := 4) hx hb hts in_X2 tyX2 tyX2_ok nmX2 hown hK hP hD hS 0 rfl rfl 1 (by decide) (hts _ mw_1_53) (fun _ h9 => h9) rfl (by decide +kernel) rfl rfl (Nat.le_of_ble_eq_true rfl) dX2_becomeOption_4 (fun H locs hP hD hS => ?_)
  replace hP : va_P D vwCl [oX2 a_o v_o_mouth x1 v_o_reach v_o_bend, oX2 a_p1 v_p1_mouth v_p1_weight v_p1_reach v_p1_bend] H := hP
  replace hD : va_D A [oX2 a_o v_o_mouth x1 v_o_reach v_o_bend, oX2 a_p1 v_p1_mouth v_p1_weight v_p1_reach v_p1_bend] := hD
  refine lv_aload_n hx hb dX2_becomeOption_7 rfl (lv_at hl 0 rfl) ?_
  refine lv_iload_n hx hb dX2_becomeOption_8 rfl (lv_at hl 2 rfl) ?_
  refine lv_iconst (v := (2 : Int32)) hx hb dX2_becomeOption_9 (by decide) ?_
  refine lv_idiv hx hb dX2_becomeOption_10 (by decide) ?_
  refine lv_iconst (v := (2 : Int32)) hx hb dX2_becomeOption_11 (by decide) ?_
  refine lv_irem hx hb dX2_becomeOption_12 (by decide) ?_
  refine lv_topi (fun x2 ex2 => ?_)
  replace h := cz_ltE ex2 h
  refine lv_iconst (v := (1 : Int32)) hx hb dX2_becomeOption_13 (by decide) ?_
  obtain ⟨z7, hE5, hz4⟩ := cz_ltV h
  have hJ6 : ∀ (x3 : Int32) (H : Heap) (locs : List Loc) (ls : Array Slot), z7 = x3 → va_P D vwCl [oX2 a_o v_o_mouth x1 v_o_reach v_o_bend, oX2 a_p1 v_p1_mouth v_p1_weight v_p1_reach v_p1_bend] H → va_D A [oX2 a_o v_o_mouth x1 v_o_reach v_o_bend, oX2 a_p1 v_p1_mouth v_p1_weight v_p1_reach v_p1_bend] → va_S A s.heap H locs → lv_has ls 3 [(0, .ref a_o), (1, .ref a_p1), (2, .int w2)] → W p l e (cz_rm 0 0) s m ag below meth c H locs 0 0 Q (F0 m 25 ls [.int x3, .ref a_o]) := by
    intro x3 H locs ls h hP hD hS hl
    replace h := hz4 _ h
    refine va_put (D := D) (ci := 2) (v := .int x3) (ty := .int) (C := RX2) (T := TX2) (N := 4) hx hb hts in_X2 tyX2 tyX2_ok nmX2 hown hK hP hD hS 0 rfl rfl 0 (by decide) (hts _ mw_1_50) (fun _ h9 => h9) rfl (by decide +kernel) rfl rfl (Nat.le_of_ble_eq_true rfl) dX2_becomeOption_25 (fun H locs hP hD hS => ?_)
    replace hP : va_P D vwCl [oX2 a_o x3 x1 v_o_reach v_o_bend, oX2 a_p1 v_p1_mouth v_p1_weight v_p1_reach v_p1_bend] H := hP
    replace hD : va_D A [oX2 a_o x3 x1 v_o_reach v_o_bend, oX2 a_p1 v_p1_mouth v_p1_weight v_p1_reach v_p1_bend] := hD
    refine lv_aload_n hx hb dX2_becomeOption_28 rfl (lv_at hl 0 rfl) ?_
    refine lv_iload_n hx hb dX2_becomeOption_29 rfl (lv_at hl 2 rfl) ?_
    refine lv_iconst (v := (2 : Int32)) hx hb dX2_becomeOption_30 (by decide) ?_
    refine lv_irem hx hb dX2_becomeOption_31 (by decide) ?_
    refine lv_iconst (v := (1 : Int32)) hx hb dX2_becomeOption_32 (by decide) ?_
    obtain ⟨z12, hE10, hz9⟩ := cz_ltV h
    have hJ11 : ∀ (x8 : Int32) (H : Heap) (locs : List Loc) (ls : Array Slot), z12 = x8 → va_P D vwCl [oX2 a_o x3 x1 v_o_reach v_o_bend, oX2 a_p1 v_p1_mouth v_p1_weight v_p1_reach v_p1_bend] H → va_D A [oX2 a_o x3 x1 v_o_reach v_o_bend, oX2 a_p1 v_p1_mouth v_p1_weight v_p1_reach v_p1_bend] → va_S A s.heap H locs → lv_has ls 3 [(0, .ref a_o), (1, .ref a_p1)] → W p l e (cz_rm 0 0) s m ag below meth c H locs 0 0 Q (F0 m 49 ls [.int x8, .ref a_o]) := by
      intro x8 H locs ls h hP hD hS hl
      replace h := hz9 _ h
      refine va_put (D := D) (ci := 2) (v := .int x8) (ty := .int) (C := RX2) (T := TX2) (N := 4) hx hb hts in_X2 tyX2 tyX2_ok nmX2 hown hK hP hD hS 0 rfl rfl 2 (by decide) (hts _ mw_1_56) (fun _ h9 => h9) rfl (by decide +kernel) rfl rfl (Nat.le_of_ble_eq_true rfl) dX2_becomeOption_49 (fun H locs hP hD hS => ?_)
      replace hP : va_P D vwCl [oX2 a_o x3 x1 x8 v_o_bend, oX2 a_p1 v_p1_mouth v_p1_weight v_p1_reach v_p1_bend] H := hP
      replace hD : va_D A [oX2 a_o x3 x1 x8 v_o_bend, oX2 a_p1 v_p1_mouth v_p1_weight v_p1_reach v_p1_bend] := hD
      refine lv_aload_n hx hb dX2_becomeOption_52 rfl (lv_at hl 0 rfl) ?_
      refine lv_aload_n hx hb dX2_becomeOption_53 rfl (lv_at hl 1 rfl) ?_
      refine va_get (D := D) (ci := 2) (v := .int v_p1_bend) (C := RX2) (T := TX2) (N := 4) hx hb hts in_X2 hown hK hP 1 rfl rfl 3 (by decide) (hts _ mw_1_59) (fun _ h9 => h9) rfl dX2_becomeOption_54 ?_
      refine va_put (D := D) (ci := 2) (v := .int v_p1_bend) (ty := .int) (C := RX2) (T := TX2) (N := 4) hx hb hts in_X2 tyX2 tyX2_ok nmX2 hown hK hP hD hS 0 rfl rfl 3 (by decide) (hts _ mw_1_59) (fun _ h9 => h9) rfl (by decide +kernel) rfl rfl (Nat.le_of_ble_eq_true rfl) dX2_becomeOption_57 (fun H locs hP hD hS => ?_)
      replace hP : va_P D vwCl [oX2 a_o x3 x1 x8 v_p1_bend, oX2 a_p1 v_p1_mouth v_p1_weight v_p1_reach v_p1_bend] H := hP
      replace hD : va_D A [oX2 a_o x3 x1 x8 v_p1_bend, oX2 a_p1 v_p1_mouth v_p1_weight v_p1_reach v_p1_bend] := hD
      obtain ⟨rfl, rfl, rfl, rfl⟩ := cz_j4 (cz_i h)
      exact hQ _ _ _ _ hP hS dX2_becomeOption_60
    clear h
    have h := hE10
    refine lv_icmp_ne (tgt := 45) hx hb dX2_becomeOption_33 (by decide) (fun c13 => ?_) (fun c13 => ?_)
    · replace h := cz_f c13 h
      refine lv_aload_n hx hb dX2_becomeOption_45 rfl (lv_at hl 1 rfl) ?_
      refine va_get (D := D) (ci := 2) (v := .int v_p1_reach) (C := RX2) (T := TX2) (N := 4) hx hb hts in_X2 hown hK hP 1 rfl rfl 2 (by decide) (hts _ mw_1_56) (fun _ h9 => h9) rfl dX2_becomeOption_46 ?_
      exact hJ11 _ _ _ _ h.symm hP hD hS (lv_sub hl [0, 1] rfl)
    · replace h := cz_t c13 h
      refine lv_aload_n hx hb dX2_becomeOption_36 rfl (lv_at hl 1 rfl) ?_
      refine va_get (D := D) (ci := 2) (v := .int v_p1_reach) (C := RX2) (T := TX2) (N := 4) hx hb hts in_X2 hown hK hP 1 rfl rfl 2 (by decide) (hts _ mw_1_56) (fun _ h9 => h9) rfl dX2_becomeOption_37 ?_
      refine lv_iconst (v := (2 : Int32)) hx hb dX2_becomeOption_40 (by decide) ?_
      refine lv_idiv hx hb dX2_becomeOption_41 (by decide) ?_
      refine lv_goto (tgt := 49) hx hb dX2_becomeOption_42 (by decide) ?_
      exact hJ11 _ _ _ _ h.symm hP hD hS (lv_sub hl [0, 1] rfl)
  clear h
  have h := hE5
  refine lv_icmp_ne (tgt := 24) hx hb dX2_becomeOption_14 (by decide) (fun c14 => ?_) (fun c14 => ?_)
  · replace h := cz_f c14 h
    refine lv_iconst (v := (0 : Int32)) hx hb dX2_becomeOption_24 (by decide) ?_
    exact hJ6 _ _ _ _ h.symm hP hD hS (lv_sub hl [0, 1, 2] rfl)
  · replace h := cz_t c14 h
    refine lv_aload_n hx hb dX2_becomeOption_17 rfl (lv_at hl 1 rfl) ?_
    refine va_get (D := D) (ci := 2) (v := .int v_p1_mouth) (C := RX2) (T := TX2) (N := 4) hx hb hts in_X2 hown hK hP 1 rfl rfl 0 (by decide) (hts _ mw_1_50) (fun _ h9 => h9) rfl dX2_becomeOption_18 ?_
    refine lv_goto (tgt := 25) hx hb dX2_becomeOption_21 (by decide) ?_
    exact hJ6 _ _ _ _ h.symm hP hD hS (lv_sub hl [0, 1, 2] rfl)
set_option maxHeartbeats 4000000 in
set_option maxRecDepth 100000 in
theorem c_X2_optionNumber (l : Launch) (D : va_G) (cI : ClassId)  (w1 : Int32) (n : Nat) (r : Int32) (h : f_X2_optionNumber n w1 = some r) : cz_M l yX2_optionNumber cX2_optionNumber 1 (some .int) 0 0 D cI [.int w1] [] (some (.int r)) [] := by
  refine cz_startI (by decide) (Nat.le_of_ble_eq_true rfl) ?_
  intro p e s m ag below meth c A Q hx hb hml hown hts hK hN hQ H locs hP hD hS ls hl
  replace hown : s.vm.findClass RX2 = some m.cls := hown
  replace hl : lv_has ls 1 [(0, .int w1)] := hl
  unfold f_X2_optionNumber at h
  refine lv_bipush (v := (100 : Int32)) hx hb dX2_optionNumber_0 (by decide) ?_
  refine lv_iload_n hx hb dX2_optionNumber_2 rfl (lv_at hl 0 rfl) ?_
  refine lv_iconst (v := (4 : Int32)) hx hb dX2_optionNumber_3 (by decide) ?_
  refine lv_idiv hx hb dX2_optionNumber_4 (by decide) ?_
  refine lv_imul hx hb dX2_optionNumber_5 ?_
  refine lv_bipush (v := (10 : Int32)) hx hb dX2_optionNumber_6 (by decide) ?_
  refine lv_iload_n hx hb dX2_optionNumber_8 rfl (lv_at hl 0 rfl) ?_
  refine lv_iconst (v := (2 : Int32)) hx hb dX2_optionNumber_9 (by decide) ?_
  refine lv_idiv hx hb dX2_optionNumber_10 (by decide) ?_
  refine lv_iconst (v := (2 : Int32)) hx hb dX2_optionNumber_11 (by decide) ?_
  refine lv_irem hx hb dX2_optionNumber_12 (by decide) ?_
  refine lv_topi (fun x1 ex1 => ?_)
  replace h := cz_ltE ex1 h
  refine lv_imul hx hb dX2_optionNumber_13 ?_
  refine lv_iadd hx hb dX2_optionNumber_14 ?_
  refine lv_iload_n hx hb dX2_optionNumber_15 rfl (lv_at hl 0 rfl) ?_
  refine lv_iconst (v := (2 : Int32)) hx hb dX2_optionNumber_16 (by decide) ?_
  refine lv_irem hx hb dX2_optionNumber_17 (by decide) ?_
  refine lv_iadd hx hb dX2_optionNumber_18 ?_
  obtain rfl := cz_i h
  exact hQ _ _ _ _ hP hS dX2_optionNumber_19
set_option maxHeartbeats 4000000 in
set_option maxRecDepth 100000 in
theorem c_X3_add (l : Launch) (D : va_G) (cI : ClassId) (a_o a_o_signs : Nat) (v_o_length : Int32) (f_o_signs : (Nat → Int32)) (w1 : Int32) (w2 : Int64) (n : Nat) (r_v_o_length : Int32) (r_f_o_signs : (Nat → Int32)) (h : f_X3_add n v_o_length f_o_signs w1 w2 = some (r_v_o_length, r_f_o_signs)) : cz_M l yX3_add cX3_add 5 none 0 0 D cI [.ref a_o, .int w1, .long w2] [oX3 a_o a_o_signs v_o_length, aI cI a_o_signs 129 f_o_signs] none [oX3 a_o a_o_signs r_v_o_length, aI cI a_o_signs 129 r_f_o_signs] := by
  refine cz_startV (by decide) (Nat.le_of_ble_eq_true rfl) ?_
  intro p e s m ag below meth c A Q hx hb hml hown hts hK hN hQ H locs hP hD hS ls hl
  replace hown : s.vm.findClass RX3 = some m.cls := hown
  replace hl : lv_has ls 5 [(0, .ref a_o), (1, .int w1), (2, .long w2)] := hl
  unfold f_X3_add at h
  refine lv_iconst (v := (0 : Int32)) hx hb dX3_add_0 (by decide) ?_
  refine lv_istore (lv' := [(4, .int (0 : Int32)), (0, .ref a_o), (1, .int w1), (2, .long w2)]) hx hb dX3_add_1 hl (by decide) rfl (fun ls hl => ?_)
  obtain ⟨z4, hE5, hz6⟩ := cz_x3 h
  have hX7 : ∀ (y10 : Int32) (y11 : Int32) (q12 : (Nat → Int32)) (H : Heap) (locs : List Loc) (ls : Array Slot), z4 = (y10, y11, q12) → va_P D vwCl [oX3 a_o a_o_signs y11, aI cI a_o_signs 129 q12] H → va_D A [oX3 a_o a_o_signs y11, aI cI a_o_signs 129 q12] → va_S A s.heap H locs → lv_has ls 5 [] → W p l e (cz_rm 0 0) s m ag below meth c H locs 0 0 Q (F0 m 72 ls []) := by
    intro y10 y11 q12 H locs ls h hP hD hS hl
    replace h := hz6 _ _ _ h
    obtain ⟨rfl, rfl⟩ := cz_j2 (cz_i h)
    exact hQ _ _ _ _ hP hS dX3_add_72
  clear h
  have hL8 : ∀ (k : Nat) (x1 : Int32) (x2 : Int32) (g3 : (Nat → Int32)) (H : Heap) (locs : List Loc) (ls : Array Slot), f_X3_add_L3 n w1 w2 k x1 x2 g3 = some z4 → va_P D vwCl [oX3 a_o a_o_signs x2, aI cI a_o_signs 129 g3] H → va_D A [oX3 a_o a_o_signs x2, aI cI a_o_signs 129 g3] → va_S A s.heap H locs → lv_has ls 5 [(0, .ref a_o), (1, .int w1), (2, .long w2), (4, .int x1)] → W p l e (cz_rm 0 0) s m ag below meth c H locs 0 0 Q (F0 m 3 ls []) := by
    intro k
    induction k with
    | zero =>
      intro x1 x2 g3 H locs ls h
      rw [f_X3_add_L3] at h
      cases h
    | succ k ih13 =>
      intro x1 x2 g3 H locs ls h hP hD hS hl
      rw [f_X3_add_L3] at h
      refine lv_iload hx hb dX3_add_3 (lv_at hl 3 rfl) ?_
      refine lv_iload_n hx hb dX3_add_5 rfl (lv_at hl 1 rfl) ?_
      refine lv_icmp_ge (tgt := 72) hx hb dX3_add_6 (by decide) (fun c14 => ?_) (fun c14 => ?_)
      · replace h := cz_t c14 h
        exact hX7 _ _ _ _ _ _ (cz_i h).symm hP hD hS (lv_sub hl [] rfl)
      · replace h := cz_f c14 h
        refine lv_iload hx hb dX3_add_9 (lv_at hl 3 rfl) ?_
        refine lv_bipush (v := (8 : Int32)) hx hb dX3_add_11 (by decide) ?_
        refine lv_icmp_ge (tgt := 72) hx hb dX3_add_13 (by decide) (fun c15 => ?_) (fun c15 => ?_)
        · replace h := cz_t c15 h
          exact hX7 _ _ _ _ _ _ (cz_i h).symm hP hD hS (lv_sub hl [] rfl)
        · replace h := cz_f c15 h
          refine lv_aload_n hx hb dX3_add_16 rfl (lv_at hl 0 rfl) ?_
          refine va_get (D := D) (ci := 3) (v := .int x2) (C := RX3) (T := TX3) (N := 2) hx hb hts in_X3 hown hK hP 0 rfl rfl 1 (by decide) (hts _ mw_1_30) (fun _ h9 => h9) rfl dX3_add_17 ?_
          obtain ⟨z21, hE19, hz18⟩ := cz_x2 h
          have hJ20 : ∀ (x16 : Int32) (g17 : (Nat → Int32)) (H : Heap) (locs : List Loc) (ls : Array Slot), z21 = (x16, g17) → va_P D vwCl [oX3 a_o a_o_signs x16, aI cI a_o_signs 129 g17] H → va_D A [oX3 a_o a_o_signs x16, aI cI a_o_signs 129 g17] → va_S A s.heap H locs → lv_has ls 5 [(0, .ref a_o), (1, .int w1), (2, .long w2), (4, .int x1)] → W p l e (cz_rm 0 0) s m ag below meth c H locs 0 0 Q (F0 m 66 ls []) := by
            intro x16 g17 H locs ls h hP hD hS hl
            replace h := hz18 _ _ h
            obtain ⟨x22, ex22⟩ : ∃ z : Int32, z = x1 + (1 : Int32) := ⟨_, rfl⟩
            replace h := cz_ltE ex22 h
            refine lv_iinc (v := x22) (lv' := [(4, .int x22), (0, .ref a_o), (1, .int w1), (2, .long w2)]) hx hb dX3_add_66 hl (k := 3) rfl (by rw [ex22]; rfl) (by decide) rfl (fun ls hl => ?_)
            refine lv_goto (tgt := 3) hx hb dX3_add_69 (by decide) ?_
            exact ih13 _ _ _ _ _ _ h hP hD hS (lv_sub hl [1, 2, 3, 0] rfl)
          clear h
          have h := hE19
          refine lv_if_lt (tgt := 66) hx hb dX3_add_20 (by decide) (fun c23 => ?_) (fun c23 => ?_)
          · replace h := cz_t c23 h
            exact hJ20 _ _ _ _ _ (cz_i h).symm hP hD hS (lv_sub hl [0, 1, 2, 3] rfl)
          · replace h := cz_f c23 h
            refine lv_aload_n hx hb dX3_add_23 rfl (lv_at hl 0 rfl) ?_
            refine va_get (D := D) (ci := 3) (v := .int x2) (C := RX3) (T := TX3) (N := 2) hx hb hts in_X3 hown hK hP 0 rfl rfl 1 (by decide) (hts _ mw_1_30) (fun _ h9 => h9) rfl dX3_add_24 ?_
            refine lv_aload_n hx hb dX3_add_27 rfl (lv_at hl 0 rfl) ?_
            refine va_get (D := D) (ci := 3) (v := .ref a_o_signs) (C := RX3) (T := TX3) (N := 2) hx hb hts in_X3 hown hK hP 0 rfl rfl 0 (by decide) (hts _ mw_1_29) (fun _ h9 => h9) rfl dX3_add_28 ?_
            refine va_alen (v := (129 : Int32)) hx hb hK hP 1 0 rfl rfl rfl dX3_add_31 ?_
            refine lv_icmp_ge (tgt := 66) hx hb dX3_add_32 (by decide) (fun c24 => ?_) (fun c24 => ?_)
            · replace h := cz_t c24 h
              exact hJ20 _ _ _ _ _ (cz_i h).symm hP hD hS (lv_sub hl [0, 1, 2, 3] rfl)
            · replace h := cz_f c24 h
              refine lv_aload_n hx hb dX3_add_35 rfl (lv_at hl 0 rfl) ?_
              refine va_get (D := D) (ci := 3) (v := .ref a_o_signs) (C := RX3) (T := TX3) (N := 2) hx hb hts in_X3 hown hK hP 0 rfl rfl 0 (by decide) (hts _ mw_1_29) (fun _ h9 => h9) rfl dX3_add_36 ?_
              refine lv_aload_n hx hb dX3_add_39 rfl (lv_at hl 0 rfl) ?_
              refine va_get (D := D) (ci := 3) (v := .int x2) (C := RX3) (T := TX3) (N := 2) hx hb hts in_X3 hown hK hP 0 rfl rfl 1 (by decide) (hts _ mw_1_30) (fun _ h9 => h9) rfl dX3_add_40 ?_
              refine lv_lload_n hx hb dX3_add_43 rfl (lv_at hl 2 rfl) ?_
              refine lv_bipush (v := (8 : Int32)) hx hb dX3_add_44 (by decide) ?_
              refine lv_iload hx hb dX3_add_46 (lv_at hl 3 rfl) ?_
              refine lv_imul hx hb dX3_add_48 ?_
              refine lv_lushr hx hb dX3_add_49 rfl ?_
              refine lv_l2i hx hb dX3_add_50 rfl ?_
              refine lv_sipush (v := (255 : Int32)) hx hb dX3_add_51 (by decide) ?_
              refine lv_iand hx hb dX3_add_54 ?_
              refine cz_iast hx hb hK hP hD hS 1 0 rfl rfl (cz_wrE h).1 dX3_add_55 (fun g25 H locs eg25 hP hD hS => ?_)
              replace h := cz_wrK eg25 h
              replace hP : va_P D vwCl [oX3 a_o a_o_signs x2, aI cI a_o_signs 129 g25] H := hP
              replace hD : va_D A [oX3 a_o a_o_signs x2, aI cI a_o_signs 129 g25] := hD
              refine lv_aload_n hx hb dX3_add_56 rfl (lv_at hl 0 rfl) ?_
              refine lv_dup hx hb dX3_add_57 rfl ?_
              refine va_get (D := D) (ci := 3) (v := .int x2) (C := RX3) (T := TX3) (N := 2) hx hb hts in_X3 hown hK hP 0 rfl rfl 1 (by decide) (hts _ mw_1_30) (fun _ h9 => h9) rfl dX3_add_58 ?_
              refine lv_iconst (v := (1 : Int32)) hx hb dX3_add_61 (by decide) ?_
              refine lv_iadd hx hb dX3_add_62 ?_
              refine lv_topi (fun x26 ex26 => ?_)
              replace h := cz_ltE ex26 h
              refine va_put (D := D) (ci := 3) (v := .int x26) (ty := .int) (C := RX3) (T := TX3) (N := 2) hx hb hts in_X3 tyX3 tyX3_ok nmX3 hown hK hP hD hS 0 rfl rfl 1 (by decide) (hts _ mw_1_30) (fun _ h9 => h9) rfl (by decide +kernel) rfl rfl (Nat.le_of_ble_eq_true rfl) dX3_add_63 (fun H locs hP hD hS => ?_)
              replace hP : va_P D vwCl [oX3 a_o a_o_signs x26, aI cI a_o_signs 129 g25] H := hP
              replace hD : va_D A [oX3 a_o a_o_signs x26, aI cI a_o_signs 129 g25] := hD
              exact hJ20 _ _ _ _ _ (cz_i h).symm hP hD hS (lv_sub hl [0, 1, 2, 3] rfl)
  exact hL8 n _ _ _ _ _ _ hE5 hP hD hS (lv_sub hl [1, 2, 3, 0] rfl)
set_option maxHeartbeats 4000000 in
set_option maxRecDepth 100000 in
theorem c_X3_signAt (l : Launch) (D : va_G) (cI : ClassId) (a_o a_o_signs : Nat) (v_o_length : Int32) (f_o_signs : (Nat → Int32)) (w1 : Int32) (n : Nat) (r : Int32) (h : f_X3_signAt n v_o_length f_o_signs w1 = some r) : cz_M l yX3_signAt cX3_signAt 2 (some .int) 0 0 D cI [.ref a_o, .int w1] [oX3 a_o a_o_signs v_o_length, aI cI a_o_signs 129 f_o_signs] (some (.int r)) [oX3 a_o a_o_signs v_o_length, aI cI a_o_signs 129 f_o_signs] := by
  refine cz_startI (by decide) (Nat.le_of_ble_eq_true rfl) ?_
  intro p e s m ag below meth c A Q hx hb hml hown hts hK hN hQ H locs hP hD hS ls hl
  replace hown : s.vm.findClass RX3 = some m.cls := hown
  replace hl : lv_has ls 2 [(0, .ref a_o), (1, .int w1)] := hl
  unfold f_X3_signAt at h
  refine lv_iload_n hx hb dX3_signAt_0 rfl (lv_at hl 1 rfl) ?_
  refine lv_if_lt (tgt := 30) hx hb dX3_signAt_1 (by decide) (fun c1 => ?_) (fun c1 => ?_)
  · replace h := cz_t c1 h
    refine lv_iconst (v := (-1 : Int32)) hx hb dX3_signAt_30 (by decide) ?_
    obtain rfl := cz_i h
    exact hQ _ _ _ _ hP hS dX3_signAt_31
  · replace h := cz_f c1 h
    refine lv_iload_n hx hb dX3_signAt_4 rfl (lv_at hl 1 rfl) ?_
    refine lv_aload_n hx hb dX3_signAt_5 rfl (lv_at hl 0 rfl) ?_
    refine va_get (D := D) (ci := 3) (v := .int v_o_length) (C := RX3) (T := TX3) (N := 2) hx hb hts in_X3 hown hK hP 0 rfl rfl 1 (by decide) (hts _ mw_1_30) (fun _ h9 => h9) rfl dX3_signAt_6 ?_
    refine lv_icmp_ge (tgt := 30) hx hb dX3_signAt_9 (by decide) (fun c2 => ?_) (fun c2 => ?_)
    · replace h := cz_t c2 h
      refine lv_iconst (v := (-1 : Int32)) hx hb dX3_signAt_30 (by decide) ?_
      obtain rfl := cz_i h
      exact hQ _ _ _ _ hP hS dX3_signAt_31
    · replace h := cz_f c2 h
      refine lv_iload_n hx hb dX3_signAt_12 rfl (lv_at hl 1 rfl) ?_
      refine lv_aload_n hx hb dX3_signAt_13 rfl (lv_at hl 0 rfl) ?_
      refine va_get (D := D) (ci := 3) (v := .ref a_o_signs) (C := RX3) (T := TX3) (N := 2) hx hb hts in_X3 hown hK hP 0 rfl rfl 0 (by decide) (hts _ mw_1_29) (fun _ h9 => h9) rfl dX3_signAt_14 ?_
      refine va_alen (v := (129 : Int32)) hx hb hK hP 1 0 rfl rfl rfl dX3_signAt_17 ?_
      refine lv_icmp_ge (tgt := 30) hx hb dX3_signAt_18 (by decide) (fun c3 => ?_) (fun c3 => ?_)
      · replace h := cz_t c3 h
        refine lv_iconst (v := (-1 : Int32)) hx hb dX3_signAt_30 (by decide) ?_
        obtain rfl := cz_i h
        exact hQ _ _ _ _ hP hS dX3_signAt_31
      · replace h := cz_f c3 h
        refine lv_aload_n hx hb dX3_signAt_21 rfl (lv_at hl 0 rfl) ?_
        refine va_get (D := D) (ci := 3) (v := .ref a_o_signs) (C := RX3) (T := TX3) (N := 2) hx hb hts in_X3 hown hK hP 0 rfl rfl 0 (by decide) (hts _ mw_1_29) (fun _ h9 => h9) rfl dX3_signAt_22 ?_
        refine lv_iload_n hx hb dX3_signAt_25 rfl (lv_at hl 1 rfl) ?_
        refine cz_iald hx hb hK hP 1 0 rfl rfl (cz_rdE h).1 dX3_signAt_26 (fun x4 ex4 => ?_)
        replace h := cz_rdK ex4 h
        refine lv_goto (tgt := 31) hx hb dX3_signAt_27 (by decide) ?_
        obtain rfl := cz_i h
        exact hQ _ _ _ _ hP hS dX3_signAt_31
set_option maxHeartbeats 4000000 in
set_option maxRecDepth 100000 in
theorem c_X4_clear (l : Launch) (D : va_G) (cI : ClassId) (a_o a_o_kinds a_o_wellPlaces a_o_wellWorths a_o_rules : Nat) (v_o_wide : Int32) (v_o_high : Int32) (v_o_wells : Int32) (f_o_kinds : (Nat → Int32)) (n : Nat) (r_v_o_wells : Int32) (r_f_o_kinds : (Nat → Int32)) (h : f_X4_clear n v_o_wells f_o_kinds = some (r_v_o_wells, r_f_o_kinds)) : cz_M l yX4_clear cX4_clear 1 none 1 23 D cI [.ref a_o] [oX4 a_o v_o_wide v_o_high v_o_wells a_o_kinds a_o_wellPlaces a_o_wellWorths a_o_rules, aI cI a_o_kinds 120 f_o_kinds] none [oX4 a_o v_o_wide v_o_high r_v_o_wells a_o_kinds a_o_wellPlaces a_o_wellWorths a_o_rules, aI cI a_o_kinds 120 r_f_o_kinds] := by
  refine cz_startV (by decide) (Nat.le_of_ble_eq_true rfl) ?_
  intro p e s m ag below meth c A Q hx hb hml hown hts hK hN hQ H locs hP hD hS ls hl
  replace hown : s.vm.findClass RX4 = some m.cls := hown
  replace hl : lv_has ls 1 [(0, .ref a_o)] := hl
  unfold f_X4_clear at h
  refine lv_aload_n hx hb dX4_clear_0 rfl (lv_at hl 0 rfl) ?_
  refine va_get (D := D) (ci := 4) (v := .ref a_o_kinds) (C := RX4) (T := TX4) (N := 7) hx hb hts in_X4 hown hK hP 0 rfl rfl 3 (by decide) (hts _ mw_1_81) (fun _ h9 => h9) rfl dX4_clear_1 ?_
  refine lv_bipush (v := (8 : Int32)) hx hb dX4_clear_4 (by decide) ?_
  obtain ⟨g1, hc2, h⟩ := cz_e1 h
  refine cz_callS (As := [.ref a_o_kinds, .int (8 : Int32)]) (rest := []) (is := [1]) (isR := [0]) (rs := [oX4 a_o v_o_wide v_o_high v_o_wells a_o_kinds a_o_wellPlaces a_o_wellWorths a_o_rules]) (as := [a_o, a_o_kinds]) (ws1 := [oX4 a_o v_o_wide v_o_high v_o_wells a_o_kinds a_o_wellPlaces a_o_wellWorths a_o_rules, aI cI a_o_kinds 120 g1]) ⟨hx, hb, hml, hown, hts⟩ (c_J7_fill_53178 l D cI a_o_kinds f_o_kinds (8 : Int32) n g1 hc2) mw_1_70 mw_1_71 mw_1_5 mw_1_72 hd_J7_fill_53178 ⟨Nat.le_of_ble_eq_true rfl, Nat.le_of_ble_eq_true rfl⟩ hK hN hP hD hS rfl rfl rfl rfl rfl rfl rfl rfl rfl hl.1 rfl (Nat.le_of_ble_eq_true rfl) dX4_clear_6 ⟨Nat.le_of_ble_eq_true rfl, Nat.le_of_ble_eq_true rfl⟩ (fun H locs hP hD hS => ?_)
  refine W.eq (g2 := F0 m 9 ls []) rfl ?_
  refine lv_aload_n hx hb dX4_clear_9 rfl (lv_at hl 0 rfl) ?_
  refine lv_iconst (v := (0 : Int32)) hx hb dX4_clear_10 (by decide) ?_
  refine va_put (D := D) (ci := 4) (v := .int (0 : Int32)) (ty := .int) (C := RX4) (T := TX4) (N := 7) hx hb hts in_X4 tyX4 tyX4_ok nmX4 hown hK hP hD hS 0 rfl rfl 2 (by decide) (hts _ mw_1_79) (fun _ h9 => h9) rfl (by decide +kernel) rfl rfl (Nat.le_of_ble_eq_true rfl) dX4_clear_11 (fun H locs hP hD hS => ?_)
  replace hP : va_P D vwCl [oX4 a_o v_o_wide v_o_high (0 : Int32) a_o_kinds a_o_wellPlaces a_o_wellWorths a_o_rules, aI cI a_o_kinds 120 g1] H := hP
  replace hD : va_D A [oX4 a_o v_o_wide v_o_high (0 : Int32) a_o_kinds a_o_wellPlaces a_o_wellWorths a_o_rules, aI cI a_o_kinds 120 g1] := hD
  obtain ⟨rfl, rfl⟩ := cz_j2 (cz_i h)
  exact hQ _ _ _ _ hP hS dX4_clear_14
set_option maxHeartbeats 4000000 in
set_option maxRecDepth 100000 in
theorem c_X4_setKind (l : Launch) (D : va_G) (cI : ClassId) (a_o a_o_kinds a_o_wellPlaces a_o_wellWorths a_o_rules : Nat) (v_o_wide : Int32) (v_o_high : Int32) (v_o_wells : Int32) (f_o_kinds : (Nat → Int32)) (w1 : Int32) (w2 : Int32) (n : Nat) (r_f_o_kinds : (Nat → Int32)) (h : f_X4_setKind n f_o_kinds w1 w2 = some r_f_o_kinds) : cz_M l yX4_setKind cX4_setKind 3 none 0 0 D cI [.ref a_o, .int w1, .int w2] [oX4 a_o v_o_wide v_o_high v_o_wells a_o_kinds a_o_wellPlaces a_o_wellWorths a_o_rules, aI cI a_o_kinds 120 f_o_kinds] none [oX4 a_o v_o_wide v_o_high v_o_wells a_o_kinds a_o_wellPlaces a_o_wellWorths a_o_rules, aI cI a_o_kinds 120 r_f_o_kinds] := by
  refine cz_startV (by decide) (Nat.le_of_ble_eq_true rfl) ?_
  intro p e s m ag below meth c A Q hx hb hml hown hts hK hN hQ H locs hP hD hS ls hl
  replace hown : s.vm.findClass RX4 = some m.cls := hown
  replace hl : lv_has ls 3 [(0, .ref a_o), (1, .int w1), (2, .int w2)] := hl
  unfold f_X4_setKind at h
  refine lv_iload_n hx hb dX4_setKind_0 rfl (lv_at hl 1 rfl) ?_
  refine lv_if_lt (tgt := 20) hx hb dX4_setKind_1 (by decide) (fun c1 => ?_) (fun c1 => ?_)
  · replace h := cz_t c1 h
    obtain rfl := cz_i h
    exact hQ _ _ _ _ hP hS dX4_setKind_20
  · replace h := cz_f c1 h
    refine lv_iload_n hx hb dX4_setKind_4 rfl (lv_at hl 1 rfl) ?_
    refine lv_aload_n hx hb dX4_setKind_5 rfl (lv_at hl 0 rfl) ?_
    refine va_get (D := D) (ci := 4) (v := .ref a_o_kinds) (C := RX4) (T := TX4) (N := 7) hx hb hts in_X4 hown hK hP 0 rfl rfl 3 (by decide) (hts _ mw_1_81) (fun _ h9 => h9) rfl dX4_setKind_6 ?_
    refine va_alen (v := (120 : Int32)) hx hb hK hP 1 0 rfl rfl rfl dX4_setKind_9 ?_
    refine lv_icmp_ge (tgt := 20) hx hb dX4_setKind_10 (by decide) (fun c2 => ?_) (fun c2 => ?_)
    · replace h := cz_t c2 h
      obtain rfl := cz_i h
      exact hQ _ _ _ _ hP hS dX4_setKind_20
    · replace h := cz_f c2 h
      refine lv_aload_n hx hb dX4_setKind_13 rfl (lv_at hl 0 rfl) ?_
      refine va_get (D := D) (ci := 4) (v := .ref a_o_kinds) (C := RX4) (T := TX4) (N := 7) hx hb hts in_X4 hown hK hP 0 rfl rfl 3 (by decide) (hts _ mw_1_81) (fun _ h9 => h9) rfl dX4_setKind_14 ?_
      refine lv_iload_n hx hb dX4_setKind_17 rfl (lv_at hl 1 rfl) ?_
      refine lv_iload_n hx hb dX4_setKind_18 rfl (lv_at hl 2 rfl) ?_
      refine cz_iast hx hb hK hP hD hS 1 0 rfl rfl (cz_wrE h).1 dX4_setKind_19 (fun g3 H locs eg3 hP hD hS => ?_)
      replace h := cz_wrK eg3 h
      replace hP : va_P D vwCl [oX4 a_o v_o_wide v_o_high v_o_wells a_o_kinds a_o_wellPlaces a_o_wellWorths a_o_rules, aI cI a_o_kinds 120 g3] H := hP
      replace hD : va_D A [oX4 a_o v_o_wide v_o_high v_o_wells a_o_kinds a_o_wellPlaces a_o_wellWorths a_o_rules, aI cI a_o_kinds 120 g3] := hD
      obtain rfl := cz_i h
      exact hQ _ _ _ _ hP hS dX4_setKind_20
set_option maxHeartbeats 4000000 in
set_option maxRecDepth 100000 in
theorem c_X4_copyFrom (l : Launch) (D : va_G) (cI : ClassId) (a_o a_o_kinds a_o_wellPlaces a_o_wellWorths a_o_rules a_p1 a_p1_kinds a_p1_wellPlaces a_p1_wellWorths a_p1_rules : Nat) (v_o_wide : Int32) (v_o_high : Int32) (v_o_wells : Int32) (f_o_kinds : (Nat → Int32)) (f_o_wellPlaces : (Nat → Int32)) (f_o_wellWorths : (Nat → Int32)) (v_o_rules_mouth : Int32) (v_o_rules_weight : Int32) (v_o_rules_reach : Int32) (v_o_rules_bend : Int32) (v_p1_wide : Int32) (v_p1_high : Int32) (v_p1_wells : Int32) (f_p1_kinds : (Nat → Int32)) (f_p1_wellPlaces : (Nat → Int32)) (f_p1_wellWorths : (Nat → Int32)) (v_p1_rules_mouth : Int32) (v_p1_rules_weight : Int32) (v_p1_rules_reach : Int32) (v_p1_rules_bend : Int32) (n : Nat) (r_v_o_wide : Int32) (r_v_o_high : Int32) (r_v_o_wells : Int32) (r_f_o_kinds : (Nat → Int32)) (r_f_o_wellPlaces : (Nat → Int32)) (r_f_o_wellWorths : (Nat → Int32)) (r_v_o_rules_mouth : Int32) (r_v_o_rules_weight : Int32) (r_v_o_rules_reach : Int32) (r_v_o_rules_bend : Int32) (h : f_X4_copyFrom n v_o_wide v_o_high v_o_wells f_o_kinds f_o_wellPlaces f_o_wellWorths v_o_rules_mouth v_o_rules_weight v_o_rules_reach v_o_rules_bend v_p1_wide v_p1_high v_p1_wells f_p1_kinds f_p1_wellPlaces f_p1_wellWorths v_p1_rules_mouth v_p1_rules_weight v_p1_rules_reach v_p1_rules_bend = some (r_v_o_wide, r_v_o_high, r_v_o_wells, r_f_o_kinds, r_f_o_wellPlaces, r_f_o_wellWorths, r_v_o_rules_mouth, r_v_o_rules_weight, r_v_o_rules_reach, r_v_o_rules_bend)) : cz_M l yX4_copyFrom cX4_copyFrom 3 none 1 21 D cI [.ref a_o, .ref a_p1] [oX4 a_o v_o_wide v_o_high v_o_wells a_o_kinds a_o_wellPlaces a_o_wellWorths a_o_rules, aI cI a_o_kinds 120 f_o_kinds, aI cI a_o_wellPlaces 12 f_o_wellPlaces, aI cI a_o_wellWorths 12 f_o_wellWorths, oX2 a_o_rules v_o_rules_mouth v_o_rules_weight v_o_rules_reach v_o_rules_bend, oX4 a_p1 v_p1_wide v_p1_high v_p1_wells a_p1_kinds a_p1_wellPlaces a_p1_wellWorths a_p1_rules, aI cI a_p1_kinds 120 f_p1_kinds, aI cI a_p1_wellPlaces 12 f_p1_wellPlaces, aI cI a_p1_wellWorths 12 f_p1_wellWorths, oX2 a_p1_rules v_p1_rules_mouth v_p1_rules_weight v_p1_rules_reach v_p1_rules_bend] none [oX4 a_o r_v_o_wide r_v_o_high r_v_o_wells a_o_kinds a_o_wellPlaces a_o_wellWorths a_o_rules, aI cI a_o_kinds 120 r_f_o_kinds, aI cI a_o_wellPlaces 12 r_f_o_wellPlaces, aI cI a_o_wellWorths 12 r_f_o_wellWorths, oX2 a_o_rules r_v_o_rules_mouth r_v_o_rules_weight r_v_o_rules_reach r_v_o_rules_bend, oX4 a_p1 v_p1_wide v_p1_high v_p1_wells a_p1_kinds a_p1_wellPlaces a_p1_wellWorths a_p1_rules, aI cI a_p1_kinds 120 f_p1_kinds, aI cI a_p1_wellPlaces 12 f_p1_wellPlaces, aI cI a_p1_wellWorths 12 f_p1_wellWorths, oX2 a_p1_rules v_p1_rules_mouth v_p1_rules_weight v_p1_rules_reach v_p1_rules_bend] := by
  refine cz_startV (by decide) (Nat.le_of_ble_eq_true rfl) ?_
  intro p e s m ag below meth c A Q hx hb hml hown hts hK hN hQ H locs hP hD hS ls hl
  replace hown : s.vm.findClass RX4 = some m.cls := hown
  replace hl : lv_has ls 3 [(0, .ref a_o), (1, .ref a_p1)] := hl
  unfold f_X4_copyFrom at h
  refine lv_aload_n hx hb dX4_copyFrom_0 rfl (lv_at hl 0 rfl) ?_
  refine lv_aload_n hx hb dX4_copyFrom_1 rfl (lv_at hl 1 rfl) ?_
  refine va_get (D := D) (ci := 4) (v := .int v_p1_wide) (C := RX4) (T := TX4) (N := 7) hx hb hts in_X4 hown hK hP 5 rfl rfl 0 (by decide) (hts _ mw_1_73) (fun _ h9 => h9) rfl dX4_copyFrom_2 ?_
  refine va_put (D := D) (ci := 4) (v := .int v_p1_wide) (ty := .int) (C := RX4) (T := TX4) (N := 7) hx hb hts in_X4 tyX4 tyX4_ok nmX4 hown hK hP hD hS 0 rfl rfl 0 (by decide) (hts _ mw_1_73) (fun _ h9 => h9) rfl (by decide +kernel) rfl rfl (Nat.le_of_ble_eq_true rfl) dX4_copyFrom_5 (fun H locs hP hD hS => ?_)
  replace hP : va_P D vwCl [oX4 a_o v_p1_wide v_o_high v_o_wells a_o_kinds a_o_wellPlaces a_o_wellWorths a_o_rules, aI cI a_o_kinds 120 f_o_kinds, aI cI a_o_wellPlaces 12 f_o_wellPlaces, aI cI a_o_wellWorths 12 f_o_wellWorths, oX2 a_o_rules v_o_rules_mouth v_o_rules_weight v_o_rules_reach v_o_rules_bend, oX4 a_p1 v_p1_wide v_p1_high v_p1_wells a_p1_kinds a_p1_wellPlaces a_p1_wellWorths a_p1_rules, aI cI a_p1_kinds 120 f_p1_kinds, aI cI a_p1_wellPlaces 12 f_p1_wellPlaces, aI cI a_p1_wellWorths 12 f_p1_wellWorths, oX2 a_p1_rules v_p1_rules_mouth v_p1_rules_weight v_p1_rules_reach v_p1_rules_bend] H := hP
  replace hD : va_D A [oX4 a_o v_p1_wide v_o_high v_o_wells a_o_kinds a_o_wellPlaces a_o_wellWorths a_o_rules, aI cI a_o_kinds 120 f_o_kinds, aI cI a_o_wellPlaces 12 f_o_wellPlaces, aI cI a_o_wellWorths 12 f_o_wellWorths, oX2 a_o_rules v_o_rules_mouth v_o_rules_weight v_o_rules_reach v_o_rules_bend, oX4 a_p1 v_p1_wide v_p1_high v_p1_wells a_p1_kinds a_p1_wellPlaces a_p1_wellWorths a_p1_rules, aI cI a_p1_kinds 120 f_p1_kinds, aI cI a_p1_wellPlaces 12 f_p1_wellPlaces, aI cI a_p1_wellWorths 12 f_p1_wellWorths, oX2 a_p1_rules v_p1_rules_mouth v_p1_rules_weight v_p1_rules_reach v_p1_rules_bend] := hD
  refine lv_aload_n hx hb dX4_copyFrom_8 rfl (lv_at hl 0 rfl) ?_
  refine lv_aload_n hx hb dX4_copyFrom_9 rfl (lv_at hl 1 rfl) ?_
  refine va_get (D := D) (ci := 4) (v := .int v_p1_high) (C := RX4) (T := TX4) (N := 7) hx hb hts in_X4 hown hK hP 5 rfl rfl 1 (by decide) (hts _ mw_1_76) (fun _ h9 => h9) rfl dX4_copyFrom_10 ?_
  refine va_put (D := D) (ci := 4) (v := .int v_p1_high) (ty := .int) (C := RX4) (T := TX4) (N := 7) hx hb hts in_X4 tyX4 tyX4_ok nmX4 hown hK hP hD hS 0 rfl rfl 1 (by decide) (hts _ mw_1_76) (fun _ h9 => h9) rfl (by decide +kernel) rfl rfl (Nat.le_of_ble_eq_true rfl) dX4_copyFrom_13 (fun H locs hP hD hS => ?_)
  replace hP : va_P D vwCl [oX4 a_o v_p1_wide v_p1_high v_o_wells a_o_kinds a_o_wellPlaces a_o_wellWorths a_o_rules, aI cI a_o_kinds 120 f_o_kinds, aI cI a_o_wellPlaces 12 f_o_wellPlaces, aI cI a_o_wellWorths 12 f_o_wellWorths, oX2 a_o_rules v_o_rules_mouth v_o_rules_weight v_o_rules_reach v_o_rules_bend, oX4 a_p1 v_p1_wide v_p1_high v_p1_wells a_p1_kinds a_p1_wellPlaces a_p1_wellWorths a_p1_rules, aI cI a_p1_kinds 120 f_p1_kinds, aI cI a_p1_wellPlaces 12 f_p1_wellPlaces, aI cI a_p1_wellWorths 12 f_p1_wellWorths, oX2 a_p1_rules v_p1_rules_mouth v_p1_rules_weight v_p1_rules_reach v_p1_rules_bend] H := hP
  replace hD : va_D A [oX4 a_o v_p1_wide v_p1_high v_o_wells a_o_kinds a_o_wellPlaces a_o_wellWorths a_o_rules, aI cI a_o_kinds 120 f_o_kinds, aI cI a_o_wellPlaces 12 f_o_wellPlaces, aI cI a_o_wellWorths 12 f_o_wellWorths, oX2 a_o_rules v_o_rules_mouth v_o_rules_weight v_o_rules_reach v_o_rules_bend, oX4 a_p1 v_p1_wide v_p1_high v_p1_wells a_p1_kinds a_p1_wellPlaces a_p1_wellWorths a_p1_rules, aI cI a_p1_kinds 120 f_p1_kinds, aI cI a_p1_wellPlaces 12 f_p1_wellPlaces, aI cI a_p1_wellWorths 12 f_p1_wellWorths, oX2 a_p1_rules v_p1_rules_mouth v_p1_rules_weight v_p1_rules_reach v_p1_rules_bend] := hD
  refine lv_aload_n hx hb dX4_copyFrom_16 rfl (lv_at hl 0 rfl) ?_
  refine lv_aload_n hx hb dX4_copyFrom_17 rfl (lv_at hl 1 rfl) ?_
  refine va_get (D := D) (ci := 4) (v := .int v_p1_wells) (C := RX4) (T := TX4) (N := 7) hx hb hts in_X4 hown hK hP 5 rfl rfl 2 (by decide) (hts _ mw_1_79) (fun _ h9 => h9) rfl dX4_copyFrom_18 ?_
  refine va_put (D := D) (ci := 4) (v := .int v_p1_wells) (ty := .int) (C := RX4) (T := TX4) (N := 7) hx hb hts in_X4 tyX4 tyX4_ok nmX4 hown hK hP hD hS 0 rfl rfl 2 (by decide) (hts _ mw_1_79) (fun _ h9 => h9) rfl (by decide +kernel) rfl rfl (Nat.le_of_ble_eq_true rfl) dX4_copyFrom_21 (fun H locs hP hD hS => ?_)
  replace hP : va_P D vwCl [oX4 a_o v_p1_wide v_p1_high v_p1_wells a_o_kinds a_o_wellPlaces a_o_wellWorths a_o_rules, aI cI a_o_kinds 120 f_o_kinds, aI cI a_o_wellPlaces 12 f_o_wellPlaces, aI cI a_o_wellWorths 12 f_o_wellWorths, oX2 a_o_rules v_o_rules_mouth v_o_rules_weight v_o_rules_reach v_o_rules_bend, oX4 a_p1 v_p1_wide v_p1_high v_p1_wells a_p1_kinds a_p1_wellPlaces a_p1_wellWorths a_p1_rules, aI cI a_p1_kinds 120 f_p1_kinds, aI cI a_p1_wellPlaces 12 f_p1_wellPlaces, aI cI a_p1_wellWorths 12 f_p1_wellWorths, oX2 a_p1_rules v_p1_rules_mouth v_p1_rules_weight v_p1_rules_reach v_p1_rules_bend] H := hP
  replace hD : va_D A [oX4 a_o v_p1_wide v_p1_high v_p1_wells a_o_kinds a_o_wellPlaces a_o_wellWorths a_o_rules, aI cI a_o_kinds 120 f_o_kinds, aI cI a_o_wellPlaces 12 f_o_wellPlaces, aI cI a_o_wellWorths 12 f_o_wellWorths, oX2 a_o_rules v_o_rules_mouth v_o_rules_weight v_o_rules_reach v_o_rules_bend, oX4 a_p1 v_p1_wide v_p1_high v_p1_wells a_p1_kinds a_p1_wellPlaces a_p1_wellWorths a_p1_rules, aI cI a_p1_kinds 120 f_p1_kinds, aI cI a_p1_wellPlaces 12 f_p1_wellPlaces, aI cI a_p1_wellWorths 12 f_p1_wellWorths, oX2 a_p1_rules v_p1_rules_mouth v_p1_rules_weight v_p1_rules_reach v_p1_rules_bend] := hD
  refine lv_aload_n hx hb dX4_copyFrom_24 rfl (lv_at hl 0 rfl) ?_
  refine va_get (D := D) (ci := 4) (v := .ref a_o_rules) (C := RX4) (T := TX4) (N := 7) hx hb hts in_X4 hown hK hP 0 rfl rfl 6 (by decide) (hts _ mw_1_84) (fun _ h9 => h9) rfl dX4_copyFrom_25 ?_
  refine lv_aload_n hx hb dX4_copyFrom_28 rfl (lv_at hl 1 rfl) ?_
  refine va_get (D := D) (ci := 4) (v := .ref a_p1_rules) (C := RX4) (T := TX4) (N := 7) hx hb hts in_X4 hown hK hP 5 rfl rfl 6 (by decide) (hts _ mw_1_84) (fun _ h9 => h9) rfl dX4_copyFrom_29 ?_
  obtain ⟨x1, x2, x3, x4, hc5, h⟩ := cz_e4 h
  refine cz_callV (As := [.ref a_p1_rules]) (rest := []) (is := [4, 9]) (isR := [0, 1, 2, 3, 5, 6, 7, 8]) (rs := [oX4 a_o v_p1_wide v_p1_high v_p1_wells a_o_kinds a_o_wellPlaces a_o_wellWorths a_o_rules, aI cI a_o_kinds 120 f_o_kinds, aI cI a_o_wellPlaces 12 f_o_wellPlaces, aI cI a_o_wellWorths 12 f_o_wellWorths, oX4 a_p1 v_p1_wide v_p1_high v_p1_wells a_p1_kinds a_p1_wellPlaces a_p1_wellWorths a_p1_rules, aI cI a_p1_kinds 120 f_p1_kinds, aI cI a_p1_wellPlaces 12 f_p1_wellPlaces, aI cI a_p1_wellWorths 12 f_p1_wellWorths]) (as := [a_o, a_o_kinds, a_o_wellPlaces, a_o_wellWorths, a_o_rules, a_p1, a_p1_kinds, a_p1_wellPlaces, a_p1_wellWorths, a_p1_rules]) (ws1 := [oX4 a_o v_p1_wide v_p1_high v_p1_wells a_o_kinds a_o_wellPlaces a_o_wellWorths a_o_rules, aI cI a_o_kinds 120 f_o_kinds, aI cI a_o_wellPlaces 12 f_o_wellPlaces, aI cI a_o_wellWorths 12 f_o_wellWorths, oX2 a_o_rules x1 x2 x3 x4, oX4 a_p1 v_p1_wide v_p1_high v_p1_wells a_p1_kinds a_p1_wellPlaces a_p1_wellWorths a_p1_rules, aI cI a_p1_kinds 120 f_p1_kinds, aI cI a_p1_wellPlaces 12 f_p1_wellPlaces, aI cI a_p1_wellWorths 12 f_p1_wellWorths, oX2 a_p1_rules v_p1_rules_mouth v_p1_rules_weight v_p1_rules_reach v_p1_rules_bend]) (q0 := 0) (ci := 2) ⟨hx, hb, hml, hown, hts⟩ (c_X2_copyFrom l D cI a_o_rules a_p1_rules v_o_rules_mouth v_o_rules_weight v_o_rules_reach v_o_rules_bend v_p1_rules_mouth v_p1_rules_weight v_p1_rules_reach v_p1_rules_bend  n x1 x2 x3 x4 hc5) mw_3_164 mw_3_165 mw_3_166 mw_1_4 mw_3_167 hd_X2_copyFrom ⟨Nat.le_of_ble_eq_true rfl, Nat.le_of_ble_eq_true rfl⟩ hK hN hP hD hS rfl rfl rfl rfl rfl rfl rfl rfl rfl rfl rfl rfl hl.1 rfl (Nat.le_of_ble_eq_true rfl) dX4_copyFrom_32 ⟨Nat.le_of_ble_eq_true rfl, Nat.le_of_ble_eq_true rfl⟩ (fun H locs hP hD hS => ?_)
  refine W.eq (g2 := F0 m 35 ls []) rfl ?_
  refine lv_iconst (v := (0 : Int32)) hx hb dX4_copyFrom_35 (by decide) ?_
  refine lv_istore_n (lv' := [(2, .int (0 : Int32)), (0, .ref a_o), (1, .ref a_p1)]) hx hb dX4_copyFrom_36 rfl hl (by decide) rfl (fun ls hl => ?_)
  obtain ⟨z8, hE9, hz10⟩ := cz_x2 h
  have hX11 : ∀ (y14 : Int32) (q15 : (Nat → Int32)) (H : Heap) (locs : List Loc) (ls : Array Slot), z8 = (y14, q15) → va_P D vwCl [oX4 a_o v_p1_wide v_p1_high v_p1_wells a_o_kinds a_o_wellPlaces a_o_wellWorths a_o_rules, aI cI a_o_kinds 120 q15, aI cI a_o_wellPlaces 12 f_o_wellPlaces, aI cI a_o_wellWorths 12 f_o_wellWorths, oX2 a_o_rules x1 x2 x3 x4, oX4 a_p1 v_p1_wide v_p1_high v_p1_wells a_p1_kinds a_p1_wellPlaces a_p1_wellWorths a_p1_rules, aI cI a_p1_kinds 120 f_p1_kinds, aI cI a_p1_wellPlaces 12 f_p1_wellPlaces, aI cI a_p1_wellWorths 12 f_p1_wellWorths, oX2 a_p1_rules v_p1_rules_mouth v_p1_rules_weight v_p1_rules_reach v_p1_rules_bend] H → va_D A [oX4 a_o v_p1_wide v_p1_high v_p1_wells a_o_kinds a_o_wellPlaces a_o_wellWorths a_o_rules, aI cI a_o_kinds 120 q15, aI cI a_o_wellPlaces 12 f_o_wellPlaces, aI cI a_o_wellWorths 12 f_o_wellWorths, oX2 a_o_rules x1 x2 x3 x4, oX4 a_p1 v_p1_wide v_p1_high v_p1_wells a_p1_kinds a_p1_wellPlaces a_p1_wellWorths a_p1_rules, aI cI a_p1_kinds 120 f_p1_kinds, aI cI a_p1_wellPlaces 12 f_p1_wellPlaces, aI cI a_p1_wellWorths 12 f_p1_wellWorths, oX2 a_p1_rules v_p1_rules_mouth v_p1_rules_weight v_p1_rules_reach v_p1_rules_bend] → va_S A s.heap H locs → lv_has ls 3 [(0, .ref a_o), (1, .ref a_p1)] → W p l e (cz_rm 1 21) s m ag below meth c H locs 0 0 Q (F0 m 61 ls []) := by
    intro y14 q15 H locs ls h hP hD hS hl
    replace h := hz10 _ _ h
    refine lv_iconst (v := (0 : Int32)) hx hb dX4_copyFrom_61 (by decide) ?_
    refine lv_istore_n (lv' := [(2, .int (0 : Int32)), (0, .ref a_o), (1, .ref a_p1)]) hx hb dX4_copyFrom_62 rfl hl (by decide) rfl (fun ls hl => ?_)
    obtain ⟨z19, hE20, hz21⟩ := cz_x3 h
    have hX22 : ∀ (y25 : Int32) (q26 : (Nat → Int32)) (q27 : (Nat → Int32)) (H : Heap) (locs : List Loc) (ls : Array Slot), z19 = (y25, q26, q27) → va_P D vwCl [oX4 a_o v_p1_wide v_p1_high v_p1_wells a_o_kinds a_o_wellPlaces a_o_wellWorths a_o_rules, aI cI a_o_kinds 120 q15, aI cI a_o_wellPlaces 12 q26, aI cI a_o_wellWorths 12 q27, oX2 a_o_rules x1 x2 x3 x4, oX4 a_p1 v_p1_wide v_p1_high v_p1_wells a_p1_kinds a_p1_wellPlaces a_p1_wellWorths a_p1_rules, aI cI a_p1_kinds 120 f_p1_kinds, aI cI a_p1_wellPlaces 12 f_p1_wellPlaces, aI cI a_p1_wellWorths 12 f_p1_wellWorths, oX2 a_p1_rules v_p1_rules_mouth v_p1_rules_weight v_p1_rules_reach v_p1_rules_bend] H → va_D A [oX4 a_o v_p1_wide v_p1_high v_p1_wells a_o_kinds a_o_wellPlaces a_o_wellWorths a_o_rules, aI cI a_o_kinds 120 q15, aI cI a_o_wellPlaces 12 q26, aI cI a_o_wellWorths 12 q27, oX2 a_o_rules x1 x2 x3 x4, oX4 a_p1 v_p1_wide v_p1_high v_p1_wells a_p1_kinds a_p1_wellPlaces a_p1_wellWorths a_p1_rules, aI cI a_p1_kinds 120 f_p1_kinds, aI cI a_p1_wellPlaces 12 f_p1_wellPlaces, aI cI a_p1_wellWorths 12 f_p1_wellWorths, oX2 a_p1_rules v_p1_rules_mouth v_p1_rules_weight v_p1_rules_reach v_p1_rules_bend] → va_S A s.heap H locs → lv_has ls 3 [] → W p l e (cz_rm 1 21) s m ag below meth c H locs 0 0 Q (F0 m 99 ls []) := by
      intro y25 q26 q27 H locs ls h hP hD hS hl
      replace h := hz21 _ _ _ h
      obtain ⟨rfl, rfl, rfl, rfl, rfl, rfl, rfl, rfl, rfl, rfl⟩ := cz_j10 (cz_i h)
      exact hQ _ _ _ _ hP hS dX4_copyFrom_99
    clear h
    have hL23 : ∀ (k : Nat) (x16 : Int32) (g17 : (Nat → Int32)) (g18 : (Nat → Int32)) (H : Heap) (locs : List Loc) (ls : Array Slot), f_X4_copyFrom_L63 n f_p1_wellPlaces f_p1_wellWorths k x16 g17 g18 = some z19 → va_P D vwCl [oX4 a_o v_p1_wide v_p1_high v_p1_wells a_o_kinds a_o_wellPlaces a_o_wellWorths a_o_rules, aI cI a_o_kinds 120 q15, aI cI a_o_wellPlaces 12 g17, aI cI a_o_wellWorths 12 g18, oX2 a_o_rules x1 x2 x3 x4, oX4 a_p1 v_p1_wide v_p1_high v_p1_wells a_p1_kinds a_p1_wellPlaces a_p1_wellWorths a_p1_rules, aI cI a_p1_kinds 120 f_p1_kinds, aI cI a_p1_wellPlaces 12 f_p1_wellPlaces, aI cI a_p1_wellWorths 12 f_p1_wellWorths, oX2 a_p1_rules v_p1_rules_mouth v_p1_rules_weight v_p1_rules_reach v_p1_rules_bend] H → va_D A [oX4 a_o v_p1_wide v_p1_high v_p1_wells a_o_kinds a_o_wellPlaces a_o_wellWorths a_o_rules, aI cI a_o_kinds 120 q15, aI cI a_o_wellPlaces 12 g17, aI cI a_o_wellWorths 12 g18, oX2 a_o_rules x1 x2 x3 x4, oX4 a_p1 v_p1_wide v_p1_high v_p1_wells a_p1_kinds a_p1_wellPlaces a_p1_wellWorths a_p1_rules, aI cI a_p1_kinds 120 f_p1_kinds, aI cI a_p1_wellPlaces 12 f_p1_wellPlaces, aI cI a_p1_wellWorths 12 f_p1_wellWorths, oX2 a_p1_rules v_p1_rules_mouth v_p1_rules_weight v_p1_rules_reach v_p1_rules_bend] → va_S A s.heap H locs → lv_has ls 3 [(0, .ref a_o), (1, .ref a_p1), (2, .int x16)] → W p l e (cz_rm 1 21) s m ag below meth c H locs 0 0 Q (F0 m 63 ls []) := by
      intro k
      induction k with
      | zero =>
        intro x16 g17 g18 H locs ls h
        rw [f_X4_copyFrom_L63] at h
        cases h
      | succ k ih28 =>
        intro x16 g17 g18 H locs ls h hP hD hS hl
        rw [f_X4_copyFrom_L63] at h
        refine lv_iload_n hx hb dX4_copyFrom_63 rfl (lv_at hl 2 rfl) ?_
        refine lv_bipush (v := (12 : Int32)) hx hb dX4_copyFrom_64 (by decide) ?_
        refine lv_icmp_ge (tgt := 99) hx hb dX4_copyFrom_66 (by decide) (fun c29 => ?_) (fun c29 => ?_)
        · replace h := cz_t c29 h
          exact hX22 _ _ _ _ _ _ (cz_i h).symm hP hD hS (lv_sub hl [] rfl)
        · replace h := cz_f c29 h
          refine lv_aload_n hx hb dX4_copyFrom_69 rfl (lv_at hl 0 rfl) ?_
          refine va_get (D := D) (ci := 4) (v := .ref a_o_wellPlaces) (C := RX4) (T := TX4) (N := 7) hx hb hts in_X4 hown hK hP 0 rfl rfl 4 (by decide) (hts _ mw_1_82) (fun _ h9 => h9) rfl dX4_copyFrom_70 ?_
          refine lv_iload_n hx hb dX4_copyFrom_73 rfl (lv_at hl 2 rfl) ?_
          refine lv_aload_n hx hb dX4_copyFrom_74 rfl (lv_at hl 1 rfl) ?_
          refine va_get (D := D) (ci := 4) (v := .ref a_p1_wellPlaces) (C := RX4) (T := TX4) (N := 7) hx hb hts in_X4 hown hK hP 5 rfl rfl 4 (by decide) (hts _ mw_1_82) (fun _ h9 => h9) rfl dX4_copyFrom_75 ?_
          refine lv_iload_n hx hb dX4_copyFrom_78 rfl (lv_at hl 2 rfl) ?_
          refine cz_iald hx hb hK hP 7 0 rfl rfl (cz_rdE h).1 dX4_copyFrom_79 (fun x30 ex30 => ?_)
          replace h := cz_rdK ex30 h
          refine cz_iast hx hb hK hP hD hS 2 0 rfl rfl (cz_wrE h).1 dX4_copyFrom_80 (fun g31 H locs eg31 hP hD hS => ?_)
          replace h := cz_wrK eg31 h
          replace hP : va_P D vwCl [oX4 a_o v_p1_wide v_p1_high v_p1_wells a_o_kinds a_o_wellPlaces a_o_wellWorths a_o_rules, aI cI a_o_kinds 120 q15, aI cI a_o_wellPlaces 12 g31, aI cI a_o_wellWorths 12 g18, oX2 a_o_rules x1 x2 x3 x4, oX4 a_p1 v_p1_wide v_p1_high v_p1_wells a_p1_kinds a_p1_wellPlaces a_p1_wellWorths a_p1_rules, aI cI a_p1_kinds 120 f_p1_kinds, aI cI a_p1_wellPlaces 12 f_p1_wellPlaces, aI cI a_p1_wellWorths 12 f_p1_wellWorths, oX2 a_p1_rules v_p1_rules_mouth v_p1_rules_weight v_p1_rules_reach v_p1_rules_bend] H := hP
          replace hD : va_D A [oX4 a_o v_p1_wide v_p1_high v_p1_wells a_o_kinds a_o_wellPlaces a_o_wellWorths a_o_rules, aI cI a_o_kinds 120 q15, aI cI a_o_wellPlaces 12 g31, aI cI a_o_wellWorths 12 g18, oX2 a_o_rules x1 x2 x3 x4, oX4 a_p1 v_p1_wide v_p1_high v_p1_wells a_p1_kinds a_p1_wellPlaces a_p1_wellWorths a_p1_rules, aI cI a_p1_kinds 120 f_p1_kinds, aI cI a_p1_wellPlaces 12 f_p1_wellPlaces, aI cI a_p1_wellWorths 12 f_p1_wellWorths, oX2 a_p1_rules v_p1_rules_mouth v_p1_rules_weight v_p1_rules_reach v_p1_rules_bend] := hD
          refine lv_aload_n hx hb dX4_copyFrom_81 rfl (lv_at hl 0 rfl) ?_
          refine va_get (D := D) (ci := 4) (v := .ref a_o_wellWorths) (C := RX4) (T := TX4) (N := 7) hx hb hts in_X4 hown hK hP 0 rfl rfl 5 (by decide) (hts _ mw_1_83) (fun _ h9 => h9) rfl dX4_copyFrom_82 ?_
          refine lv_iload_n hx hb dX4_copyFrom_85 rfl (lv_at hl 2 rfl) ?_
          refine lv_aload_n hx hb dX4_copyFrom_86 rfl (lv_at hl 1 rfl) ?_
          refine va_get (D := D) (ci := 4) (v := .ref a_p1_wellWorths) (C := RX4) (T := TX4) (N := 7) hx hb hts in_X4 hown hK hP 5 rfl rfl 5 (by decide) (hts _ mw_1_83) (fun _ h9 => h9) rfl dX4_copyFrom_87 ?_
          refine lv_iload_n hx hb dX4_copyFrom_90 rfl (lv_at hl 2 rfl) ?_
          refine cz_iald hx hb hK hP 8 0 rfl rfl (cz_rdE h).1 dX4_copyFrom_91 (fun x32 ex32 => ?_)
          replace h := cz_rdK ex32 h
          refine cz_iast hx hb hK hP hD hS 3 0 rfl rfl (cz_wrE h).1 dX4_copyFrom_92 (fun g33 H locs eg33 hP hD hS => ?_)
          replace h := cz_wrK eg33 h
          replace hP : va_P D vwCl [oX4 a_o v_p1_wide v_p1_high v_p1_wells a_o_kinds a_o_wellPlaces a_o_wellWorths a_o_rules, aI cI a_o_kinds 120 q15, aI cI a_o_wellPlaces 12 g31, aI cI a_o_wellWorths 12 g33, oX2 a_o_rules x1 x2 x3 x4, oX4 a_p1 v_p1_wide v_p1_high v_p1_wells a_p1_kinds a_p1_wellPlaces a_p1_wellWorths a_p1_rules, aI cI a_p1_kinds 120 f_p1_kinds, aI cI a_p1_wellPlaces 12 f_p1_wellPlaces, aI cI a_p1_wellWorths 12 f_p1_wellWorths, oX2 a_p1_rules v_p1_rules_mouth v_p1_rules_weight v_p1_rules_reach v_p1_rules_bend] H := hP
          replace hD : va_D A [oX4 a_o v_p1_wide v_p1_high v_p1_wells a_o_kinds a_o_wellPlaces a_o_wellWorths a_o_rules, aI cI a_o_kinds 120 q15, aI cI a_o_wellPlaces 12 g31, aI cI a_o_wellWorths 12 g33, oX2 a_o_rules x1 x2 x3 x4, oX4 a_p1 v_p1_wide v_p1_high v_p1_wells a_p1_kinds a_p1_wellPlaces a_p1_wellWorths a_p1_rules, aI cI a_p1_kinds 120 f_p1_kinds, aI cI a_p1_wellPlaces 12 f_p1_wellPlaces, aI cI a_p1_wellWorths 12 f_p1_wellWorths, oX2 a_p1_rules v_p1_rules_mouth v_p1_rules_weight v_p1_rules_reach v_p1_rules_bend] := hD
          obtain ⟨x34, ex34⟩ : ∃ z : Int32, z = x16 + (1 : Int32) := ⟨_, rfl⟩
          replace h := cz_ltE ex34 h
          refine lv_iinc (v := x34) (lv' := [(2, .int x34), (0, .ref a_o), (1, .ref a_p1)]) hx hb dX4_copyFrom_93 hl (k := 2) rfl (by rw [ex34]; rfl) (by decide) rfl (fun ls hl => ?_)
          refine lv_goto (tgt := 63) hx hb dX4_copyFrom_96 (by decide) ?_
          exact ih28 _ _ _ _ _ _ h hP hD hS (lv_sub hl [1, 2, 0] rfl)
    exact hL23 n _ _ _ _ _ _ hE20 hP hD hS (lv_sub hl [1, 2, 0] rfl)
  clear h
  have hL12 : ∀ (k : Nat) (x6 : Int32) (g7 : (Nat → Int32)) (H : Heap) (locs : List Loc) (ls : Array Slot), f_X4_copyFrom_L37 n f_p1_kinds k x6 g7 = some z8 → va_P D vwCl [oX4 a_o v_p1_wide v_p1_high v_p1_wells a_o_kinds a_o_wellPlaces a_o_wellWorths a_o_rules, aI cI a_o_kinds 120 g7, aI cI a_o_wellPlaces 12 f_o_wellPlaces, aI cI a_o_wellWorths 12 f_o_wellWorths, oX2 a_o_rules x1 x2 x3 x4, oX4 a_p1 v_p1_wide v_p1_high v_p1_wells a_p1_kinds a_p1_wellPlaces a_p1_wellWorths a_p1_rules, aI cI a_p1_kinds 120 f_p1_kinds, aI cI a_p1_wellPlaces 12 f_p1_wellPlaces, aI cI a_p1_wellWorths 12 f_p1_wellWorths, oX2 a_p1_rules v_p1_rules_mouth v_p1_rules_weight v_p1_rules_reach v_p1_rules_bend] H → va_D A [oX4 a_o v_p1_wide v_p1_high v_p1_wells a_o_kinds a_o_wellPlaces a_o_wellWorths a_o_rules, aI cI a_o_kinds 120 g7, aI cI a_o_wellPlaces 12 f_o_wellPlaces, aI cI a_o_wellWorths 12 f_o_wellWorths, oX2 a_o_rules x1 x2 x3 x4, oX4 a_p1 v_p1_wide v_p1_high v_p1_wells a_p1_kinds a_p1_wellPlaces a_p1_wellWorths a_p1_rules, aI cI a_p1_kinds 120 f_p1_kinds, aI cI a_p1_wellPlaces 12 f_p1_wellPlaces, aI cI a_p1_wellWorths 12 f_p1_wellWorths, oX2 a_p1_rules v_p1_rules_mouth v_p1_rules_weight v_p1_rules_reach v_p1_rules_bend] → va_S A s.heap H locs → lv_has ls 3 [(0, .ref a_o), (1, .ref a_p1), (2, .int x6)] → W p l e (cz_rm 1 21) s m ag below meth c H locs 0 0 Q (F0 m 37 ls []) := by
    intro k
    induction k with
    | zero =>
      intro x6 g7 H locs ls h
      rw [f_X4_copyFrom_L37] at h
      cases h
    | succ k ih36 =>
      intro x6 g7 H locs ls h hP hD hS hl
      rw [f_X4_copyFrom_L37] at h
      refine lv_iload_n hx hb dX4_copyFrom_37 rfl (lv_at hl 2 rfl) ?_
      refine lv_bipush (v := (120 : Int32)) hx hb dX4_copyFrom_38 (by decide) ?_
      refine lv_icmp_ge (tgt := 61) hx hb dX4_copyFrom_40 (by decide) (fun c37 => ?_) (fun c37 => ?_)
      · replace h := cz_t c37 h
        exact hX11 _ _ _ _ _ (cz_i h).symm hP hD hS (lv_sub hl [0, 1] rfl)
      · replace h := cz_f c37 h
        refine lv_aload_n hx hb dX4_copyFrom_43 rfl (lv_at hl 0 rfl) ?_
        refine va_get (D := D) (ci := 4) (v := .ref a_o_kinds) (C := RX4) (T := TX4) (N := 7) hx hb hts in_X4 hown hK hP 0 rfl rfl 3 (by decide) (hts _ mw_1_81) (fun _ h9 => h9) rfl dX4_copyFrom_44 ?_
        refine lv_iload_n hx hb dX4_copyFrom_47 rfl (lv_at hl 2 rfl) ?_
        refine lv_aload_n hx hb dX4_copyFrom_48 rfl (lv_at hl 1 rfl) ?_
        refine va_get (D := D) (ci := 4) (v := .ref a_p1_kinds) (C := RX4) (T := TX4) (N := 7) hx hb hts in_X4 hown hK hP 5 rfl rfl 3 (by decide) (hts _ mw_1_81) (fun _ h9 => h9) rfl dX4_copyFrom_49 ?_
        refine lv_iload_n hx hb dX4_copyFrom_52 rfl (lv_at hl 2 rfl) ?_
        refine cz_iald hx hb hK hP 6 0 rfl rfl (cz_rdE h).1 dX4_copyFrom_53 (fun x38 ex38 => ?_)
        replace h := cz_rdK ex38 h
        refine cz_iast hx hb hK hP hD hS 1 0 rfl rfl (cz_wrE h).1 dX4_copyFrom_54 (fun g39 H locs eg39 hP hD hS => ?_)
        replace h := cz_wrK eg39 h
        replace hP : va_P D vwCl [oX4 a_o v_p1_wide v_p1_high v_p1_wells a_o_kinds a_o_wellPlaces a_o_wellWorths a_o_rules, aI cI a_o_kinds 120 g39, aI cI a_o_wellPlaces 12 f_o_wellPlaces, aI cI a_o_wellWorths 12 f_o_wellWorths, oX2 a_o_rules x1 x2 x3 x4, oX4 a_p1 v_p1_wide v_p1_high v_p1_wells a_p1_kinds a_p1_wellPlaces a_p1_wellWorths a_p1_rules, aI cI a_p1_kinds 120 f_p1_kinds, aI cI a_p1_wellPlaces 12 f_p1_wellPlaces, aI cI a_p1_wellWorths 12 f_p1_wellWorths, oX2 a_p1_rules v_p1_rules_mouth v_p1_rules_weight v_p1_rules_reach v_p1_rules_bend] H := hP
        replace hD : va_D A [oX4 a_o v_p1_wide v_p1_high v_p1_wells a_o_kinds a_o_wellPlaces a_o_wellWorths a_o_rules, aI cI a_o_kinds 120 g39, aI cI a_o_wellPlaces 12 f_o_wellPlaces, aI cI a_o_wellWorths 12 f_o_wellWorths, oX2 a_o_rules x1 x2 x3 x4, oX4 a_p1 v_p1_wide v_p1_high v_p1_wells a_p1_kinds a_p1_wellPlaces a_p1_wellWorths a_p1_rules, aI cI a_p1_kinds 120 f_p1_kinds, aI cI a_p1_wellPlaces 12 f_p1_wellPlaces, aI cI a_p1_wellWorths 12 f_p1_wellWorths, oX2 a_p1_rules v_p1_rules_mouth v_p1_rules_weight v_p1_rules_reach v_p1_rules_bend] := hD
        obtain ⟨x40, ex40⟩ : ∃ z : Int32, z = x6 + (1 : Int32) := ⟨_, rfl⟩
        replace h := cz_ltE ex40 h
        refine lv_iinc (v := x40) (lv' := [(2, .int x40), (0, .ref a_o), (1, .ref a_p1)]) hx hb dX4_copyFrom_55 hl (k := 2) rfl (by rw [ex40]; rfl) (by decide) rfl (fun ls hl => ?_)
        refine lv_goto (tgt := 37) hx hb dX4_copyFrom_58 (by decide) ?_
        exact ih36 _ _ _ _ _ h hP hD hS (lv_sub hl [1, 2, 0] rfl)
  exact hL12 n _ _ _ _ _ hE9 hP hD hS (lv_sub hl [1, 2, 0] rfl)
set_option maxHeartbeats 4000000 in
set_option maxRecDepth 100000 in
theorem c_X4_size (l : Launch) (D : va_G) (cI : ClassId) (a_o a_o_kinds a_o_wellPlaces a_o_wellWorths a_o_rules : Nat) (v_o_wide : Int32) (v_o_high : Int32) (v_o_wells : Int32) (n : Nat) (r : Int32) (h : f_X4_size n v_o_wide v_o_high = some r) : cz_M l yX4_size cX4_size 1 (some .int) 0 0 D cI [.ref a_o] [oX4 a_o v_o_wide v_o_high v_o_wells a_o_kinds a_o_wellPlaces a_o_wellWorths a_o_rules] (some (.int r)) [oX4 a_o v_o_wide v_o_high v_o_wells a_o_kinds a_o_wellPlaces a_o_wellWorths a_o_rules] := by
  refine cz_startI (by decide) (Nat.le_of_ble_eq_true rfl) ?_
  intro p e s m ag below meth c A Q hx hb hml hown hts hK hN hQ H locs hP hD hS ls hl
  replace hown : s.vm.findClass RX4 = some m.cls := hown
  replace hl : lv_has ls 1 [(0, .ref a_o)] := hl
  unfold f_X4_size at h
  refine lv_aload_n hx hb dX4_size_0 rfl (lv_at hl 0 rfl) ?_
  refine va_get (D := D) (ci := 4) (v := .int v_o_wide) (C := RX4) (T := TX4) (N := 7) hx hb hts in_X4 hown hK hP 0 rfl rfl 0 (by decide) (hts _ mw_1_73) (fun _ h9 => h9) rfl dX4_size_1 ?_
  refine lv_aload_n hx hb dX4_size_4 rfl (lv_at hl 0 rfl) ?_
  refine va_get (D := D) (ci := 4) (v := .int v_o_high) (C := RX4) (T := TX4) (N := 7) hx hb hts in_X4 hown hK hP 0 rfl rfl 1 (by decide) (hts _ mw_1_76) (fun _ h9 => h9) rfl dX4_size_5 ?_
  refine lv_imul hx hb dX4_size_8 ?_
  obtain rfl := cz_i h
  exact hQ _ _ _ _ hP hS dX4_size_9
set_option maxHeartbeats 4000000 in
set_option maxRecDepth 100000 in
theorem c_X4_placeOf (l : Launch) (D : va_G) (cI : ClassId) (a_o a_o_kinds a_o_wellPlaces a_o_wellWorths a_o_rules : Nat) (v_o_wide : Int32) (v_o_high : Int32) (v_o_wells : Int32) (f_o_kinds : (Nat → Int32)) (w1 : Int32) (n : Nat) (r : Int32) (h : f_X4_placeOf n f_o_kinds w1 = some r) : cz_M l yX4_placeOf cX4_placeOf 3 (some .int) 1 21 D cI [.ref a_o, .int w1] [oX4 a_o v_o_wide v_o_high v_o_wells a_o_kinds a_o_wellPlaces a_o_wellWorths a_o_rules, aI cI a_o_kinds 120 f_o_kinds] (some (.int r)) [oX4 a_o v_o_wide v_o_high v_o_wells a_o_kinds a_o_wellPlaces a_o_wellWorths a_o_rules, aI cI a_o_kinds 120 f_o_kinds] := by
  refine cz_startI (by decide) (Nat.le_of_ble_eq_true rfl) ?_
  intro p e s m ag below meth c A Q hx hb hml hown hts hK hN hQ H locs hP hD hS ls hl
  replace hown : s.vm.findClass RX4 = some m.cls := hown
  replace hl : lv_has ls 3 [(0, .ref a_o), (1, .int w1)] := hl
  unfold f_X4_placeOf at h
  refine lv_iload_n hx hb dX4_placeOf_0 rfl (lv_at hl 1 rfl) ?_
  obtain ⟨z5, hE3, hz2⟩ := cz_x1 h
  have hJ4 : ∀ (x1 : Int32) (H : Heap) (locs : List Loc) (ls : Array Slot), z5 = x1 → va_P D vwCl [oX4 a_o v_o_wide v_o_high v_o_wells a_o_kinds a_o_wellPlaces a_o_wellWorths a_o_rules, aI cI a_o_kinds 120 f_o_kinds] H → va_D A [oX4 a_o v_o_wide v_o_high v_o_wells a_o_kinds a_o_wellPlaces a_o_wellWorths a_o_rules, aI cI a_o_kinds 120 f_o_kinds] → va_S A s.heap H locs → lv_has ls 3 [(0, .ref a_o)] → W p l e (cz_rm 1 21) s m ag below meth c H locs 0 0 Q (F0 m 19 ls [.int x1]) := by
    intro x1 H locs ls h hP hD hS hl
    replace h := hz2 _ h
    refine lv_istore_n (lv' := [(2, .int x1), (0, .ref a_o)]) hx hb dX4_placeOf_19 rfl hl (by decide) rfl (fun ls hl => ?_)
    refine lv_aload_n hx hb dX4_placeOf_20 rfl (lv_at hl 1 rfl) ?_
    refine lv_iload_n hx hb dX4_placeOf_21 rfl (lv_at hl 0 rfl) ?_
    obtain ⟨x6, hc7, h⟩ := cz_e1 h
    refine cz_callV (As := [.int x1]) (rest := []) (is := [0, 1]) (isR := []) (rs := []) (as := [a_o, a_o_kinds]) (ws1 := [oX4 a_o v_o_wide v_o_high v_o_wells a_o_kinds a_o_wellPlaces a_o_wellWorths a_o_rules, aI cI a_o_kinds 120 f_o_kinds]) (q0 := 0) (ci := 4) ⟨hx, hb, hml, hown, hts⟩ (c_X4_kindOf l D cI a_o a_o_kinds a_o_wellPlaces a_o_wellWorths a_o_rules v_o_wide v_o_high v_o_wells f_o_kinds x1 n x6 hc7) mw_2_92 mw_2_93 mw_2_94 mw_1_3 mw_2_95 hd_X4_kindOf ⟨Nat.le_of_ble_eq_true rfl, Nat.le_of_ble_eq_true rfl⟩ hK hN hP hD hS rfl rfl rfl rfl rfl rfl rfl rfl rfl rfl rfl rfl hl.1 rfl (Nat.le_of_ble_eq_true rfl) dX4_placeOf_22 ⟨Nat.le_of_ble_eq_true rfl, Nat.le_of_ble_eq_true rfl⟩ (fun H locs hP hD hS => ?_)
    refine W.eq (g2 := F0 m 25 ls [.int x6]) rfl ?_
    refine lv_bipush (v := (8 : Int32)) hx hb dX4_placeOf_25 (by decide) ?_
    refine lv_icmp_ne (tgt := 34) hx hb dX4_placeOf_27 (by decide) (fun c8 => ?_) (fun c8 => ?_)
    · replace h := cz_f c8 h
      refine lv_iload_n hx hb dX4_placeOf_34 rfl (lv_at hl 0 rfl) ?_
      obtain rfl := cz_i h
      exact hQ _ _ _ _ hP hS dX4_placeOf_35
    · replace h := cz_t c8 h
      refine lv_iconst (v := (-1 : Int32)) hx hb dX4_placeOf_30 (by decide) ?_
      refine lv_goto (tgt := 35) hx hb dX4_placeOf_31 (by decide) ?_
      obtain rfl := cz_i h
      exact hQ _ _ _ _ hP hS dX4_placeOf_35
  clear h
  have h := hE3
  refine lv_if_ge (tgt := 8) hx hb dX4_placeOf_1 (by decide) (fun c9 => ?_) (fun c9 => ?_)
  · replace h := cz_t c9 h
    refine lv_iload_n hx hb dX4_placeOf_8 rfl (lv_at hl 1 rfl) ?_
    refine lv_bipush (v := (100 : Int32)) hx hb dX4_placeOf_9 (by decide) ?_
    refine lv_idiv hx hb dX4_placeOf_11 (by decide) ?_
    refine lv_iload_n hx hb dX4_placeOf_12 rfl (lv_at hl 1 rfl) ?_
    refine lv_bipush (v := (100 : Int32)) hx hb dX4_placeOf_13 (by decide) ?_
    refine lv_irem hx hb dX4_placeOf_15 (by decide) ?_
    obtain ⟨x10, hc11, h⟩ := cz_e1 h
    refine cz_callS (As := [.int (w1 / (100 : Int32)), .int (w1 - w1 / (100 : Int32) * (100 : Int32))]) (rest := []) (is := []) (isR := [0, 1]) (rs := [oX4 a_o v_o_wide v_o_high v_o_wells a_o_kinds a_o_wellPlaces a_o_wellWorths a_o_rules, aI cI a_o_kinds 120 f_o_kinds]) (as := [a_o, a_o_kinds]) (ws1 := [oX4 a_o v_o_wide v_o_high v_o_wells a_o_kinds a_o_wellPlaces a_o_wellWorths a_o_rules, aI cI a_o_kinds 120 f_o_kinds]) ⟨hx, hb, hml, hown, hts⟩ (c_X4_placeAt l D cI   (w1 / (100 : Int32)) (w1 - w1 / (100 : Int32) * (100 : Int32)) n x10 hc11) mw_2_89 mw_2_90 mw_1_3 mw_2_91 hd_X4_placeAt ⟨Nat.le_of_ble_eq_true rfl, Nat.le_of_ble_eq_true rfl⟩ hK hN hP hD hS rfl rfl rfl rfl rfl rfl rfl rfl rfl hl.1 rfl (Nat.le_of_ble_eq_true rfl) dX4_placeOf_16 ⟨Nat.le_of_ble_eq_true rfl, Nat.le_of_ble_eq_true rfl⟩ (fun H locs hP hD hS => ?_)
    refine W.eq (g2 := F0 m 19 ls [.int x10]) rfl ?_
    exact hJ4 _ _ _ _ (cz_i h).symm hP hD hS (lv_sub hl [0] rfl)
  · replace h := cz_f c9 h
    refine lv_iconst (v := (-1 : Int32)) hx hb dX4_placeOf_4 (by decide) ?_
    refine lv_goto (tgt := 19) hx hb dX4_placeOf_5 (by decide) ?_
    exact hJ4 _ _ _ _ (cz_i h).symm hP hD hS (lv_sub hl [0] rfl)
set_option maxHeartbeats 4000000 in
set_option maxRecDepth 100000 in
theorem c_X4_cellsOfSea (l : Launch) (D : va_G) (cI : ClassId) (a_o a_o_kinds a_o_wellPlaces a_o_wellWorths a_o_rules : Nat) (v_o_wide : Int32) (v_o_high : Int32) (v_o_wells : Int32) (f_o_kinds : (Nat → Int32)) (n : Nat) (r : Int32) (h : f_X4_cellsOfSea n f_o_kinds = some r) : cz_M l yX4_cellsOfSea cX4_cellsOfSea 3 (some .int) 0 0 D cI [.ref a_o] [oX4 a_o v_o_wide v_o_high v_o_wells a_o_kinds a_o_wellPlaces a_o_wellWorths a_o_rules, aI cI a_o_kinds 120 f_o_kinds] (some (.int r)) [oX4 a_o v_o_wide v_o_high v_o_wells a_o_kinds a_o_wellPlaces a_o_wellWorths a_o_rules, aI cI a_o_kinds 120 f_o_kinds] := by
  refine cz_startI (by decide) (Nat.le_of_ble_eq_true rfl) ?_
  intro p e s m ag below meth c A Q hx hb hml hown hts hK hN hQ H locs hP hD hS ls hl
  replace hown : s.vm.findClass RX4 = some m.cls := hown
  replace hl : lv_has ls 3 [(0, .ref a_o)] := hl
  unfold f_X4_cellsOfSea at h
  refine lv_iconst (v := (0 : Int32)) hx hb dX4_cellsOfSea_0 (by decide) ?_
  refine lv_istore_n (lv' := [(1, .int (0 : Int32)), (0, .ref a_o)]) hx hb dX4_cellsOfSea_1 rfl hl (by decide) rfl (fun ls hl => ?_)
  refine lv_iconst (v := (0 : Int32)) hx hb dX4_cellsOfSea_2 (by decide) ?_
  refine lv_istore_n (lv' := [(2, .int (0 : Int32)), (1, .int (0 : Int32)), (0, .ref a_o)]) hx hb dX4_cellsOfSea_3 rfl hl (by decide) rfl (fun ls hl => ?_)
  obtain ⟨z3, hE4, hz5⟩ := cz_x2 h
  have hX6 : ∀ (y9 : Int32) (y10 : Int32) (H : Heap) (locs : List Loc) (ls : Array Slot), z3 = (y9, y10) → va_P D vwCl [oX4 a_o v_o_wide v_o_high v_o_wells a_o_kinds a_o_wellPlaces a_o_wellWorths a_o_rules, aI cI a_o_kinds 120 f_o_kinds] H → va_D A [oX4 a_o v_o_wide v_o_high v_o_wells a_o_kinds a_o_wellPlaces a_o_wellWorths a_o_rules, aI cI a_o_kinds 120 f_o_kinds] → va_S A s.heap H locs → lv_has ls 3 [(1, .int y9)] → W p l e (cz_rm 0 0) s m ag below meth c H locs 0 0 Q (F0 m 28 ls []) := by
    intro y9 y10 H locs ls h hP hD hS hl
    replace h := hz5 _ _ h
    refine lv_iload_n hx hb dX4_cellsOfSea_28 rfl (lv_at hl 0 rfl) ?_
    obtain rfl := cz_i h
    exact hQ _ _ _ _ hP hS dX4_cellsOfSea_29
  clear h
  have hL7 : ∀ (k : Nat) (x1 : Int32) (x2 : Int32) (H : Heap) (locs : List Loc) (ls : Array Slot), f_X4_cellsOfSea_L4 n f_o_kinds k x1 x2 = some z3 → va_P D vwCl [oX4 a_o v_o_wide v_o_high v_o_wells a_o_kinds a_o_wellPlaces a_o_wellWorths a_o_rules, aI cI a_o_kinds 120 f_o_kinds] H → va_D A [oX4 a_o v_o_wide v_o_high v_o_wells a_o_kinds a_o_wellPlaces a_o_wellWorths a_o_rules, aI cI a_o_kinds 120 f_o_kinds] → va_S A s.heap H locs → lv_has ls 3 [(0, .ref a_o), (1, .int x1), (2, .int x2)] → W p l e (cz_rm 0 0) s m ag below meth c H locs 0 0 Q (F0 m 4 ls []) := by
    intro k
    induction k with
    | zero =>
      intro x1 x2 H locs ls h
      rw [f_X4_cellsOfSea_L4] at h
      cases h
    | succ k ih11 =>
      intro x1 x2 H locs ls h hP hD hS hl
      rw [f_X4_cellsOfSea_L4] at h
      refine lv_iload_n hx hb dX4_cellsOfSea_4 rfl (lv_at hl 2 rfl) ?_
      refine lv_bipush (v := (120 : Int32)) hx hb dX4_cellsOfSea_5 (by decide) ?_
      refine lv_icmp_ge (tgt := 28) hx hb dX4_cellsOfSea_7 (by decide) (fun c12 => ?_) (fun c12 => ?_)
      · replace h := cz_t c12 h
        exact hX6 _ _ _ _ _ (cz_i h).symm hP hD hS (lv_sub hl [1] rfl)
      · replace h := cz_f c12 h
        refine lv_aload_n hx hb dX4_cellsOfSea_10 rfl (lv_at hl 0 rfl) ?_
        refine va_get (D := D) (ci := 4) (v := .ref a_o_kinds) (C := RX4) (T := TX4) (N := 7) hx hb hts in_X4 hown hK hP 0 rfl rfl 3 (by decide) (hts _ mw_1_81) (fun _ h9 => h9) rfl dX4_cellsOfSea_11 ?_
        refine lv_iload_n hx hb dX4_cellsOfSea_14 rfl (lv_at hl 2 rfl) ?_
        refine cz_iald hx hb hK hP 1 0 rfl rfl (cz_rdE h).1 dX4_cellsOfSea_15 (fun x13 ex13 => ?_)
        replace h := cz_rdK ex13 h
        obtain ⟨z18, hE16, hz15⟩ := cz_x1 h
        have hJ17 : ∀ (x14 : Int32) (H : Heap) (locs : List Loc) (ls : Array Slot), z18 = x14 → va_P D vwCl [oX4 a_o v_o_wide v_o_high v_o_wells a_o_kinds a_o_wellPlaces a_o_wellWorths a_o_rules, aI cI a_o_kinds 120 f_o_kinds] H → va_D A [oX4 a_o v_o_wide v_o_high v_o_wells a_o_kinds a_o_wellPlaces a_o_wellWorths a_o_rules, aI cI a_o_kinds 120 f_o_kinds] → va_S A s.heap H locs → lv_has ls 3 [(0, .ref a_o), (1, .int x14), (2, .int x2)] → W p l e (cz_rm 0 0) s m ag below meth c H locs 0 0 Q (F0 m 22 ls []) := by
          intro x14 H locs ls h hP hD hS hl
          replace h := hz15 _ h
          obtain ⟨x19, ex19⟩ : ∃ z : Int32, z = x2 + (1 : Int32) := ⟨_, rfl⟩
          replace h := cz_ltE ex19 h
          refine lv_iinc (v := x19) (lv' := [(2, .int x19), (0, .ref a_o), (1, .int x14)]) hx hb dX4_cellsOfSea_22 hl (k := 2) rfl (by rw [ex19]; rfl) (by decide) rfl (fun ls hl => ?_)
          refine lv_goto (tgt := 4) hx hb dX4_cellsOfSea_25 (by decide) ?_
          exact ih11 _ _ _ _ _ h hP hD hS (lv_sub hl [1, 2, 0] rfl)
        clear h
        have h := hE16
        refine lv_if_ne (tgt := 22) hx hb dX4_cellsOfSea_16 (by decide) (fun c20 => ?_) (fun c20 => ?_)
        · replace h := cz_f c20 h
          exact hJ17 _ _ _ _ (cz_i h).symm hP hD hS (lv_sub hl [0, 1, 2] rfl)
        · replace h := cz_t c20 h
          obtain ⟨x21, ex21⟩ : ∃ z : Int32, z = x1 + (1 : Int32) := ⟨_, rfl⟩
          replace h := cz_ltE ex21 h
          refine lv_iinc (v := x21) (lv' := [(1, .int x21), (0, .ref a_o), (2, .int x2)]) hx hb dX4_cellsOfSea_19 hl (k := 1) rfl (by rw [ex21]; rfl) (by decide) rfl (fun ls hl => ?_)
          exact hJ17 _ _ _ _ (cz_i h).symm hP hD hS (lv_sub hl [1, 0, 2] rfl)
  exact hL7 n _ _ _ _ _ hE4 hP hD hS (lv_sub hl [2, 1, 0] rfl)
set_option maxHeartbeats 4000000 in
set_option maxRecDepth 100000 in
theorem c_X4_hasSeaBeside (l : Launch) (D : va_G) (cI : ClassId) (a_o a_o_kinds a_o_wellPlaces a_o_wellWorths a_o_rules : Nat) (v_o_wide : Int32) (v_o_high : Int32) (v_o_wells : Int32) (f_o_kinds : (Nat → Int32)) (w1 : Int32) (w2 : Int32) (n : Nat) (r : Int32) (h : f_X4_hasSeaBeside n f_o_kinds w1 w2 = some r) : cz_M l yX4_hasSeaBeside cX4_hasSeaBeside 3 (some .boolean) 1 22 D cI [.ref a_o, .int w1, .int w2] [oX4 a_o v_o_wide v_o_high v_o_wells a_o_kinds a_o_wellPlaces a_o_wellWorths a_o_rules, aI cI a_o_kinds 120 f_o_kinds] (some (.int r)) [oX4 a_o v_o_wide v_o_high v_o_wells a_o_kinds a_o_wellPlaces a_o_wellWorths a_o_rules, aI cI a_o_kinds 120 f_o_kinds] := by
  refine cz_startZ (by decide) (Nat.le_of_ble_eq_true rfl) ?_
  intro p e s m ag below meth c A Q hx hb hml hown hts hK hN hQ H locs hP hD hS ls hl
  replace hown : s.vm.findClass RX4 = some m.cls := hown
  replace hl : lv_has ls 3 [(0, .ref a_o), (1, .int w1), (2, .int w2)] := hl
  unfold f_X4_hasSeaBeside at h
  refine lv_aload_n hx hb dX4_hasSeaBeside_0 rfl (lv_at hl 0 rfl) ?_
  refine lv_iload_n hx hb dX4_hasSeaBeside_1 rfl (lv_at hl 1 rfl) ?_
  refine lv_iconst (v := (1 : Int32)) hx hb dX4_hasSeaBeside_2 (by decide) ?_
  refine lv_isub hx hb dX4_hasSeaBeside_3 ?_
  refine lv_iload_n hx hb dX4_hasSeaBeside_4 rfl (lv_at hl 2 rfl) ?_
  obtain ⟨x1, hc2, h⟩ := cz_e1 h
  refine cz_callV (As := [.int (w1 - (1 : Int32)), .int w2]) (rest := []) (is := [0, 1]) (isR := []) (rs := []) (as := [a_o, a_o_kinds]) (ws1 := [oX4 a_o v_o_wide v_o_high v_o_wells a_o_kinds a_o_wellPlaces a_o_wellWorths a_o_rules, aI cI a_o_kinds 120 f_o_kinds]) (q0 := 0) (ci := 4) ⟨hx, hb, hml, hown, hts⟩ (c_X4_kindAt l D cI a_o a_o_kinds a_o_wellPlaces a_o_wellWorths a_o_rules v_o_wide v_o_high v_o_wells f_o_kinds (w1 - (1 : Int32)) w2 n x1 hc2) mw_3_5 mw_2_135 mw_2_136 mw_1_3 mw_2_137 hd_X4_kindAt ⟨Nat.le_of_ble_eq_true rfl, Nat.le_of_ble_eq_true rfl⟩ hK hN hP hD hS rfl rfl rfl rfl rfl rfl rfl rfl rfl rfl rfl rfl hl.1 rfl (Nat.le_of_ble_eq_true rfl) dX4_hasSeaBeside_5 ⟨Nat.le_of_ble_eq_true rfl, Nat.le_of_ble_eq_true rfl⟩ (fun H locs hP hD hS => ?_)
  refine W.eq (g2 := F0 m 8 ls [.int x1]) rfl ?_
  refine lv_if_eq (tgt := 44) hx hb dX4_hasSeaBeside_8 (by decide) (fun c3 => ?_) (fun c3 => ?_)
  · replace h := cz_t c3 h
    refine lv_iconst (v := (1 : Int32)) hx hb dX4_hasSeaBeside_44 (by decide) ?_
    refine lv_goto (tgt := 49) hx hb dX4_hasSeaBeside_45 (by decide) ?_
    obtain rfl := cz_i h
    exact hQ _ _ _ _ (by decide) hP hS dX4_hasSeaBeside_49
  · replace h := cz_f c3 h
    refine lv_aload_n hx hb dX4_hasSeaBeside_11 rfl (lv_at hl 0 rfl) ?_
    refine lv_iload_n hx hb dX4_hasSeaBeside_12 rfl (lv_at hl 1 rfl) ?_
    refine lv_iconst (v := (1 : Int32)) hx hb dX4_hasSeaBeside_13 (by decide) ?_
    refine lv_iadd hx hb dX4_hasSeaBeside_14 ?_
    refine lv_iload_n hx hb dX4_hasSeaBeside_15 rfl (lv_at hl 2 rfl) ?_
    obtain ⟨x4, hc5, h⟩ := cz_e1 h
    refine cz_callV (As := [.int (w1 + (1 : Int32)), .int w2]) (rest := []) (is := [0, 1]) (isR := []) (rs := []) (as := [a_o, a_o_kinds]) (ws1 := [oX4 a_o v_o_wide v_o_high v_o_wells a_o_kinds a_o_wellPlaces a_o_wellWorths a_o_rules, aI cI a_o_kinds 120 f_o_kinds]) (q0 := 0) (ci := 4) ⟨hx, hb, hml, hown, hts⟩ (c_X4_kindAt l D cI a_o a_o_kinds a_o_wellPlaces a_o_wellWorths a_o_rules v_o_wide v_o_high v_o_wells f_o_kinds (w1 + (1 : Int32)) w2 n x4 hc5) mw_3_5 mw_2_135 mw_2_136 mw_1_3 mw_2_137 hd_X4_kindAt ⟨Nat.le_of_ble_eq_true rfl, Nat.le_of_ble_eq_true rfl⟩ hK hN hP hD hS rfl rfl rfl rfl rfl rfl rfl rfl rfl rfl rfl rfl hl.1 rfl (Nat.le_of_ble_eq_true rfl) dX4_hasSeaBeside_16 ⟨Nat.le_of_ble_eq_true rfl, Nat.le_of_ble_eq_true rfl⟩ (fun H locs hP hD hS => ?_)
    refine W.eq (g2 := F0 m 19 ls [.int x4]) rfl ?_
    refine lv_if_eq (tgt := 44) hx hb dX4_hasSeaBeside_19 (by decide) (fun c6 => ?_) (fun c6 => ?_)
    · replace h := cz_t c6 h
      refine lv_iconst (v := (1 : Int32)) hx hb dX4_hasSeaBeside_44 (by decide) ?_
      refine lv_goto (tgt := 49) hx hb dX4_hasSeaBeside_45 (by decide) ?_
      obtain rfl := cz_i h
      exact hQ _ _ _ _ (by decide) hP hS dX4_hasSeaBeside_49
    · replace h := cz_f c6 h
      refine lv_aload_n hx hb dX4_hasSeaBeside_22 rfl (lv_at hl 0 rfl) ?_
      refine lv_iload_n hx hb dX4_hasSeaBeside_23 rfl (lv_at hl 1 rfl) ?_
      refine lv_iload_n hx hb dX4_hasSeaBeside_24 rfl (lv_at hl 2 rfl) ?_
      refine lv_iconst (v := (1 : Int32)) hx hb dX4_hasSeaBeside_25 (by decide) ?_
      refine lv_isub hx hb dX4_hasSeaBeside_26 ?_
      obtain ⟨x7, hc8, h⟩ := cz_e1 h
      refine cz_callV (As := [.int w1, .int (w2 - (1 : Int32))]) (rest := []) (is := [0, 1]) (isR := []) (rs := []) (as := [a_o, a_o_kinds]) (ws1 := [oX4 a_o v_o_wide v_o_high v_o_wells a_o_kinds a_o_wellPlaces a_o_wellWorths a_o_rules, aI cI a_o_kinds 120 f_o_kinds]) (q0 := 0) (ci := 4) ⟨hx, hb, hml, hown, hts⟩ (c_X4_kindAt l D cI a_o a_o_kinds a_o_wellPlaces a_o_wellWorths a_o_rules v_o_wide v_o_high v_o_wells f_o_kinds w1 (w2 - (1 : Int32)) n x7 hc8) mw_3_5 mw_2_135 mw_2_136 mw_1_3 mw_2_137 hd_X4_kindAt ⟨Nat.le_of_ble_eq_true rfl, Nat.le_of_ble_eq_true rfl⟩ hK hN hP hD hS rfl rfl rfl rfl rfl rfl rfl rfl rfl rfl rfl rfl hl.1 rfl (Nat.le_of_ble_eq_true rfl) dX4_hasSeaBeside_27 ⟨Nat.le_of_ble_eq_true rfl, Nat.le_of_ble_eq_true rfl⟩ (fun H locs hP hD hS => ?_)
      refine W.eq (g2 := F0 m 30 ls [.int x7]) rfl ?_
      refine lv_if_eq (tgt := 44) hx hb dX4_hasSeaBeside_30 (by decide) (fun c9 => ?_) (fun c9 => ?_)
      · replace h := cz_t c9 h
        refine lv_iconst (v := (1 : Int32)) hx hb dX4_hasSeaBeside_44 (by decide) ?_
        refine lv_goto (tgt := 49) hx hb dX4_hasSeaBeside_45 (by decide) ?_
        obtain rfl := cz_i h
        exact hQ _ _ _ _ (by decide) hP hS dX4_hasSeaBeside_49
      · replace h := cz_f c9 h
        refine lv_aload_n hx hb dX4_hasSeaBeside_33 rfl (lv_at hl 0 rfl) ?_
        refine lv_iload_n hx hb dX4_hasSeaBeside_34 rfl (lv_at hl 1 rfl) ?_
        refine lv_iload_n hx hb dX4_hasSeaBeside_35 rfl (lv_at hl 2 rfl) ?_
        refine lv_iconst (v := (1 : Int32)) hx hb dX4_hasSeaBeside_36 (by decide) ?_
        refine lv_iadd hx hb dX4_hasSeaBeside_37 ?_
        obtain ⟨x10, hc11, h⟩ := cz_e1 h
        refine cz_callV (As := [.int w1, .int (w2 + (1 : Int32))]) (rest := []) (is := [0, 1]) (isR := []) (rs := []) (as := [a_o, a_o_kinds]) (ws1 := [oX4 a_o v_o_wide v_o_high v_o_wells a_o_kinds a_o_wellPlaces a_o_wellWorths a_o_rules, aI cI a_o_kinds 120 f_o_kinds]) (q0 := 0) (ci := 4) ⟨hx, hb, hml, hown, hts⟩ (c_X4_kindAt l D cI a_o a_o_kinds a_o_wellPlaces a_o_wellWorths a_o_rules v_o_wide v_o_high v_o_wells f_o_kinds w1 (w2 + (1 : Int32)) n x10 hc11) mw_3_5 mw_2_135 mw_2_136 mw_1_3 mw_2_137 hd_X4_kindAt ⟨Nat.le_of_ble_eq_true rfl, Nat.le_of_ble_eq_true rfl⟩ hK hN hP hD hS rfl rfl rfl rfl rfl rfl rfl rfl rfl rfl rfl rfl hl.1 rfl (Nat.le_of_ble_eq_true rfl) dX4_hasSeaBeside_38 ⟨Nat.le_of_ble_eq_true rfl, Nat.le_of_ble_eq_true rfl⟩ (fun H locs hP hD hS => ?_)
        refine W.eq (g2 := F0 m 41 ls [.int x10]) rfl ?_
        refine lv_if_ne (tgt := 48) hx hb dX4_hasSeaBeside_41 (by decide) (fun c12 => ?_) (fun c12 => ?_)
        · replace h := cz_f c12 h
          refine lv_iconst (v := (0 : Int32)) hx hb dX4_hasSeaBeside_48 (by decide) ?_
          obtain rfl := cz_i h
          exact hQ _ _ _ _ (by decide) hP hS dX4_hasSeaBeside_49
        · replace h := cz_t c12 h
          refine lv_iconst (v := (1 : Int32)) hx hb dX4_hasSeaBeside_44 (by decide) ?_
          refine lv_goto (tgt := 49) hx hb dX4_hasSeaBeside_45 (by decide) ?_
          obtain rfl := cz_i h
          exact hQ _ _ _ _ (by decide) hP hS dX4_hasSeaBeside_49
set_option maxHeartbeats 4000000 in
set_option maxRecDepth 100000 in
theorem c_X4_shoreOf (l : Launch) (D : va_G) (cI : ClassId) (a_o a_o_kinds a_o_wellPlaces a_o_wellWorths a_o_rules : Nat) (v_o_wide : Int32) (v_o_high : Int32) (v_o_wells : Int32) (f_o_kinds : (Nat → Int32)) (w1 : Int32) (n : Nat) (r : Int32) (h : f_X4_shoreOf n f_o_kinds w1 = some r) : cz_M l yX4_shoreOf cX4_shoreOf 4 (some .int) 2 44 D cI [.ref a_o, .int w1] [oX4 a_o v_o_wide v_o_high v_o_wells a_o_kinds a_o_wellPlaces a_o_wellWorths a_o_rules, aI cI a_o_kinds 120 f_o_kinds] (some (.int r)) [oX4 a_o v_o_wide v_o_high v_o_wells a_o_kinds a_o_wellPlaces a_o_wellWorths a_o_rules, aI cI a_o_kinds 120 f_o_kinds] := by
  refine cz_startI (by decide) (Nat.le_of_ble_eq_true rfl) ?_
  intro p e s m ag below meth c A Q hx hb hml hown hts hK hN hQ H locs hP hD hS ls hl
  replace hown : s.vm.findClass RX4 = some m.cls := hown
  replace hl : lv_has ls 4 [(0, .ref a_o), (1, .int w1)] := hl
  unfold f_X4_shoreOf at h
  refine lv_iconst (v := (0 : Int32)) hx hb dX4_shoreOf_0 (by decide) ?_
  refine lv_istore_n (lv' := [(2, .int (0 : Int32)), (0, .ref a_o), (1, .int w1)]) hx hb dX4_shoreOf_1 rfl hl (by decide) rfl (fun ls hl => ?_)
  refine lv_iconst (v := (0 : Int32)) hx hb dX4_shoreOf_2 (by decide) ?_
  refine lv_istore_n (lv' := [(3, .int (0 : Int32)), (2, .int (0 : Int32)), (0, .ref a_o), (1, .int w1)]) hx hb dX4_shoreOf_3 rfl hl (by decide) rfl (fun ls hl => ?_)
  obtain ⟨z3, hE4, hz5⟩ := cz_x2 h
  have hX6 : ∀ (y9 : Int32) (y10 : Int32) (H : Heap) (locs : List Loc) (ls : Array Slot), z3 = (y9, y10) → va_P D vwCl [oX4 a_o v_o_wide v_o_high v_o_wells a_o_kinds a_o_wellPlaces a_o_wellWorths a_o_rules, aI cI a_o_kinds 120 f_o_kinds] H → va_D A [oX4 a_o v_o_wide v_o_high v_o_wells a_o_kinds a_o_wellPlaces a_o_wellWorths a_o_rules, aI cI a_o_kinds 120 f_o_kinds] → va_S A s.heap H locs → lv_has ls 4 [(2, .int y9)] → W p l e (cz_rm 2 44) s m ag below meth c H locs 0 0 Q (F0 m 46 ls []) := by
    intro y9 y10 H locs ls h hP hD hS hl
    replace h := hz5 _ _ h
    refine lv_iload_n hx hb dX4_shoreOf_46 rfl (lv_at hl 0 rfl) ?_
    obtain rfl := cz_i h
    exact hQ _ _ _ _ hP hS dX4_shoreOf_47
  clear h
  have hL7 : ∀ (k : Nat) (x1 : Int32) (x2 : Int32) (H : Heap) (locs : List Loc) (ls : Array Slot), f_X4_shoreOf_L4 n f_o_kinds w1 k x1 x2 = some z3 → va_P D vwCl [oX4 a_o v_o_wide v_o_high v_o_wells a_o_kinds a_o_wellPlaces a_o_wellWorths a_o_rules, aI cI a_o_kinds 120 f_o_kinds] H → va_D A [oX4 a_o v_o_wide v_o_high v_o_wells a_o_kinds a_o_wellPlaces a_o_wellWorths a_o_rules, aI cI a_o_kinds 120 f_o_kinds] → va_S A s.heap H locs → lv_has ls 4 [(0, .ref a_o), (1, .int w1), (2, .int x1), (3, .int x2)] → W p l e (cz_rm 2 44) s m ag below meth c H locs 0 0 Q (F0 m 4 ls []) := by
    intro k
    induction k with
    | zero =>
      intro x1 x2 H locs ls h
      rw [f_X4_shoreOf_L4] at h
      cases h
    | succ k ih11 =>
      intro x1 x2 H locs ls h hP hD hS hl
      rw [f_X4_shoreOf_L4] at h
      refine lv_iload_n hx hb dX4_shoreOf_4 rfl (lv_at hl 3 rfl) ?_
      refine lv_bipush (v := (120 : Int32)) hx hb dX4_shoreOf_5 (by decide) ?_
      refine lv_icmp_ge (tgt := 46) hx hb dX4_shoreOf_7 (by decide) (fun c12 => ?_) (fun c12 => ?_)
      · replace h := cz_t c12 h
        exact hX6 _ _ _ _ _ (cz_i h).symm hP hD hS (lv_sub hl [2] rfl)
      · replace h := cz_f c12 h
        refine lv_aload_n hx hb dX4_shoreOf_10 rfl (lv_at hl 0 rfl) ?_
        refine va_get (D := D) (ci := 4) (v := .ref a_o_kinds) (C := RX4) (T := TX4) (N := 7) hx hb hts in_X4 hown hK hP 0 rfl rfl 3 (by decide) (hts _ mw_1_81) (fun _ h9 => h9) rfl dX4_shoreOf_11 ?_
        refine lv_iload_n hx hb dX4_shoreOf_14 rfl (lv_at hl 3 rfl) ?_
        refine cz_iald hx hb hK hP 1 0 rfl rfl (cz_rdE h).1 dX4_shoreOf_15 (fun x13 ex13 => ?_)
        replace h := cz_rdK ex13 h
        refine lv_iconst (v := (1 : Int32)) hx hb dX4_shoreOf_16 (by decide) ?_
        refine lv_iload_n hx hb dX4_shoreOf_17 rfl (lv_at hl 1 rfl) ?_
        refine lv_iadd hx hb dX4_shoreOf_18 ?_
        obtain ⟨z18, hE16, hz15⟩ := cz_x1 h
        have hJ17 : ∀ (x14 : Int32) (H : Heap) (locs : List Loc) (ls : Array Slot), z18 = x14 → va_P D vwCl [oX4 a_o v_o_wide v_o_high v_o_wells a_o_kinds a_o_wellPlaces a_o_wellWorths a_o_rules, aI cI a_o_kinds 120 f_o_kinds] H → va_D A [oX4 a_o v_o_wide v_o_high v_o_wells a_o_kinds a_o_wellPlaces a_o_wellWorths a_o_rules, aI cI a_o_kinds 120 f_o_kinds] → va_S A s.heap H locs → lv_has ls 4 [(0, .ref a_o), (1, .int w1), (2, .int x14), (3, .int x2)] → W p l e (cz_rm 2 44) s m ag below meth c H locs 0 0 Q (F0 m 40 ls []) := by
          intro x14 H locs ls h hP hD hS hl
          replace h := hz15 _ h
          obtain ⟨x19, ex19⟩ : ∃ z : Int32, z = x2 + (1 : Int32) := ⟨_, rfl⟩
          replace h := cz_ltE ex19 h
          refine lv_iinc (v := x19) (lv' := [(3, .int x19), (0, .ref a_o), (1, .int w1), (2, .int x14)]) hx hb dX4_shoreOf_40 hl (k := 3) rfl (by rw [ex19]; rfl) (by decide) rfl (fun ls hl => ?_)
          refine lv_goto (tgt := 4) hx hb dX4_shoreOf_43 (by decide) ?_
          exact ih11 _ _ _ _ _ h hP hD hS (lv_sub hl [1, 2, 3, 0] rfl)
        clear h
        have h := hE16
        refine lv_icmp_ne (tgt := 40) hx hb dX4_shoreOf_19 (by decide) (fun c20 => ?_) (fun c20 => ?_)
        · replace h := cz_f c20 h
          exact hJ17 _ _ _ _ (cz_i h).symm hP hD hS (lv_sub hl [0, 1, 2, 3] rfl)
        · replace h := cz_t c20 h
          refine lv_aload_n hx hb dX4_shoreOf_22 rfl (lv_at hl 0 rfl) ?_
          refine lv_iload_n hx hb dX4_shoreOf_23 rfl (lv_at hl 3 rfl) ?_
          refine lv_bipush (v := (12 : Int32)) hx hb dX4_shoreOf_24 (by decide) ?_
          refine lv_irem hx hb dX4_shoreOf_26 (by decide) ?_
          refine lv_iload_n hx hb dX4_shoreOf_27 rfl (lv_at hl 3 rfl) ?_
          refine lv_bipush (v := (12 : Int32)) hx hb dX4_shoreOf_28 (by decide) ?_
          refine lv_idiv hx hb dX4_shoreOf_30 (by decide) ?_
          obtain ⟨x21, hc22, h⟩ := cz_e1 h
          refine cz_callV (As := [.int (x2 - x2 / (12 : Int32) * (12 : Int32)), .int (x2 / (12 : Int32))]) (rest := []) (is := [0, 1]) (isR := []) (rs := []) (as := [a_o, a_o_kinds]) (ws1 := [oX4 a_o v_o_wide v_o_high v_o_wells a_o_kinds a_o_wellPlaces a_o_wellWorths a_o_rules, aI cI a_o_kinds 120 f_o_kinds]) (q0 := 0) (ci := 4) ⟨hx, hb, hml, hown, hts⟩ (c_X4_hasSeaBeside l D cI a_o a_o_kinds a_o_wellPlaces a_o_wellWorths a_o_rules v_o_wide v_o_high v_o_wells f_o_kinds (x2 - x2 / (12 : Int32) * (12 : Int32)) (x2 / (12 : Int32)) n x21 hc22) mw_3_1 mw_3_2 mw_3_3 mw_1_3 mw_3_4 hd_X4_hasSeaBeside ⟨Nat.le_of_ble_eq_true rfl, Nat.le_of_ble_eq_true rfl⟩ hK hN hP hD hS rfl rfl rfl rfl rfl rfl rfl rfl rfl rfl rfl rfl hl.1 rfl (Nat.le_of_ble_eq_true rfl) dX4_shoreOf_31 ⟨Nat.le_of_ble_eq_true rfl, Nat.le_of_ble_eq_true rfl⟩ (fun H locs hP hD hS => ?_)
          refine W.eq (g2 := F0 m 34 ls [.int x21]) rfl ?_
          refine lv_if_eq (tgt := 40) hx hb dX4_shoreOf_34 (by decide) (fun c23 => ?_) (fun c23 => ?_)
          · replace h := cz_t c23 h
            exact hJ17 _ _ _ _ (cz_i h).symm hP hD hS (lv_sub hl [0, 1, 2, 3] rfl)
          · replace h := cz_f c23 h
            obtain ⟨x24, ex24⟩ : ∃ z : Int32, z = x1 + (1 : Int32) := ⟨_, rfl⟩
            replace h := cz_ltE ex24 h
            refine lv_iinc (v := x24) (lv' := [(2, .int x24), (0, .ref a_o), (1, .int w1), (3, .int x2)]) hx hb dX4_shoreOf_37 hl (k := 2) rfl (by rw [ex24]; rfl) (by decide) rfl (fun ls hl => ?_)
            exact hJ17 _ _ _ _ (cz_i h).symm hP hD hS (lv_sub hl [1, 2, 0, 3] rfl)
  exact hL7 n _ _ _ _ _ hE4 hP hD hS (lv_sub hl [2, 3, 1, 0] rfl)
set_option maxHeartbeats 4000000 in
set_option maxRecDepth 100000 in
theorem c_X4_addWell (l : Launch) (D : va_G) (cI : ClassId) (a_o a_o_wellPlaces a_o_wellWorths a_o_kinds a_o_rules : Nat) (v_o_wide : Int32) (v_o_high : Int32) (v_o_wells : Int32) (f_o_wellPlaces : (Nat → Int32)) (f_o_wellWorths : (Nat → Int32)) (w1 : Int32) (w2 : Int32) (n : Nat) (r_v_o_wells : Int32) (r_f_o_wellPlaces : (Nat → Int32)) (r_f_o_wellWorths : (Nat → Int32)) (h : f_X4_addWell n v_o_wells f_o_wellPlaces f_o_wellWorths w1 w2 = some (r_v_o_wells, r_f_o_wellPlaces, r_f_o_wellWorths)) : cz_M l yX4_addWell cX4_addWell 3 none 0 0 D cI [.ref a_o, .int w1, .int w2] [oX4 a_o v_o_wide v_o_high v_o_wells a_o_kinds a_o_wellPlaces a_o_wellWorths a_o_rules, aI cI a_o_wellPlaces 12 f_o_wellPlaces, aI cI a_o_wellWorths 12 f_o_wellWorths] none [oX4 a_o v_o_wide v_o_high r_v_o_wells a_o_kinds a_o_wellPlaces a_o_wellWorths a_o_rules, aI cI a_o_wellPlaces 12 r_f_o_wellPlaces, aI cI a_o_wellWorths 12 r_f_o_wellWorths] := by
  refine cz_startV (by decide) (Nat.le_of_ble_eq_true rfl) ?_
  intro p e s m ag below meth c A Q hx hb hml hown hts hK hN hQ H locs hP hD hS ls hl
  replace hown : s.vm.findClass RX4 = some m.cls := hown
  replace hl : lv_has ls 3 [(0, .ref a_o), (1, .int w1), (2, .int w2)] := hl
  unfold f_X4_addWell at h
  refine lv_aload_n hx hb dX4_addWell_0 rfl (lv_at hl 0 rfl) ?_
  refine va_get (D := D) (ci := 4) (v := .int v_o_wells) (C := RX4) (T := TX4) (N := 7) hx hb hts in_X4 hown hK hP 0 rfl rfl 2 (by decide) (hts _ mw_1_79) (fun _ h9 => h9) rfl dX4_addWell_1 ?_
  refine lv_if_lt (tgt := 46) hx hb dX4_addWell_4 (by decide) (fun c1 => ?_) (fun c1 => ?_)
  · replace h := cz_t c1 h
    obtain ⟨rfl, rfl, rfl⟩ := cz_j3 (cz_i h)
    exact hQ _ _ _ _ hP hS dX4_addWell_46
  · replace h := cz_f c1 h
    refine lv_aload_n hx hb dX4_addWell_7 rfl (lv_at hl 0 rfl) ?_
    refine va_get (D := D) (ci := 4) (v := .int v_o_wells) (C := RX4) (T := TX4) (N := 7) hx hb hts in_X4 hown hK hP 0 rfl rfl 2 (by decide) (hts _ mw_1_79) (fun _ h9 => h9) rfl dX4_addWell_8 ?_
    refine lv_bipush (v := (12 : Int32)) hx hb dX4_addWell_11 (by decide) ?_
    refine lv_icmp_ge (tgt := 46) hx hb dX4_addWell_13 (by decide) (fun c2 => ?_) (fun c2 => ?_)
    · replace h := cz_t c2 h
      obtain ⟨rfl, rfl, rfl⟩ := cz_j3 (cz_i h)
      exact hQ _ _ _ _ hP hS dX4_addWell_46
    · replace h := cz_f c2 h
      refine lv_aload_n hx hb dX4_addWell_16 rfl (lv_at hl 0 rfl) ?_
      refine va_get (D := D) (ci := 4) (v := .ref a_o_wellPlaces) (C := RX4) (T := TX4) (N := 7) hx hb hts in_X4 hown hK hP 0 rfl rfl 4 (by decide) (hts _ mw_1_82) (fun _ h9 => h9) rfl dX4_addWell_17 ?_
      refine lv_aload_n hx hb dX4_addWell_20 rfl (lv_at hl 0 rfl) ?_
      refine va_get (D := D) (ci := 4) (v := .int v_o_wells) (C := RX4) (T := TX4) (N := 7) hx hb hts in_X4 hown hK hP 0 rfl rfl 2 (by decide) (hts _ mw_1_79) (fun _ h9 => h9) rfl dX4_addWell_21 ?_
      refine lv_iload_n hx hb dX4_addWell_24 rfl (lv_at hl 1 rfl) ?_
      refine cz_iast hx hb hK hP hD hS 1 0 rfl rfl (cz_wrE h).1 dX4_addWell_25 (fun g3 H locs eg3 hP hD hS => ?_)
      replace h := cz_wrK eg3 h
      replace hP : va_P D vwCl [oX4 a_o v_o_wide v_o_high v_o_wells a_o_kinds a_o_wellPlaces a_o_wellWorths a_o_rules, aI cI a_o_wellPlaces 12 g3, aI cI a_o_wellWorths 12 f_o_wellWorths] H := hP
      replace hD : va_D A [oX4 a_o v_o_wide v_o_high v_o_wells a_o_kinds a_o_wellPlaces a_o_wellWorths a_o_rules, aI cI a_o_wellPlaces 12 g3, aI cI a_o_wellWorths 12 f_o_wellWorths] := hD
      refine lv_aload_n hx hb dX4_addWell_26 rfl (lv_at hl 0 rfl) ?_
      refine va_get (D := D) (ci := 4) (v := .ref a_o_wellWorths) (C := RX4) (T := TX4) (N := 7) hx hb hts in_X4 hown hK hP 0 rfl rfl 5 (by decide) (hts _ mw_1_83) (fun _ h9 => h9) rfl dX4_addWell_27 ?_
      refine lv_aload_n hx hb dX4_addWell_30 rfl (lv_at hl 0 rfl) ?_
      refine va_get (D := D) (ci := 4) (v := .int v_o_wells) (C := RX4) (T := TX4) (N := 7) hx hb hts in_X4 hown hK hP 0 rfl rfl 2 (by decide) (hts _ mw_1_79) (fun _ h9 => h9) rfl dX4_addWell_31 ?_
      refine lv_iload_n hx hb dX4_addWell_34 rfl (lv_at hl 2 rfl) ?_
      refine cz_iast hx hb hK hP hD hS 2 0 rfl rfl (cz_wrE h).1 dX4_addWell_35 (fun g4 H locs eg4 hP hD hS => ?_)
      replace h := cz_wrK eg4 h
      replace hP : va_P D vwCl [oX4 a_o v_o_wide v_o_high v_o_wells a_o_kinds a_o_wellPlaces a_o_wellWorths a_o_rules, aI cI a_o_wellPlaces 12 g3, aI cI a_o_wellWorths 12 g4] H := hP
      replace hD : va_D A [oX4 a_o v_o_wide v_o_high v_o_wells a_o_kinds a_o_wellPlaces a_o_wellWorths a_o_rules, aI cI a_o_wellPlaces 12 g3, aI cI a_o_wellWorths 12 g4] := hD
      refine lv_aload_n hx hb dX4_addWell_36 rfl (lv_at hl 0 rfl) ?_
      refine lv_dup hx hb dX4_addWell_37 rfl ?_
      refine va_get (D := D) (ci := 4) (v := .int v_o_wells) (C := RX4) (T := TX4) (N := 7) hx hb hts in_X4 hown hK hP 0 rfl rfl 2 (by decide) (hts _ mw_1_79) (fun _ h9 => h9) rfl dX4_addWell_38 ?_
      refine lv_iconst (v := (1 : Int32)) hx hb dX4_addWell_41 (by decide) ?_
      refine lv_iadd hx hb dX4_addWell_42 ?_
      refine lv_topi (fun x5 ex5 => ?_)
      replace h := cz_ltE ex5 h
      refine va_put (D := D) (ci := 4) (v := .int x5) (ty := .int) (C := RX4) (T := TX4) (N := 7) hx hb hts in_X4 tyX4 tyX4_ok nmX4 hown hK hP hD hS 0 rfl rfl 2 (by decide) (hts _ mw_1_79) (fun _ h9 => h9) rfl (by decide +kernel) rfl rfl (Nat.le_of_ble_eq_true rfl) dX4_addWell_43 (fun H locs hP hD hS => ?_)
      replace hP : va_P D vwCl [oX4 a_o v_o_wide v_o_high x5 a_o_kinds a_o_wellPlaces a_o_wellWorths a_o_rules, aI cI a_o_wellPlaces 12 g3, aI cI a_o_wellWorths 12 g4] H := hP
      replace hD : va_D A [oX4 a_o v_o_wide v_o_high x5 a_o_kinds a_o_wellPlaces a_o_wellWorths a_o_rules, aI cI a_o_wellPlaces 12 g3, aI cI a_o_wellWorths 12 g4] := hD
      obtain ⟨rfl, rfl, rfl⟩ := cz_j3 (cz_i h)
      exact hQ _ _ _ _ hP hS dX4_addWell_46
set_option maxHeartbeats 4000000 in
set_option maxRecDepth 100000 in
theorem c_X4_dropWells (l : Launch) (D : va_G) (cI : ClassId) (a_o a_o_wellPlaces a_o_wellWorths a_o_kinds a_o_rules : Nat) (v_o_wide : Int32) (v_o_high : Int32) (v_o_wells : Int32) (f_o_wellPlaces : (Nat → Int32)) (f_o_wellWorths : (Nat → Int32)) (w1 : Int32) (n : Nat) (r_v_o_wells : Int32) (r_f_o_wellPlaces : (Nat → Int32)) (r_f_o_wellWorths : (Nat → Int32)) (h : f_X4_dropWells n v_o_wells f_o_wellPlaces f_o_wellWorths w1 = some (r_v_o_wells, r_f_o_wellPlaces, r_f_o_wellWorths)) : cz_M l yX4_dropWells cX4_dropWells 4 none 0 0 D cI [.ref a_o, .int w1] [oX4 a_o v_o_wide v_o_high v_o_wells a_o_kinds a_o_wellPlaces a_o_wellWorths a_o_rules, aI cI a_o_wellPlaces 12 f_o_wellPlaces, aI cI a_o_wellWorths 12 f_o_wellWorths] none [oX4 a_o v_o_wide v_o_high r_v_o_wells a_o_kinds a_o_wellPlaces a_o_wellWorths a_o_rules, aI cI a_o_wellPlaces 12 r_f_o_wellPlaces, aI cI a_o_wellWorths 12 r_f_o_wellWorths] := by
  refine cz_startV (by decide) (Nat.le_of_ble_eq_true rfl) ?_
  intro p e s m ag below meth c A Q hx hb hml hown hts hK hN hQ H locs hP hD hS ls hl
  replace hown : s.vm.findClass RX4 = some m.cls := hown
  replace hl : lv_has ls 4 [(0, .ref a_o), (1, .int w1)] := hl
  unfold f_X4_dropWells at h
  refine lv_iconst (v := (0 : Int32)) hx hb dX4_dropWells_0 (by decide) ?_
  refine lv_istore_n (lv' := [(2, .int (0 : Int32)), (0, .ref a_o), (1, .int w1)]) hx hb dX4_dropWells_1 rfl hl (by decide) rfl (fun ls hl => ?_)
  refine lv_iconst (v := (0 : Int32)) hx hb dX4_dropWells_2 (by decide) ?_
  refine lv_istore_n (lv' := [(3, .int (0 : Int32)), (2, .int (0 : Int32)), (0, .ref a_o), (1, .int w1)]) hx hb dX4_dropWells_3 rfl hl (by decide) rfl (fun ls hl => ?_)
  obtain ⟨z5, hE6, hz7⟩ := cz_x4 h
  have hX8 : ∀ (y11 : Int32) (y12 : Int32) (q13 : (Nat → Int32)) (q14 : (Nat → Int32)) (H : Heap) (locs : List Loc) (ls : Array Slot), z5 = (y11, y12, q13, q14) → va_P D vwCl [oX4 a_o v_o_wide v_o_high v_o_wells a_o_kinds a_o_wellPlaces a_o_wellWorths a_o_rules, aI cI a_o_wellPlaces 12 q13, aI cI a_o_wellWorths 12 q14] H → va_D A [oX4 a_o v_o_wide v_o_high v_o_wells a_o_kinds a_o_wellPlaces a_o_wellWorths a_o_rules, aI cI a_o_wellPlaces 12 q13, aI cI a_o_wellWorths 12 q14] → va_S A s.heap H locs → lv_has ls 4 [(0, .ref a_o), (2, .int y11)] → W p l e (cz_rm 0 0) s m ag below meth c H locs 0 0 Q (F0 m 61 ls []) := by
    intro y11 y12 q13 q14 H locs ls h hP hD hS hl
    replace h := hz7 _ _ _ _ h
    refine lv_aload_n hx hb dX4_dropWells_61 rfl (lv_at hl 0 rfl) ?_
    refine lv_iload_n hx hb dX4_dropWells_62 rfl (lv_at hl 1 rfl) ?_
    refine va_put (D := D) (ci := 4) (v := .int y11) (ty := .int) (C := RX4) (T := TX4) (N := 7) hx hb hts in_X4 tyX4 tyX4_ok nmX4 hown hK hP hD hS 0 rfl rfl 2 (by decide) (hts _ mw_1_79) (fun _ h9 => h9) rfl (by decide +kernel) rfl rfl (Nat.le_of_ble_eq_true rfl) dX4_dropWells_63 (fun H locs hP hD hS => ?_)
    replace hP : va_P D vwCl [oX4 a_o v_o_wide v_o_high y11 a_o_kinds a_o_wellPlaces a_o_wellWorths a_o_rules, aI cI a_o_wellPlaces 12 q13, aI cI a_o_wellWorths 12 q14] H := hP
    replace hD : va_D A [oX4 a_o v_o_wide v_o_high y11 a_o_kinds a_o_wellPlaces a_o_wellWorths a_o_rules, aI cI a_o_wellPlaces 12 q13, aI cI a_o_wellWorths 12 q14] := hD
    obtain ⟨rfl, rfl, rfl⟩ := cz_j3 (cz_i h)
    exact hQ _ _ _ _ hP hS dX4_dropWells_66
  clear h
  have hL9 : ∀ (k : Nat) (x1 : Int32) (x2 : Int32) (g3 : (Nat → Int32)) (g4 : (Nat → Int32)) (H : Heap) (locs : List Loc) (ls : Array Slot), f_X4_dropWells_L4 n v_o_wells w1 k x1 x2 g3 g4 = some z5 → va_P D vwCl [oX4 a_o v_o_wide v_o_high v_o_wells a_o_kinds a_o_wellPlaces a_o_wellWorths a_o_rules, aI cI a_o_wellPlaces 12 g3, aI cI a_o_wellWorths 12 g4] H → va_D A [oX4 a_o v_o_wide v_o_high v_o_wells a_o_kinds a_o_wellPlaces a_o_wellWorths a_o_rules, aI cI a_o_wellPlaces 12 g3, aI cI a_o_wellWorths 12 g4] → va_S A s.heap H locs → lv_has ls 4 [(0, .ref a_o), (1, .int w1), (2, .int x1), (3, .int x2)] → W p l e (cz_rm 0 0) s m ag below meth c H locs 0 0 Q (F0 m 4 ls []) := by
    intro k
    induction k with
    | zero =>
      intro x1 x2 g3 g4 H locs ls h
      rw [f_X4_dropWells_L4] at h
      cases h
    | succ k ih15 =>
      intro x1 x2 g3 g4 H locs ls h hP hD hS hl
      rw [f_X4_dropWells_L4] at h
      refine lv_iload_n hx hb dX4_dropWells_4 rfl (lv_at hl 3 rfl) ?_
      refine lv_aload_n hx hb dX4_dropWells_5 rfl (lv_at hl 0 rfl) ?_
      refine va_get (D := D) (ci := 4) (v := .int v_o_wells) (C := RX4) (T := TX4) (N := 7) hx hb hts in_X4 hown hK hP 0 rfl rfl 2 (by decide) (hts _ mw_1_79) (fun _ h9 => h9) rfl dX4_dropWells_6 ?_
      refine lv_icmp_ge (tgt := 61) hx hb dX4_dropWells_9 (by decide) (fun c16 => ?_) (fun c16 => ?_)
      · replace h := cz_t c16 h
        exact hX8 _ _ _ _ _ _ _ (cz_i h).symm hP hD hS (lv_sub hl [0, 2] rfl)
      · replace h := cz_f c16 h
        refine lv_iload_n hx hb dX4_dropWells_12 rfl (lv_at hl 3 rfl) ?_
        refine lv_bipush (v := (12 : Int32)) hx hb dX4_dropWells_13 (by decide) ?_
        refine lv_icmp_ge (tgt := 61) hx hb dX4_dropWells_15 (by decide) (fun c17 => ?_) (fun c17 => ?_)
        · replace h := cz_t c17 h
          exact hX8 _ _ _ _ _ _ _ (cz_i h).symm hP hD hS (lv_sub hl [0, 2] rfl)
        · replace h := cz_f c17 h
          refine lv_aload_n hx hb dX4_dropWells_18 rfl (lv_at hl 0 rfl) ?_
          refine va_get (D := D) (ci := 4) (v := .ref a_o_wellPlaces) (C := RX4) (T := TX4) (N := 7) hx hb hts in_X4 hown hK hP 0 rfl rfl 4 (by decide) (hts _ mw_1_82) (fun _ h9 => h9) rfl dX4_dropWells_19 ?_
          refine lv_iload_n hx hb dX4_dropWells_22 rfl (lv_at hl 3 rfl) ?_
          refine cz_iald hx hb hK hP 1 0 rfl rfl (cz_rdE h).1 dX4_dropWells_23 (fun x18 ex18 => ?_)
          replace h := cz_rdK ex18 h
          refine lv_iload_n hx hb dX4_dropWells_24 rfl (lv_at hl 1 rfl) ?_
          obtain ⟨z25, hE23, hz22⟩ := cz_x3 h
          have hJ24 : ∀ (x19 : Int32) (g20 : (Nat → Int32)) (g21 : (Nat → Int32)) (H : Heap) (locs : List Loc) (ls : Array Slot), z25 = (x19, g20, g21) → va_P D vwCl [oX4 a_o v_o_wide v_o_high v_o_wells a_o_kinds a_o_wellPlaces a_o_wellWorths a_o_rules, aI cI a_o_wellPlaces 12 g20, aI cI a_o_wellWorths 12 g21] H → va_D A [oX4 a_o v_o_wide v_o_high v_o_wells a_o_kinds a_o_wellPlaces a_o_wellWorths a_o_rules, aI cI a_o_wellPlaces 12 g20, aI cI a_o_wellWorths 12 g21] → va_S A s.heap H locs → lv_has ls 4 [(0, .ref a_o), (1, .int w1), (2, .int x19), (3, .int x2)] → W p l e (cz_rm 0 0) s m ag below meth c H locs 0 0 Q (F0 m 55 ls []) := by
            intro x19 g20 g21 H locs ls h hP hD hS hl
            replace h := hz22 _ _ _ h
            obtain ⟨x26, ex26⟩ : ∃ z : Int32, z = x2 + (1 : Int32) := ⟨_, rfl⟩
            replace h := cz_ltE ex26 h
            refine lv_iinc (v := x26) (lv' := [(3, .int x26), (0, .ref a_o), (1, .int w1), (2, .int x19)]) hx hb dX4_dropWells_55 hl (k := 3) rfl (by rw [ex26]; rfl) (by decide) rfl (fun ls hl => ?_)
            refine lv_goto (tgt := 4) hx hb dX4_dropWells_58 (by decide) ?_
            exact ih15 _ _ _ _ _ _ _ h hP hD hS (lv_sub hl [1, 2, 3, 0] rfl)
          clear h
          have h := hE23
          refine lv_icmp_eq (tgt := 55) hx hb dX4_dropWells_25 (by decide) (fun c27 => ?_) (fun c27 => ?_)
          · replace h := cz_t c27 h
            exact hJ24 _ _ _ _ _ _ (cz_i h).symm hP hD hS (lv_sub hl [0, 1, 2, 3] rfl)
          · replace h := cz_f c27 h
            refine lv_aload_n hx hb dX4_dropWells_28 rfl (lv_at hl 0 rfl) ?_
            refine va_get (D := D) (ci := 4) (v := .ref a_o_wellPlaces) (C := RX4) (T := TX4) (N := 7) hx hb hts in_X4 hown hK hP 0 rfl rfl 4 (by decide) (hts _ mw_1_82) (fun _ h9 => h9) rfl dX4_dropWells_29 ?_
            refine lv_iload_n hx hb dX4_dropWells_32 rfl (lv_at hl 2 rfl) ?_
            refine lv_aload_n hx hb dX4_dropWells_33 rfl (lv_at hl 0 rfl) ?_
            refine va_get (D := D) (ci := 4) (v := .ref a_o_wellPlaces) (C := RX4) (T := TX4) (N := 7) hx hb hts in_X4 hown hK hP 0 rfl rfl 4 (by decide) (hts _ mw_1_82) (fun _ h9 => h9) rfl dX4_dropWells_34 ?_
            refine lv_iload_n hx hb dX4_dropWells_37 rfl (lv_at hl 3 rfl) ?_
            refine cz_iald hx hb hK hP 1 0 rfl rfl (cz_rdE h).1 dX4_dropWells_38 (fun x28 ex28 => ?_)
            replace h := cz_rdK ex28 h
            refine cz_iast hx hb hK hP hD hS 1 0 rfl rfl (cz_wrE h).1 dX4_dropWells_39 (fun g29 H locs eg29 hP hD hS => ?_)
            replace h := cz_wrK eg29 h
            replace hP : va_P D vwCl [oX4 a_o v_o_wide v_o_high v_o_wells a_o_kinds a_o_wellPlaces a_o_wellWorths a_o_rules, aI cI a_o_wellPlaces 12 g29, aI cI a_o_wellWorths 12 g4] H := hP
            replace hD : va_D A [oX4 a_o v_o_wide v_o_high v_o_wells a_o_kinds a_o_wellPlaces a_o_wellWorths a_o_rules, aI cI a_o_wellPlaces 12 g29, aI cI a_o_wellWorths 12 g4] := hD
            refine lv_aload_n hx hb dX4_dropWells_40 rfl (lv_at hl 0 rfl) ?_
            refine va_get (D := D) (ci := 4) (v := .ref a_o_wellWorths) (C := RX4) (T := TX4) (N := 7) hx hb hts in_X4 hown hK hP 0 rfl rfl 5 (by decide) (hts _ mw_1_83) (fun _ h9 => h9) rfl dX4_dropWells_41 ?_
            refine lv_iload_n hx hb dX4_dropWells_44 rfl (lv_at hl 2 rfl) ?_
            refine lv_aload_n hx hb dX4_dropWells_45 rfl (lv_at hl 0 rfl) ?_
            refine va_get (D := D) (ci := 4) (v := .ref a_o_wellWorths) (C := RX4) (T := TX4) (N := 7) hx hb hts in_X4 hown hK hP 0 rfl rfl 5 (by decide) (hts _ mw_1_83) (fun _ h9 => h9) rfl dX4_dropWells_46 ?_
            refine lv_iload_n hx hb dX4_dropWells_49 rfl (lv_at hl 3 rfl) ?_
            refine cz_iald hx hb hK hP 2 0 rfl rfl (cz_rdE h).1 dX4_dropWells_50 (fun x30 ex30 => ?_)
            replace h := cz_rdK ex30 h
            refine cz_iast hx hb hK hP hD hS 2 0 rfl rfl (cz_wrE h).1 dX4_dropWells_51 (fun g31 H locs eg31 hP hD hS => ?_)
            replace h := cz_wrK eg31 h
            replace hP : va_P D vwCl [oX4 a_o v_o_wide v_o_high v_o_wells a_o_kinds a_o_wellPlaces a_o_wellWorths a_o_rules, aI cI a_o_wellPlaces 12 g29, aI cI a_o_wellWorths 12 g31] H := hP
            replace hD : va_D A [oX4 a_o v_o_wide v_o_high v_o_wells a_o_kinds a_o_wellPlaces a_o_wellWorths a_o_rules, aI cI a_o_wellPlaces 12 g29, aI cI a_o_wellWorths 12 g31] := hD
            obtain ⟨x32, ex32⟩ : ∃ z : Int32, z = x1 + (1 : Int32) := ⟨_, rfl⟩
            replace h := cz_ltE ex32 h
            refine lv_iinc (v := x32) (lv' := [(2, .int x32), (0, .ref a_o), (1, .int w1), (3, .int x2)]) hx hb dX4_dropWells_52 hl (k := 2) rfl (by rw [ex32]; rfl) (by decide) rfl (fun ls hl => ?_)
            exact hJ24 _ _ _ _ _ _ (cz_i h).symm hP hD hS (lv_sub hl [1, 2, 0, 3] rfl)
  exact hL9 n _ _ _ _ _ _ _ hE6 hP hD hS (lv_sub hl [2, 3, 1, 0] rfl)
set_option maxHeartbeats 4000000 in
set_option maxRecDepth 100000 in
theorem c_X4_worthOf (l : Launch) (D : va_G) (cI : ClassId) (a_o a_o_wellPlaces a_o_wellWorths a_p2 a_p2_owners a_o_kinds a_o_rules a_p2_inner a_p2_nears a_p2_basePlaces a_p2_baseFactors a_p2_baseStarts : Nat) (v_o_wide : Int32) (v_o_high : Int32) (v_o_wells : Int32) (f_o_wellPlaces : (Nat → Int32)) (f_o_wellWorths : (Nat → Int32)) (v_p2_bases : Int32) (v_p2_thirds : Int32) (f_p2_owners : (Nat → Int32)) (w1 : Int32) (n : Nat) (r : Int32) (h : f_X4_worthOf n v_o_wells f_o_wellPlaces f_o_wellWorths f_p2_owners w1 = some r) : cz_M l yX4_worthOf cX4_worthOf 5 (some .int) 1 21 D cI [.ref a_o, .int w1, .ref a_p2] [oX4 a_o v_o_wide v_o_high v_o_wells a_o_kinds a_o_wellPlaces a_o_wellWorths a_o_rules, aI cI a_o_wellPlaces 12 f_o_wellPlaces, aI cI a_o_wellWorths 12 f_o_wellWorths, oX0 a_p2 a_p2_inner a_p2_owners a_p2_nears a_p2_basePlaces a_p2_baseFactors a_p2_baseStarts v_p2_bases v_p2_thirds, aI cI a_p2_owners 120 f_p2_owners] (some (.int r)) [oX4 a_o v_o_wide v_o_high v_o_wells a_o_kinds a_o_wellPlaces a_o_wellWorths a_o_rules, aI cI a_o_wellPlaces 12 f_o_wellPlaces, aI cI a_o_wellWorths 12 f_o_wellWorths, oX0 a_p2 a_p2_inner a_p2_owners a_p2_nears a_p2_basePlaces a_p2_baseFactors a_p2_baseStarts v_p2_bases v_p2_thirds, aI cI a_p2_owners 120 f_p2_owners] := by
  refine cz_startI (by decide) (Nat.le_of_ble_eq_true rfl) ?_
  intro p e s m ag below meth c A Q hx hb hml hown hts hK hN hQ H locs hP hD hS ls hl
  replace hown : s.vm.findClass RX4 = some m.cls := hown
  replace hl : lv_has ls 5 [(0, .ref a_o), (1, .int w1), (2, .ref a_p2)] := hl
  unfold f_X4_worthOf at h
  refine lv_iconst (v := (0 : Int32)) hx hb dX4_worthOf_0 (by decide) ?_
  refine lv_istore_n (lv' := [(3, .int (0 : Int32)), (0, .ref a_o), (1, .int w1), (2, .ref a_p2)]) hx hb dX4_worthOf_1 rfl hl (by decide) rfl (fun ls hl => ?_)
  refine lv_iconst (v := (0 : Int32)) hx hb dX4_worthOf_2 (by decide) ?_
  refine lv_istore (lv' := [(4, .int (0 : Int32)), (3, .int (0 : Int32)), (0, .ref a_o), (1, .int w1), (2, .ref a_p2)]) hx hb dX4_worthOf_3 hl (by decide) rfl (fun ls hl => ?_)
  obtain ⟨z3, hE4, hz5⟩ := cz_x2 h
  have hX6 : ∀ (y9 : Int32) (y10 : Int32) (H : Heap) (locs : List Loc) (ls : Array Slot), z3 = (y9, y10) → va_P D vwCl [oX4 a_o v_o_wide v_o_high v_o_wells a_o_kinds a_o_wellPlaces a_o_wellWorths a_o_rules, aI cI a_o_wellPlaces 12 f_o_wellPlaces, aI cI a_o_wellWorths 12 f_o_wellWorths, oX0 a_p2 a_p2_inner a_p2_owners a_p2_nears a_p2_basePlaces a_p2_baseFactors a_p2_baseStarts v_p2_bases v_p2_thirds, aI cI a_p2_owners 120 f_p2_owners] H → va_D A [oX4 a_o v_o_wide v_o_high v_o_wells a_o_kinds a_o_wellPlaces a_o_wellWorths a_o_rules, aI cI a_o_wellPlaces 12 f_o_wellPlaces, aI cI a_o_wellWorths 12 f_o_wellWorths, oX0 a_p2 a_p2_inner a_p2_owners a_p2_nears a_p2_basePlaces a_p2_baseFactors a_p2_baseStarts v_p2_bases v_p2_thirds, aI cI a_p2_owners 120 f_p2_owners] → va_S A s.heap H locs → lv_has ls 5 [(3, .int y9)] → W p l e (cz_rm 1 21) s m ag below meth c H locs 0 0 Q (F0 m 52 ls []) := by
    intro y9 y10 H locs ls h hP hD hS hl
    replace h := hz5 _ _ h
    refine lv_iload_n hx hb dX4_worthOf_52 rfl (lv_at hl 0 rfl) ?_
    obtain rfl := cz_i h
    exact hQ _ _ _ _ hP hS dX4_worthOf_53
  clear h
  have hL7 : ∀ (k : Nat) (x1 : Int32) (x2 : Int32) (H : Heap) (locs : List Loc) (ls : Array Slot), f_X4_worthOf_L5 n v_o_wells f_o_wellPlaces f_o_wellWorths f_p2_owners w1 k x1 x2 = some z3 → va_P D vwCl [oX4 a_o v_o_wide v_o_high v_o_wells a_o_kinds a_o_wellPlaces a_o_wellWorths a_o_rules, aI cI a_o_wellPlaces 12 f_o_wellPlaces, aI cI a_o_wellWorths 12 f_o_wellWorths, oX0 a_p2 a_p2_inner a_p2_owners a_p2_nears a_p2_basePlaces a_p2_baseFactors a_p2_baseStarts v_p2_bases v_p2_thirds, aI cI a_p2_owners 120 f_p2_owners] H → va_D A [oX4 a_o v_o_wide v_o_high v_o_wells a_o_kinds a_o_wellPlaces a_o_wellWorths a_o_rules, aI cI a_o_wellPlaces 12 f_o_wellPlaces, aI cI a_o_wellWorths 12 f_o_wellWorths, oX0 a_p2 a_p2_inner a_p2_owners a_p2_nears a_p2_basePlaces a_p2_baseFactors a_p2_baseStarts v_p2_bases v_p2_thirds, aI cI a_p2_owners 120 f_p2_owners] → va_S A s.heap H locs → lv_has ls 5 [(0, .ref a_o), (1, .int w1), (2, .ref a_p2), (3, .int x1), (4, .int x2)] → W p l e (cz_rm 1 21) s m ag below meth c H locs 0 0 Q (F0 m 5 ls []) := by
    intro k
    induction k with
    | zero =>
      intro x1 x2 H locs ls h
      rw [f_X4_worthOf_L5] at h
      cases h
    | succ k ih11 =>
      intro x1 x2 H locs ls h hP hD hS hl
      rw [f_X4_worthOf_L5] at h
      refine lv_iload hx hb dX4_worthOf_5 (lv_at hl 4 rfl) ?_
      refine lv_aload_n hx hb dX4_worthOf_7 rfl (lv_at hl 0 rfl) ?_
      refine va_get (D := D) (ci := 4) (v := .int v_o_wells) (C := RX4) (T := TX4) (N := 7) hx hb hts in_X4 hown hK hP 0 rfl rfl 2 (by decide) (hts _ mw_1_79) (fun _ h9 => h9) rfl dX4_worthOf_8 ?_
      refine lv_icmp_ge (tgt := 52) hx hb dX4_worthOf_11 (by decide) (fun c12 => ?_) (fun c12 => ?_)
      · replace h := cz_t c12 h
        exact hX6 _ _ _ _ _ (cz_i h).symm hP hD hS (lv_sub hl [3] rfl)
      · replace h := cz_f c12 h
        refine lv_iload hx hb dX4_worthOf_14 (lv_at hl 4 rfl) ?_
        refine lv_bipush (v := (12 : Int32)) hx hb dX4_worthOf_16 (by decide) ?_
        refine lv_icmp_ge (tgt := 52) hx hb dX4_worthOf_18 (by decide) (fun c13 => ?_) (fun c13 => ?_)
        · replace h := cz_t c13 h
          exact hX6 _ _ _ _ _ (cz_i h).symm hP hD hS (lv_sub hl [3] rfl)
        · replace h := cz_f c13 h
          refine lv_aload_n hx hb dX4_worthOf_21 rfl (lv_at hl 2 rfl) ?_
          refine lv_aload_n hx hb dX4_worthOf_22 rfl (lv_at hl 0 rfl) ?_
          refine va_get (D := D) (ci := 4) (v := .ref a_o_wellPlaces) (C := RX4) (T := TX4) (N := 7) hx hb hts in_X4 hown hK hP 0 rfl rfl 4 (by decide) (hts _ mw_1_82) (fun _ h9 => h9) rfl dX4_worthOf_23 ?_
          refine lv_iload hx hb dX4_worthOf_26 (lv_at hl 4 rfl) ?_
          refine cz_iald hx hb hK hP 1 0 rfl rfl (cz_rdE h).1 dX4_worthOf_28 (fun x14 ex14 => ?_)
          replace h := cz_rdK ex14 h
          obtain ⟨x15, hc16, h⟩ := cz_e1 h
          refine cz_callV (As := [.int x14]) (rest := []) (is := [3, 4]) (isR := [0, 1, 2]) (rs := [oX4 a_o v_o_wide v_o_high v_o_wells a_o_kinds a_o_wellPlaces a_o_wellWorths a_o_rules, aI cI a_o_wellPlaces 12 f_o_wellPlaces, aI cI a_o_wellWorths 12 f_o_wellWorths]) (as := [a_o, a_o_wellPlaces, a_o_wellWorths, a_p2, a_p2_owners]) (ws1 := [oX4 a_o v_o_wide v_o_high v_o_wells a_o_kinds a_o_wellPlaces a_o_wellWorths a_o_rules, aI cI a_o_wellPlaces 12 f_o_wellPlaces, aI cI a_o_wellWorths 12 f_o_wellWorths, oX0 a_p2 a_p2_inner a_p2_owners a_p2_nears a_p2_basePlaces a_p2_baseFactors a_p2_baseStarts v_p2_bases v_p2_thirds, aI cI a_p2_owners 120 f_p2_owners]) (q0 := 0) (ci := 0) ⟨hx, hb, hml, hown, hts⟩ (c_X0_ownerOf l D cI a_p2 a_p2_owners a_p2_inner a_p2_nears a_p2_basePlaces a_p2_baseFactors a_p2_baseStarts v_p2_bases v_p2_thirds f_p2_owners x14 n x15 hc16) mw_3_96 mw_2_218 mw_2_219 mw_1_6 mw_2_220 hd_X0_ownerOf ⟨Nat.le_of_ble_eq_true rfl, Nat.le_of_ble_eq_true rfl⟩ hK hN hP hD hS rfl rfl rfl rfl rfl rfl rfl rfl rfl rfl rfl rfl hl.1 rfl (Nat.le_of_ble_eq_true rfl) dX4_worthOf_29 ⟨Nat.le_of_ble_eq_true rfl, Nat.le_of_ble_eq_true rfl⟩ (fun H locs hP hD hS => ?_)
          refine W.eq (g2 := F0 m 32 ls [.int x15]) rfl ?_
          refine lv_iload_n hx hb dX4_worthOf_32 rfl (lv_at hl 1 rfl) ?_
          obtain ⟨z21, hE19, hz18⟩ := cz_x1 h
          have hJ20 : ∀ (x17 : Int32) (H : Heap) (locs : List Loc) (ls : Array Slot), z21 = x17 → va_P D vwCl [oX4 a_o v_o_wide v_o_high v_o_wells a_o_kinds a_o_wellPlaces a_o_wellWorths a_o_rules, aI cI a_o_wellPlaces 12 f_o_wellPlaces, aI cI a_o_wellWorths 12 f_o_wellWorths, oX0 a_p2 a_p2_inner a_p2_owners a_p2_nears a_p2_basePlaces a_p2_baseFactors a_p2_baseStarts v_p2_bases v_p2_thirds, aI cI a_p2_owners 120 f_p2_owners] H → va_D A [oX4 a_o v_o_wide v_o_high v_o_wells a_o_kinds a_o_wellPlaces a_o_wellWorths a_o_rules, aI cI a_o_wellPlaces 12 f_o_wellPlaces, aI cI a_o_wellWorths 12 f_o_wellWorths, oX0 a_p2 a_p2_inner a_p2_owners a_p2_nears a_p2_basePlaces a_p2_baseFactors a_p2_baseStarts v_p2_bases v_p2_thirds, aI cI a_p2_owners 120 f_p2_owners] → va_S A s.heap H locs → lv_has ls 5 [(0, .ref a_o), (1, .int w1), (2, .ref a_p2), (3, .int x17), (4, .int x2)] → W p l e (cz_rm 1 21) s m ag below meth c H locs 0 0 Q (F0 m 46 ls []) := by
            intro x17 H locs ls h hP hD hS hl
            replace h := hz18 _ h
            obtain ⟨x22, ex22⟩ : ∃ z : Int32, z = x2 + (1 : Int32) := ⟨_, rfl⟩
            replace h := cz_ltE ex22 h
            refine lv_iinc (v := x22) (lv' := [(4, .int x22), (0, .ref a_o), (1, .int w1), (2, .ref a_p2), (3, .int x17)]) hx hb dX4_worthOf_46 hl (k := 4) rfl (by rw [ex22]; rfl) (by decide) rfl (fun ls hl => ?_)
            refine lv_goto (tgt := 5) hx hb dX4_worthOf_49 (by decide) ?_
            exact ih11 _ _ _ _ _ h hP hD hS (lv_sub hl [1, 2, 3, 4, 0] rfl)
          clear h
          have h := hE19
          refine lv_icmp_ne (tgt := 46) hx hb dX4_worthOf_33 (by decide) (fun c23 => ?_) (fun c23 => ?_)
          · replace h := cz_f c23 h
            exact hJ20 _ _ _ _ (cz_i h).symm hP hD hS (lv_sub hl [0, 1, 2, 3, 4] rfl)
          · replace h := cz_t c23 h
            refine lv_iload_n hx hb dX4_worthOf_36 rfl (lv_at hl 3 rfl) ?_
            refine lv_aload_n hx hb dX4_worthOf_37 rfl (lv_at hl 0 rfl) ?_
            refine va_get (D := D) (ci := 4) (v := .ref a_o_wellWorths) (C := RX4) (T := TX4) (N := 7) hx hb hts in_X4 hown hK hP 0 rfl rfl 5 (by decide) (hts _ mw_1_83) (fun _ h9 => h9) rfl dX4_worthOf_38 ?_
            refine lv_iload hx hb dX4_worthOf_41 (lv_at hl 4 rfl) ?_
            refine cz_iald hx hb hK hP 2 0 rfl rfl (cz_rdE h).1 dX4_worthOf_43 (fun x24 ex24 => ?_)
            replace h := cz_rdK ex24 h
            refine lv_iadd hx hb dX4_worthOf_44 ?_
            refine lv_topi (fun x25 ex25 => ?_)
            replace h := cz_ltE ex25 h
            refine lv_istore_n (lv' := [(3, .int x25), (0, .ref a_o), (1, .int w1), (2, .ref a_p2), (4, .int x2)]) hx hb dX4_worthOf_45 rfl hl (by decide) rfl (fun ls hl => ?_)
            exact hJ20 _ _ _ _ (cz_i h).symm hP hD hS (lv_sub hl [1, 2, 3, 0, 4] rfl)
  exact hL7 n _ _ _ _ _ hE4 hP hD hS (lv_sub hl [2, 3, 4, 1, 0] rfl)
