set_option maxHeartbeats 4000000 in
set_option maxRecDepth 100000 in
theorem c_X3_firstLine (l : Launch) (D : va_G) (cI : ClassId) (adK adV : Nat → Nat) (a_o a_o_signs : Nat) (v_o_length : Int32) (f_o_signs : (Nat → Int32)) (n : Nat) (r : Int32) (h : f_X3_firstLine n v_o_length f_o_signs = some r) : cz_MT l yX3_firstLine cX3_firstLine 2 (some .int) 7 162 D cI adK adV [.ref a_o] [oX3 a_o a_o_signs v_o_length, aI cI a_o_signs 129 f_o_signs] (some (.int r)) [oX3 a_o a_o_signs v_o_length, aI cI a_o_signs 129 f_o_signs] := by
  refine cz_startIT (by decide) (Nat.le_of_ble_eq_true rfl) ?_
  intro p e s m ag below meth c A Q hx hb hml hown hts hK hN hT hQ H locs hP hD hS ls hl
  replace hown : s.vm.findClass RX3 = some m.cls := hown
  replace hl : lv_has ls 2 [(0, .ref a_o)] := hl
  unfold f_X3_firstLine at h
  refine lv_iconst (v := (0 : Int32)) hx hb dX3_firstLine_0 (by decide) ?_
  refine lv_istore_n (lv' := [(1, .int (0 : Int32)), (0, .ref a_o)]) hx hb dX3_firstLine_1 rfl hl (by decide) rfl (fun ls hl => ?_)
  obtain ⟨z2, hE3, hz4⟩ := cz_x1 h
  have hX5 : ∀ (y8 : Int32) (H : Heap) (locs : List Loc) (ls : Array Slot), z2 = y8 → va_P D vwCl [oX3 a_o a_o_signs v_o_length, aI cI a_o_signs 129 f_o_signs] H → va_D A [oX3 a_o a_o_signs v_o_length, aI cI a_o_signs 129 f_o_signs] → va_S A s.heap H locs → lv_has ls 2 [(1, .int y8)] → W p l e (cz_rm 7 162) s m ag below meth c H locs 0 0 Q (F0 m 22 ls []) := by
    intro y8 H locs ls h hP hD hS hl
    replace h := hz4 _ h
    refine lv_iload_n hx hb dX3_firstLine_22 rfl (lv_at hl 0 rfl) ?_
    obtain rfl := cz_i h
    exact hQ _ _ _ _ hP hS dX3_firstLine_23
  clear h
  have hL6 : ∀ (k : Nat) (x1 : Int32) (H : Heap) (locs : List Loc) (ls : Array Slot), f_X3_firstLine_L2 n v_o_length f_o_signs k x1 = some z2 → va_P D vwCl [oX3 a_o a_o_signs v_o_length, aI cI a_o_signs 129 f_o_signs] H → va_D A [oX3 a_o a_o_signs v_o_length, aI cI a_o_signs 129 f_o_signs] → va_S A s.heap H locs → lv_has ls 2 [(0, .ref a_o), (1, .int x1)] → W p l e (cz_rm 7 162) s m ag below meth c H locs 0 0 Q (F0 m 2 ls []) := by
    intro k
    induction k with
    | zero =>
      intro x1 H locs ls h
      rw [f_X3_firstLine_L2] at h
      cases h
    | succ k ih9 =>
      intro x1 H locs ls h hP hD hS hl
      rw [f_X3_firstLine_L2] at h
      refine lv_iload_n hx hb dX3_firstLine_2 rfl (lv_at hl 1 rfl) ?_
      refine lv_bipush (v := (12 : Int32)) hx hb dX3_firstLine_3 (by decide) ?_
      refine lv_icmp_ge (tgt := 22) hx hb dX3_firstLine_5 (by decide) (fun c10 => ?_) (fun c10 => ?_)
      · replace h := cz_t c10 h
        exact hX5 _ _ _ _ (cz_i h).symm hP hD hS (lv_sub hl [1] rfl)
      · replace h := cz_f c10 h
        refine lv_aload_n hx hb dX3_firstLine_8 rfl (lv_at hl 0 rfl) ?_
        refine lv_iload_n hx hb dX3_firstLine_9 rfl (lv_at hl 1 rfl) ?_
        obtain ⟨x11, hc12, h⟩ := cz_e1 h
        refine cz_callVT (As := [.int x1]) (rest := []) (is := [0, 1]) (isR := []) (rs := []) (as := [a_o, a_o_signs]) (ws1 := [oX3 a_o a_o_signs v_o_length, aI cI a_o_signs 129 f_o_signs]) (q0 := 0) (ci := 3) ⟨hx, hb, hml, hown, hts⟩ (c_X3_kindAt l D cI adK adV a_o a_o_signs v_o_length f_o_signs x1 n x11 hc12) mw_1_209 mw_1_210 mw_1_211 mw_1_2 mw_1_212 hd_X3_kindAt ⟨Nat.le_of_ble_eq_true rfl, Nat.le_of_ble_eq_true rfl⟩ hK hN hT hP hD hS rfl rfl rfl rfl rfl rfl rfl rfl rfl rfl rfl rfl hl.1 rfl (Nat.le_of_ble_eq_true rfl) dX3_firstLine_10 ⟨Nat.le_of_ble_eq_true rfl, Nat.le_of_ble_eq_true rfl⟩ (fun H locs hP hD hS => ?_)
        refine W.eq (g2 := F0 m 13 ls [.int x11]) rfl ?_
        refine lv_if_lt (tgt := 22) hx hb dX3_firstLine_13 (by decide) (fun c13 => ?_) (fun c13 => ?_)
        · replace h := cz_t c13 h
          exact hX5 _ _ _ _ (cz_i h).symm hP hD hS (lv_sub hl [1] rfl)
        · replace h := cz_f c13 h
          obtain ⟨x14, ex14⟩ : ∃ z : Int32, z = x1 + (1 : Int32) := ⟨_, rfl⟩
          replace h := cz_ltE ex14 h
          refine lv_iinc (v := x14) (lv' := [(1, .int x14), (0, .ref a_o)]) hx hb dX3_firstLine_16 hl (k := 1) rfl (by rw [ex14]; rfl) (by decide) rfl (fun ls hl => ?_)
          refine lv_goto (tgt := 2) hx hb dX3_firstLine_19 (by decide) ?_
          exact ih9 _ _ _ _ h hP hD hS (lv_sub hl [1, 0] rfl)
  exact hL6 n _ _ _ _ hE3 hP hD hS (lv_sub hl [1, 0] rfl)
set_option maxHeartbeats 4000000 in
set_option maxRecDepth 100000 in
theorem c_X3_firstFault (l : Launch) (D : va_G) (cI : ClassId) (adK adV : Nat → Nat) (a_o a_o_signs : Nat) (v_o_length : Int32) (f_o_signs : (Nat → Int32)) (n : Nat) (r : Int32) (h : f_X3_firstFault n v_o_length f_o_signs = some r) : cz_MT l yX3_firstFault cX3_firstFault 5 (some .int) 8 183 D cI adK adV [.ref a_o] [oX3 a_o a_o_signs v_o_length, aI cI a_o_signs 129 f_o_signs] (some (.int r)) [oX3 a_o a_o_signs v_o_length, aI cI a_o_signs 129 f_o_signs] := by
  refine cz_startIT (by decide) (Nat.le_of_ble_eq_true rfl) ?_
  intro p e s m ag below meth c A Q hx hb hml hown hts hK hN hT hQ H locs hP hD hS ls hl
  replace hown : s.vm.findClass RX3 = some m.cls := hown
  replace hl : lv_has ls 5 [(0, .ref a_o)] := hl
  unfold f_X3_firstFault at h
  refine lv_aload_n hx hb dX3_firstFault_0 rfl (lv_at hl 0 rfl) ?_
  obtain ⟨x1, hc2, h⟩ := cz_e1 h
  refine cz_callVT (As := []) (rest := []) (is := [0, 1]) (isR := []) (rs := []) (as := [a_o, a_o_signs]) (ws1 := [oX3 a_o a_o_signs v_o_length, aI cI a_o_signs 129 f_o_signs]) (q0 := 0) (ci := 3) ⟨hx, hb, hml, hown, hts⟩ (c_X3_firstLine l D cI adK adV a_o a_o_signs v_o_length f_o_signs  n x1 hc2) mw_1_205 mw_1_206 mw_1_207 mw_1_2 mw_1_208 hd_X3_firstLine ⟨Nat.le_of_ble_eq_true rfl, Nat.le_of_ble_eq_true rfl⟩ hK hN hT hP hD hS rfl rfl rfl rfl rfl rfl rfl rfl rfl rfl rfl rfl hl.1 rfl (Nat.le_of_ble_eq_true rfl) dX3_firstFault_1 ⟨Nat.le_of_ble_eq_true rfl, Nat.le_of_ble_eq_true rfl⟩ (fun H locs hP hD hS => ?_)
  refine W.eq (g2 := F0 m 4 ls [.int x1]) rfl ?_
  refine lv_istore_n (lv' := [(1, .int x1), (0, .ref a_o)]) hx hb dX3_firstFault_4 rfl hl (by decide) rfl (fun ls hl => ?_)
  refine lv_iconst (v := (0 : Int32)) hx hb dX3_firstFault_5 (by decide) ?_
  refine lv_istore_n (lv' := [(2, .int (0 : Int32)), (1, .int x1), (0, .ref a_o)]) hx hb dX3_firstFault_6 rfl hl (by decide) rfl (fun ls hl => ?_)
  refine lv_iconst (v := (0 : Int32)) hx hb dX3_firstFault_7 (by decide) ?_
  refine lv_istore_n (lv' := [(3, .int (0 : Int32)), (2, .int (0 : Int32)), (1, .int x1), (0, .ref a_o)]) hx hb dX3_firstFault_8 rfl hl (by decide) rfl (fun ls hl => ?_)
  refine lv_iconst (v := (0 : Int32)) hx hb dX3_firstFault_9 (by decide) ?_
  refine lv_istore (lv' := [(4, .int (0 : Int32)), (3, .int (0 : Int32)), (2, .int (0 : Int32)), (1, .int x1), (0, .ref a_o)]) hx hb dX3_firstFault_10 hl (by decide) rfl (fun ls hl => ?_)
  obtain ⟨z6, hE7, hR11, hz8⟩ := cz_y3 h
  have hX9 : ∀ (y12 : Int32) (y13 : Int32) (y14 : Int32) (H : Heap) (locs : List Loc) (ls : Array Slot), z6 = Sum.inr (y12, y13, y14) → va_P D vwCl [oX3 a_o a_o_signs v_o_length, aI cI a_o_signs 129 f_o_signs] H → va_D A [oX3 a_o a_o_signs v_o_length, aI cI a_o_signs 129 f_o_signs] → va_S A s.heap H locs → lv_has ls 5 [(0, .ref a_o), (1, .int x1), (2, .int y12)] → W p l e (cz_rm 8 183) s m ag below meth c H locs 0 0 Q (F0 m 86 ls []) := by
    intro y12 y13 y14 H locs ls h hP hD hS hl
    replace h := hz8 _ _ _ h
    refine lv_iload_n hx hb dX3_firstFault_86 rfl (lv_at hl 2 rfl) ?_
    refine lv_if_eq (tgt := 95) hx hb dX3_firstFault_87 (by decide) (fun c15 => ?_) (fun c15 => ?_)
    · replace h := cz_t c15 h
      refine lv_aload_n hx hb dX3_firstFault_95 rfl (lv_at hl 0 rfl) ?_
      refine va_get (D := D) (ci := 3) (v := .int v_o_length) (C := RX3) (T := TX3) (N := 2) hx hb hts in_X3 hown hK hP 0 rfl rfl 1 (by decide) (hts _ mw_1_30) (fun _ h9 => h9) rfl dX3_firstFault_96 ?_
      refine lv_goto (tgt := 103) hx hb dX3_firstFault_99 (by decide) ?_
      obtain rfl := cz_i h
      exact hQ _ _ _ _ hP hS dX3_firstFault_103
    · replace h := cz_f c15 h
      refine lv_iload_n hx hb dX3_firstFault_90 rfl (lv_at hl 2 rfl) ?_
      refine lv_iload_n hx hb dX3_firstFault_91 rfl (lv_at hl 1 rfl) ?_
      refine lv_icmp_ge (tgt := 102) hx hb dX3_firstFault_92 (by decide) (fun c16 => ?_) (fun c16 => ?_)
      · replace h := cz_t c16 h
        refine lv_iconst (v := (-1 : Int32)) hx hb dX3_firstFault_102 (by decide) ?_
        obtain rfl := cz_i h
        exact hQ _ _ _ _ hP hS dX3_firstFault_103
      · replace h := cz_f c16 h
        refine lv_aload_n hx hb dX3_firstFault_95 rfl (lv_at hl 0 rfl) ?_
        refine va_get (D := D) (ci := 3) (v := .int v_o_length) (C := RX3) (T := TX3) (N := 2) hx hb hts in_X3 hown hK hP 0 rfl rfl 1 (by decide) (hts _ mw_1_30) (fun _ h9 => h9) rfl dX3_firstFault_96 ?_
        refine lv_goto (tgt := 103) hx hb dX3_firstFault_99 (by decide) ?_
        obtain rfl := cz_i h
        exact hQ _ _ _ _ hP hS dX3_firstFault_103
  clear h
  have hL10 : ∀ (k : Nat) (x3 : Int32) (x4 : Int32) (x5 : Int32) (H : Heap) (locs : List Loc) (ls : Array Slot), f_X3_firstFault_L12 n v_o_length f_o_signs x1 k x3 x4 x5 = some z6 → va_P D vwCl [oX3 a_o a_o_signs v_o_length, aI cI a_o_signs 129 f_o_signs] H → va_D A [oX3 a_o a_o_signs v_o_length, aI cI a_o_signs 129 f_o_signs] → va_S A s.heap H locs → lv_has ls 5 [(0, .ref a_o), (1, .int x1), (2, .int x3), (3, .int x4), (4, .int x5)] → W p l e (cz_rm 8 183) s m ag below meth c H locs 0 0 Q (F0 m 12 ls []) := by
    intro k
    induction k with
    | zero =>
      intro x3 x4 x5 H locs ls h
      rw [f_X3_firstFault_L12] at h
      cases h
    | succ k ih17 =>
      intro x3 x4 x5 H locs ls h hP hD hS hl
      rw [f_X3_firstFault_L12] at h
      refine lv_iload hx hb dX3_firstFault_12 (lv_at hl 4 rfl) ?_
      refine lv_aload_n hx hb dX3_firstFault_14 rfl (lv_at hl 0 rfl) ?_
      refine va_get (D := D) (ci := 3) (v := .int v_o_length) (C := RX3) (T := TX3) (N := 2) hx hb hts in_X3 hown hK hP 0 rfl rfl 1 (by decide) (hts _ mw_1_30) (fun _ h9 => h9) rfl dX3_firstFault_15 ?_
      refine lv_icmp_ge (tgt := 86) hx hb dX3_firstFault_18 (by decide) (fun c18 => ?_) (fun c18 => ?_)
      · replace h := cz_t c18 h
        exact hX9 _ _ _ _ _ _ (cz_i h).symm hP hD hS (lv_sub hl [0, 1, 2] rfl)
      · replace h := cz_f c18 h
        refine lv_aload_n hx hb dX3_firstFault_21 rfl (lv_at hl 0 rfl) ?_
        refine lv_iload hx hb dX3_firstFault_22 (lv_at hl 4 rfl) ?_
        obtain ⟨x19, hc20, h⟩ := cz_e1 h
        refine cz_callV (As := [.int x5]) (rest := []) (is := [0, 1]) (isR := []) (rs := []) (as := [a_o, a_o_signs]) (ws1 := [oX3 a_o a_o_signs v_o_length, aI cI a_o_signs 129 f_o_signs]) (q0 := 0) (ci := 3) ⟨hx, hb, hml, hown, hts⟩ (c_X3_signAt l D cI a_o a_o_signs v_o_length f_o_signs x5 n x19 hc20) mw_1_213 mw_1_214 mw_1_215 mw_1_2 mw_1_216 hd_X3_signAt ⟨Nat.le_of_ble_eq_true rfl, Nat.le_of_ble_eq_true rfl⟩ hK hN hP hD hS rfl rfl rfl rfl rfl rfl rfl rfl rfl rfl rfl rfl hl.1 rfl (Nat.le_of_ble_eq_true rfl) dX3_firstFault_24 ⟨Nat.le_of_ble_eq_true rfl, Nat.le_of_ble_eq_true rfl⟩ (fun H locs hP hD hS => ?_)
        refine W.eq (g2 := F0 m 27 ls [.int x19]) rfl ?_
        refine lv_bipush (v := (47 : Int32)) hx hb dX3_firstFault_27 (by decide) ?_
        refine lv_icmp_ne (tgt := 60) hx hb dX3_firstFault_29 (by decide) (fun c21 => ?_) (fun c21 => ?_)
        · replace h := cz_f c21 h
          refine lv_iload_n hx hb dX3_firstFault_60 rfl (lv_at hl 2 rfl) ?_
          refine lv_iload_n hx hb dX3_firstFault_61 rfl (lv_at hl 1 rfl) ?_
          refine lv_icmp_ge (tgt := 74) hx hb dX3_firstFault_62 (by decide) (fun c22 => ?_) (fun c22 => ?_)
          · replace h := cz_t c22 h
            refine lv_iload hx hb dX3_firstFault_74 (lv_at hl 4 rfl) ?_
            replace h := hR11 _ (cz_i h).symm
            obtain rfl := cz_i h
            exact hQ _ _ _ _ hP hS dX3_firstFault_76
          · replace h := cz_f c22 h
            refine lv_aload_n hx hb dX3_firstFault_65 rfl (lv_at hl 0 rfl) ?_
            refine lv_iload hx hb dX3_firstFault_66 (lv_at hl 4 rfl) ?_
            obtain ⟨x23, hc24, h⟩ := cz_e1 h
            refine cz_callVT (As := [.int x5]) (rest := []) (is := [0, 1]) (isR := []) (rs := []) (as := [a_o, a_o_signs]) (ws1 := [oX3 a_o a_o_signs v_o_length, aI cI a_o_signs 129 f_o_signs]) (q0 := 0) (ci := 3) ⟨hx, hb, hml, hown, hts⟩ (c_X3_kindAt l D cI adK adV a_o a_o_signs v_o_length f_o_signs x5 n x23 hc24) mw_1_209 mw_1_210 mw_1_211 mw_1_2 mw_1_212 hd_X3_kindAt ⟨Nat.le_of_ble_eq_true rfl, Nat.le_of_ble_eq_true rfl⟩ hK hN hT hP hD hS rfl rfl rfl rfl rfl rfl rfl rfl rfl rfl rfl rfl hl.1 rfl (Nat.le_of_ble_eq_true rfl) dX3_firstFault_68 ⟨Nat.le_of_ble_eq_true rfl, Nat.le_of_ble_eq_true rfl⟩ (fun H locs hP hD hS => ?_)
            refine W.eq (g2 := F0 m 71 ls [.int x23]) rfl ?_
            refine lv_if_ge (tgt := 77) hx hb dX3_firstFault_71 (by decide) (fun c25 => ?_) (fun c25 => ?_)
            · replace h := cz_t c25 h
              obtain ⟨x26, ex26⟩ : ∃ z : Int32, z = x3 + (1 : Int32) := ⟨_, rfl⟩
              replace h := cz_ltE ex26 h
              refine lv_iinc (v := x26) (lv' := [(2, .int x26), (0, .ref a_o), (1, .int x1), (3, .int x4), (4, .int x5)]) hx hb dX3_firstFault_77 hl (k := 2) rfl (by rw [ex26]; rfl) (by decide) rfl (fun ls hl => ?_)
              obtain ⟨x27, ex27⟩ : ∃ z : Int32, z = x5 + (1 : Int32) := ⟨_, rfl⟩
              replace h := cz_ltE ex27 h
              refine lv_iinc (v := x27) (lv' := [(4, .int x27), (2, .int x26), (0, .ref a_o), (1, .int x1), (3, .int x4)]) hx hb dX3_firstFault_80 hl (k := 4) rfl (by rw [ex27]; rfl) (by decide) rfl (fun ls hl => ?_)
              refine lv_goto (tgt := 12) hx hb dX3_firstFault_83 (by decide) ?_
              exact ih17 _ _ _ _ _ _ h hP hD hS (lv_sub hl [2, 3, 1, 4, 0] rfl)
            · replace h := cz_f c25 h
              refine lv_iload hx hb dX3_firstFault_74 (lv_at hl 4 rfl) ?_
              replace h := hR11 _ (cz_i h).symm
              obtain rfl := cz_i h
              exact hQ _ _ _ _ hP hS dX3_firstFault_76
        · replace h := cz_t c21 h
          refine lv_iload_n hx hb dX3_firstFault_32 rfl (lv_at hl 2 rfl) ?_
          refine lv_if_eq (tgt := 49) hx hb dX3_firstFault_33 (by decide) (fun c28 => ?_) (fun c28 => ?_)
          · replace h := cz_t c28 h
            refine lv_iload hx hb dX3_firstFault_49 (lv_at hl 4 rfl) ?_
            replace h := hR11 _ (cz_i h).symm
            obtain rfl := cz_i h
            exact hQ _ _ _ _ hP hS dX3_firstFault_51
          · replace h := cz_f c28 h
            refine lv_iload_n hx hb dX3_firstFault_36 rfl (lv_at hl 2 rfl) ?_
            refine lv_iload_n hx hb dX3_firstFault_37 rfl (lv_at hl 1 rfl) ?_
            refine lv_icmp_lt (tgt := 49) hx hb dX3_firstFault_38 (by decide) (fun c29 => ?_) (fun c29 => ?_)
            · replace h := cz_t c29 h
              refine lv_iload hx hb dX3_firstFault_49 (lv_at hl 4 rfl) ?_
              replace h := hR11 _ (cz_i h).symm
              obtain rfl := cz_i h
              exact hQ _ _ _ _ hP hS dX3_firstFault_51
            · replace h := cz_f c29 h
              refine lv_iload_n hx hb dX3_firstFault_41 rfl (lv_at hl 3 rfl) ?_
              refine lv_iconst (v := (1 : Int32)) hx hb dX3_firstFault_42 (by decide) ?_
              refine lv_iadd hx hb dX3_firstFault_43 ?_
              refine lv_bipush (v := (10 : Int32)) hx hb dX3_firstFault_44 (by decide) ?_
              refine lv_icmp_lt (tgt := 52) hx hb dX3_firstFault_46 (by decide) (fun c30 => ?_) (fun c30 => ?_)
              · replace h := cz_t c30 h
                refine lv_iconst (v := (0 : Int32)) hx hb dX3_firstFault_52 (by decide) ?_
                refine lv_istore_n (lv' := [(2, .int (0 : Int32)), (0, .ref a_o), (1, .int x1), (3, .int x4), (4, .int x5)]) hx hb dX3_firstFault_53 rfl hl (by decide) rfl (fun ls hl => ?_)
                obtain ⟨x31, ex31⟩ : ∃ z : Int32, z = x4 + (1 : Int32) := ⟨_, rfl⟩
                replace h := cz_ltE ex31 h
                refine lv_iinc (v := x31) (lv' := [(3, .int x31), (2, .int (0 : Int32)), (0, .ref a_o), (1, .int x1), (4, .int x5)]) hx hb dX3_firstFault_54 hl (k := 3) rfl (by rw [ex31]; rfl) (by decide) rfl (fun ls hl => ?_)
                refine lv_goto (tgt := 80) hx hb dX3_firstFault_57 (by decide) ?_
                obtain ⟨x32, ex32⟩ : ∃ z : Int32, z = x5 + (1 : Int32) := ⟨_, rfl⟩
                replace h := cz_ltE ex32 h
                refine lv_iinc (v := x32) (lv' := [(4, .int x32), (3, .int x31), (2, .int (0 : Int32)), (0, .ref a_o), (1, .int x1)]) hx hb dX3_firstFault_80 hl (k := 4) rfl (by rw [ex32]; rfl) (by decide) rfl (fun ls hl => ?_)
                refine lv_goto (tgt := 12) hx hb dX3_firstFault_83 (by decide) ?_
                exact ih17 _ _ _ _ _ _ h hP hD hS (lv_sub hl [3, 4, 2, 1, 0] rfl)
              · replace h := cz_f c30 h
                refine lv_iload hx hb dX3_firstFault_49 (lv_at hl 4 rfl) ?_
                replace h := hR11 _ (cz_i h).symm
                obtain rfl := cz_i h
                exact hQ _ _ _ _ hP hS dX3_firstFault_51
  exact hL10 n _ _ _ _ _ _ hE7 hP hD hS (lv_sub hl [4, 3, 2, 1, 0] rfl)
set_option maxHeartbeats 4000000 in
set_option maxRecDepth 100000 in
theorem c_X3_pourInto (l : Launch) (D : va_G) (cI : ClassId) (adK adV : Nat → Nat) (a_o a_o_signs a_p1 a_p1_kinds a_p1_wellPlaces a_p1_wellWorths a_p1_rules : Nat) (v_o_length : Int32) (f_o_signs : (Nat → Int32)) (v_p1_wide : Int32) (v_p1_high : Int32) (v_p1_wells : Int32) (f_p1_kinds : (Nat → Int32)) (n : Nat) (r_v_p1_wide : Int32) (r_v_p1_high : Int32) (r_v_p1_wells : Int32) (r_f_p1_kinds : (Nat → Int32)) (h : f_X3_pourInto n v_o_length f_o_signs v_p1_wide v_p1_high v_p1_wells f_p1_kinds = some (r_v_p1_wide, r_v_p1_high, r_v_p1_wells, r_f_p1_kinds)) : cz_MT l yX3_pourInto cX3_pourInto 6 none 7 162 D cI adK adV [.ref a_o, .ref a_p1] [oX3 a_o a_o_signs v_o_length, aI cI a_o_signs 129 f_o_signs, oX4 a_p1 v_p1_wide v_p1_high v_p1_wells a_p1_kinds a_p1_wellPlaces a_p1_wellWorths a_p1_rules, aI cI a_p1_kinds 120 f_p1_kinds] none [oX3 a_o a_o_signs v_o_length, aI cI a_o_signs 129 f_o_signs, oX4 a_p1 r_v_p1_wide r_v_p1_high r_v_p1_wells a_p1_kinds a_p1_wellPlaces a_p1_wellWorths a_p1_rules, aI cI a_p1_kinds 120 r_f_p1_kinds] := by
  refine cz_startVT (by decide) (Nat.le_of_ble_eq_true rfl) ?_
  intro p e s m ag below meth c A Q hx hb hml hown hts hK hN hT hQ H locs hP hD hS ls hl
  replace hown : s.vm.findClass RX3 = some m.cls := hown
  replace hl : lv_has ls 6 [(0, .ref a_o), (1, .ref a_p1)] := hl
  unfold f_X3_pourInto at h
  refine lv_aload_n hx hb dX3_pourInto_0 rfl (lv_at hl 1 rfl) ?_
  obtain ⟨x1, g2, hc3, h⟩ := cz_e2 h
  refine cz_callV (As := []) (rest := []) (is := [2, 3]) (isR := [0, 1]) (rs := [oX3 a_o a_o_signs v_o_length, aI cI a_o_signs 129 f_o_signs]) (as := [a_o, a_o_signs, a_p1, a_p1_kinds]) (ws1 := [oX3 a_o a_o_signs v_o_length, aI cI a_o_signs 129 f_o_signs, oX4 a_p1 v_p1_wide v_p1_high x1 a_p1_kinds a_p1_wellPlaces a_p1_wellWorths a_p1_rules, aI cI a_p1_kinds 120 g2]) (q0 := 0) (ci := 4) ⟨hx, hb, hml, hown, hts⟩ (c_X4_clear l D cI a_p1 a_p1_kinds a_p1_wellPlaces a_p1_wellWorths a_p1_rules v_p1_wide v_p1_high v_p1_wells f_p1_kinds  n x1 g2 hc3) mw_2_68 mw_2_69 mw_2_70 mw_1_3 mw_2_71 hd_X4_clear ⟨Nat.le_of_ble_eq_true rfl, Nat.le_of_ble_eq_true rfl⟩ hK hN hP hD hS rfl rfl rfl rfl rfl rfl rfl rfl rfl rfl rfl rfl hl.1 rfl (Nat.le_of_ble_eq_true rfl) dX3_pourInto_1 ⟨Nat.le_of_ble_eq_true rfl, Nat.le_of_ble_eq_true rfl⟩ (fun H locs hP hD hS => ?_)
  refine W.eq (g2 := F0 m 4 ls []) rfl ?_
  refine lv_iconst (v := (0 : Int32)) hx hb dX3_pourInto_4 (by decide) ?_
  refine lv_istore_n (lv' := [(2, .int (0 : Int32)), (0, .ref a_o), (1, .ref a_p1)]) hx hb dX3_pourInto_5 rfl hl (by decide) rfl (fun ls hl => ?_)
  refine lv_iconst (v := (0 : Int32)) hx hb dX3_pourInto_6 (by decide) ?_
  refine lv_istore_n (lv' := [(3, .int (0 : Int32)), (2, .int (0 : Int32)), (0, .ref a_o), (1, .ref a_p1)]) hx hb dX3_pourInto_7 rfl hl (by decide) rfl (fun ls hl => ?_)
  refine lv_iconst (v := (0 : Int32)) hx hb dX3_pourInto_8 (by decide) ?_
  refine lv_istore (lv' := [(4, .int (0 : Int32)), (3, .int (0 : Int32)), (2, .int (0 : Int32)), (0, .ref a_o), (1, .ref a_p1)]) hx hb dX3_pourInto_9 hl (by decide) rfl (fun ls hl => ?_)
  obtain ⟨z8, hE9, hz10⟩ := cz_x4 h
  have hX11 : ∀ (y14 : Int32) (y15 : Int32) (y16 : Int32) (q17 : (Nat → Int32)) (H : Heap) (locs : List Loc) (ls : Array Slot), z8 = (y14, y15, y16, q17) → va_P D vwCl [oX3 a_o a_o_signs v_o_length, aI cI a_o_signs 129 f_o_signs, oX4 a_p1 v_p1_wide v_p1_high x1 a_p1_kinds a_p1_wellPlaces a_p1_wellWorths a_p1_rules, aI cI a_p1_kinds 120 q17] H → va_D A [oX3 a_o a_o_signs v_o_length, aI cI a_o_signs 129 f_o_signs, oX4 a_p1 v_p1_wide v_p1_high x1 a_p1_kinds a_p1_wellPlaces a_p1_wellWorths a_p1_rules, aI cI a_p1_kinds 120 q17] → va_S A s.heap H locs → lv_has ls 6 [(1, .ref a_p1), (2, .int y14), (3, .int y15)] → W p l e (cz_rm 7 162) s m ag below meth c H locs 0 0 Q (F0 m 62 ls []) := by
    intro y14 y15 y16 q17 H locs ls h hP hD hS hl
    replace h := hz10 _ _ _ _ h
    refine lv_aload_n hx hb dX3_pourInto_62 rfl (lv_at hl 0 rfl) ?_
    refine lv_iload_n hx hb dX3_pourInto_63 rfl (lv_at hl 1 rfl) ?_
    refine va_putN (D := D) (ci := 4) (v := .int y14) (ty := .int) (C := RX4) (T := TX4) (N := 7) hx hb hts in_X4 tyX4 tyX4_ok nmX4 hown hK hP hD hS 2 rfl rfl 0 (by decide) (hN.use nw_10) (fun _ h9 => h9) rfl (by decide +kernel) rfl rfl (Nat.le_of_ble_eq_true rfl) dX3_pourInto_64 (fun H locs hP hD hS => ?_)
    replace hP : va_P D vwCl [oX3 a_o a_o_signs v_o_length, aI cI a_o_signs 129 f_o_signs, oX4 a_p1 y14 v_p1_high x1 a_p1_kinds a_p1_wellPlaces a_p1_wellWorths a_p1_rules, aI cI a_p1_kinds 120 q17] H := hP
    replace hD : va_D A [oX3 a_o a_o_signs v_o_length, aI cI a_o_signs 129 f_o_signs, oX4 a_p1 y14 v_p1_high x1 a_p1_kinds a_p1_wellPlaces a_p1_wellWorths a_p1_rules, aI cI a_p1_kinds 120 q17] := hD
    refine lv_aload_n hx hb dX3_pourInto_67 rfl (lv_at hl 0 rfl) ?_
    refine lv_iload_n hx hb dX3_pourInto_68 rfl (lv_at hl 2 rfl) ?_
    refine lv_iconst (v := (1 : Int32)) hx hb dX3_pourInto_69 (by decide) ?_
    refine lv_iadd hx hb dX3_pourInto_70 ?_
    refine lv_topi (fun x18 ex18 => ?_)
    replace h := cz_ltE ex18 h
    refine va_putN (D := D) (ci := 4) (v := .int x18) (ty := .int) (C := RX4) (T := TX4) (N := 7) hx hb hts in_X4 tyX4 tyX4_ok nmX4 hown hK hP hD hS 2 rfl rfl 1 (by decide) (hN.use nw_12) (fun _ h9 => h9) rfl (by decide +kernel) rfl rfl (Nat.le_of_ble_eq_true rfl) dX3_pourInto_71 (fun H locs hP hD hS => ?_)
    replace hP : va_P D vwCl [oX3 a_o a_o_signs v_o_length, aI cI a_o_signs 129 f_o_signs, oX4 a_p1 y14 x18 x1 a_p1_kinds a_p1_wellPlaces a_p1_wellWorths a_p1_rules, aI cI a_p1_kinds 120 q17] H := hP
    replace hD : va_D A [oX3 a_o a_o_signs v_o_length, aI cI a_o_signs 129 f_o_signs, oX4 a_p1 y14 x18 x1 a_p1_kinds a_p1_wellPlaces a_p1_wellWorths a_p1_rules, aI cI a_p1_kinds 120 q17] := hD
    obtain ⟨rfl, rfl, rfl, rfl⟩ := cz_j4 (cz_i h)
    exact hQ _ _ _ _ hP hS dX3_pourInto_74
  clear h
  have hL12 : ∀ (k : Nat) (x4 : Int32) (x5 : Int32) (x6 : Int32) (g7 : (Nat → Int32)) (H : Heap) (locs : List Loc) (ls : Array Slot), f_X3_pourInto_L11 n v_o_length f_o_signs k x4 x5 x6 g7 = some z8 → va_P D vwCl [oX3 a_o a_o_signs v_o_length, aI cI a_o_signs 129 f_o_signs, oX4 a_p1 v_p1_wide v_p1_high x1 a_p1_kinds a_p1_wellPlaces a_p1_wellWorths a_p1_rules, aI cI a_p1_kinds 120 g7] H → va_D A [oX3 a_o a_o_signs v_o_length, aI cI a_o_signs 129 f_o_signs, oX4 a_p1 v_p1_wide v_p1_high x1 a_p1_kinds a_p1_wellPlaces a_p1_wellWorths a_p1_rules, aI cI a_p1_kinds 120 g7] → va_S A s.heap H locs → lv_has ls 6 [(0, .ref a_o), (1, .ref a_p1), (2, .int x4), (3, .int x5), (4, .int x6)] → W p l e (cz_rm 7 162) s m ag below meth c H locs 0 0 Q (F0 m 11 ls []) := by
    intro k
    induction k with
    | zero =>
      intro x4 x5 x6 g7 H locs ls h
      rw [f_X3_pourInto_L11] at h
      cases h
    | succ k ih19 =>
      intro x4 x5 x6 g7 H locs ls h hP hD hS hl
      rw [f_X3_pourInto_L11] at h
      refine lv_iload hx hb dX3_pourInto_11 (lv_at hl 4 rfl) ?_
      refine lv_aload_n hx hb dX3_pourInto_13 rfl (lv_at hl 0 rfl) ?_
      refine va_get (D := D) (ci := 3) (v := .int v_o_length) (C := RX3) (T := TX3) (N := 2) hx hb hts in_X3 hown hK hP 0 rfl rfl 1 (by decide) (hts _ mw_1_30) (fun _ h9 => h9) rfl dX3_pourInto_14 ?_
      refine lv_icmp_ge (tgt := 62) hx hb dX3_pourInto_17 (by decide) (fun c20 => ?_) (fun c20 => ?_)
      · replace h := cz_t c20 h
        exact hX11 _ _ _ _ _ _ _ (cz_i h).symm hP hD hS (lv_sub hl [1, 2, 3] rfl)
      · replace h := cz_f c20 h
        refine lv_aload_n hx hb dX3_pourInto_20 rfl (lv_at hl 0 rfl) ?_
        refine lv_iload hx hb dX3_pourInto_21 (lv_at hl 4 rfl) ?_
        obtain ⟨x21, hc22, h⟩ := cz_e1 h
        refine cz_callVT (As := [.int x6]) (rest := []) (is := [0, 1]) (isR := [2, 3]) (rs := [oX4 a_p1 v_p1_wide v_p1_high x1 a_p1_kinds a_p1_wellPlaces a_p1_wellWorths a_p1_rules, aI cI a_p1_kinds 120 g7]) (as := [a_o, a_o_signs, a_p1, a_p1_kinds]) (ws1 := [oX3 a_o a_o_signs v_o_length, aI cI a_o_signs 129 f_o_signs, oX4 a_p1 v_p1_wide v_p1_high x1 a_p1_kinds a_p1_wellPlaces a_p1_wellWorths a_p1_rules, aI cI a_p1_kinds 120 g7]) (q0 := 0) (ci := 3) ⟨hx, hb, hml, hown, hts⟩ (c_X3_kindAt l D cI adK adV a_o a_o_signs v_o_length f_o_signs x6 n x21 hc22) mw_1_209 mw_1_210 mw_1_211 mw_1_2 mw_1_212 hd_X3_kindAt ⟨Nat.le_of_ble_eq_true rfl, Nat.le_of_ble_eq_true rfl⟩ hK hN hT hP hD hS rfl rfl rfl rfl rfl rfl rfl rfl rfl rfl rfl rfl hl.1 rfl (Nat.le_of_ble_eq_true rfl) dX3_pourInto_23 ⟨Nat.le_of_ble_eq_true rfl, Nat.le_of_ble_eq_true rfl⟩ (fun H locs hP hD hS => ?_)
        refine W.eq (g2 := F0 m 26 ls [.int x21]) rfl ?_
        refine lv_istore (lv' := [(5, .int x21), (0, .ref a_o), (1, .ref a_p1), (2, .int x4), (3, .int x5), (4, .int x6)]) hx hb dX3_pourInto_26 hl (by decide) rfl (fun ls hl => ?_)
        refine lv_iload hx hb dX3_pourInto_28 (lv_at hl 0 rfl) ?_
        obtain ⟨z29, hE27, hz26⟩ := cz_x3 h
        have hJ28 : ∀ (x23 : Int32) (x24 : Int32) (g25 : (Nat → Int32)) (H : Heap) (locs : List Loc) (ls : Array Slot), z29 = (x23, x24, g25) → va_P D vwCl [oX3 a_o a_o_signs v_o_length, aI cI a_o_signs 129 f_o_signs, oX4 a_p1 v_p1_wide v_p1_high x1 a_p1_kinds a_p1_wellPlaces a_p1_wellWorths a_p1_rules, aI cI a_p1_kinds 120 g25] H → va_D A [oX3 a_o a_o_signs v_o_length, aI cI a_o_signs 129 f_o_signs, oX4 a_p1 v_p1_wide v_p1_high x1 a_p1_kinds a_p1_wellPlaces a_p1_wellWorths a_p1_rules, aI cI a_p1_kinds 120 g25] → va_S A s.heap H locs → lv_has ls 6 [(0, .ref a_o), (1, .ref a_p1), (2, .int x23), (3, .int x24), (4, .int x6)] → W p l e (cz_rm 7 162) s m ag below meth c H locs 0 0 Q (F0 m 56 ls []) := by
          intro x23 x24 g25 H locs ls h hP hD hS hl
          replace h := hz26 _ _ _ h
          obtain ⟨x30, ex30⟩ : ∃ z : Int32, z = x6 + (1 : Int32) := ⟨_, rfl⟩
          replace h := cz_ltE ex30 h
          refine lv_iinc (v := x30) (lv' := [(4, .int x30), (0, .ref a_o), (1, .ref a_p1), (2, .int x23), (3, .int x24)]) hx hb dX3_pourInto_56 hl (k := 4) rfl (by rw [ex30]; rfl) (by decide) rfl (fun ls hl => ?_)
          refine lv_goto (tgt := 11) hx hb dX3_pourInto_59 (by decide) ?_
          exact ih19 _ _ _ _ _ _ _ h hP hD hS (lv_sub hl [1, 2, 3, 4, 0] rfl)
        clear h
        have h := hE27
        refine lv_if_ge (tgt := 41) hx hb dX3_pourInto_30 (by decide) (fun c31 => ?_) (fun c31 => ?_)
        · replace h := cz_t c31 h
          refine lv_aload_n hx hb dX3_pourInto_41 rfl (lv_at hl 2 rfl) ?_
          refine lv_iload_n hx hb dX3_pourInto_42 rfl (lv_at hl 4 rfl) ?_
          refine lv_bipush (v := (12 : Int32)) hx hb dX3_pourInto_43 (by decide) ?_
          refine lv_imul hx hb dX3_pourInto_45 ?_
          refine lv_iload_n hx hb dX3_pourInto_46 rfl (lv_at hl 3 rfl) ?_
          refine lv_iadd hx hb dX3_pourInto_47 ?_
          refine lv_iload hx hb dX3_pourInto_48 (lv_at hl 0 rfl) ?_
          obtain ⟨g32, hc33, h⟩ := cz_e1 h
          refine cz_callV (As := [.int ((x5 * (12 : Int32)) + x4), .int x21]) (rest := []) (is := [2, 3]) (isR := [0, 1]) (rs := [oX3 a_o a_o_signs v_o_length, aI cI a_o_signs 129 f_o_signs]) (as := [a_o, a_o_signs, a_p1, a_p1_kinds]) (ws1 := [oX3 a_o a_o_signs v_o_length, aI cI a_o_signs 129 f_o_signs, oX4 a_p1 v_p1_wide v_p1_high x1 a_p1_kinds a_p1_wellPlaces a_p1_wellWorths a_p1_rules, aI cI a_p1_kinds 120 g32]) (q0 := 0) (ci := 4) ⟨hx, hb, hml, hown, hts⟩ (c_X4_setKind l D cI a_p1 a_p1_kinds a_p1_wellPlaces a_p1_wellWorths a_p1_rules v_p1_wide v_p1_high x1 g7 ((x5 * (12 : Int32)) + x4) x21 n g32 hc33) mw_2_72 mw_2_73 mw_2_74 mw_1_3 mw_2_75 hd_X4_setKind ⟨Nat.le_of_ble_eq_true rfl, Nat.le_of_ble_eq_true rfl⟩ hK hN hP hD hS rfl rfl rfl rfl rfl rfl rfl rfl rfl rfl rfl rfl hl.1 rfl (Nat.le_of_ble_eq_true rfl) dX3_pourInto_50 ⟨Nat.le_of_ble_eq_true rfl, Nat.le_of_ble_eq_true rfl⟩ (fun H locs hP hD hS => ?_)
          refine W.eq (g2 := F0 m 53 ls []) rfl ?_
          obtain ⟨x34, ex34⟩ : ∃ z : Int32, z = x4 + (1 : Int32) := ⟨_, rfl⟩
          replace h := cz_ltE ex34 h
          refine lv_iinc (v := x34) (lv' := [(2, .int x34), (5, .int x21), (0, .ref a_o), (1, .ref a_p1), (3, .int x5), (4, .int x6)]) hx hb dX3_pourInto_53 hl (k := 3) rfl (by rw [ex34]; rfl) (by decide) rfl (fun ls hl => ?_)
          exact hJ28 _ _ _ _ _ _ (cz_i h).symm hP hD hS (lv_sub hl [2, 3, 0, 4, 5] rfl)
        · replace h := cz_f c31 h
          refine lv_iconst (v := (0 : Int32)) hx hb dX3_pourInto_33 (by decide) ?_
          refine lv_istore_n (lv' := [(2, .int (0 : Int32)), (5, .int x21), (0, .ref a_o), (1, .ref a_p1), (3, .int x5), (4, .int x6)]) hx hb dX3_pourInto_34 rfl hl (by decide) rfl (fun ls hl => ?_)
          obtain ⟨x35, ex35⟩ : ∃ z : Int32, z = x5 + (1 : Int32) := ⟨_, rfl⟩
          replace h := cz_ltE ex35 h
          refine lv_iinc (v := x35) (lv' := [(3, .int x35), (2, .int (0 : Int32)), (5, .int x21), (0, .ref a_o), (1, .ref a_p1), (4, .int x6)]) hx hb dX3_pourInto_35 hl (k := 4) rfl (by rw [ex35]; rfl) (by decide) rfl (fun ls hl => ?_)
          refine lv_goto (tgt := 56) hx hb dX3_pourInto_38 (by decide) ?_
          exact hJ28 _ _ _ _ _ _ (cz_i h).symm hP hD hS (lv_sub hl [3, 4, 1, 0, 5] rfl)
  exact hL12 n _ _ _ _ _ _ _ hE9 hP hD hS (lv_sub hl [3, 4, 2, 1, 0] rfl)
set_option maxHeartbeats 4000000 in
set_option maxRecDepth 100000 in
theorem c_X5_read (l : Launch) (D : va_G) (cI : ClassId) (adK adV : Nat → Nat) (a_o a_o_tape a_o_tape_signs a_o_waters a_o_waters_kinds a_o_kept a_o_option a_o_chart a_o_otherChart a_o_evenCells a_o_row a_o_refusals a_o_waters_wellPlaces a_o_waters_wellWorths a_o_waters_rules : Nat) (v_o_rowLength : Int32) (v_o_hasImage : Int32) (v_o_tape_length : Int32) (f_o_tape_signs : (Nat → Int32)) (v_o_waters_wide : Int32) (v_o_waters_high : Int32) (v_o_waters_wells : Int32) (f_o_waters_kinds : (Nat → Int32)) (n : Nat) (r : Int32) (r_v_o_tape_length : Int32) (r_v_o_waters_wide : Int32) (r_v_o_waters_high : Int32) (r_v_o_waters_wells : Int32) (r_f_o_waters_kinds : (Nat → Int32)) (h : f_X5_read n v_o_tape_length f_o_tape_signs v_o_waters_wide v_o_waters_high v_o_waters_wells f_o_waters_kinds = some (r, r_v_o_tape_length, r_v_o_waters_wide, r_v_o_waters_high, r_v_o_waters_wells, r_f_o_waters_kinds)) : cz_MT l yX5_read cX5_read 2 (some .int) 9 207 D cI adK adV [.ref a_o] [oX5 a_o a_o_tape a_o_waters a_o_kept a_o_option a_o_chart a_o_otherChart a_o_evenCells a_o_row a_o_refusals v_o_rowLength v_o_hasImage, oX3 a_o_tape a_o_tape_signs v_o_tape_length, aI cI a_o_tape_signs 129 f_o_tape_signs, oX4 a_o_waters v_o_waters_wide v_o_waters_high v_o_waters_wells a_o_waters_kinds a_o_waters_wellPlaces a_o_waters_wellWorths a_o_waters_rules, aI cI a_o_waters_kinds 120 f_o_waters_kinds] (some (.int r)) [oX5 a_o a_o_tape a_o_waters a_o_kept a_o_option a_o_chart a_o_otherChart a_o_evenCells a_o_row a_o_refusals v_o_rowLength v_o_hasImage, oX3 a_o_tape a_o_tape_signs r_v_o_tape_length, aI cI a_o_tape_signs 129 f_o_tape_signs, oX4 a_o_waters r_v_o_waters_wide r_v_o_waters_high r_v_o_waters_wells a_o_waters_kinds a_o_waters_wellPlaces a_o_waters_wellWorths a_o_waters_rules, aI cI a_o_waters_kinds 120 r_f_o_waters_kinds] := by
  refine cz_startIT (by decide) (Nat.le_of_ble_eq_true rfl) ?_
  intro p e s m ag below meth c A Q hx hb hml hown hts hK hN hT hQ H locs hP hD hS ls hl
  replace hown : s.vm.findClass RX5 = some m.cls := hown
  replace hl : lv_has ls 2 [(0, .ref a_o)] := hl
  unfold f_X5_read at h
  refine lv_aload_n hx hb dX5_read_0 rfl (lv_at hl 0 rfl) ?_
  refine va_get (D := D) (ci := 5) (v := .ref a_o_tape) (C := RX5) (T := TX5) (N := 11) hx hb hts in_X5 hown hK hP 0 rfl rfl 0 (by decide) (hts _ mw_1_151) (fun _ h9 => h9) rfl dX5_read_1 ?_
  obtain ⟨x1, hc2, h⟩ := cz_e1 h
  refine cz_callVT (As := []) (rest := []) (is := [1, 2]) (isR := [0, 3, 4]) (rs := [oX5 a_o a_o_tape a_o_waters a_o_kept a_o_option a_o_chart a_o_otherChart a_o_evenCells a_o_row a_o_refusals v_o_rowLength v_o_hasImage, oX4 a_o_waters v_o_waters_wide v_o_waters_high v_o_waters_wells a_o_waters_kinds a_o_waters_wellPlaces a_o_waters_wellWorths a_o_waters_rules, aI cI a_o_waters_kinds 120 f_o_waters_kinds]) (as := [a_o, a_o_tape, a_o_tape_signs, a_o_waters, a_o_waters_kinds]) (ws1 := [oX5 a_o a_o_tape a_o_waters a_o_kept a_o_option a_o_chart a_o_otherChart a_o_evenCells a_o_row a_o_refusals v_o_rowLength v_o_hasImage, oX3 a_o_tape a_o_tape_signs v_o_tape_length, aI cI a_o_tape_signs 129 f_o_tape_signs, oX4 a_o_waters v_o_waters_wide v_o_waters_high v_o_waters_wells a_o_waters_kinds a_o_waters_wellPlaces a_o_waters_wellWorths a_o_waters_rules, aI cI a_o_waters_kinds 120 f_o_waters_kinds]) (q0 := 0) (ci := 3) ⟨hx, hb, hml, hown, hts⟩ (c_X3_firstFault l D cI adK adV a_o_tape a_o_tape_signs v_o_tape_length f_o_tape_signs  n x1 hc2) mw_1_201 mw_1_202 mw_1_203 mw_1_2 mw_1_204 hd_X3_firstFault ⟨Nat.le_of_ble_eq_true rfl, Nat.le_of_ble_eq_true rfl⟩ hK hN hT hP hD hS rfl rfl rfl rfl rfl rfl rfl rfl rfl rfl rfl rfl hl.1 rfl (Nat.le_of_ble_eq_true rfl) dX5_read_4 ⟨Nat.le_of_ble_eq_true rfl, Nat.le_of_ble_eq_true rfl⟩ (fun H locs hP hD hS => ?_)
  refine W.eq (g2 := F0 m 7 ls [.int x1]) rfl ?_
  refine lv_istore_n (lv' := [(1, .int x1), (0, .ref a_o)]) hx hb dX5_read_7 rfl hl (by decide) rfl (fun ls hl => ?_)
  refine lv_iload_n hx hb dX5_read_8 rfl (lv_at hl 0 rfl) ?_
  obtain ⟨z10, hE8, hz7⟩ := cz_x4 h
  have hJ9 : ∀ (x3 : Int32) (x4 : Int32) (x5 : Int32) (g6 : (Nat → Int32)) (H : Heap) (locs : List Loc) (ls : Array Slot), z10 = (x3, x4, x5, g6) → va_P D vwCl [oX5 a_o a_o_tape a_o_waters a_o_kept a_o_option a_o_chart a_o_otherChart a_o_evenCells a_o_row a_o_refusals v_o_rowLength v_o_hasImage, oX3 a_o_tape a_o_tape_signs v_o_tape_length, aI cI a_o_tape_signs 129 f_o_tape_signs, oX4 a_o_waters x3 x4 x5 a_o_waters_kinds a_o_waters_wellPlaces a_o_waters_wellWorths a_o_waters_rules, aI cI a_o_waters_kinds 120 g6] H → va_D A [oX5 a_o a_o_tape a_o_waters a_o_kept a_o_option a_o_chart a_o_otherChart a_o_evenCells a_o_row a_o_refusals v_o_rowLength v_o_hasImage, oX3 a_o_tape a_o_tape_signs v_o_tape_length, aI cI a_o_tape_signs 129 f_o_tape_signs, oX4 a_o_waters x3 x4 x5 a_o_waters_kinds a_o_waters_wellPlaces a_o_waters_wellWorths a_o_waters_rules, aI cI a_o_waters_kinds 120 g6] → va_S A s.heap H locs → lv_has ls 2 [(0, .ref a_o), (1, .int x1)] → W p l e (cz_rm 9 207) s m ag below meth c H locs 0 0 Q (F0 m 23 ls []) := by
    intro x3 x4 x5 g6 H locs ls h hP hD hS hl
    replace h := hz7 _ _ _ _ h
    refine lv_aload_n hx hb dX5_read_23 rfl (lv_at hl 0 rfl) ?_
    refine va_get (D := D) (ci := 5) (v := .ref a_o_tape) (C := RX5) (T := TX5) (N := 11) hx hb hts in_X5 hown hK hP 0 rfl rfl 0 (by decide) (hts _ mw_1_151) (fun _ h9 => h9) rfl dX5_read_24 ?_
    refine lv_iconst (v := (0 : Int32)) hx hb dX5_read_27 (by decide) ?_
    refine va_putN (D := D) (ci := 3) (v := .int (0 : Int32)) (ty := .int) (C := RX3) (T := TX3) (N := 2) hx hb hts in_X3 tyX3 tyX3_ok nmX3 hown hK hP hD hS 1 rfl rfl 1 (by decide) (hN.use nw_1) (fun _ h9 => h9) rfl (by decide +kernel) rfl rfl (Nat.le_of_ble_eq_true rfl) dX5_read_28 (fun H locs hP hD hS => ?_)
    replace hP : va_P D vwCl [oX5 a_o a_o_tape a_o_waters a_o_kept a_o_option a_o_chart a_o_otherChart a_o_evenCells a_o_row a_o_refusals v_o_rowLength v_o_hasImage, oX3 a_o_tape a_o_tape_signs (0 : Int32), aI cI a_o_tape_signs 129 f_o_tape_signs, oX4 a_o_waters x3 x4 x5 a_o_waters_kinds a_o_waters_wellPlaces a_o_waters_wellWorths a_o_waters_rules, aI cI a_o_waters_kinds 120 g6] H := hP
    replace hD : va_D A [oX5 a_o a_o_tape a_o_waters a_o_kept a_o_option a_o_chart a_o_otherChart a_o_evenCells a_o_row a_o_refusals v_o_rowLength v_o_hasImage, oX3 a_o_tape a_o_tape_signs (0 : Int32), aI cI a_o_tape_signs 129 f_o_tape_signs, oX4 a_o_waters x3 x4 x5 a_o_waters_kinds a_o_waters_wellPlaces a_o_waters_wellWorths a_o_waters_rules, aI cI a_o_waters_kinds 120 g6] := hD
    refine lv_iload_n hx hb dX5_read_31 rfl (lv_at hl 1 rfl) ?_
    refine lv_if_ge (tgt := 45) hx hb dX5_read_32 (by decide) (fun c11 => ?_) (fun c11 => ?_)
    · replace h := cz_t c11 h
      refine lv_bipush (v := (-20 : Int32)) hx hb dX5_read_45 (by decide) ?_
      refine lv_iload_n hx hb dX5_read_47 rfl (lv_at hl 1 rfl) ?_
      refine lv_isub hx hb dX5_read_48 ?_
      obtain ⟨rfl, rfl, rfl, rfl, rfl, rfl⟩ := cz_j6 (cz_i h)
      exact hQ _ _ _ _ hP hS dX5_read_49
    · replace h := cz_f c11 h
      refine lv_aload_n hx hb dX5_read_35 rfl (lv_at hl 0 rfl) ?_
      refine va_get (D := D) (ci := 5) (v := .ref a_o_waters) (C := RX5) (T := TX5) (N := 11) hx hb hts in_X5 hown hK hP 0 rfl rfl 1 (by decide) (hts _ mw_1_152) (fun _ h9 => h9) rfl dX5_read_36 ?_
      obtain ⟨x12, hc13, h⟩ := cz_e1 h
      refine cz_callV (As := []) (rest := []) (is := [3]) (isR := [0, 1, 2, 4]) (rs := [oX5 a_o a_o_tape a_o_waters a_o_kept a_o_option a_o_chart a_o_otherChart a_o_evenCells a_o_row a_o_refusals v_o_rowLength v_o_hasImage, oX3 a_o_tape a_o_tape_signs (0 : Int32), aI cI a_o_tape_signs 129 f_o_tape_signs, aI cI a_o_waters_kinds 120 g6]) (as := [a_o, a_o_tape, a_o_tape_signs, a_o_waters, a_o_waters_kinds]) (ws1 := [oX5 a_o a_o_tape a_o_waters a_o_kept a_o_option a_o_chart a_o_otherChart a_o_evenCells a_o_row a_o_refusals v_o_rowLength v_o_hasImage, oX3 a_o_tape a_o_tape_signs (0 : Int32), aI cI a_o_tape_signs 129 f_o_tape_signs, oX4 a_o_waters x3 x4 x5 a_o_waters_kinds a_o_waters_wellPlaces a_o_waters_wellWorths a_o_waters_rules, aI cI a_o_waters_kinds 120 g6]) (q0 := 0) (ci := 4) ⟨hx, hb, hml, hown, hts⟩ (c_X4_size l D cI a_o_waters a_o_waters_kinds a_o_waters_wellPlaces a_o_waters_wellWorths a_o_waters_rules x3 x4 x5  n x12 hc13) mw_2_76 mw_2_77 mw_2_78 mw_1_3 mw_2_79 hd_X4_size ⟨Nat.le_of_ble_eq_true rfl, Nat.le_of_ble_eq_true rfl⟩ hK hN hP hD hS rfl rfl rfl rfl rfl rfl rfl rfl rfl rfl rfl rfl hl.1 rfl (Nat.le_of_ble_eq_true rfl) dX5_read_39 ⟨Nat.le_of_ble_eq_true rfl, Nat.le_of_ble_eq_true rfl⟩ (fun H locs hP hD hS => ?_)
      refine W.eq (g2 := F0 m 42 ls [.int x12]) rfl ?_
      refine lv_goto (tgt := 49) hx hb dX5_read_42 (by decide) ?_
      obtain ⟨rfl, rfl, rfl, rfl, rfl, rfl⟩ := cz_j6 (cz_i h)
      exact hQ _ _ _ _ hP hS dX5_read_49
  clear h
  have h := hE8
  refine lv_if_ge (tgt := 23) hx hb dX5_read_9 (by decide) (fun c14 => ?_) (fun c14 => ?_)
  · replace h := cz_t c14 h
    exact hJ9 _ _ _ _ _ _ _ (cz_i h).symm hP hD hS (lv_sub hl [1, 0] rfl)
  · replace h := cz_f c14 h
    refine lv_aload_n hx hb dX5_read_12 rfl (lv_at hl 1 rfl) ?_
    refine va_get (D := D) (ci := 5) (v := .ref a_o_tape) (C := RX5) (T := TX5) (N := 11) hx hb hts in_X5 hown hK hP 0 rfl rfl 0 (by decide) (hts _ mw_1_151) (fun _ h9 => h9) rfl dX5_read_13 ?_
    refine lv_aload_n hx hb dX5_read_16 rfl (lv_at hl 1 rfl) ?_
    refine va_get (D := D) (ci := 5) (v := .ref a_o_waters) (C := RX5) (T := TX5) (N := 11) hx hb hts in_X5 hown hK hP 0 rfl rfl 1 (by decide) (hts _ mw_1_152) (fun _ h9 => h9) rfl dX5_read_17 ?_
    obtain ⟨x15, x16, x17, g18, hc19, h⟩ := cz_e4 h
    refine cz_callVT (As := [.ref a_o_waters]) (rest := []) (is := [1, 2, 3, 4]) (isR := [0]) (rs := [oX5 a_o a_o_tape a_o_waters a_o_kept a_o_option a_o_chart a_o_otherChart a_o_evenCells a_o_row a_o_refusals v_o_rowLength v_o_hasImage]) (as := [a_o, a_o_tape, a_o_tape_signs, a_o_waters, a_o_waters_kinds]) (ws1 := [oX5 a_o a_o_tape a_o_waters a_o_kept a_o_option a_o_chart a_o_otherChart a_o_evenCells a_o_row a_o_refusals v_o_rowLength v_o_hasImage, oX3 a_o_tape a_o_tape_signs v_o_tape_length, aI cI a_o_tape_signs 129 f_o_tape_signs, oX4 a_o_waters x15 x16 x17 a_o_waters_kinds a_o_waters_wellPlaces a_o_waters_wellWorths a_o_waters_rules, aI cI a_o_waters_kinds 120 g18]) (q0 := 0) (ci := 3) ⟨hx, hb, hml, hown, hts⟩ (c_X3_pourInto l D cI adK adV a_o_tape a_o_tape_signs a_o_waters a_o_waters_kinds a_o_waters_wellPlaces a_o_waters_wellWorths a_o_waters_rules v_o_tape_length f_o_tape_signs v_o_waters_wide v_o_waters_high v_o_waters_wells f_o_waters_kinds  n x15 x16 x17 g18 hc19) mw_2_64 mw_2_65 mw_2_66 mw_1_2 mw_2_67 hd_X3_pourInto ⟨Nat.le_of_ble_eq_true rfl, Nat.le_of_ble_eq_true rfl⟩ hK hN hT hP hD hS rfl rfl rfl rfl rfl rfl rfl rfl rfl rfl rfl rfl hl.1 rfl (Nat.le_of_ble_eq_true rfl) dX5_read_20 ⟨Nat.le_of_ble_eq_true rfl, Nat.le_of_ble_eq_true rfl⟩ (fun H locs hP hD hS => ?_)
    refine W.eq (g2 := F0 m 23 ls []) rfl ?_
    exact hJ9 _ _ _ _ _ _ _ (cz_i h).symm hP hD hS (lv_sub hl [1, 0] rfl)
