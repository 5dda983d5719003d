/-! the pure side, 10: feed -/
theorem byte_bv (x : BitVec 64) (s : Nat) (hs : s + 8 ≤ 64) : ((x >>> s).setWidth 32 &&& 255#32) = ((x.sshiftRight s &&& 255#64).setWidth 32) := by
  ext j hj
  have h255 : ∀ j, (255#32).getLsbD j = decide (j < 8) := by
    intro j
    by_cases h : j < 32
    · revert j; decide
    · rw [BitVec.getLsbD_of_ge _ _ (by omega)]; symm; exact decide_eq_false (by omega)
  have h256 : ∀ j, (255#64).getLsbD j = decide (j < 8) := by
    intro j
    by_cases h : j < 64
    · revert j; decide
    · rw [BitVec.getLsbD_of_ge _ _ (by omega)]; symm; exact decide_eq_false (by omega)
  simp only [← BitVec.getLsbD_eq_getElem, BitVec.getLsbD_and, BitVec.getLsbD_setWidth, BitVec.getLsbD_ushiftRight, BitVec.getLsbD_sshiftRight, h255, h256]
  by_cases h : j < 8
  · have : s + j < 64 := by omega
    simp [h, this, hj]
    omega
  · simp [h]

theorem byte_c (w2 : Int64) (i : Nat) (hi : i < 8) : ((((w2).toUInt64 >>> ((((8 : Int32) * nI i)).toInt64.toUInt64 &&& Int64.toUInt64 63)).toInt64).toInt32 &&& (255 : Int32)).toBitVec = ((w2.toBitVec >>> (8 * i)).setWidth 32 &&& 255#32) := by
  have key : ∀ i, i < 8 → ((((8 : Int32) * nI i)).toInt64.toUInt64 &&& Int64.toUInt64 63) = UInt64.ofNat (8 * i) := by decide
  have k2 : ∀ i, i < 8 → (UInt64.ofNat (8 * i)).toBitVec % 64#64 = BitVec.ofNat 64 (8 * i) := by decide
  have k3 : ∀ i, i < 8 → (BitVec.ofNat 64 (8 * i)).toNat = 8 * i := by decide
  rw [key i hi, Int32.toBitVec_and, Int64.toBitVec_toInt32]
  have e : ((w2.toUInt64 >>> UInt64.ofNat (8 * i)).toInt64).toBitVec = w2.toBitVec >>> (8 * i) := by
    show (w2.toUInt64 >>> UInt64.ofNat (8 * i)).toBitVec = _
    rw [UInt64.toBitVec_shiftRight]
    have : (UInt64.ofNat (8 * i)).toBitVec % 64 = BitVec.ofNat 64 (8 * i) := k2 i hi
    rw [this]
    show w2.toBitVec >>> (BitVec.ofNat 64 (8 * i)).toNat = _
    rw [k3 i hi]
  rw [e, BitVec.signExtend_eq_setWidth_of_le _ (by omega)]
  rfl
theorem byte_m (w2 : Int64) (i : Nat) (hi : i < 8) : ((((w2 >>> ((((8 : Int32) * nI i)).toInt64 &&& 63)) &&& (255 : Int64))).toInt32).toBitVec = ((w2.toBitVec.sshiftRight (8 * i) &&& 255#64).setWidth 32) := by
  have key : ∀ i, i < 8 → ((((8 : Int32) * nI i)).toInt64 &&& 63) = Int64.ofNat (8 * i) := by decide
  have k2 : ∀ i, i < 8 → ((Int64.ofNat (8 * i)).toBitVec.smod 64).toNat = (8 * i) := by decide
  rw [key i hi, Int64.toBitVec_toInt32, Int64.toBitVec_and]
  have e : (w2 >>> Int64.ofNat (8 * i)).toBitVec = w2.toBitVec.sshiftRight (8 * i) := by
    rw [Int64.toBitVec_shiftRight]
    show w2.toBitVec.sshiftRight ((Int64.ofNat (8 * i)).toBitVec.smod 64).toNat = _
    rw [k2 i hi]
  rw [e, BitVec.signExtend_eq_setWidth_of_le _ (by omega)]
  rfl
theorem byte_lt (z : Int32) : ∃ a : Nat, a < 256 ∧ (z &&& 255) = nI a := by
  refine ⟨(z &&& 255).toBitVec.toNat, ?_, ?_⟩
  · rw [Int32.toBitVec_and, BitVec.toNat_and]
    exact Nat.lt_of_le_of_lt Nat.and_le_right (by decide)
  · show _ = Int32.ofNat _
    refine Int32.toBitVec_inj.mp ?_
    show _ = BitVec.ofNat 32 _
    rw [BitVec.ofNat_toNat, BitVec.setWidth_eq]
theorem byte_eq (w2 : Int64) (i : Nat) (hi : i < 8) : ((((w2 >>> ((((8 : Int32) * nI i)).toInt64 &&& 63)) &&& (255 : Int64))).toInt32) = ((((w2).toUInt64 >>> ((((8 : Int32) * nI i)).toInt64.toUInt64 &&& Int64.toUInt64 63)).toInt64).toInt32 &&& (255 : Int32)) :=
  Int32.toBitVec_inj.mp ((byte_m w2 i hi).trans ((byte_bv w2.toBitVec (8 * i) (by omega)).symm.trans (byte_c w2 i hi).symm))
theorem feed_loop {n N t : Nat} (w2 : Int64) (hN : N ≤ 8) (ht : t + N ≤ 129) : ∀ (d i k : Nat) (g m : Nat → Int32), i + d = N → d < k → (∀ j : Nat, j < 129 → m j = g j ∧ ∃ a : Nat, a < 256 ∧ g j = nI a) → ∃ g' m' : Nat → Int32, f_X3_add_L3 n (nI N) w2 k (nI i) (nI (t + i)) g = some (nI N, nI (t + N), g') ∧ f_X6_feed_L40 n (nI N) w2 k (nI i) (nI (t + i)) m = some (nI N, nI (t + N), m') ∧ (∀ j : Nat, j < 129 → m' j = g' j ∧ ∃ a : Nat, a < 256 ∧ g' j = nI a) := by
  intro d
  induction d with
  | zero =>
    intro i k g m h1 h2 hg
    obtain ⟨k, rfl⟩ : ∃ q, k = q + 1 := ⟨k - 1, by omega⟩
    have : i = N := by omega
    subst this
    refine ⟨g, m, ?_, ?_, hg⟩
    · rw [f_X3_add_L3]
      exact if_pos (Int32.le_refl _)
    · rw [f_X6_feed_L40]
      exact if_pos (Int32.le_refl _)
  | succ d ih =>
    intro i k g m h1 h2 hg
    obtain ⟨k, rfl⟩ : ∃ q, k = q + 1 := ⟨k - 1, by omega⟩
    obtain ⟨a, ha, ea⟩ := byte_lt (((w2).toUInt64 >>> ((((8 : Int32) * nI i)).toInt64.toUInt64 &&& Int64.toUInt64 63)).toInt64).toInt32
    obtain ⟨g', m', q1, q2, q3⟩ := ih (i + 1) k (upd g (t + i) (nI a)) (upd m (t + i) (nI a)) (by omega) (by omega) (fun j hj => by
      by_cases e : j = t + i
      · subst e
        rw [pk_us, pk_us]
        exact ⟨rfl, a, ha, rfl⟩
      · rw [pk_un e, pk_un e]
        exact hg j hj)
    refine ⟨g', m', ?_, ?_, q3⟩
    · rw [f_X3_add_L3]
      refine (if_neg (nI_ge (by omega) (by omega))).trans ?_
      refine (if_neg (show ¬ nI 8 ≤ nI i from nI_ge (by omega) (by omega))).trans ?_
      rw [ea, if_neg (nI_pos (by omega)), if_neg (show ¬ (129 : Int32) ≤ nI (t + i) from nI_ge (b := 129) (by omega) (by omega)), pr_wr (by omega) (by omega), pr_lt, pr_b2 rfl, pr_lt, nI_1, nI_1]
      exact q1
    · rw [f_X6_feed_L40]
      refine (if_neg (nI_ge (by omega) (by omega))).trans ?_
      rw [byte_eq w2 i (by omega), ea, pr_wr (by omega) (by omega), pr_lt, pr_lt, nI_1, nI_1]
      exact q2
theorem st_feed {n : Nat} (hn : 200 ≤ n) {v_x_tape_length : Int32} {f_x_tape_signs : (Nat → Int32)} {v_x_waters_wide : Int32} {v_x_waters_high : Int32} {v_x_waters_wells : Int32} {f_x_waters_kinds : (Nat → Int32)} {f_x_waters_wellPlaces : (Nat → Int32)} {f_x_waters_wellWorths : (Nat → Int32)} {v_x_waters_rules_mouth : Int32} {v_x_waters_rules_weight : Int32} {v_x_waters_rules_reach : Int32} {v_x_waters_rules_bend : Int32} {v_x_kept_wide : Int32} {v_x_kept_high : Int32} {v_x_kept_wells : Int32} {f_x_kept_kinds : (Nat → Int32)} {f_x_kept_wellPlaces : (Nat → Int32)} {f_x_kept_wellWorths : (Nat → Int32)} {v_x_kept_rules_mouth : Int32} {v_x_kept_rules_weight : Int32} {v_x_kept_rules_reach : Int32} {v_x_kept_rules_bend : Int32} {v_x_hasImage : Int32} {v_x_rowLength : Int32} {f_x_row : (Nat → Int32)} {f_x_refusals : (Nat → Int32)} {v_m_isImage : Int32} {v_m_taped : Int32} {v_m_rowed : Int32} {f_m_tape : (Nat → Int32)} {f_m_s : (Nat → Int32)} {f_m_image : (Nat → Int32)} {f_m_row : (Nat → Int32)} {f_m_refusals : (Nat → Int32)} (w1 : Int32) (w2 : Int64) (hR : Rel v_x_tape_length f_x_tape_signs v_x_waters_wide v_x_waters_high v_x_waters_wells f_x_waters_kinds f_x_waters_wellPlaces f_x_waters_wellWorths v_x_waters_rules_mouth v_x_waters_rules_weight v_x_waters_rules_reach v_x_waters_rules_bend v_x_kept_wide v_x_kept_high v_x_kept_wells f_x_kept_kinds f_x_kept_wellPlaces f_x_kept_wellWorths v_x_kept_rules_mouth v_x_kept_rules_weight v_x_kept_rules_reach v_x_kept_rules_bend v_x_hasImage v_x_rowLength f_x_row f_x_refusals v_m_isImage v_m_taped v_m_rowed f_m_tape f_m_s f_m_image f_m_row f_m_refusals) : ∃ (r : Int32) (r_v_x_tape_length : Int32) (r_f_x_tape_signs : (Nat → Int32)) (r_f_x_refusals : (Nat → Int32)) (r_v_m_taped : Int32) (r_f_m_refusals : (Nat → Int32)) (r_f_m_tape : (Nat → Int32)), f_X5_feed n v_x_tape_length f_x_tape_signs f_x_refusals w1 w2 = some (r, r_v_x_tape_length, r_f_x_tape_signs, r_f_x_refusals) ∧ f_X6_feed n v_m_taped f_m_refusals f_m_tape w1 w2 = some (r, r_v_m_taped, r_f_m_refusals, r_f_m_tape) ∧ Rel r_v_x_tape_length r_f_x_tape_signs v_x_waters_wide v_x_waters_high v_x_waters_wells f_x_waters_kinds f_x_waters_wellPlaces f_x_waters_wellWorths v_x_waters_rules_mouth v_x_waters_rules_weight v_x_waters_rules_reach v_x_waters_rules_bend v_x_kept_wide v_x_kept_high v_x_kept_wells f_x_kept_kinds f_x_kept_wellPlaces f_x_kept_wellWorths v_x_kept_rules_mouth v_x_kept_rules_weight v_x_kept_rules_reach v_x_kept_rules_bend v_x_hasImage v_x_rowLength f_x_row r_f_x_refusals v_m_isImage r_v_m_taped v_m_rowed r_f_m_tape f_m_s f_m_image f_m_row r_f_m_refusals := by
  obtain ⟨R1, ⟨t, ht, et⟩, R3, R4, R5, R6, R7, R8, R9, R10⟩ := id hR
  have hbad : ∀ (v : Int32) (c : Nat), 1 ≤ c ∧ c ≤ 6 → -v = nI c → ∃ g g' : Nat → Int32, f_X5_refuse n f_x_refusals v = some (v, g) ∧ f_X6_refuse n f_m_refusals v = some (v, g') ∧ ∀ j : Nat, j < 7 → g' j = g j := fun v c hc hv => pr_refuse c hc hv R10
  unfold f_X5_feed f_X6_feed
  by_cases c1 : (1 : Int32) ≤ w1
  · rw [if_pos c1, if_pos c1]
    by_cases c2 : (8 : Int32) < w1
    · obtain ⟨g, g', q1, q2, q3⟩ := hbad (-6) 6 (by omega) (by decide)
      rw [if_pos c2, if_pos c2, pr_b2 q1, pr_b2 q2]
      exact ⟨_, _, _, _, _, _, _, rfl, rfl, R1, ⟨t, ht, et⟩, R3, R4, R5, R6, R7, R8, R9, q3⟩
    · obtain ⟨N, hN, rfl⟩ := nI_of2 (M := 8) (n := 8) (by decide) (fun q => absurd (Int32.lt_of_le_of_lt c1 q) (by decide)) (Int32.not_lt.mp c2)
      rw [if_neg c2, if_neg c2, R1, et, nI_add]
      by_cases c3 : t + N ≤ 129
      · obtain ⟨g', m', q1, q2, q3⟩ := feed_loop (n := n) w2 hN c3 N 0 n f_x_tape_signs f_m_tape (by omega) (by omega) R3
        have q0 : f_X3_add n (nI t) f_x_tape_signs (nI N) w2 = some (nI (t + N), g') := by
          unfold f_X3_add
          exact pr_b3 q1
        rw [if_pos (show nI (t + N) ≤ (129 : Int32) from nI_le (b := 129) c3 (by omega)), if_pos (show nI (t + N) ≤ (129 : Int32) from nI_le (b := 129) c3 (by omega)), pr_b2 q0]
        refine ⟨_, _, _, _, _, _, _, rfl, pr_b3 q2, rfl, ⟨t + N, c3, rfl⟩, q3, R4, R5, R6, R7, R8, R9, R10⟩
      · obtain ⟨g, g', q1, q2, q3⟩ := hbad (-6) 6 (by omega) (by decide)
        rw [if_neg (show ¬ nI (t + N) ≤ (129 : Int32) from nI_ge (a := 129) (by omega) (by omega)), if_neg (show ¬ nI (t + N) ≤ (129 : Int32) from nI_ge (a := 129) (by omega) (by omega)), pr_b2 q1, pr_b2 q2]
        exact ⟨_, _, _, _, _, _, _, rfl, rfl, rfl, ⟨t, ht, rfl⟩, R3, R4, R5, R6, R7, R8, R9, q3⟩
  · obtain ⟨g, g', q1, q2, q3⟩ := hbad (-4) 4 (by omega) (by decide)
    rw [if_neg c1, if_neg c1, pr_b2 q1, pr_b2 q2]
    exact ⟨_, _, _, _, _, _, _, rfl, rfl, R1, ⟨t, ht, et⟩, R3, R4, R5, R6, R7, R8, R9, q3⟩
