/-! the pure side, 5: copies, rules, images -/
theorem pf_cp37 (n : Nat) (p : Nat → Int32) : ∀ (d i k : Nat) (g : Nat → Int32), i + d = 120 → d < k → f_X4_copyFrom_L37 n p k (nI i) g = some (nI 120, fun j => if i ≤ j ∧ j < 120 then p j else g j) := by
  intro d
  induction d with
  | zero =>
    intro i k g h1 h2
    obtain ⟨k, rfl⟩ : ∃ q, k = q + 1 := ⟨k - 1, by omega⟩
    have : i = 120 := by omega
    subst this
    rw [f_X4_copyFrom_L37]
    refine (if_pos (Int32.le_refl _)).trans ?_
    congr 2
    funext j
    rw [if_neg (by omega)]
  | succ d ih =>
    intro i k g h1 h2
    obtain ⟨k, rfl⟩ : ∃ q, k = q + 1 := ⟨k - 1, by omega⟩
    rw [f_X4_copyFrom_L37]
    refine (if_neg (show ¬ nI 120 ≤ nI i from nI_ge (by omega) (by omega))).trans ?_
    rw [pr_rd (by omega) (by omega), pr_wr (by omega) (by omega), pr_lt]
    show f_X4_copyFrom_L37 n p k (nI i + 1) _ = _
    rw [nI_1, ih (i + 1) k _ (by omega) (by omega)]
    congr 2
    funext j
    by_cases h3 : j = i
    · subst h3
      rw [if_neg (by omega), if_pos (by omega), pk_us]
    · rw [pk_un h3]
      by_cases h4 : i ≤ j ∧ j < 120
      · rw [if_pos (by omega), if_pos h4]
      · rw [if_neg (by omega), if_neg h4]
theorem pf_im (n : Nat) (p : Nat → Int32) : ∀ (d i k : Nat) (g : Nat → Int32), i + d = 151 → d < k → f_X6_image_L2 n p k (nI i) g = some (nI 151, fun j => if i ≤ j ∧ j < 151 then p j else g j) := by
  intro d
  induction d with
  | zero =>
    intro i k g h1 h2
    obtain ⟨k, rfl⟩ : ∃ q, k = q + 1 := ⟨k - 1, by omega⟩
    have : i = 151 := by omega
    subst this
    rw [f_X6_image_L2]
    refine (if_pos (Int32.le_refl _)).trans ?_
    congr 2
    funext j
    rw [if_neg (by omega)]
  | succ d ih =>
    intro i k g h1 h2
    obtain ⟨k, rfl⟩ : ∃ q, k = q + 1 := ⟨k - 1, by omega⟩
    rw [f_X6_image_L2]
    refine (if_neg (show ¬ nI 151 ≤ nI i from nI_ge (by omega) (by omega))).trans ?_
    rw [pr_rd (by omega) (by omega), pr_wr (by omega) (by omega), pr_lt]
    show f_X6_image_L2 n p k (nI i + 1) _ = _
    rw [nI_1, ih (i + 1) k _ (by omega) (by omega)]
    congr 2
    funext j
    by_cases h3 : j = i
    · subst h3
      rw [if_neg (by omega), if_pos (by omega), pk_us]
    · rw [pk_un h3]
      by_cases h4 : i ≤ j ∧ j < 151
      · rw [if_pos (by omega), if_pos h4]
      · rw [if_neg (by omega), if_neg h4]
theorem pf_on (n : Nat) (p : Nat → Int32) : ∀ (d i k : Nat) (g : Nat → Int32), i + d = 151 → d < k → f_X6_on_L16 n p k (nI i) g = some (nI 151, fun j => if i ≤ j ∧ j < 151 then p j else g j) := by
  intro d
  induction d with
  | zero =>
    intro i k g h1 h2
    obtain ⟨k, rfl⟩ : ∃ q, k = q + 1 := ⟨k - 1, by omega⟩
    have : i = 151 := by omega
    subst this
    rw [f_X6_on_L16]
    refine (if_pos (Int32.le_refl _)).trans ?_
    congr 2
    funext j
    rw [if_neg (by omega)]
  | succ d ih =>
    intro i k g h1 h2
    obtain ⟨k, rfl⟩ : ∃ q, k = q + 1 := ⟨k - 1, by omega⟩
    rw [f_X6_on_L16]
    refine (if_neg (show ¬ nI 151 ≤ nI i from nI_ge (by omega) (by omega))).trans ?_
    rw [pr_rd (by omega) (by omega), pr_wr (by omega) (by omega), pr_lt]
    show f_X6_on_L16 n p k (nI i + 1) _ = _
    rw [nI_1, ih (i + 1) k _ (by omega) (by omega)]
    congr 2
    funext j
    by_cases h3 : j = i
    · subst h3
      rw [if_neg (by omega), if_pos (by omega), pk_us]
    · rw [pk_un h3]
      by_cases h4 : i ≤ j ∧ j < 151
      · rw [if_pos (by omega), if_pos h4]
      · rw [if_neg (by omega), if_neg h4]
theorem pf_cp63 (n : Nat) (p q : Nat → Int32) : ∀ (d i k : Nat) (g g' : Nat → Int32), i + d = 12 → d < k → f_X4_copyFrom_L63 n p q k (nI i) g g' = some (nI 12, (fun j => if i ≤ j ∧ j < 12 then p j else g j), fun j => if i ≤ j ∧ j < 12 then q j else g' j) := by
  intro d
  induction d with
  | zero =>
    intro i k g g' h1 h2
    obtain ⟨k, rfl⟩ : ∃ q, k = q + 1 := ⟨k - 1, by omega⟩
    have : i = 12 := by omega
    subst this
    rw [f_X4_copyFrom_L63]
    refine (if_pos (Int32.le_refl _)).trans ?_
    congr 3
    · funext j
      rw [if_neg (by omega)]
    · funext j
      rw [if_neg (by omega)]
  | succ d ih =>
    intro i k g g' h1 h2
    obtain ⟨k, rfl⟩ : ∃ q, k = q + 1 := ⟨k - 1, by omega⟩
    rw [f_X4_copyFrom_L63]
    refine (if_neg (show ¬ nI 12 ≤ nI i from nI_ge (by omega) (by omega))).trans ?_
    rw [pr_rd (by omega) (by omega), pr_wr (by omega) (by omega), pr_rd (by omega) (by omega), pr_wr (by omega) (by omega), pr_lt]
    show f_X4_copyFrom_L63 n p q k (nI i + 1) _ _ = _
    rw [nI_1, ih (i + 1) k _ _ (by omega) (by omega)]
    have key : ∀ (f G : Nat → Int32) (j : Nat), (if i + 1 ≤ j ∧ j < 12 then f j else upd G i (f i) j) = if i ≤ j ∧ j < 12 then f j else G j := fun f G j => by
      by_cases h3 : j = i
      · subst h3
        rw [if_neg (by omega), if_pos (by omega), pk_us]
      · rw [pk_un h3]
        by_cases h4 : i ≤ j ∧ j < 12
        · rw [if_pos (by omega), if_pos h4]
        · rw [if_neg (by omega), if_neg h4]
    congr 3
    · funext j
      exact key p g j
    · funext j
      exact key q g' j
theorem pf_copy {n : Nat} (hn : 200 ≤ n) (a1 a2 a3 : Int32) (g1 g2 g3 : Nat → Int32) (a4 a5 a6 a7 b1 b2 b3 : Int32) (p1 p2 p3 : Nat → Int32) (b4 b5 b6 b7 : Int32) : ∃ k p q : Nat → Int32, f_X4_copyFrom n a1 a2 a3 g1 g2 g3 a4 a5 a6 a7 b1 b2 b3 p1 p2 p3 b4 b5 b6 b7 = some (b1, b2, b3, k, p, q, b4, b5, b6, b7) ∧ (∀ j, j < 120 → k j = p1 j) ∧ (∀ j, j < 12 → p j = p2 j) ∧ (∀ j, j < 12 → q j = p3 j) := by
  refine ⟨fun j => if 0 ≤ j ∧ j < 120 then p1 j else g1 j, fun j => if 0 ≤ j ∧ j < 12 then p2 j else g2 j, fun j => if 0 ≤ j ∧ j < 12 then p3 j else g3 j, ?_, fun j hj => ?_, fun j hj => ?_, fun j hj => ?_⟩
  · unfold f_X4_copyFrom f_X2_copyFrom
    rw [pr_b4 rfl]
    show cz_b2 (f_X4_copyFrom_L37 n p1 n (nI 0) g1) _ = _
    rw [pr_b2 (pf_cp37 n p1 120 0 n g1 rfl (by omega))]
    show cz_b3 (f_X4_copyFrom_L63 n p2 p3 n (nI 0) g2 g3) _ = _
    rw [pr_b3 (pf_cp63 n p2 p3 12 0 n g2 g3 rfl (by omega))]
  · exact if_pos ⟨Nat.zero_le _, hj⟩
  · exact if_pos ⟨Nat.zero_le _, hj⟩
  · exact if_pos ⟨Nat.zero_le _, hj⟩
theorem pr_b10 {A1 A2 A3 A4 A5 A6 A7 A8 A9 A10 β : Type} {o : Option (A1 × A2 × A3 × A4 × A5 × A6 × A7 × A8 × A9 × A10)} {a1 : A1} {a2 : A2} {a3 : A3} {a4 : A4} {a5 : A5} {a6 : A6} {a7 : A7} {a8 : A8} {a9 : A9} {a10 : A10} {K : A1 → A2 → A3 → A4 → A5 → A6 → A7 → A8 → A9 → A10 → Option β} (h : o = some (a1, a2, a3, a4, a5, a6, a7, a8, a9, a10)) : cz_b10 o K = K a1 a2 a3 a4 a5 a6 a7 a8 a9 a10 := by subst h; rfl
theorem st_image {n : Nat} (hn : 200 ≤ n) {v_x_tape_length : Int32} {f_x_tape_signs : (Nat → Int32)} {v_x_waters_wide : Int32} {v_x_waters_high : Int32} {v_x_waters_wells : Int32} {f_x_waters_kinds : (Nat → Int32)} {f_x_waters_wellPlaces : (Nat → Int32)} {f_x_waters_wellWorths : (Nat → Int32)} {v_x_waters_rules_mouth : Int32} {v_x_waters_rules_weight : Int32} {v_x_waters_rules_reach : Int32} {v_x_waters_rules_bend : Int32} {v_x_kept_wide : Int32} {v_x_kept_high : Int32} {v_x_kept_wells : Int32} {f_x_kept_kinds : (Nat → Int32)} {f_x_kept_wellPlaces : (Nat → Int32)} {f_x_kept_wellWorths : (Nat → Int32)} {v_x_kept_rules_mouth : Int32} {v_x_kept_rules_weight : Int32} {v_x_kept_rules_reach : Int32} {v_x_kept_rules_bend : Int32} {v_x_hasImage : Int32} {v_x_rowLength : Int32} {f_x_row : (Nat → Int32)} {f_x_refusals : (Nat → Int32)} {v_m_isImage : Int32} {v_m_taped : Int32} {v_m_rowed : Int32} {f_m_tape : (Nat → Int32)} {f_m_s : (Nat → Int32)} {f_m_image : (Nat → Int32)} {f_m_row : (Nat → Int32)} {f_m_refusals : (Nat → Int32)} (hR : Rel v_x_tape_length f_x_tape_signs v_x_waters_wide v_x_waters_high v_x_waters_wells f_x_waters_kinds f_x_waters_wellPlaces f_x_waters_wellWorths v_x_waters_rules_mouth v_x_waters_rules_weight v_x_waters_rules_reach v_x_waters_rules_bend v_x_kept_wide v_x_kept_high v_x_kept_wells f_x_kept_kinds f_x_kept_wellPlaces f_x_kept_wellWorths v_x_kept_rules_mouth v_x_kept_rules_weight v_x_kept_rules_reach v_x_kept_rules_bend v_x_hasImage v_x_rowLength f_x_row f_x_refusals v_m_isImage v_m_taped v_m_rowed f_m_tape f_m_s f_m_image f_m_row f_m_refusals) : ∃ (r : Int32) (r_v_x_hasImage : Int32) (r_v_x_kept_wide : Int32) (r_v_x_kept_high : Int32) (r_v_x_kept_wells : Int32) (r_f_x_kept_kinds : (Nat → Int32)) (r_f_x_kept_wellPlaces : (Nat → Int32)) (r_f_x_kept_wellWorths : (Nat → Int32)) (r_v_x_kept_rules_mouth : Int32) (r_v_x_kept_rules_weight : Int32) (r_v_x_kept_rules_reach : Int32) (r_v_x_kept_rules_bend : Int32) (r_v_m_isImage : Int32) (r_f_m_image : (Nat → Int32)), f_X5_image n v_x_hasImage v_x_waters_wide v_x_waters_high v_x_waters_wells f_x_waters_kinds f_x_waters_wellPlaces f_x_waters_wellWorths v_x_waters_rules_mouth v_x_waters_rules_weight v_x_waters_rules_reach v_x_waters_rules_bend v_x_kept_wide v_x_kept_high v_x_kept_wells f_x_kept_kinds f_x_kept_wellPlaces f_x_kept_wellWorths v_x_kept_rules_mouth v_x_kept_rules_weight v_x_kept_rules_reach v_x_kept_rules_bend = some (r, r_v_x_hasImage, r_v_x_kept_wide, r_v_x_kept_high, r_v_x_kept_wells, r_f_x_kept_kinds, r_f_x_kept_wellPlaces, r_f_x_kept_wellWorths, r_v_x_kept_rules_mouth, r_v_x_kept_rules_weight, r_v_x_kept_rules_reach, r_v_x_kept_rules_bend) ∧ f_X6_image n v_m_isImage f_m_s f_m_image = some (r, r_v_m_isImage, r_f_m_image) ∧ Rel v_x_tape_length f_x_tape_signs v_x_waters_wide v_x_waters_high v_x_waters_wells f_x_waters_kinds f_x_waters_wellPlaces f_x_waters_wellWorths v_x_waters_rules_mouth v_x_waters_rules_weight v_x_waters_rules_reach v_x_waters_rules_bend r_v_x_kept_wide r_v_x_kept_high r_v_x_kept_wells r_f_x_kept_kinds r_f_x_kept_wellPlaces r_f_x_kept_wellWorths r_v_x_kept_rules_mouth r_v_x_kept_rules_weight r_v_x_kept_rules_reach r_v_x_kept_rules_bend r_v_x_hasImage v_x_rowLength f_x_row f_x_refusals r_v_m_isImage v_m_taped v_m_rowed f_m_tape f_m_s r_f_m_image f_m_row f_m_refusals := by
  obtain ⟨R1, R2, R3, R4, R5, R6, R7, R8, R9, R10⟩ := hR
  obtain ⟨w, h, nw, R4'⟩ := id R4
  obtain ⟨a1, a2, a3, a4, a5, ew, eh, en, s0, s1, -⟩ := id R4'
  obtain ⟨k, p, q, e1, k1, k2, k3⟩ := pf_copy hn v_x_kept_wide v_x_kept_high v_x_kept_wells f_x_kept_kinds f_x_kept_wellPlaces f_x_kept_wellWorths v_x_kept_rules_mouth v_x_kept_rules_weight v_x_kept_rules_reach v_x_kept_rules_bend v_x_waters_wide v_x_waters_high v_x_waters_wells f_x_waters_kinds f_x_waters_wellPlaces f_x_waters_wellWorths v_x_waters_rules_mouth v_x_waters_rules_weight v_x_waters_rules_reach v_x_waters_rules_bend
  refine ⟨nI (w * h), 1, v_x_waters_wide, v_x_waters_high, v_x_waters_wells, k, p, q, v_x_waters_rules_mouth, v_x_waters_rules_weight, v_x_waters_rules_reach, v_x_waters_rules_bend, 1, fun j => if 0 ≤ j ∧ j < 151 then f_m_s j else f_m_image j, ?_, ?_, R1, R2, R3, R4, rfl, fun _ => ⟨w, h, nw, sea_congr k1 k2 k3 (fun j hj => ?_) R4'⟩, R7, R8, R9, R10⟩
  · unfold f_X5_image f_X4_size
    rw [pr_b10 e1, pr_b1 rfl, ew, eh, pk_mul]
  · unfold f_X6_image
    show cz_b2 (f_X6_image_L2 n f_m_s n (nI 0) f_m_image) _ = _
    rw [pr_b2 (pf_im n f_m_s 151 0 n f_m_image rfl (by omega)), pr_b1 (pm_many s0 s1)]
  · exact if_pos ⟨Nat.zero_le _, hj⟩
theorem st_on {n : Nat} (hn : 200 ≤ n) {v_x_tape_length : Int32} {f_x_tape_signs : (Nat → Int32)} {v_x_waters_wide : Int32} {v_x_waters_high : Int32} {v_x_waters_wells : Int32} {f_x_waters_kinds : (Nat → Int32)} {f_x_waters_wellPlaces : (Nat → Int32)} {f_x_waters_wellWorths : (Nat → Int32)} {v_x_waters_rules_mouth : Int32} {v_x_waters_rules_weight : Int32} {v_x_waters_rules_reach : Int32} {v_x_waters_rules_bend : Int32} {v_x_kept_wide : Int32} {v_x_kept_high : Int32} {v_x_kept_wells : Int32} {f_x_kept_kinds : (Nat → Int32)} {f_x_kept_wellPlaces : (Nat → Int32)} {f_x_kept_wellWorths : (Nat → Int32)} {v_x_kept_rules_mouth : Int32} {v_x_kept_rules_weight : Int32} {v_x_kept_rules_reach : Int32} {v_x_kept_rules_bend : Int32} {v_x_hasImage : Int32} {v_x_rowLength : Int32} {f_x_row : (Nat → Int32)} {f_x_refusals : (Nat → Int32)} {v_m_isImage : Int32} {v_m_taped : Int32} {v_m_rowed : Int32} {f_m_tape : (Nat → Int32)} {f_m_s : (Nat → Int32)} {f_m_image : (Nat → Int32)} {f_m_row : (Nat → Int32)} {f_m_refusals : (Nat → Int32)} (hR : Rel v_x_tape_length f_x_tape_signs v_x_waters_wide v_x_waters_high v_x_waters_wells f_x_waters_kinds f_x_waters_wellPlaces f_x_waters_wellWorths v_x_waters_rules_mouth v_x_waters_rules_weight v_x_waters_rules_reach v_x_waters_rules_bend v_x_kept_wide v_x_kept_high v_x_kept_wells f_x_kept_kinds f_x_kept_wellPlaces f_x_kept_wellWorths v_x_kept_rules_mouth v_x_kept_rules_weight v_x_kept_rules_reach v_x_kept_rules_bend v_x_hasImage v_x_rowLength f_x_row f_x_refusals v_m_isImage v_m_taped v_m_rowed f_m_tape f_m_s f_m_image f_m_row f_m_refusals) : ∃ (r : Int32) (r_v_x_waters_wide : Int32) (r_v_x_waters_high : Int32) (r_v_x_waters_wells : Int32) (r_f_x_waters_kinds : (Nat → Int32)) (r_f_x_waters_wellPlaces : (Nat → Int32)) (r_f_x_waters_wellWorths : (Nat → Int32)) (r_v_x_waters_rules_mouth : Int32) (r_v_x_waters_rules_weight : Int32) (r_v_x_waters_rules_reach : Int32) (r_v_x_waters_rules_bend : Int32) (r_f_x_refusals : (Nat → Int32)) (r_f_m_refusals : (Nat → Int32)) (r_f_m_s : (Nat → Int32)), f_X5_on n v_x_hasImage v_x_waters_wide v_x_waters_high v_x_waters_wells f_x_waters_kinds f_x_waters_wellPlaces f_x_waters_wellWorths v_x_waters_rules_mouth v_x_waters_rules_weight v_x_waters_rules_reach v_x_waters_rules_bend v_x_kept_wide v_x_kept_high v_x_kept_wells f_x_kept_kinds f_x_kept_wellPlaces f_x_kept_wellWorths v_x_kept_rules_mouth v_x_kept_rules_weight v_x_kept_rules_reach v_x_kept_rules_bend f_x_refusals = some (r, r_v_x_waters_wide, r_v_x_waters_high, r_v_x_waters_wells, r_f_x_waters_kinds, r_f_x_waters_wellPlaces, r_f_x_waters_wellWorths, r_v_x_waters_rules_mouth, r_v_x_waters_rules_weight, r_v_x_waters_rules_reach, r_v_x_waters_rules_bend, r_f_x_refusals) ∧ f_X6_on n v_m_isImage f_m_refusals f_m_s f_m_image = some (r, r_f_m_refusals, r_f_m_s) ∧ Rel v_x_tape_length f_x_tape_signs r_v_x_waters_wide r_v_x_waters_high r_v_x_waters_wells r_f_x_waters_kinds r_f_x_waters_wellPlaces r_f_x_waters_wellWorths r_v_x_waters_rules_mouth r_v_x_waters_rules_weight r_v_x_waters_rules_reach r_v_x_waters_rules_bend v_x_kept_wide v_x_kept_high v_x_kept_wells f_x_kept_kinds f_x_kept_wellPlaces f_x_kept_wellWorths v_x_kept_rules_mouth v_x_kept_rules_weight v_x_kept_rules_reach v_x_kept_rules_bend v_x_hasImage v_x_rowLength f_x_row r_f_x_refusals v_m_isImage v_m_taped v_m_rowed f_m_tape r_f_m_s f_m_image f_m_row r_f_m_refusals := by
  obtain ⟨R1, R2, R3, R4, R5, R6, R7, R8, R9, R10⟩ := hR
  subst R5
  by_cases c : v_m_isImage = 0
  · obtain ⟨g, g', e1, e2, e3⟩ := pr_refuse (n := n) 3 (by omega) (v := -3) rfl R10
    refine ⟨-3, v_x_waters_wide, v_x_waters_high, v_x_waters_wells, f_x_waters_kinds, f_x_waters_wellPlaces, f_x_waters_wellWorths, v_x_waters_rules_mouth, v_x_waters_rules_weight, v_x_waters_rules_reach, v_x_waters_rules_bend, g, g', f_m_s, ?_, ?_, R1, R2, R3, R4, rfl, R6, R7, R8, R9, e3⟩
    · unfold f_X5_on
      rw [if_pos c, pr_b2 e1]
    · unfold f_X6_on
      rw [if_pos c, pr_b2 e2]
  · obtain ⟨w, h, nw, R6'⟩ := R6 c
    obtain ⟨a1, a2, a3, a4, a5, ew, eh, en, s0, s1, -⟩ := id R6'
    obtain ⟨k, p, q, e1, k1, k2, k3⟩ := pf_copy hn v_x_waters_wide v_x_waters_high v_x_waters_wells f_x_waters_kinds f_x_waters_wellPlaces f_x_waters_wellWorths v_x_waters_rules_mouth v_x_waters_rules_weight v_x_waters_rules_reach v_x_waters_rules_bend v_x_kept_wide v_x_kept_high v_x_kept_wells f_x_kept_kinds f_x_kept_wellPlaces f_x_kept_wellWorths v_x_kept_rules_mouth v_x_kept_rules_weight v_x_kept_rules_reach v_x_kept_rules_bend
    refine ⟨nI (w * h), v_x_kept_wide, v_x_kept_high, v_x_kept_wells, k, p, q, v_x_kept_rules_mouth, v_x_kept_rules_weight, v_x_kept_rules_reach, v_x_kept_rules_bend, f_x_refusals, f_m_refusals, fun j => if 0 ≤ j ∧ j < 151 then f_m_image j else f_m_s j, ?_, ?_, R1, R2, R3, ⟨w, h, nw, sea_congr k1 k2 k3 (fun j hj => ?_) R6'⟩, rfl, R6, R7, R8, R9, R10⟩
    · unfold f_X5_on f_X4_size
      rw [if_neg c, pr_b10 e1, pr_b1 rfl, ew, eh, pk_mul]
    · unfold f_X6_on
      rw [if_neg c]
      show cz_b2 (f_X6_on_L16 n f_m_image n (nI 0) f_m_s) _ = _
      rw [pr_b2 (pf_on n f_m_image 151 0 n f_m_s rfl (by omega)), pr_b1 (pm_many (w := w) (h := h) (by show (if 0 ≤ 0 ∧ 0 < 151 then f_m_image 0 else f_m_s 0) = _; rw [if_pos (by omega)]; exact s0) (by show (if 0 ≤ 1 ∧ 1 < 151 then f_m_image 1 else f_m_s 1) = _; rw [if_pos (by omega)]; exact s1))]
    · exact if_pos ⟨Nat.zero_le _, hj⟩
theorem st_rule {n : Nat} (hn : 200 ≤ n) {v_x_tape_length : Int32} {f_x_tape_signs : (Nat → Int32)} {v_x_waters_wide : Int32} {v_x_waters_high : Int32} {v_x_waters_wells : Int32} {f_x_waters_kinds : (Nat → Int32)} {f_x_waters_wellPlaces : (Nat → Int32)} {f_x_waters_wellWorths : (Nat → Int32)} {v_x_waters_rules_mouth : Int32} {v_x_waters_rules_weight : Int32} {v_x_waters_rules_reach : Int32} {v_x_waters_rules_bend : Int32} {v_x_kept_wide : Int32} {v_x_kept_high : Int32} {v_x_kept_wells : Int32} {f_x_kept_kinds : (Nat → Int32)} {f_x_kept_wellPlaces : (Nat → Int32)} {f_x_kept_wellWorths : (Nat → Int32)} {v_x_kept_rules_mouth : Int32} {v_x_kept_rules_weight : Int32} {v_x_kept_rules_reach : Int32} {v_x_kept_rules_bend : Int32} {v_x_hasImage : Int32} {v_x_rowLength : Int32} {f_x_row : (Nat → Int32)} {f_x_refusals : (Nat → Int32)} {v_m_isImage : Int32} {v_m_taped : Int32} {v_m_rowed : Int32} {f_m_tape : (Nat → Int32)} {f_m_s : (Nat → Int32)} {f_m_image : (Nat → Int32)} {f_m_row : (Nat → Int32)} {f_m_refusals : (Nat → Int32)} (w1 : Int32) (w2 : Int32) (hR : Rel v_x_tape_length f_x_tape_signs v_x_waters_wide v_x_waters_high v_x_waters_wells f_x_waters_kinds f_x_waters_wellPlaces f_x_waters_wellWorths v_x_waters_rules_mouth v_x_waters_rules_weight v_x_waters_rules_reach v_x_waters_rules_bend v_x_kept_wide v_x_kept_high v_x_kept_wells f_x_kept_kinds f_x_kept_wellPlaces f_x_kept_wellWorths v_x_kept_rules_mouth v_x_kept_rules_weight v_x_kept_rules_reach v_x_kept_rules_bend v_x_hasImage v_x_rowLength f_x_row f_x_refusals v_m_isImage v_m_taped v_m_rowed f_m_tape f_m_s f_m_image f_m_row f_m_refusals) : ∃ (r : Int32) (r_v_x_waters_rules_mouth : Int32) (r_v_x_waters_rules_weight : Int32) (r_v_x_waters_rules_reach : Int32) (r_v_x_waters_rules_bend : Int32) (r_f_x_refusals : (Nat → Int32)) (r_f_m_refusals : (Nat → Int32)) (r_f_m_s : (Nat → Int32)), f_X5_rule n v_x_waters_rules_mouth v_x_waters_rules_weight v_x_waters_rules_reach v_x_waters_rules_bend f_x_refusals w1 w2 = some (r, r_v_x_waters_rules_mouth, r_v_x_waters_rules_weight, r_v_x_waters_rules_reach, r_v_x_waters_rules_bend, r_f_x_refusals) ∧ f_X6_rule n f_m_refusals f_m_s w1 w2 = some (r, r_f_m_refusals, r_f_m_s) ∧ Rel v_x_tape_length f_x_tape_signs v_x_waters_wide v_x_waters_high v_x_waters_wells f_x_waters_kinds f_x_waters_wellPlaces f_x_waters_wellWorths r_v_x_waters_rules_mouth r_v_x_waters_rules_weight r_v_x_waters_rules_reach r_v_x_waters_rules_bend v_x_kept_wide v_x_kept_high v_x_kept_wells f_x_kept_kinds f_x_kept_wellPlaces f_x_kept_wellWorths v_x_kept_rules_mouth v_x_kept_rules_weight v_x_kept_rules_reach v_x_kept_rules_bend v_x_hasImage v_x_rowLength f_x_row r_f_x_refusals v_m_isImage v_m_taped v_m_rowed f_m_tape r_f_m_s f_m_image f_m_row r_f_m_refusals := by
  obtain ⟨R1, R2, R3, R4, R5, R6, R7, R8, R9, R10⟩ := hR
  obtain ⟨w, h, nw, a1, a2, a3, a4, a5, ew, eh, en, s0, s1, s2, s3, s4, s5, s6, hm, hwt, hre, hbd, hin, ho, hwl⟩ := id R4
  have hbad : ∀ (c : Nat) (v : Int32), 1 ≤ c ∧ c ≤ 6 → -v = nI c → (∀ (g : Nat → Int32), f_X5_refuse n f_x_refusals v = some (v, g) → f_X5_rule n v_x_waters_rules_mouth v_x_waters_rules_weight v_x_waters_rules_reach v_x_waters_rules_bend f_x_refusals w1 w2 = some (1000000000 - v, v_x_waters_rules_mouth, v_x_waters_rules_weight, v_x_waters_rules_reach, v_x_waters_rules_bend, g)) → (∀ (g : Nat → Int32), f_X6_refuse n f_m_refusals v = some (v, g) → f_X6_rule n f_m_refusals f_m_s w1 w2 = some (1000000000 - v, g, f_m_s)) → ∃ (r : Int32) (r_v_x_waters_rules_mouth : Int32) (r_v_x_waters_rules_weight : Int32) (r_v_x_waters_rules_reach : Int32) (r_v_x_waters_rules_bend : Int32) (r_f_x_refusals : Nat → Int32) (r_f_m_refusals : Nat → Int32) (r_f_m_s : Nat → Int32), f_X5_rule n v_x_waters_rules_mouth v_x_waters_rules_weight v_x_waters_rules_reach v_x_waters_rules_bend f_x_refusals w1 w2 = some (r, r_v_x_waters_rules_mouth, r_v_x_waters_rules_weight, r_v_x_waters_rules_reach, r_v_x_waters_rules_bend, r_f_x_refusals) ∧ f_X6_rule n f_m_refusals f_m_s w1 w2 = some (r, r_f_m_refusals, r_f_m_s) ∧ Rel v_x_tape_length f_x_tape_signs v_x_waters_wide v_x_waters_high v_x_waters_wells f_x_waters_kinds f_x_waters_wellPlaces f_x_waters_wellWorths r_v_x_waters_rules_mouth r_v_x_waters_rules_weight r_v_x_waters_rules_reach r_v_x_waters_rules_bend v_x_kept_wide v_x_kept_high v_x_kept_wells f_x_kept_kinds f_x_kept_wellPlaces f_x_kept_wellWorths v_x_kept_rules_mouth v_x_kept_rules_weight v_x_kept_rules_reach v_x_kept_rules_bend v_x_hasImage v_x_rowLength f_x_row r_f_x_refusals v_m_isImage v_m_taped v_m_rowed f_m_tape r_f_m_s f_m_image f_m_row r_f_m_refusals := by
    intro c v hc hv h5 h6
    obtain ⟨g, g', e1, e2, e3⟩ := pr_refuse (n := n) c hc (v := v) hv R10
    exact ⟨_, _, _, _, _, _, _, _, h5 g e1, h6 g' e2, R1, R2, R3, R4, R5, R6, R7, R8, R9, e3⟩
  by_cases c0 : w1 < 0
  · refine hbad 1 (-1) (by omega) rfl (fun g e => ?_) (fun g e => ?_)
    · unfold f_X5_rule
      rw [if_pos c0, pr_b2 e]
    · unfold f_X6_rule
      rw [pr_b1 (pm_isIn0 (Or.inl c0)), if_pos rfl, pr_b1 rfl, if_neg (by decide), pr_b2 e]
  obtain ⟨j, hj, rfl⟩ := nI_of c0
  by_cases c3 : 4 ≤ j
  · have e3 : (3 : Int32) = nI 3 := rfl
    have e4 : (4 : Int32) = nI 4 := rfl
    refine hbad 1 (-1) (by omega) rfl (fun g e => ?_) (fun g e => ?_)
    · unfold f_X5_rule
      rw [if_neg c0, e3, if_neg (nI_ge (by omega) (by omega)), pr_b2 e]
    · unfold f_X6_rule
      rw [e4, pr_b1 (pm_isIn0 (Or.inr (nI_le c3 (by omega)))), if_pos rfl, pr_b1 rfl, if_neg (by decide), pr_b2 e]
  rcases (show j = 0 ∨ j = 1 ∨ j = 2 ∨ j = 3 by omega) with rfl | rfl | rfl | rfl
  · have g1 : f_X2_least n (nI 0) = some 0 := by unfold f_X2_least; exact if_neg (by decide)
    have g2 : f_X2_greatest n (nI 0) = some 9 := rfl
    have g3 : f_X6_least n (nI 0) = some 0 := g1
    have g4 : f_X6_most n (nI 0) = some 9 := rfl
    have g5 : f_X6_isIn n (nI 0) 4 = some 1 := pm_isIn1 (by decide) (by decide)
    have g6 : f_X2_get n v_x_waters_rules_mouth v_x_waters_rules_weight v_x_waters_rules_reach v_x_waters_rules_bend (nI 0) = some v_x_waters_rules_mouth := rfl
    have g7 : f_X2_set n v_x_waters_rules_mouth v_x_waters_rules_weight v_x_waters_rules_reach v_x_waters_rules_bend (nI 0) w2 = some (w2, v_x_waters_rules_weight, v_x_waters_rules_reach, v_x_waters_rules_bend) := rfl
    by_cases c1 : (0 : Int32) ≤ w2
    · by_cases c2 : w2 ≤ (9 : Int32)
      · have hnew : ∃ a : Nat, a ≤ 9 ∧ w2 = nI a := nI_of2 (M := 9) (n := 9) (by decide) (Int32.not_lt.mpr c1) c2
        refine ⟨v_x_waters_rules_mouth, w2, v_x_waters_rules_weight, v_x_waters_rules_reach, v_x_waters_rules_bend, f_x_refusals, f_m_refusals, upd f_m_s 2 w2, ?_, ?_, R1, R2, R3, ⟨w, h, nw, a1, a2, a3, a4, a5, ew, eh, en, by rw [pk_un (by omega)]; exact s0, by rw [pk_un (by omega)]; exact s1, pk_us, by rw [pk_un (by omega)]; exact s3, by rw [pk_un (by omega)]; exact s4, by rw [pk_un (by omega)]; exact s5, by rw [pk_un (by omega)]; exact s6, hnew, hwt, hre, hbd, fun y x hy hx => by rw [pk_un (by omega)]; exact hin y x hy hx, ho, fun k hk => ?_⟩, R5, R6, R7, R8, R9, R10⟩
        · unfold f_X5_rule
          rw [if_neg c0, if_pos (by decide), pr_b1 g1, if_pos c1, pr_b1 g2, if_pos c2, pr_b1 g6, pr_b4 g7]
        · unfold f_X6_rule
          have e2 : (2 : Int32) = nI 2 := rfl
          rw [pr_b1 g5, if_neg (by decide), pr_b1 g3, pr_b1 g4, pr_b1 (pm_within0 c1 c2), pr_b1 rfl, if_pos rfl, e2, nI_add, pr_rd (by omega) (by omega), pr_wr (by omega) (by omega), s2]
        · obtain ⟨y, x, b1, b2, b3, b4, b5, b6, b7⟩ := hwl k hk
          exact ⟨y, x, b1, b2, b3, by rw [pk_un (by omega)]; exact b4, b5, by rw [pk_un (by omega)]; exact b6, b7⟩
      · refine hbad 6 (-6) (by omega) rfl (fun g e => ?_) (fun g e => ?_)
        · unfold f_X5_rule
          rw [if_neg c0, if_pos (by decide), pr_b1 g1, if_pos c1, pr_b1 g2, if_neg c2, pr_b2 e]
        · unfold f_X6_rule
          rw [pr_b1 g5, if_neg (by decide), pr_b1 g3, pr_b1 g4, pr_b1 (pm_within6 c1 c2), pr_b1 rfl, if_neg (by decide), pr_b2 e]
    · refine hbad 4 (-4) (by omega) rfl (fun g e => ?_) (fun g e => ?_)
      · unfold f_X5_rule
        rw [if_neg c0, if_pos (by decide), pr_b1 g1, if_neg c1, pr_b2 e]
      · unfold f_X6_rule
        rw [pr_b1 g5, if_neg (by decide), pr_b1 g3, pr_b1 g4, pr_b1 (pm_within4 c1), pr_b1 rfl, if_neg (by decide), pr_b2 e]
  · have g1 : f_X2_least n (nI 1) = some 0 := by unfold f_X2_least; exact if_neg (by decide)
    have g2 : f_X2_greatest n (nI 1) = some 2 := rfl
    have g3 : f_X6_least n (nI 1) = some 0 := g1
    have g4 : f_X6_most n (nI 1) = some 2 := rfl
    have g5 : f_X6_isIn n (nI 1) 4 = some 1 := pm_isIn1 (by decide) (by decide)
    have g6 : f_X2_get n v_x_waters_rules_mouth v_x_waters_rules_weight v_x_waters_rules_reach v_x_waters_rules_bend (nI 1) = some v_x_waters_rules_weight := rfl
    have g7 : f_X2_set n v_x_waters_rules_mouth v_x_waters_rules_weight v_x_waters_rules_reach v_x_waters_rules_bend (nI 1) w2 = some (v_x_waters_rules_mouth, w2, v_x_waters_rules_reach, v_x_waters_rules_bend) := rfl
    by_cases c1 : (0 : Int32) ≤ w2
    · by_cases c2 : w2 ≤ (2 : Int32)
      · have hnew : ∃ a : Nat, a ≤ 2 ∧ w2 = nI a := nI_of2 (M := 2) (n := 2) (by decide) (Int32.not_lt.mpr c1) c2
        refine ⟨v_x_waters_rules_weight, v_x_waters_rules_mouth, w2, v_x_waters_rules_reach, v_x_waters_rules_bend, f_x_refusals, f_m_refusals, upd f_m_s 3 w2, ?_, ?_, R1, R2, R3, ⟨w, h, nw, a1, a2, a3, a4, a5, ew, eh, en, by rw [pk_un (by omega)]; exact s0, by rw [pk_un (by omega)]; exact s1, by rw [pk_un (by omega)]; exact s2, pk_us, by rw [pk_un (by omega)]; exact s4, by rw [pk_un (by omega)]; exact s5, by rw [pk_un (by omega)]; exact s6, hm, hnew, hre, hbd, fun y x hy hx => by rw [pk_un (by omega)]; exact hin y x hy hx, ho, fun k hk => ?_⟩, R5, R6, R7, R8, R9, R10⟩
        · unfold f_X5_rule
          rw [if_neg c0, if_pos (by decide), pr_b1 g1, if_pos c1, pr_b1 g2, if_pos c2, pr_b1 g6, pr_b4 g7]
        · unfold f_X6_rule
          have e2 : (2 : Int32) = nI 2 := rfl
          rw [pr_b1 g5, if_neg (by decide), pr_b1 g3, pr_b1 g4, pr_b1 (pm_within0 c1 c2), pr_b1 rfl, if_pos rfl, e2, nI_add, pr_rd (by omega) (by omega), pr_wr (by omega) (by omega), s3]
        · obtain ⟨y, x, b1, b2, b3, b4, b5, b6, b7⟩ := hwl k hk
          exact ⟨y, x, b1, b2, b3, by rw [pk_un (by omega)]; exact b4, b5, by rw [pk_un (by omega)]; exact b6, b7⟩
      · refine hbad 6 (-6) (by omega) rfl (fun g e => ?_) (fun g e => ?_)
        · unfold f_X5_rule
          rw [if_neg c0, if_pos (by decide), pr_b1 g1, if_pos c1, pr_b1 g2, if_neg c2, pr_b2 e]
        · unfold f_X6_rule
          rw [pr_b1 g5, if_neg (by decide), pr_b1 g3, pr_b1 g4, pr_b1 (pm_within6 c1 c2), pr_b1 rfl, if_neg (by decide), pr_b2 e]
    · refine hbad 4 (-4) (by omega) rfl (fun g e => ?_) (fun g e => ?_)
      · unfold f_X5_rule
        rw [if_neg c0, if_pos (by decide), pr_b1 g1, if_neg c1, pr_b2 e]
      · unfold f_X6_rule
        rw [pr_b1 g5, if_neg (by decide), pr_b1 g3, pr_b1 g4, pr_b1 (pm_within4 c1), pr_b1 rfl, if_neg (by decide), pr_b2 e]
  · have g1 : f_X2_least n (nI 2) = some 0 := by unfold f_X2_least; exact if_neg (by decide)
    have g2 : f_X2_greatest n (nI 2) = some 20 := rfl
    have g3 : f_X6_least n (nI 2) = some 0 := g1
    have g4 : f_X6_most n (nI 2) = some 20 := rfl
    have g5 : f_X6_isIn n (nI 2) 4 = some 1 := pm_isIn1 (by decide) (by decide)
    have g6 : f_X2_get n v_x_waters_rules_mouth v_x_waters_rules_weight v_x_waters_rules_reach v_x_waters_rules_bend (nI 2) = some v_x_waters_rules_reach := rfl
    have g7 : f_X2_set n v_x_waters_rules_mouth v_x_waters_rules_weight v_x_waters_rules_reach v_x_waters_rules_bend (nI 2) w2 = some (v_x_waters_rules_mouth, v_x_waters_rules_weight, w2, v_x_waters_rules_bend) := rfl
    by_cases c1 : (0 : Int32) ≤ w2
    · by_cases c2 : w2 ≤ (20 : Int32)
      · have hnew : ∃ a : Nat, a ≤ 20 ∧ w2 = nI a := nI_of2 (M := 20) (n := 20) (by decide) (Int32.not_lt.mpr c1) c2
        refine ⟨v_x_waters_rules_reach, v_x_waters_rules_mouth, v_x_waters_rules_weight, w2, v_x_waters_rules_bend, f_x_refusals, f_m_refusals, upd f_m_s 4 w2, ?_, ?_, R1, R2, R3, ⟨w, h, nw, a1, a2, a3, a4, a5, ew, eh, en, by rw [pk_un (by omega)]; exact s0, by rw [pk_un (by omega)]; exact s1, by rw [pk_un (by omega)]; exact s2, by rw [pk_un (by omega)]; exact s3, pk_us, by rw [pk_un (by omega)]; exact s5, by rw [pk_un (by omega)]; exact s6, hm, hwt, hnew, hbd, fun y x hy hx => by rw [pk_un (by omega)]; exact hin y x hy hx, ho, fun k hk => ?_⟩, R5, R6, R7, R8, R9, R10⟩
        · unfold f_X5_rule
          rw [if_neg c0, if_pos (by decide), pr_b1 g1, if_pos c1, pr_b1 g2, if_pos c2, pr_b1 g6, pr_b4 g7]
        · unfold f_X6_rule
          have e2 : (2 : Int32) = nI 2 := rfl
          rw [pr_b1 g5, if_neg (by decide), pr_b1 g3, pr_b1 g4, pr_b1 (pm_within0 c1 c2), pr_b1 rfl, if_pos rfl, e2, nI_add, pr_rd (by omega) (by omega), pr_wr (by omega) (by omega), s4]
        · obtain ⟨y, x, b1, b2, b3, b4, b5, b6, b7⟩ := hwl k hk
          exact ⟨y, x, b1, b2, b3, by rw [pk_un (by omega)]; exact b4, b5, by rw [pk_un (by omega)]; exact b6, b7⟩
      · refine hbad 6 (-6) (by omega) rfl (fun g e => ?_) (fun g e => ?_)
        · unfold f_X5_rule
          rw [if_neg c0, if_pos (by decide), pr_b1 g1, if_pos c1, pr_b1 g2, if_neg c2, pr_b2 e]
        · unfold f_X6_rule
          rw [pr_b1 g5, if_neg (by decide), pr_b1 g3, pr_b1 g4, pr_b1 (pm_within6 c1 c2), pr_b1 rfl, if_neg (by decide), pr_b2 e]
    · refine hbad 4 (-4) (by omega) rfl (fun g e => ?_) (fun g e => ?_)
      · unfold f_X5_rule
        rw [if_neg c0, if_pos (by decide), pr_b1 g1, if_neg c1, pr_b2 e]
      · unfold f_X6_rule
        rw [pr_b1 g5, if_neg (by decide), pr_b1 g3, pr_b1 g4, pr_b1 (pm_within4 c1), pr_b1 rfl, if_neg (by decide), pr_b2 e]
  · have g1 : f_X2_least n (nI 3) = some (-50) := by unfold f_X2_least; exact if_pos rfl
    have g2 : f_X2_greatest n (nI 3) = some 50 := rfl
    have g3 : f_X6_least n (nI 3) = some (-50) := g1
    have g4 : f_X6_most n (nI 3) = some 50 := rfl
    have g5 : f_X6_isIn n (nI 3) 4 = some 1 := pm_isIn1 (by decide) (by decide)
    have g6 : f_X2_get n v_x_waters_rules_mouth v_x_waters_rules_weight v_x_waters_rules_reach v_x_waters_rules_bend (nI 3) = some v_x_waters_rules_bend := rfl
    have g7 : f_X2_set n v_x_waters_rules_mouth v_x_waters_rules_weight v_x_waters_rules_reach v_x_waters_rules_bend (nI 3) w2 = some (v_x_waters_rules_mouth, v_x_waters_rules_weight, v_x_waters_rules_reach, w2) := rfl
    by_cases c1 : ((-50) : Int32) ≤ w2
    · by_cases c2 : w2 ≤ (50 : Int32)
      · have hnew : -50 ≤ w2.toInt ∧ w2.toInt ≤ 50 := ⟨by have := Int32.le_iff_toInt_le.mp c1; rw [show (-50 : Int32).toInt = -50 by decide] at this; exact this, by have := Int32.le_iff_toInt_le.mp c2; rw [show (50 : Int32).toInt = 50 by decide] at this; exact this⟩
        refine ⟨v_x_waters_rules_bend, v_x_waters_rules_mouth, v_x_waters_rules_weight, v_x_waters_rules_reach, w2, f_x_refusals, f_m_refusals, upd f_m_s 5 w2, ?_, ?_, R1, R2, R3, ⟨w, h, nw, a1, a2, a3, a4, a5, ew, eh, en, by rw [pk_un (by omega)]; exact s0, by rw [pk_un (by omega)]; exact s1, by rw [pk_un (by omega)]; exact s2, by rw [pk_un (by omega)]; exact s3, by rw [pk_un (by omega)]; exact s4, pk_us, by rw [pk_un (by omega)]; exact s6, hm, hwt, hre, hnew, fun y x hy hx => by rw [pk_un (by omega)]; exact hin y x hy hx, ho, fun k hk => ?_⟩, R5, R6, R7, R8, R9, R10⟩
        · unfold f_X5_rule
          rw [if_neg c0, if_pos (by decide), pr_b1 g1, if_pos c1, pr_b1 g2, if_pos c2, pr_b1 g6, pr_b4 g7]
        · unfold f_X6_rule
          have e2 : (2 : Int32) = nI 2 := rfl
          rw [pr_b1 g5, if_neg (by decide), pr_b1 g3, pr_b1 g4, pr_b1 (pm_within0 c1 c2), pr_b1 rfl, if_pos rfl, e2, nI_add, pr_rd (by omega) (by omega), pr_wr (by omega) (by omega), s5]
        · obtain ⟨y, x, b1, b2, b3, b4, b5, b6, b7⟩ := hwl k hk
          exact ⟨y, x, b1, b2, b3, by rw [pk_un (by omega)]; exact b4, b5, by rw [pk_un (by omega)]; exact b6, b7⟩
      · refine hbad 6 (-6) (by omega) rfl (fun g e => ?_) (fun g e => ?_)
        · unfold f_X5_rule
          rw [if_neg c0, if_pos (by decide), pr_b1 g1, if_pos c1, pr_b1 g2, if_neg c2, pr_b2 e]
        · unfold f_X6_rule
          rw [pr_b1 g5, if_neg (by decide), pr_b1 g3, pr_b1 g4, pr_b1 (pm_within6 c1 c2), pr_b1 rfl, if_neg (by decide), pr_b2 e]
    · refine hbad 4 (-4) (by omega) rfl (fun g e => ?_) (fun g e => ?_)
      · unfold f_X5_rule
        rw [if_neg c0, if_pos (by decide), pr_b1 g1, if_neg c1, pr_b2 e]
      · unfold f_X6_rule
        rw [pr_b1 g5, if_neg (by decide), pr_b1 g3, pr_b1 g4, pr_b1 (pm_within4 c1), pr_b1 rfl, if_neg (by decide), pr_b2 e]
