/-! the pure side, 9: shores of class and model are alike -/
/-- the cells of class and model are the same -/
def Cel (w h : Nat) (kinds s : Nat → Int32) : Prop :=
  1 ≤ w ∧ w ≤ 12 ∧ 1 ≤ h ∧ h ≤ 10 ∧ s 0 = nI w ∧ s 1 = nI h ∧
    (∀ y x : Nat, y < h → x < w → (∃ a : Nat, a ≤ 7 ∧ kinds (12 * y + x) = nI a) ∧ s (7 + (w * y + x)) = kinds (12 * y + x)) ∧
    (∀ y x : Nat, y < 10 → x < 12 → ¬ (y < h ∧ x < w) → kinds (12 * y + x) = 8)
theorem sea_cel {w h nw : Nat} {wide high wells : Int32} {kinds wp ww : Nat → Int32} {mouth weight reach bend : Int32} {s : Nat → Int32} (H : SeaAt w h nw wide high wells kinds wp ww mouth weight reach bend s) : Cel w h kinds s := by
  obtain ⟨a1, a2, a3, a4, a5, ew, eh, en, s0, s1, s2, s3, s4, s5, s6, hm, hwt, hre, hbd, hin, ho, hwl⟩ := H
  exact ⟨a1, a2, a3, a4, s0, s1, hin, ho⟩
def sbD (w h : Nat) (k : Nat → Nat → Int32) (y x : Nat) : Decidable (sb w h k y x) := by
  unfold sb
  exact inferInstance
def shP (kinds : Nat → Int32) (l j : Nat) : Bool := decide (kinds j = nI (l + 1)) && @decide (sb 12 10 (fun y x => kinds (12 * y + x)) (j / 12) (j % 12)) (sbD _ _ _ _ _)
def shM (w h : Nat) (s : Nat → Int32) (l j : Nat) : Bool := decide (s (7 + j) = nI (l + 1)) && @decide (sb w h (fun y x => s (7 + (w * y + x))) (j / w) (j % w)) (sbD _ _ _ _ _)
theorem shP_iff {kinds : Nat → Int32} {l j : Nat} : shP kinds l j = true ↔ kinds j = nI (l + 1) ∧ sb 12 10 (fun y x => kinds (12 * y + x)) (j / 12) (j % 12) := by
  unfold shP
  rw [Bool.and_eq_true, decide_eq_true_iff, @decide_eq_true_iff _ (sbD _ _ _ _ _)]
theorem shM_iff {w h : Nat} {s : Nat → Int32} {l j : Nat} : shM w h s l j = true ↔ s (7 + j) = nI (l + 1) ∧ sb w h (fun y x => s (7 + (w * y + x))) (j / w) (j % w) := by
  unfold shM
  rw [Bool.and_eq_true, decide_eq_true_iff, @decide_eq_true_iff _ (sbD _ _ _ _ _)]
def SH (kinds : Nat → Int32) (l : Nat) : Nat := ct (shP kinds l) 120
theorem SH_le (kinds : Nat → Int32) (l : Nat) : SH kinds l ≤ 120 := ct_le _ _
theorem dm12 {y x : Nat} (hx : x < 12) : (12 * y + x) / 12 = y ∧ (12 * y + x) % 12 = x := by omega
theorem dmw {w y x : Nat} (hx : x < w) : (w * y + x) / w = y ∧ (w * y + x) % w = x := by
  refine ⟨?_, ?_⟩
  · rw [Nat.mul_add_div (by omega), Nat.div_eq_of_lt hx, Nat.add_zero]
  · rw [Nat.mul_add_mod, Nat.mod_eq_of_lt hx]
theorem dmi {w h i : Nat} (hi : i < w * h) : 0 < w ∧ i % w < w ∧ i / w < h ∧ w * (i / w) + i % w = i := by
  have hw : 0 < w := Nat.pos_of_ne_zero fun e => by
    subst e
    rw [Nat.zero_mul] at hi
    exact absurd hi (Nat.not_lt_zero _)
  exact ⟨hw, Nat.mod_lt _ hw, Nat.div_lt_of_lt_mul hi, Nat.div_add_mod i w⟩
theorem pc_shoreOf {n : Nat} (hn : 200 ≤ n) (kinds : Nat → Int32) {l : Nat} (hl : l < 3) : f_X4_shoreOf n kinds (nI l) = some (nI (SH kinds l)) := by
  unfold f_X4_shoreOf
  refine pr_b2 (pf_shoreOf n kinds hl (shP kinds l) (fun y x hy hx => ?_) 120 0 n rfl (by omega))
  rw [shP_iff, (dm12 hx).1, (dm12 hx).2]
theorem pm_shoreOf_L (n : Nat) {s : Nat → Int32} {w h l : Nat} (h0 : s 0 = nI w) (h1' : s 1 = nI h) (hw1 : 1 ≤ w) (hw : w ≤ 12) (hh : h ≤ 10) (hl : l < 3) : ∀ (d i k : Nat), i + d = w * h → d < k → f_X6_shoreOf_L4 n s (nI l) k (nI (ct (shM w h s l) i)) (nI i) = some (nI (ct (shM w h s l) (w * h)), nI (w * h)) := by
  have hwh := pr_wh hw hh
  intro d
  induction d with
  | zero =>
    intro i k h1 h2
    obtain ⟨k, rfl⟩ : ∃ q, k = q + 1 := ⟨k - 1, by omega⟩
    have : i = w * h := by omega
    subst this
    rw [f_X6_shoreOf_L4, pr_b1 (pm_many h0 h1')]
    exact if_pos (Int32.le_refl _)
  | succ d ih =>
    intro i k h1 h2
    obtain ⟨k, rfl⟩ : ∃ q, k = q + 1 := ⟨k - 1, by omega⟩
    obtain ⟨_, hx, hy, hc⟩ := dmi (w := w) (h := h) (i := i) (by omega)
    have hwz : ¬ nI w = 0 := fun e => by have := (nI_eq (b := 0) (by omega) (by omega)).mp e; omega
    rw [f_X6_shoreOf_L4, pr_b1 (pm_many h0 h1')]
    refine (if_neg (show ¬ nI (w * h) ≤ nI i from nI_ge (by omega) (by omega))).trans ?_
    rw [pr_rd0 (by omega) (by omega), h0, pr_nz hwz, pk_rem (by omega) (by omega) (by omega), pr_lt, pr_rd0 (by omega) (by omega), h0, pr_nz hwz, pk_div (by omega) (by omega) (by omega), pr_lt, pr_b1 (pm_at (by omega)), nI_1]
    have := ih (i + 1) k (by omega) (by omega)
    rw [ct_succ] at this
    obtain ⟨z1, z2, z3, z4, p1, p2, p3, p4, hq⟩ := pm_beside (n := n) h0 h1' hw hh hx hy
    by_cases c : s (7 + i) = nI (l + 1)
    · rw [if_pos c, pr_b1 p1]
      by_cases c1 : sb w h (fun y x => s (7 + (w * y + x))) (i / w) (i % w)
      · have hz := hq.mp c1
        have ht : shM w h s l i = true := shM_iff.mpr ⟨c, c1⟩
        rw [if_pos ht, ← nI_1] at this
        by_cases e1 : z1 = 0
        · rw [if_pos e1, pr_b1 p2]
          by_cases e2 : z2 = 0
          · rw [if_pos e2, pr_b1 p3]
            by_cases e3 : z3 = 0
            · rw [if_pos e3, pr_b1 p4, if_neg (fun e4 => hz ⟨e1, e2, e3, e4⟩), pr_b1 rfl, pr_lt, pr_lt, nI_1 i]
              exact this
            · rw [if_neg e3, pr_b1 rfl, pr_lt, pr_lt, nI_1 i]
              exact this
          · rw [if_neg e2, pr_b1 rfl, pr_lt, pr_lt, nI_1 i]
            exact this
        · rw [if_neg e1, pr_b1 rfl, pr_lt, pr_lt, nI_1 i]
          exact this
      · have hz : z1 = 0 ∧ z2 = 0 ∧ z3 = 0 ∧ z4 = 0 := Decidable.of_not_not fun q => c1 (hq.mpr q)
        have ht : ¬ shM w h s l i = true := fun q => c1 (shM_iff.mp q).2
        rw [if_neg ht] at this
        rw [if_pos hz.1, pr_b1 p2, if_pos hz.2.1, pr_b1 p3, if_pos hz.2.2.1, pr_b1 p4, if_pos hz.2.2.2, pr_b1 rfl, pr_lt, pr_lt, nI_1 i, Int32.add_zero]
        exact this
    · have ht : ¬ shM w h s l i = true := fun q => c (shM_iff.mp q).1
      rw [if_neg ht] at this
      rw [if_neg c, pr_b1 rfl, pr_lt, pr_lt, nI_1 i, Int32.add_zero]
      exact this
theorem sb_eq {w h : Nat} {kinds s : Nat → Int32} (H : Cel w h kinds s) {y x : Nat} (hy : y < h) (hx : x < w) : sb 12 10 (fun y x => kinds (12 * y + x)) y x ↔ sb w h (fun y x => s (7 + (w * y + x))) y x := by
  obtain ⟨a1, a2, a3, a4, s0, s1, hin, ho⟩ := H
  have e8 : ¬ (8 : Int32) = 0 := by decide
  unfold sb
  refine ⟨fun q => ?_, fun q => ?_⟩
  · rcases q with ⟨q1, q2⟩ | ⟨q1, q2⟩ | ⟨q1, q2⟩ | ⟨q1, q2⟩
    · exact Or.inl ⟨q1, (hin y (x - 1) hy (by omega)).2.trans q2⟩
    · by_cases c : x + 1 < w
      · exact Or.inr (Or.inl ⟨c, (hin y (x + 1) hy c).2.trans q2⟩)
      · exact absurd ((ho y (x + 1) (by omega) q1 (by omega)).symm.trans q2) e8
    · exact Or.inr (Or.inr (Or.inl ⟨q1, (hin (y - 1) x (by omega) hx).2.trans q2⟩))
    · by_cases c : y + 1 < h
      · exact Or.inr (Or.inr (Or.inr ⟨c, (hin (y + 1) x c hx).2.trans q2⟩))
      · exact absurd ((ho (y + 1) x q1 (by omega) (by omega)).symm.trans q2) e8
  · rcases q with ⟨q1, q2⟩ | ⟨q1, q2⟩ | ⟨q1, q2⟩ | ⟨q1, q2⟩
    · exact Or.inl ⟨q1, (hin y (x - 1) hy (by omega)).2.symm.trans q2⟩
    · exact Or.inr (Or.inl ⟨by omega, (hin y (x + 1) hy q1).2.symm.trans q2⟩)
    · exact Or.inr (Or.inr (Or.inl ⟨q1, (hin (y - 1) x (by omega) hx).2.symm.trans q2⟩))
    · exact Or.inr (Or.inr (Or.inr ⟨by omega, (hin (y + 1) x q1 hx).2.symm.trans q2⟩))
theorem pm_shoreOf {n : Nat} (hn : 200 ≤ n) {w h : Nat} {kinds s : Nat → Int32} (H : Cel w h kinds s) {l : Nat} (hl : l < 3) : f_X6_shoreOf n s (nI l) = some (nI (SH kinds l)) := by
  obtain ⟨a1, a2, a3, a4, s0, s1, hin, ho⟩ := id H
  have hwh := pr_wh a2 a4
  unfold f_X6_shoreOf
  refine (pr_b2 (pm_shoreOf_L n s0 s1 a1 a2 a4 hl (w * h) 0 n (by omega) (by omega))).trans ?_
  congr 2
  unfold SH
  refine (ct_grid a2 a4 (fun y x hy hx => ?_) (fun y x hy hx hn => ?_)).symm
  · rw [Bool.eq_iff_iff, shP_iff, shM_iff, (dm12 (by omega)).1, (dm12 (by omega)).2, (dmw hx).1, (dmw hx).2, (hin y x hy hx).2, sb_eq H hy hx]
  · refine Bool.eq_false_iff.mpr fun e => ?_
    have e := (shP_iff.mp e).1
    rw [ho y x hy hx hn] at e
    have := (nI_eq (a := 8) (b := l + 1) (by omega) (by omega)).mp e
    omega
theorem pr_land (l : Int32) : (∃ a : Nat, a < 3 ∧ l = nI a) ∨ (l < 0 ∨ (3 : Int32) ≤ l) := by
  by_cases c1 : l < 0
  · exact Or.inr (Or.inl c1)
  by_cases c2 : (3 : Int32) ≤ l
  · exact Or.inr (Or.inr c2)
  obtain ⟨j, hj, rfl⟩ := nI_of2 (M := 2) (n := 2) (by decide) c1 (by
    have := Int32.lt_iff_toInt_lt.mp (Int32.not_le.mp c2)
    rw [show (3 : Int32).toInt = 3 by decide] at this
    refine Int32.le_iff_toInt_le.mpr ?_
    rw [show (2 : Int32).toInt = 2 by decide]
    omega)
  exact Or.inl ⟨j, by omega, rfl⟩
theorem pk_isLand {n : Nat} {a : Nat} (h : a < 3) : f_X5_isLand n (nI a) = some 1 := by
  unfold f_X5_isLand
  rw [if_neg (nI_pos (by omega))]
  exact if_neg (show ¬ nI 3 ≤ nI a from nI_ge (by omega) (by omega))
theorem pk_isLandN {n : Nat} {l : Int32} (h : l < 0 ∨ (3 : Int32) ≤ l) : f_X5_isLand n l = some 0 := by
  unfold f_X5_isLand
  by_cases c : l < 0
  · rw [if_pos c]
  · rw [if_neg c, if_pos (h.resolve_left c)]
theorem pm_isIn3 {n : Nat} {a : Nat} (h : a < 3) : f_X6_isIn n (nI a) 3 = some 1 := pm_isIn1 (nI_pos (by omega)) (show ¬ nI 3 ≤ nI a from nI_ge (by omega) (by omega))
theorem st_shore {n : Nat} (hn : 200 ≤ n) {v_x_tape_length : Int32} {f_x_tape_signs : (Nat → Int32)} {v_x_waters_wide : Int32} {v_x_waters_high : Int32} {v_x_waters_wells : Int32} {f_x_waters_kinds : (Nat → Int32)} {f_x_waters_wellPlaces : (Nat → Int32)} {f_x_waters_wellWorths : (Nat → Int32)} {v_x_waters_rules_mouth : Int32} {v_x_waters_rules_weight : Int32} {v_x_waters_rules_reach : Int32} {v_x_waters_rules_bend : Int32} {v_x_kept_wide : Int32} {v_x_kept_high : Int32} {v_x_kept_wells : Int32} {f_x_kept_kinds : (Nat → Int32)} {f_x_kept_wellPlaces : (Nat → Int32)} {f_x_kept_wellWorths : (Nat → Int32)} {v_x_kept_rules_mouth : Int32} {v_x_kept_rules_weight : Int32} {v_x_kept_rules_reach : Int32} {v_x_kept_rules_bend : Int32} {v_x_hasImage : Int32} {v_x_rowLength : Int32} {f_x_row : (Nat → Int32)} {f_x_refusals : (Nat → Int32)} {v_m_isImage : Int32} {v_m_taped : Int32} {v_m_rowed : Int32} {f_m_tape : (Nat → Int32)} {f_m_s : (Nat → Int32)} {f_m_image : (Nat → Int32)} {f_m_row : (Nat → Int32)} {f_m_refusals : (Nat → Int32)} (w1 : Int32) (hR : Rel v_x_tape_length f_x_tape_signs v_x_waters_wide v_x_waters_high v_x_waters_wells f_x_waters_kinds f_x_waters_wellPlaces f_x_waters_wellWorths v_x_waters_rules_mouth v_x_waters_rules_weight v_x_waters_rules_reach v_x_waters_rules_bend v_x_kept_wide v_x_kept_high v_x_kept_wells f_x_kept_kinds f_x_kept_wellPlaces f_x_kept_wellWorths v_x_kept_rules_mouth v_x_kept_rules_weight v_x_kept_rules_reach v_x_kept_rules_bend v_x_hasImage v_x_rowLength f_x_row f_x_refusals v_m_isImage v_m_taped v_m_rowed f_m_tape f_m_s f_m_image f_m_row f_m_refusals) : ∃ (r : Int32) (r_f_x_refusals : (Nat → Int32)) (r_f_m_refusals : (Nat → Int32)), f_X5_shore n f_x_waters_kinds f_x_refusals w1 = some (r, r_f_x_refusals) ∧ f_X6_shore n f_m_refusals f_m_s w1 = some (r, r_f_m_refusals) ∧ Rel v_x_tape_length f_x_tape_signs v_x_waters_wide v_x_waters_high v_x_waters_wells f_x_waters_kinds f_x_waters_wellPlaces f_x_waters_wellWorths v_x_waters_rules_mouth v_x_waters_rules_weight v_x_waters_rules_reach v_x_waters_rules_bend v_x_kept_wide v_x_kept_high v_x_kept_wells f_x_kept_kinds f_x_kept_wellPlaces f_x_kept_wellWorths v_x_kept_rules_mouth v_x_kept_rules_weight v_x_kept_rules_reach v_x_kept_rules_bend v_x_hasImage v_x_rowLength f_x_row r_f_x_refusals v_m_isImage v_m_taped v_m_rowed f_m_tape f_m_s f_m_image f_m_row r_f_m_refusals := by
  obtain ⟨R1, R2, R3, R4, R5, R6, R7, R8, R9, R10⟩ := id hR
  obtain ⟨w, h, nw, H⟩ := id R4
  unfold f_X5_shore f_X6_shore
  rcases pr_land w1 with ⟨l, hl, rfl⟩ | hl
  · rw [pr_b1 (pk_isLand hl), pr_b1 (pm_isIn3 hl), if_neg (by decide), if_neg (by decide), pr_b1 (pc_shoreOf hn _ hl), pr_b1 (pm_shoreOf hn (sea_cel H) hl)]
    exact ⟨_, _, _, rfl, rfl, hR⟩
  · obtain ⟨g, g', q1, q2, q3⟩ := pr_refuse (n := n) (v := -1) 1 (by omega) (by decide) R10
    rw [pr_b1 (pk_isLandN hl), pr_b1 (pm_isIn0 hl), if_pos rfl, if_pos rfl, pr_b2 q1, pr_b2 q2]
    exact ⟨_, _, _, rfl, rfl, R1, R2, R3, R4, R5, R6, R7, R8, R9, q3⟩
