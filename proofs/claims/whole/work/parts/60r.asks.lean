/-! the pure side, 19: questions about a chart -/
theorem sea_all {w h nw : Nat} {wide high wells : Int32} {kinds wp ww : Nat → Int32} {mouth weight reach bend : Int32} {s : Nat → Int32} (H : SeaAt w h nw wide high wells kinds wp ww mouth weight reach bend s) : ∃ M : Nat, M ≤ 9 ∧ mouth = nI M ∧ s 2 = nI M ∧ (∃ a : Nat, a ≤ 2 ∧ weight = nI a) ∧ s 3 = weight ∧ s 4 = reach ∧ s 5 = bend ∧ Cel w h kinds s := by
  obtain ⟨a1, a2, a3, a4, a5, ew, eh, en, s0, s1, s2, s3, s4, s5, s6, ⟨M, hM, eM⟩, hwt, hre, hbd, hin, ho, hwl⟩ := H
  exact ⟨M, hM, eM, s2.trans eM, hwt, s3, s4, s5, a1, a2, a3, a4, s0, s1, hin, ho⟩
/-- owners of class and model are the same -/
def SameO (w h : Nat) (owners whoseOf : Nat → Int32) : Prop := (∀ y x : Nat, y < h → x < w → whoseOf (w * y + x) = owners (12 * y + x)) ∧ ∀ y x : Nat, y < 10 → x < 12 → ¬ (y < h ∧ x < w) → owners (12 * y + x) = -9
theorem both {n w h M : Nat} {kinds s : Nat → Int32} {weight reach bend : Int32} (hn : 200 ≤ n) (H : Cel w h kinds s) (hM : M ≤ 9) (s2 : s 2 = nI M) (hW : ∃ a : Nat, a ≤ 2 ∧ weight = nI a) (s3 : s 3 = weight) (s4 : s 4 = reach) (s5 : s 5 = bend) (z t : Int32) (i0 o0 n0 p0 q0 st0 : Nat → Int32) : ∃ (b : Int32) (th : Nat) (inner owners nears bp bf bs : Nat → Int32), f_X0_draw n z t i0 o0 n0 p0 q0 st0 kinds (nI M) weight reach bend = some (b, nI th, inner, owners, nears, bp, bf, bs) ∧ th ≤ 120 ∧ ∀ (z' : Int32) (i1 w1 n1 f1 : Nat → Int32), ∃ innerOf whoseOf nearOf fromOf, f_X6_find n z' s i1 w1 n1 f1 = some (nI th, innerOf, whoseOf, nearOf, fromOf) ∧ SameO w h owners whoseOf := by
  obtain ⟨a1, a2, a3, a4, s0, s1, hin, ho⟩ := id H
  obtain ⟨inner, owners, nears, bp, bf, bs, b, e1, e2, e3⟩ := pk_draw hn (Cel_kin H) hM hW reach bend z t i0 o0 n0 p0 q0 st0
  refine ⟨b, _, inner, owners, nears, bp, bf, bs, e1, ct_le _ _, fun z' i1 w1 n1 f1 => ?_⟩
  obtain ⟨innerOf, whoseOf, nearOf, fromOf, f1', f2⟩ := pm_find hn H hM s2 s3 s4 s5 e2 z' i1 w1 n1 f1
  refine ⟨innerOf, whoseOf, nearOf, fromOf, f1', fun y x hy hx => ?_, fun y x hy hx hno => ?_⟩
  · rw [(f2 y x hy hx).2.1, e3 _ (by omega)]
  · rw [e3 _ (by omega), OW_out H hy hx hno]
section ARE
variable {n w h : Nat} {owners whoseOf s : Nat → Int32} {v : Int32}
def AR (owners : Nat → Int32) (v : Int32) : Nat := ct (fun j => decide (owners j = v)) 120
theorem AR_le (owners : Nat → Int32) (v : Int32) : AR owners v ≤ 120 := ct_le _ _
theorem pk_area_L : ∀ (d i k : Nat), i + d = 120 → d < k → f_X0_areaOf_L4 n owners v k (nI (ct (fun j => decide (owners j = v)) i)) (nI i) = some (nI (ct (fun j => decide (owners j = v)) 120), nI 120) := by
  intro d
  induction d with
  | zero =>
    intro i k h1 h2
    obtain ⟨k, rfl⟩ : ∃ q, k = q + 1 := ⟨k - 1, by omega⟩
    have : i = 120 := by omega
    subst this
    rw [f_X0_areaOf_L4]
    exact if_pos (Int32.le_refl _)
  | succ d ih =>
    intro i k h1 h2
    obtain ⟨k, rfl⟩ : ∃ q, k = q + 1 := ⟨k - 1, by omega⟩
    have := ih (i + 1) k (by omega) (by omega)
    rw [ct_succ] at this
    rw [f_X0_areaOf_L4]
    rw [if_neg (show ¬ (120 : Int32) ≤ nI i from nI_ge (b := 120) (by omega) (by omega)), pr_rd (by omega) (by omega)]
    by_cases c : owners i = v
    · rw [if_pos (decide_eq_true c)] at this
      rw [if_pos c, pr_lt, pr_b1 rfl, pr_lt, nI_1, nI_1]
      exact this
    · rw [if_neg (fun q => c (of_decide_eq_true q))] at this
      rw [if_neg c, pr_b1 rfl, pr_lt, nI_1]
      exact this
theorem pk_areaOf (hn : 200 ≤ n) : f_X0_areaOf n owners v = some (nI (AR owners v)) := by
  unfold f_X0_areaOf
  exact pr_b2 (pk_area_L (n := n) (owners := owners) (v := v) 120 0 n (by omega) (by omega))
theorem pm_area_L (h0 : s 0 = nI w) (h1 : s 1 = nI h) (hwh : w * h ≤ 120) : ∀ (d i k : Nat), i + d = w * h → d < k → f_X6_areaOf_L4 n s whoseOf v k (nI (ct (fun j => decide (whoseOf j = v)) i)) (nI i) = some (nI (ct (fun j => decide (whoseOf j = v)) (w * h)), nI (w * h)) := by
  intro d
  induction d with
  | zero =>
    intro i k h1' h2
    obtain ⟨k, rfl⟩ : ∃ q, k = q + 1 := ⟨k - 1, by omega⟩
    have : i = w * h := by omega
    subst this
    rw [f_X6_areaOf_L4, pr_b1 (pm_many h0 h1)]
    exact if_pos (Int32.le_refl _)
  | succ d ih =>
    intro i k h1' h2
    obtain ⟨k, rfl⟩ : ∃ q, k = q + 1 := ⟨k - 1, by omega⟩
    have := ih (i + 1) k (by omega) (by omega)
    rw [ct_succ] at this
    rw [f_X6_areaOf_L4, pr_b1 (pm_many h0 h1), if_neg (nI_ge (by omega) (by omega)), pr_rd (by omega) (by omega), pr_lt, pr_lt, pr_lt, nI_1]
    by_cases c : whoseOf i = v
    · rw [if_pos (decide_eq_true c)] at this
      rw [if_pos c, nI_1]
      exact this
    · rw [if_neg (fun q => c (of_decide_eq_true q))] at this
      rw [if_neg c, Int32.add_zero]
      exact this
theorem pm_areaOf (hn : 200 ≤ n) (hw : w ≤ 12) (hh : h ≤ 10) (h0 : s 0 = nI w) (h1 : s 1 = nI h) (hS : SameO w h owners whoseOf) (hv : ¬ v = -9) : f_X6_areaOf n s whoseOf v = some (nI (AR owners v)) := by
  have hwh := pr_wh hw hh
  unfold f_X6_areaOf
  refine (pr_b2 (pm_area_L (n := n) (whoseOf := whoseOf) (v := v) h0 h1 hwh (w * h) 0 n (by omega) (by omega))).trans ?_
  congr 2
  unfold AR
  refine (ct_grid hw hh (fun y x hy hx => ?_) (fun y x hy hx hno => ?_)).symm
  · exact congrArg (fun q : Int32 => decide (q = v)) (hS.1 y x hy hx).symm
  · refine decide_eq_false fun q => hv ?_
    rw [← q, hS.2 y x hy hx hno]
end ARE
section TLD
variable {n w h : Nat} {s : Nat → Int32}
theorem pk_told {y x : Nat} (hx : x < 12) (hy : y < 10) : f_X5_toldOf n (nI (12 * y + x)) = some (nI (100 * x + y)) := by
  unfold f_X5_toldOf
  rw [if_pos (nI_pos' (by omega)), show (12 : Int32) = nI 12 from rfl, show (100 : Int32) = nI 100 from rfl, pk_rem (by omega) (by omega) (by omega), pk_div (by omega) (by omega) (by omega), (dm12 hx).1, (dm12 hx).2, pk_mul, nI_add]
theorem pk_toldN {v : Int32} (hv : ¬ 0 ≤ v) : f_X5_toldOf n v = some (-9) := by
  unfold f_X5_toldOf
  rw [if_neg hv]
theorem pm_told (h0 : s 0 = nI w) (hw1 : 1 ≤ w) (hw : w ≤ 12) (hh : h ≤ 10) {y x : Nat} (hx : x < w) (hy : y < h) : f_X6_told n s (nI (w * y + x)) = some (nI (100 * x + y)) := by
  have hc := pr_c120 hw hh hx hy
  have hwz : ¬ nI w = 0 := fun e => by have := (nI_eq (b := 0) (by omega) (by omega)).mp e; omega
  unfold f_X6_told
  rw [pr_rd0 (by omega) (by omega), h0, pr_nz hwz, pr_rd0 (by omega) (by omega), h0, pr_nz hwz, show (100 : Int32) = nI 100 from rfl, pk_rem (by omega) (by omega) (by omega), pk_div (by omega) (by omega) (by omega), (dmw hx).1, (dmw hx).2, pk_mul, nI_add]
theorem pk_innerOf {g : Nat → Int32} {j : Nat} (hj : j < 120) : f_X0_innerOf n g (nI j) = some (g j) := by
  unfold f_X0_innerOf
  rw [if_neg (nI_pos (by omega)), if_neg (show ¬ (120 : Int32) ≤ nI j from nI_ge (b := 120) (by omega) (by omega)), pr_rd (by omega) (by omega)]
theorem pk_ownerOf {g : Nat → Int32} {j : Nat} (hj : j < 120) : f_X0_ownerOf n g (nI j) = some (g j) := by
  unfold f_X0_ownerOf
  rw [if_neg (nI_pos (by omega)), if_neg (show ¬ (120 : Int32) ≤ nI j from nI_ge (b := 120) (by omega) (by omega)), pr_rd (by omega) (by omega)]
theorem pk_placeOfBase {g : Nat → Int32} {j : Nat} (hj : j < 120) : f_X0_placeOfBase n g (nI j) = some (g j) := by
  unfold f_X0_placeOfBase
  rw [if_neg (nI_pos (by omega)), if_neg (show ¬ (120 : Int32) ≤ nI j from nI_ge (b := 120) (by omega) (by omega)), pr_rd (by omega) (by omega)]
end TLD
/-- a told cell, or none: what class and model make of it -/
theorem cell_or {n w h : Nat} {kinds s : Nat → Int32} (H : Cel w h kinds s) (xy : Int32) : (∃ x y : Nat, x < w ∧ y < h ∧ f_X4_placeOf n kinds xy = some (nI (12 * y + x)) ∧ f_X6_isCell n s xy = some 1 ∧ f_X6_of n s xy = some (nI (w * y + x))) ∨ (f_X4_placeOf n kinds xy = some (-1) ∧ f_X6_isCell n s xy = some 0) := by
  obtain ⟨a1, a2, a3, a4, s0, s1, hin, ho⟩ := id H
  rcases pr_cell_or xy w h with ⟨x, y, hx, hy, rfl⟩ | hno
  · refine Or.inl ⟨x, y, hx, hy, pk_placeOf a2 a4 hx hy ?_, pm_isCell s0 s1 a2 a4 hx hy, pm_of s0 a2 hx (by omega)⟩
    obtain ⟨⟨a, ha, ea⟩, _⟩ := hin y x hy hx
    rw [ea]
    intro q
    have := (nI_eq (b := 8) (by omega) (by omega)).mp q
    omega
  · exact Or.inr ⟨pk_placeOfN a2 a4 ho hno, pm_isCellN s0 s1 a2 a4 hno⟩
theorem st_inner {n : Nat} (hn : 200 ≤ n) {v_x_tape_length : Int32} {f_x_tape_signs : (Nat → Int32)} {v_x_waters_wide : Int32} {v_x_waters_high : Int32} {v_x_waters_wells : Int32} {f_x_waters_kinds : (Nat → Int32)} {f_x_waters_wellPlaces : (Nat → Int32)} {f_x_waters_wellWorths : (Nat → Int32)} {v_x_waters_rules_mouth : Int32} {v_x_waters_rules_weight : Int32} {v_x_waters_rules_reach : Int32} {v_x_waters_rules_bend : Int32} {v_x_kept_wide : Int32} {v_x_kept_high : Int32} {v_x_kept_wells : Int32} {f_x_kept_kinds : (Nat → Int32)} {f_x_kept_wellPlaces : (Nat → Int32)} {f_x_kept_wellWorths : (Nat → Int32)} {v_x_kept_rules_mouth : Int32} {v_x_kept_rules_weight : Int32} {v_x_kept_rules_reach : Int32} {v_x_kept_rules_bend : Int32} {v_x_hasImage : Int32} {v_x_rowLength : Int32} {f_x_row : (Nat → Int32)} {f_x_refusals : (Nat → Int32)} {v_m_isImage : Int32} {v_m_taped : Int32} {v_m_rowed : Int32} {f_m_tape : (Nat → Int32)} {f_m_s : (Nat → Int32)} {f_m_image : (Nat → Int32)} {f_m_row : (Nat → Int32)} {f_m_refusals : (Nat → Int32)} (v_x_chart_bases : Int32) (f_x_chart_inner : (Nat → Int32)) (f_x_chart_basePlaces : (Nat → Int32)) (f_x_chart_baseFactors : (Nat → Int32)) (f_x_chart_baseStarts : (Nat → Int32)) (v_m_thirds : Int32) (f_m_innerOf : (Nat → Int32)) (f_m_whoseOf : (Nat → Int32)) (f_m_nearOf : (Nat → Int32)) (f_m_fromOf : (Nat → Int32)) (w1 : Int32) (hR : Rel v_x_tape_length f_x_tape_signs v_x_waters_wide v_x_waters_high v_x_waters_wells f_x_waters_kinds f_x_waters_wellPlaces f_x_waters_wellWorths v_x_waters_rules_mouth v_x_waters_rules_weight v_x_waters_rules_reach v_x_waters_rules_bend v_x_kept_wide v_x_kept_high v_x_kept_wells f_x_kept_kinds f_x_kept_wellPlaces f_x_kept_wellWorths v_x_kept_rules_mouth v_x_kept_rules_weight v_x_kept_rules_reach v_x_kept_rules_bend v_x_hasImage v_x_rowLength f_x_row f_x_refusals v_m_isImage v_m_taped v_m_rowed f_m_tape f_m_s f_m_image f_m_row f_m_refusals) : ∃ (r : Int32) (r_v_x_chart_bases : Int32) (r_f_x_chart_inner : (Nat → Int32)) (r_f_x_chart_basePlaces : (Nat → Int32)) (r_f_x_chart_baseFactors : (Nat → Int32)) (r_f_x_chart_baseStarts : (Nat → Int32)) (r_f_x_refusals : (Nat → Int32)) (r_v_m_thirds : Int32) (r_f_m_refusals : (Nat → Int32)) (r_f_m_innerOf : (Nat → Int32)) (r_f_m_whoseOf : (Nat → Int32)) (r_f_m_nearOf : (Nat → Int32)) (r_f_m_fromOf : (Nat → Int32)), f_X5_inner n f_x_waters_kinds v_x_waters_rules_mouth v_x_waters_rules_weight v_x_chart_bases f_x_chart_inner f_x_chart_basePlaces f_x_chart_baseFactors f_x_chart_baseStarts f_x_refusals w1 = some (r, r_v_x_chart_bases, r_f_x_chart_inner, r_f_x_chart_basePlaces, r_f_x_chart_baseFactors, r_f_x_chart_baseStarts, r_f_x_refusals) ∧ f_X6_inner n v_m_thirds f_m_refusals f_m_s f_m_innerOf f_m_whoseOf f_m_nearOf f_m_fromOf w1 = some (r, r_v_m_thirds, r_f_m_refusals, r_f_m_innerOf, r_f_m_whoseOf, r_f_m_nearOf, r_f_m_fromOf) ∧ Rel v_x_tape_length f_x_tape_signs v_x_waters_wide v_x_waters_high v_x_waters_wells f_x_waters_kinds f_x_waters_wellPlaces f_x_waters_wellWorths v_x_waters_rules_mouth v_x_waters_rules_weight v_x_waters_rules_reach v_x_waters_rules_bend v_x_kept_wide v_x_kept_high v_x_kept_wells f_x_kept_kinds f_x_kept_wellPlaces f_x_kept_wellWorths v_x_kept_rules_mouth v_x_kept_rules_weight v_x_kept_rules_reach v_x_kept_rules_bend v_x_hasImage v_x_rowLength f_x_row r_f_x_refusals v_m_isImage v_m_taped v_m_rowed f_m_tape f_m_s f_m_image f_m_row r_f_m_refusals := by
  obtain ⟨R1, R2, R3, R4, R5, R6, R7, R8, R9, R10⟩ := id hR
  obtain ⟨w, h, nw, HS⟩ := id R4
  obtain ⟨M, hM, eM, s2, hW, s3, s4, s5, H⟩ := sea_all HS
  obtain ⟨a1, a2, a3, a4, s0, s1, hin, ho⟩ := id H
  subst eM
  unfold f_X5_inner f_X6_inner
  rcases cell_or (n := n) H w1 with ⟨x, y, hx, hy, q1, q2, q3⟩ | ⟨q1, q2⟩
  · have hc := pr_c120 a2 a4 hx hy
    obtain ⟨inner, bp, bf, bs, b, e1, e2, e3, e4, e5⟩ := pk_bases hn (Cel_kin H) hM hW v_x_chart_bases f_x_chart_inner f_x_chart_basePlaces f_x_chart_baseFactors f_x_chart_baseStarts
    obtain ⟨nears, e6, e7⟩ := pk_measure (n := n) (inner := inner) (kinds := f_x_waters_kinds) hn e4 e5 cC_4 f_x_chart_inner
    obtain ⟨innerOf, whoseOf, nearOf, fromOf, f1, f2⟩ := pm_find hn H hM s2 s3 s4 s5 ⟨e3, e7⟩ v_m_thirds f_m_innerOf f_m_whoseOf f_m_nearOf f_m_fromOf
    have el : f_X5_layBasesAsItIs n f_x_waters_kinds (nI M) v_x_waters_rules_weight v_x_chart_bases f_x_chart_inner f_x_chart_basePlaces f_x_chart_baseFactors f_x_chart_baseStarts = some (b, inner, bp, bf, bs) := by
      unfold f_X5_layBasesAsItIs
      rw [pr_b1 e1, pr_b4 e2]
    rw [pr_b1 q1, pr_b1 q2, if_pos (nI_pos' (by omega)), if_neg (by decide), pr_b5 el, pr_b5 f1, pr_b1 (pk_innerOf (by omega)), pr_b1 q3, pr_rd (by omega) (by omega), (f2 y x hy hx).1]
    exact ⟨_, _, _, _, _, _, _, _, _, _, _, _, _, rfl, rfl, hR⟩
  · obtain ⟨g, g', r1, r2, r3⟩ := pr_refuse (n := n) (v := -1) 1 (by omega) (by decide) R10
    rw [pr_b1 q1, pr_b1 q2, if_neg (by decide), if_pos rfl, pr_b2 r1, pr_b2 r2]
    exact ⟨_, _, _, _, _, _, _, _, _, _, _, _, _, rfl, rfl, R1, R2, R3, R4, R5, R6, R7, R8, R9, r3⟩
theorem st_near {n : Nat} (hn : 200 ≤ n) {v_x_tape_length : Int32} {f_x_tape_signs : (Nat → Int32)} {v_x_waters_wide : Int32} {v_x_waters_high : Int32} {v_x_waters_wells : Int32} {f_x_waters_kinds : (Nat → Int32)} {f_x_waters_wellPlaces : (Nat → Int32)} {f_x_waters_wellWorths : (Nat → Int32)} {v_x_waters_rules_mouth : Int32} {v_x_waters_rules_weight : Int32} {v_x_waters_rules_reach : Int32} {v_x_waters_rules_bend : Int32} {v_x_kept_wide : Int32} {v_x_kept_high : Int32} {v_x_kept_wells : Int32} {f_x_kept_kinds : (Nat → Int32)} {f_x_kept_wellPlaces : (Nat → Int32)} {f_x_kept_wellWorths : (Nat → Int32)} {v_x_kept_rules_mouth : Int32} {v_x_kept_rules_weight : Int32} {v_x_kept_rules_reach : Int32} {v_x_kept_rules_bend : Int32} {v_x_hasImage : Int32} {v_x_rowLength : Int32} {f_x_row : (Nat → Int32)} {f_x_refusals : (Nat → Int32)} {v_m_isImage : Int32} {v_m_taped : Int32} {v_m_rowed : Int32} {f_m_tape : (Nat → Int32)} {f_m_s : (Nat → Int32)} {f_m_image : (Nat → Int32)} {f_m_row : (Nat → Int32)} {f_m_refusals : (Nat → Int32)} (v_x_chart_bases : Int32) (f_x_chart_inner : (Nat → Int32)) (f_x_chart_basePlaces : (Nat → Int32)) (f_x_chart_baseFactors : (Nat → Int32)) (f_x_chart_baseStarts : (Nat → Int32)) (v_m_thirds : Int32) (f_m_innerOf : (Nat → Int32)) (f_m_whoseOf : (Nat → Int32)) (f_m_nearOf : (Nat → Int32)) (f_m_fromOf : (Nat → Int32)) (w1 : Int32) (w2 : Int32) (hR : Rel v_x_tape_length f_x_tape_signs v_x_waters_wide v_x_waters_high v_x_waters_wells f_x_waters_kinds f_x_waters_wellPlaces f_x_waters_wellWorths v_x_waters_rules_mouth v_x_waters_rules_weight v_x_waters_rules_reach v_x_waters_rules_bend v_x_kept_wide v_x_kept_high v_x_kept_wells f_x_kept_kinds f_x_kept_wellPlaces f_x_kept_wellWorths v_x_kept_rules_mouth v_x_kept_rules_weight v_x_kept_rules_reach v_x_kept_rules_bend v_x_hasImage v_x_rowLength f_x_row f_x_refusals v_m_isImage v_m_taped v_m_rowed f_m_tape f_m_s f_m_image f_m_row f_m_refusals) : ∃ (r : Int32) (r_v_x_chart_bases : Int32) (r_f_x_chart_inner : (Nat → Int32)) (r_f_x_chart_basePlaces : (Nat → Int32)) (r_f_x_chart_baseFactors : (Nat → Int32)) (r_f_x_chart_baseStarts : (Nat → Int32)) (r_f_x_refusals : (Nat → Int32)) (r_v_m_thirds : Int32) (r_f_m_refusals : (Nat → Int32)) (r_f_m_innerOf : (Nat → Int32)) (r_f_m_whoseOf : (Nat → Int32)) (r_f_m_nearOf : (Nat → Int32)) (r_f_m_fromOf : (Nat → Int32)), f_X5_near n f_x_waters_kinds v_x_waters_rules_mouth v_x_waters_rules_weight v_x_chart_bases f_x_chart_inner f_x_chart_basePlaces f_x_chart_baseFactors f_x_chart_baseStarts f_x_refusals w1 w2 = some (r, r_v_x_chart_bases, r_f_x_chart_inner, r_f_x_chart_basePlaces, r_f_x_chart_baseFactors, r_f_x_chart_baseStarts, r_f_x_refusals) ∧ f_X6_near n v_m_thirds f_m_refusals f_m_s f_m_innerOf f_m_whoseOf f_m_nearOf f_m_fromOf w1 w2 = some (r, r_v_m_thirds, r_f_m_refusals, r_f_m_innerOf, r_f_m_whoseOf, r_f_m_nearOf, r_f_m_fromOf) ∧ Rel v_x_tape_length f_x_tape_signs v_x_waters_wide v_x_waters_high v_x_waters_wells f_x_waters_kinds f_x_waters_wellPlaces f_x_waters_wellWorths v_x_waters_rules_mouth v_x_waters_rules_weight v_x_waters_rules_reach v_x_waters_rules_bend v_x_kept_wide v_x_kept_high v_x_kept_wells f_x_kept_kinds f_x_kept_wellPlaces f_x_kept_wellWorths v_x_kept_rules_mouth v_x_kept_rules_weight v_x_kept_rules_reach v_x_kept_rules_bend v_x_hasImage v_x_rowLength f_x_row r_f_x_refusals v_m_isImage v_m_taped v_m_rowed f_m_tape f_m_s f_m_image f_m_row r_f_m_refusals := by
  obtain ⟨R1, R2, R3, R4, R5, R6, R7, R8, R9, R10⟩ := id hR
  obtain ⟨w, h, nw, HS⟩ := id R4
  obtain ⟨M, hM, eM, s2, hW, s3, s4, s5, H⟩ := sea_all HS
  obtain ⟨a1, a2, a3, a4, s0, s1, hin, ho⟩ := id H
  subst eM
  unfold f_X5_near f_X6_near
  obtain ⟨g, g', r1, r2, r3⟩ := pr_refuse (n := n) (v := -1) 1 (by omega) (by decide) R10
  rcases cell_or (n := n) H w1 with ⟨x, y, hx, hy, q1, q2, q3⟩ | ⟨q1, q2⟩
  · have hc := pr_c120 a2 a4 hx hy
    rw [pr_b1 q1, pr_b1 q2, if_neg (nI_pos (by omega)), if_neg (by decide)]
    rcases pr_land w2 with ⟨l, hl, rfl⟩ | hl
    · obtain ⟨inner, bp, bf, bs, b, e1, e2, e3, e4, e5⟩ := pk_bases hn (Cel_kin H) hM hW v_x_chart_bases f_x_chart_inner f_x_chart_basePlaces f_x_chart_baseFactors f_x_chart_baseStarts
      obtain ⟨nears, e6, e7⟩ := pk_measure (n := n) (inner := inner) (kinds := f_x_waters_kinds) hn e4 e5 cC_4 f_x_chart_inner
      obtain ⟨innerOf, whoseOf, nearOf, fromOf, f1, f2⟩ := pm_find hn H hM s2 s3 s4 s5 ⟨e3, e7⟩ v_m_thirds f_m_innerOf f_m_whoseOf f_m_nearOf f_m_fromOf
      have el : f_X5_layBasesAsItIs n f_x_waters_kinds (nI M) v_x_waters_rules_weight v_x_chart_bases f_x_chart_inner f_x_chart_basePlaces f_x_chart_baseFactors f_x_chart_baseStarts = some (b, inner, bp, bf, bs) := by
        unfold f_X5_layBasesAsItIs
        rw [pr_b1 e1, pr_b4 e2]
      have ei : (120 : Int32) * nI l + nI (w * y + x) = nI (120 * l + (w * y + x)) := by
        rw [show (120 : Int32) = nI 120 from rfl, pk_mul, nI_add]
      rw [pr_b1 (pk_isLand hl), pr_b1 (pm_isIn3 hl), if_neg (by decide), if_neg (by decide), pr_b5 el, pr_b5 f1, pr_b1 (pk_nearestBase hn e4 e5 cC_4 hl (by omega) (by omega)), pr_b1 q3, ei, pr_rd (by omega) (by omega), ((f2 y x hy hx).2.2 l hl).1]
      rcases pk_found (n := n) e4 e5 cC_4 hl (show x < 12 by omega) (show y < 10 by omega) with ⟨t1, t2⟩ | ⟨v, y', x', b', t1, _, _, _, hb, t2, t3, _⟩
      · rw [t2, t1, if_neg (by decide)]
        exact ⟨_, _, _, _, _, _, _, _, _, _, _, _, _, rfl, rfl, hR⟩
      · rw [t2, t1, if_pos (nI_pos' (by omega)), pr_b1 t3]
        exact ⟨_, _, _, _, _, _, _, _, _, _, _, _, _, rfl, rfl, hR⟩
    · rw [pr_b1 (pk_isLandN hl), pr_b1 (pm_isIn0 hl), if_pos rfl, if_pos rfl, pr_b2 r1, pr_b2 r2]
      exact ⟨_, _, _, _, _, _, _, _, _, _, _, _, _, rfl, rfl, R1, R2, R3, R4, R5, R6, R7, R8, R9, r3⟩
  · rw [pr_b1 q1, pr_b1 q2, if_pos (by decide), if_pos rfl, pr_b2 r1, pr_b2 r2]
    exact ⟨_, _, _, _, _, _, _, _, _, _, _, _, _, rfl, rfl, R1, R2, R3, R4, R5, R6, R7, R8, R9, r3⟩
theorem st_from {n : Nat} (hn : 200 ≤ n) {v_x_tape_length : Int32} {f_x_tape_signs : (Nat → Int32)} {v_x_waters_wide : Int32} {v_x_waters_high : Int32} {v_x_waters_wells : Int32} {f_x_waters_kinds : (Nat → Int32)} {f_x_waters_wellPlaces : (Nat → Int32)} {f_x_waters_wellWorths : (Nat → Int32)} {v_x_waters_rules_mouth : Int32} {v_x_waters_rules_weight : Int32} {v_x_waters_rules_reach : Int32} {v_x_waters_rules_bend : Int32} {v_x_kept_wide : Int32} {v_x_kept_high : Int32} {v_x_kept_wells : Int32} {f_x_kept_kinds : (Nat → Int32)} {f_x_kept_wellPlaces : (Nat → Int32)} {f_x_kept_wellWorths : (Nat → Int32)} {v_x_kept_rules_mouth : Int32} {v_x_kept_rules_weight : Int32} {v_x_kept_rules_reach : Int32} {v_x_kept_rules_bend : Int32} {v_x_hasImage : Int32} {v_x_rowLength : Int32} {f_x_row : (Nat → Int32)} {f_x_refusals : (Nat → Int32)} {v_m_isImage : Int32} {v_m_taped : Int32} {v_m_rowed : Int32} {f_m_tape : (Nat → Int32)} {f_m_s : (Nat → Int32)} {f_m_image : (Nat → Int32)} {f_m_row : (Nat → Int32)} {f_m_refusals : (Nat → Int32)} (v_x_chart_bases : Int32) (f_x_chart_inner : (Nat → Int32)) (f_x_chart_basePlaces : (Nat → Int32)) (f_x_chart_baseFactors : (Nat → Int32)) (f_x_chart_baseStarts : (Nat → Int32)) (v_m_thirds : Int32) (f_m_innerOf : (Nat → Int32)) (f_m_whoseOf : (Nat → Int32)) (f_m_nearOf : (Nat → Int32)) (f_m_fromOf : (Nat → Int32)) (w1 : Int32) (w2 : Int32) (hR : Rel v_x_tape_length f_x_tape_signs v_x_waters_wide v_x_waters_high v_x_waters_wells f_x_waters_kinds f_x_waters_wellPlaces f_x_waters_wellWorths v_x_waters_rules_mouth v_x_waters_rules_weight v_x_waters_rules_reach v_x_waters_rules_bend v_x_kept_wide v_x_kept_high v_x_kept_wells f_x_kept_kinds f_x_kept_wellPlaces f_x_kept_wellWorths v_x_kept_rules_mouth v_x_kept_rules_weight v_x_kept_rules_reach v_x_kept_rules_bend v_x_hasImage v_x_rowLength f_x_row f_x_refusals v_m_isImage v_m_taped v_m_rowed f_m_tape f_m_s f_m_image f_m_row f_m_refusals) : ∃ (r : Int32) (r_v_x_chart_bases : Int32) (r_f_x_chart_inner : (Nat → Int32)) (r_f_x_chart_basePlaces : (Nat → Int32)) (r_f_x_chart_baseFactors : (Nat → Int32)) (r_f_x_chart_baseStarts : (Nat → Int32)) (r_f_x_refusals : (Nat → Int32)) (r_v_m_thirds : Int32) (r_f_m_refusals : (Nat → Int32)) (r_f_m_innerOf : (Nat → Int32)) (r_f_m_whoseOf : (Nat → Int32)) (r_f_m_nearOf : (Nat → Int32)) (r_f_m_fromOf : (Nat → Int32)), f_X5_from n f_x_waters_kinds v_x_waters_rules_mouth v_x_waters_rules_weight v_x_chart_bases f_x_chart_inner f_x_chart_basePlaces f_x_chart_baseFactors f_x_chart_baseStarts f_x_refusals w1 w2 = some (r, r_v_x_chart_bases, r_f_x_chart_inner, r_f_x_chart_basePlaces, r_f_x_chart_baseFactors, r_f_x_chart_baseStarts, r_f_x_refusals) ∧ f_X6_from n v_m_thirds f_m_refusals f_m_s f_m_innerOf f_m_whoseOf f_m_nearOf f_m_fromOf w1 w2 = some (r, r_v_m_thirds, r_f_m_refusals, r_f_m_innerOf, r_f_m_whoseOf, r_f_m_nearOf, r_f_m_fromOf) ∧ Rel v_x_tape_length f_x_tape_signs v_x_waters_wide v_x_waters_high v_x_waters_wells f_x_waters_kinds f_x_waters_wellPlaces f_x_waters_wellWorths v_x_waters_rules_mouth v_x_waters_rules_weight v_x_waters_rules_reach v_x_waters_rules_bend v_x_kept_wide v_x_kept_high v_x_kept_wells f_x_kept_kinds f_x_kept_wellPlaces f_x_kept_wellWorths v_x_kept_rules_mouth v_x_kept_rules_weight v_x_kept_rules_reach v_x_kept_rules_bend v_x_hasImage v_x_rowLength f_x_row r_f_x_refusals v_m_isImage v_m_taped v_m_rowed f_m_tape f_m_s f_m_image f_m_row r_f_m_refusals := by
  obtain ⟨R1, R2, R3, R4, R5, R6, R7, R8, R9, R10⟩ := id hR
  obtain ⟨w, h, nw, HS⟩ := id R4
  obtain ⟨M, hM, eM, s2, hW, s3, s4, s5, H⟩ := sea_all HS
  obtain ⟨a1, a2, a3, a4, s0, s1, hin, ho⟩ := id H
  subst eM
  unfold f_X5_from f_X6_from
  obtain ⟨g, g', r1, r2, r3⟩ := pr_refuse (n := n) (v := -1) 1 (by omega) (by decide) R10
  rcases cell_or (n := n) H w1 with ⟨x, y, hx, hy, q1, q2, q3⟩ | ⟨q1, q2⟩
  · have hc := pr_c120 a2 a4 hx hy
    rw [pr_b1 q1, pr_b1 q2, if_neg (nI_pos (by omega)), if_neg (by decide)]
    rcases pr_land w2 with ⟨l, hl, rfl⟩ | hl
    · obtain ⟨inner, bp, bf, bs, b, e1, e2, e3, e4, e5⟩ := pk_bases hn (Cel_kin H) hM hW v_x_chart_bases f_x_chart_inner f_x_chart_basePlaces f_x_chart_baseFactors f_x_chart_baseStarts
      obtain ⟨nears, e6, e7⟩ := pk_measure (n := n) (inner := inner) (kinds := f_x_waters_kinds) hn e4 e5 cC_4 f_x_chart_inner
      obtain ⟨innerOf, whoseOf, nearOf, fromOf, f1, f2⟩ := pm_find hn H hM s2 s3 s4 s5 ⟨e3, e7⟩ v_m_thirds f_m_innerOf f_m_whoseOf f_m_nearOf f_m_fromOf
      have el : f_X5_layBasesAsItIs n f_x_waters_kinds (nI M) v_x_waters_rules_weight v_x_chart_bases f_x_chart_inner f_x_chart_basePlaces f_x_chart_baseFactors f_x_chart_baseStarts = some (b, inner, bp, bf, bs) := by
        unfold f_X5_layBasesAsItIs
        rw [pr_b1 e1, pr_b4 e2]
      have ei : (120 : Int32) * nI l + nI (w * y + x) = nI (120 * l + (w * y + x)) := by
        rw [show (120 : Int32) = nI 120 from rfl, pk_mul, nI_add]
      rw [pr_b1 (pk_isLand hl), pr_b1 (pm_isIn3 hl), if_neg (by decide), if_neg (by decide), pr_b5 el, pr_b5 f1, pr_b1 (pk_nearestBase hn e4 e5 cC_4 hl (by omega) (by omega)), pr_b1 q3, ei, pr_rd (by omega) (by omega), ((f2 y x hy hx).2.2 l hl).2]
      rcases pk_found (n := n) e4 e5 cC_4 hl (show x < 12 by omega) (show y < 10 by omega) with ⟨t1, t2⟩ | ⟨v, y', x', b', t1, hy', hx', _, hb, t2, t3, t4⟩
      · have tb : f_X0_placeOfBase n bp (-1) = some (-1) := by
          unfold f_X0_placeOfBase
          rw [if_pos (by decide)]
        rw [t2, t1, pr_b1 tb, pr_b1 (pk_toldN (by decide)), if_neg (show ¬ (0 : Int32) ≤ fromIn w none from show ¬ (0 : Int32) ≤ -9 by decide)]
        exact ⟨_, _, _, _, _, _, _, _, _, _, _, _, _, rfl, rfl, hR⟩
      · have hio : y' < h ∧ x' < w := Decidable.of_not_not fun hno => by
          have o3 := (NR_ok (cC f_x_waters_kinds inner v_x_waters_rules_weight) (show 0 < 12 by omega) y x l 120 v y' x' t1).2.2.1
          refine o3 ?_
          show cn (f_x_waters_kinds (12 * y' + x')) (inner (12 * y' + x')) v_x_waters_rules_weight l = 0
          have e9 : inner (12 * y' + x') = -9 := by
            rcases e3 y' x' hy' hx' with ⟨q, _⟩ | ⟨l0, h0, q, b, _⟩
            · exact q
            · have := bay_sea h0 b
              rw [KK_in hx' hy', ho y' x' hy' hx' hno] at this
              exact absurd this (by decide)
          rw [ho y' x' hy' hx' hno, e9]
          unfold cn
          have n1 : ∀ a : Nat, a < 8 → ¬ (8 : Int32) = nI a := fun a ha q => by
            have := (nI_eq (a := 8) (by omega) (by omega)).mp q
            omega
          rw [if_neg (fun q => q.elim (n1 _ (by omega)) (fun q => nI_m9 (a := l) (by omega) q.symm)), if_neg (n1 _ (by omega))]
        have hc' := pr_c120 a2 a4 hio.2 hio.1
        have tf : fromIn w (some (v, y', x')) = nI (w * y' + x') := rfl
        rw [t2, t1, pr_b1 (pk_placeOfBase hb), t4, pr_b1 (pk_told hx' hy'), tf, if_pos (nI_pos' (by omega)), pr_b1 (pm_told (h := h) s0 a1 a2 a4 hio.2 hio.1)]
        exact ⟨_, _, _, _, _, _, _, _, _, _, _, _, _, rfl, rfl, hR⟩
    · rw [pr_b1 (pk_isLandN hl), pr_b1 (pm_isIn0 hl), if_pos rfl, if_pos rfl, pr_b2 r1, pr_b2 r2]
      exact ⟨_, _, _, _, _, _, _, _, _, _, _, _, _, rfl, rfl, R1, R2, R3, R4, R5, R6, R7, R8, R9, r3⟩
  · rw [pr_b1 q1, pr_b1 q2, if_pos (by decide), if_pos rfl, pr_b2 r1, pr_b2 r2]
    exact ⟨_, _, _, _, _, _, _, _, _, _, _, _, _, rfl, rfl, R1, R2, R3, R4, R5, R6, R7, R8, R9, r3⟩
theorem st_whose {n : Nat} (hn : 200 ≤ n) {v_x_tape_length : Int32} {f_x_tape_signs : (Nat → Int32)} {v_x_waters_wide : Int32} {v_x_waters_high : Int32} {v_x_waters_wells : Int32} {f_x_waters_kinds : (Nat → Int32)} {f_x_waters_wellPlaces : (Nat → Int32)} {f_x_waters_wellWorths : (Nat → Int32)} {v_x_waters_rules_mouth : Int32} {v_x_waters_rules_weight : Int32} {v_x_waters_rules_reach : Int32} {v_x_waters_rules_bend : Int32} {v_x_kept_wide : Int32} {v_x_kept_high : Int32} {v_x_kept_wells : Int32} {f_x_kept_kinds : (Nat → Int32)} {f_x_kept_wellPlaces : (Nat → Int32)} {f_x_kept_wellWorths : (Nat → Int32)} {v_x_kept_rules_mouth : Int32} {v_x_kept_rules_weight : Int32} {v_x_kept_rules_reach : Int32} {v_x_kept_rules_bend : Int32} {v_x_hasImage : Int32} {v_x_rowLength : Int32} {f_x_row : (Nat → Int32)} {f_x_refusals : (Nat → Int32)} {v_m_isImage : Int32} {v_m_taped : Int32} {v_m_rowed : Int32} {f_m_tape : (Nat → Int32)} {f_m_s : (Nat → Int32)} {f_m_image : (Nat → Int32)} {f_m_row : (Nat → Int32)} {f_m_refusals : (Nat → Int32)} (v_x_chart_bases : Int32) (v_x_chart_thirds : Int32) (f_x_chart_inner : (Nat → Int32)) (f_x_chart_owners : (Nat → Int32)) (f_x_chart_nears : (Nat → Int32)) (f_x_chart_basePlaces : (Nat → Int32)) (f_x_chart_baseFactors : (Nat → Int32)) (f_x_chart_baseStarts : (Nat → Int32)) (v_m_thirds : Int32) (f_m_innerOf : (Nat → Int32)) (f_m_whoseOf : (Nat → Int32)) (f_m_nearOf : (Nat → Int32)) (f_m_fromOf : (Nat → Int32)) (w1 : Int32) (hR : Rel v_x_tape_length f_x_tape_signs v_x_waters_wide v_x_waters_high v_x_waters_wells f_x_waters_kinds f_x_waters_wellPlaces f_x_waters_wellWorths v_x_waters_rules_mouth v_x_waters_rules_weight v_x_waters_rules_reach v_x_waters_rules_bend v_x_kept_wide v_x_kept_high v_x_kept_wells f_x_kept_kinds f_x_kept_wellPlaces f_x_kept_wellWorths v_x_kept_rules_mouth v_x_kept_rules_weight v_x_kept_rules_reach v_x_kept_rules_bend v_x_hasImage v_x_rowLength f_x_row f_x_refusals v_m_isImage v_m_taped v_m_rowed f_m_tape f_m_s f_m_image f_m_row f_m_refusals) : ∃ (r : Int32) (r_v_x_chart_bases : Int32) (r_v_x_chart_thirds : Int32) (r_f_x_chart_inner : (Nat → Int32)) (r_f_x_chart_owners : (Nat → Int32)) (r_f_x_chart_nears : (Nat → Int32)) (r_f_x_chart_basePlaces : (Nat → Int32)) (r_f_x_chart_baseFactors : (Nat → Int32)) (r_f_x_chart_baseStarts : (Nat → Int32)) (r_v_m_thirds : Int32) (r_f_m_innerOf : (Nat → Int32)) (r_f_m_whoseOf : (Nat → Int32)) (r_f_m_nearOf : (Nat → Int32)) (r_f_m_fromOf : (Nat → Int32)), f_X5_whose n f_x_waters_kinds v_x_waters_rules_mouth v_x_waters_rules_weight v_x_waters_rules_reach v_x_waters_rules_bend v_x_chart_bases v_x_chart_thirds f_x_chart_inner f_x_chart_owners f_x_chart_nears f_x_chart_basePlaces f_x_chart_baseFactors f_x_chart_baseStarts w1 = some (r, r_v_x_chart_bases, r_v_x_chart_thirds, r_f_x_chart_inner, r_f_x_chart_owners, r_f_x_chart_nears, r_f_x_chart_basePlaces, r_f_x_chart_baseFactors, r_f_x_chart_baseStarts) ∧ f_X6_whose n v_m_thirds f_m_s f_m_innerOf f_m_whoseOf f_m_nearOf f_m_fromOf w1 = some (r, r_v_m_thirds, r_f_m_innerOf, r_f_m_whoseOf, r_f_m_nearOf, r_f_m_fromOf) ∧ Rel v_x_tape_length f_x_tape_signs v_x_waters_wide v_x_waters_high v_x_waters_wells f_x_waters_kinds f_x_waters_wellPlaces f_x_waters_wellWorths v_x_waters_rules_mouth v_x_waters_rules_weight v_x_waters_rules_reach v_x_waters_rules_bend v_x_kept_wide v_x_kept_high v_x_kept_wells f_x_kept_kinds f_x_kept_wellPlaces f_x_kept_wellWorths v_x_kept_rules_mouth v_x_kept_rules_weight v_x_kept_rules_reach v_x_kept_rules_bend v_x_hasImage v_x_rowLength f_x_row f_x_refusals v_m_isImage v_m_taped v_m_rowed f_m_tape f_m_s f_m_image f_m_row f_m_refusals := by
  obtain ⟨R1, R2, R3, R4, R5, R6, R7, R8, R9, R10⟩ := id hR
  obtain ⟨w, h, nw, HS⟩ := id R4
  obtain ⟨M, hM, eM, s2, hW, s3, s4, s5, H⟩ := sea_all HS
  obtain ⟨a1, a2, a3, a4, s0, s1, hin, ho⟩ := id H
  subst eM
  unfold f_X5_whose f_X6_whose
  rcases cell_or (n := n) H w1 with ⟨x, y, hx, hy, q1, q2, q3⟩ | ⟨q1, q2⟩
  · have hc := pr_c120 a2 a4 hx hy
    obtain ⟨b, th, inner, owners, nears, bp, bf, bs, e1, e2, e3⟩ := both hn H hM s2 hW s3 s4 s5 v_x_chart_bases v_x_chart_thirds f_x_chart_inner f_x_chart_owners f_x_chart_nears f_x_chart_basePlaces f_x_chart_baseFactors f_x_chart_baseStarts
    obtain ⟨innerOf, whoseOf, nearOf, fromOf, f1, f2⟩ := e3 v_m_thirds f_m_innerOf f_m_whoseOf f_m_nearOf f_m_fromOf
    have ed : f_X5_drawAsItIs n f_x_waters_kinds (nI M) v_x_waters_rules_weight v_x_waters_rules_reach v_x_waters_rules_bend v_x_chart_bases v_x_chart_thirds f_x_chart_inner f_x_chart_owners f_x_chart_nears f_x_chart_basePlaces f_x_chart_baseFactors f_x_chart_baseStarts = some (b, nI th, inner, owners, nears, bp, bf, bs) := by
      unfold f_X5_drawAsItIs
      rw [pr_b8 e1]
    rw [pr_b1 q1, pr_b1 q2, if_pos (nI_pos' (by omega)), if_neg (by decide), pr_b8 ed, pr_b5 f1, pr_b1 (pk_ownerOf (by omega)), pr_b1 q3, pr_rd (by omega) (by omega), f2.1 y x hy hx]
    exact ⟨_, _, _, _, _, _, _, _, _, _, _, _, _, _, rfl, rfl, hR⟩
  · rw [pr_b1 q1, pr_b1 q2, if_neg (by decide), if_pos rfl]
    exact ⟨_, _, _, _, _, _, _, _, _, _, _, _, _, _, rfl, rfl, hR⟩
theorem st_third {n : Nat} (hn : 200 ≤ n) {v_x_tape_length : Int32} {f_x_tape_signs : (Nat → Int32)} {v_x_waters_wide : Int32} {v_x_waters_high : Int32} {v_x_waters_wells : Int32} {f_x_waters_kinds : (Nat → Int32)} {f_x_waters_wellPlaces : (Nat → Int32)} {f_x_waters_wellWorths : (Nat → Int32)} {v_x_waters_rules_mouth : Int32} {v_x_waters_rules_weight : Int32} {v_x_waters_rules_reach : Int32} {v_x_waters_rules_bend : Int32} {v_x_kept_wide : Int32} {v_x_kept_high : Int32} {v_x_kept_wells : Int32} {f_x_kept_kinds : (Nat → Int32)} {f_x_kept_wellPlaces : (Nat → Int32)} {f_x_kept_wellWorths : (Nat → Int32)} {v_x_kept_rules_mouth : Int32} {v_x_kept_rules_weight : Int32} {v_x_kept_rules_reach : Int32} {v_x_kept_rules_bend : Int32} {v_x_hasImage : Int32} {v_x_rowLength : Int32} {f_x_row : (Nat → Int32)} {f_x_refusals : (Nat → Int32)} {v_m_isImage : Int32} {v_m_taped : Int32} {v_m_rowed : Int32} {f_m_tape : (Nat → Int32)} {f_m_s : (Nat → Int32)} {f_m_image : (Nat → Int32)} {f_m_row : (Nat → Int32)} {f_m_refusals : (Nat → Int32)} (v_x_chart_bases : Int32) (v_x_chart_thirds : Int32) (f_x_chart_inner : (Nat → Int32)) (f_x_chart_owners : (Nat → Int32)) (f_x_chart_nears : (Nat → Int32)) (f_x_chart_basePlaces : (Nat → Int32)) (f_x_chart_baseFactors : (Nat → Int32)) (f_x_chart_baseStarts : (Nat → Int32)) (v_m_thirds : Int32) (f_m_innerOf : (Nat → Int32)) (f_m_whoseOf : (Nat → Int32)) (f_m_nearOf : (Nat → Int32)) (f_m_fromOf : (Nat → Int32)) (hR : Rel v_x_tape_length f_x_tape_signs v_x_waters_wide v_x_waters_high v_x_waters_wells f_x_waters_kinds f_x_waters_wellPlaces f_x_waters_wellWorths v_x_waters_rules_mouth v_x_waters_rules_weight v_x_waters_rules_reach v_x_waters_rules_bend v_x_kept_wide v_x_kept_high v_x_kept_wells f_x_kept_kinds f_x_kept_wellPlaces f_x_kept_wellWorths v_x_kept_rules_mouth v_x_kept_rules_weight v_x_kept_rules_reach v_x_kept_rules_bend v_x_hasImage v_x_rowLength f_x_row f_x_refusals v_m_isImage v_m_taped v_m_rowed f_m_tape f_m_s f_m_image f_m_row f_m_refusals) : ∃ (r : Int32) (r_v_x_chart_bases : Int32) (r_v_x_chart_thirds : Int32) (r_f_x_chart_inner : (Nat → Int32)) (r_f_x_chart_owners : (Nat → Int32)) (r_f_x_chart_nears : (Nat → Int32)) (r_f_x_chart_basePlaces : (Nat → Int32)) (r_f_x_chart_baseFactors : (Nat → Int32)) (r_f_x_chart_baseStarts : (Nat → Int32)) (r_v_m_thirds : Int32) (r_f_m_innerOf : (Nat → Int32)) (r_f_m_whoseOf : (Nat → Int32)) (r_f_m_nearOf : (Nat → Int32)) (r_f_m_fromOf : (Nat → Int32)), f_X5_third n f_x_waters_kinds v_x_waters_rules_mouth v_x_waters_rules_weight v_x_waters_rules_reach v_x_waters_rules_bend v_x_chart_bases v_x_chart_thirds f_x_chart_inner f_x_chart_owners f_x_chart_nears f_x_chart_basePlaces f_x_chart_baseFactors f_x_chart_baseStarts = some (r, r_v_x_chart_bases, r_v_x_chart_thirds, r_f_x_chart_inner, r_f_x_chart_owners, r_f_x_chart_nears, r_f_x_chart_basePlaces, r_f_x_chart_baseFactors, r_f_x_chart_baseStarts) ∧ f_X6_third n v_m_thirds f_m_s f_m_innerOf f_m_whoseOf f_m_nearOf f_m_fromOf = some (r, r_v_m_thirds, r_f_m_innerOf, r_f_m_whoseOf, r_f_m_nearOf, r_f_m_fromOf) ∧ Rel v_x_tape_length f_x_tape_signs v_x_waters_wide v_x_waters_high v_x_waters_wells f_x_waters_kinds f_x_waters_wellPlaces f_x_waters_wellWorths v_x_waters_rules_mouth v_x_waters_rules_weight v_x_waters_rules_reach v_x_waters_rules_bend v_x_kept_wide v_x_kept_high v_x_kept_wells f_x_kept_kinds f_x_kept_wellPlaces f_x_kept_wellWorths v_x_kept_rules_mouth v_x_kept_rules_weight v_x_kept_rules_reach v_x_kept_rules_bend v_x_hasImage v_x_rowLength f_x_row f_x_refusals v_m_isImage v_m_taped v_m_rowed f_m_tape f_m_s f_m_image f_m_row f_m_refusals := by
  obtain ⟨R1, R2, R3, R4, R5, R6, R7, R8, R9, R10⟩ := id hR
  obtain ⟨w, h, nw, HS⟩ := id R4
  obtain ⟨M, hM, eM, s2, hW, s3, s4, s5, H⟩ := sea_all HS
  subst eM
  unfold f_X5_third f_X6_third
  obtain ⟨b, th, inner, owners, nears, bp, bf, bs, e1, e2, e3⟩ := both hn H hM s2 hW s3 s4 s5 v_x_chart_bases v_x_chart_thirds f_x_chart_inner f_x_chart_owners f_x_chart_nears f_x_chart_basePlaces f_x_chart_baseFactors f_x_chart_baseStarts
  obtain ⟨innerOf, whoseOf, nearOf, fromOf, f1, f2⟩ := e3 v_m_thirds f_m_innerOf f_m_whoseOf f_m_nearOf f_m_fromOf
  have ed : f_X5_drawAsItIs n f_x_waters_kinds (nI M) v_x_waters_rules_weight v_x_waters_rules_reach v_x_waters_rules_bend v_x_chart_bases v_x_chart_thirds f_x_chart_inner f_x_chart_owners f_x_chart_nears f_x_chart_basePlaces f_x_chart_baseFactors f_x_chart_baseStarts = some (b, nI th, inner, owners, nears, bp, bf, bs) := by
    unfold f_X5_drawAsItIs
    rw [pr_b8 e1]
  rw [pr_b8 ed, pr_b5 f1]
  exact ⟨_, _, _, _, _, _, _, _, _, _, _, _, _, _, rfl, rfl, hR⟩
theorem st_area {n : Nat} (hn : 200 ≤ n) {v_x_tape_length : Int32} {f_x_tape_signs : (Nat → Int32)} {v_x_waters_wide : Int32} {v_x_waters_high : Int32} {v_x_waters_wells : Int32} {f_x_waters_kinds : (Nat → Int32)} {f_x_waters_wellPlaces : (Nat → Int32)} {f_x_waters_wellWorths : (Nat → Int32)} {v_x_waters_rules_mouth : Int32} {v_x_waters_rules_weight : Int32} {v_x_waters_rules_reach : Int32} {v_x_waters_rules_bend : Int32} {v_x_kept_wide : Int32} {v_x_kept_high : Int32} {v_x_kept_wells : Int32} {f_x_kept_kinds : (Nat → Int32)} {f_x_kept_wellPlaces : (Nat → Int32)} {f_x_kept_wellWorths : (Nat → Int32)} {v_x_kept_rules_mouth : Int32} {v_x_kept_rules_weight : Int32} {v_x_kept_rules_reach : Int32} {v_x_kept_rules_bend : Int32} {v_x_hasImage : Int32} {v_x_rowLength : Int32} {f_x_row : (Nat → Int32)} {f_x_refusals : (Nat → Int32)} {v_m_isImage : Int32} {v_m_taped : Int32} {v_m_rowed : Int32} {f_m_tape : (Nat → Int32)} {f_m_s : (Nat → Int32)} {f_m_image : (Nat → Int32)} {f_m_row : (Nat → Int32)} {f_m_refusals : (Nat → Int32)} (v_x_chart_bases : Int32) (v_x_chart_thirds : Int32) (f_x_chart_inner : (Nat → Int32)) (f_x_chart_owners : (Nat → Int32)) (f_x_chart_nears : (Nat → Int32)) (f_x_chart_basePlaces : (Nat → Int32)) (f_x_chart_baseFactors : (Nat → Int32)) (f_x_chart_baseStarts : (Nat → Int32)) (v_m_thirds : Int32) (f_m_innerOf : (Nat → Int32)) (f_m_whoseOf : (Nat → Int32)) (f_m_nearOf : (Nat → Int32)) (f_m_fromOf : (Nat → Int32)) (w1 : Int32) (hR : Rel v_x_tape_length f_x_tape_signs v_x_waters_wide v_x_waters_high v_x_waters_wells f_x_waters_kinds f_x_waters_wellPlaces f_x_waters_wellWorths v_x_waters_rules_mouth v_x_waters_rules_weight v_x_waters_rules_reach v_x_waters_rules_bend v_x_kept_wide v_x_kept_high v_x_kept_wells f_x_kept_kinds f_x_kept_wellPlaces f_x_kept_wellWorths v_x_kept_rules_mouth v_x_kept_rules_weight v_x_kept_rules_reach v_x_kept_rules_bend v_x_hasImage v_x_rowLength f_x_row f_x_refusals v_m_isImage v_m_taped v_m_rowed f_m_tape f_m_s f_m_image f_m_row f_m_refusals) : ∃ (r : Int32) (r_v_x_chart_bases : Int32) (r_v_x_chart_thirds : Int32) (r_f_x_chart_inner : (Nat → Int32)) (r_f_x_chart_owners : (Nat → Int32)) (r_f_x_chart_nears : (Nat → Int32)) (r_f_x_chart_basePlaces : (Nat → Int32)) (r_f_x_chart_baseFactors : (Nat → Int32)) (r_f_x_chart_baseStarts : (Nat → Int32)) (r_f_x_refusals : (Nat → Int32)) (r_v_m_thirds : Int32) (r_f_m_refusals : (Nat → Int32)) (r_f_m_innerOf : (Nat → Int32)) (r_f_m_whoseOf : (Nat → Int32)) (r_f_m_nearOf : (Nat → Int32)) (r_f_m_fromOf : (Nat → Int32)), f_X5_area n f_x_waters_kinds v_x_waters_rules_mouth v_x_waters_rules_weight v_x_waters_rules_reach v_x_waters_rules_bend v_x_chart_bases v_x_chart_thirds f_x_chart_inner f_x_chart_owners f_x_chart_nears f_x_chart_basePlaces f_x_chart_baseFactors f_x_chart_baseStarts f_x_refusals w1 = some (r, r_v_x_chart_bases, r_v_x_chart_thirds, r_f_x_chart_inner, r_f_x_chart_owners, r_f_x_chart_nears, r_f_x_chart_basePlaces, r_f_x_chart_baseFactors, r_f_x_chart_baseStarts, r_f_x_refusals) ∧ f_X6_area n v_m_thirds f_m_refusals f_m_s f_m_innerOf f_m_whoseOf f_m_nearOf f_m_fromOf w1 = some (r, r_v_m_thirds, r_f_m_refusals, r_f_m_innerOf, r_f_m_whoseOf, r_f_m_nearOf, r_f_m_fromOf) ∧ Rel v_x_tape_length f_x_tape_signs v_x_waters_wide v_x_waters_high v_x_waters_wells f_x_waters_kinds f_x_waters_wellPlaces f_x_waters_wellWorths v_x_waters_rules_mouth v_x_waters_rules_weight v_x_waters_rules_reach v_x_waters_rules_bend v_x_kept_wide v_x_kept_high v_x_kept_wells f_x_kept_kinds f_x_kept_wellPlaces f_x_kept_wellWorths v_x_kept_rules_mouth v_x_kept_rules_weight v_x_kept_rules_reach v_x_kept_rules_bend v_x_hasImage v_x_rowLength f_x_row r_f_x_refusals v_m_isImage v_m_taped v_m_rowed f_m_tape f_m_s f_m_image f_m_row r_f_m_refusals := by
  obtain ⟨R1, R2, R3, R4, R5, R6, R7, R8, R9, R10⟩ := id hR
  obtain ⟨w, h, nw, HS⟩ := id R4
  obtain ⟨M, hM, eM, s2, hW, s3, s4, s5, H⟩ := sea_all HS
  obtain ⟨a1, a2, a3, a4, s0, s1, hin, ho⟩ := id H
  subst eM
  unfold f_X5_area f_X6_area
  obtain ⟨b, th, inner, owners, nears, bp, bf, bs, e1, e2, e3⟩ := both hn H hM s2 hW s3 s4 s5 v_x_chart_bases v_x_chart_thirds f_x_chart_inner f_x_chart_owners f_x_chart_nears f_x_chart_basePlaces f_x_chart_baseFactors f_x_chart_baseStarts
  obtain ⟨innerOf, whoseOf, nearOf, fromOf, f1, f2⟩ := e3 v_m_thirds f_m_innerOf f_m_whoseOf f_m_nearOf f_m_fromOf
  have ed : f_X5_drawAsItIs n f_x_waters_kinds (nI M) v_x_waters_rules_weight v_x_waters_rules_reach v_x_waters_rules_bend v_x_chart_bases v_x_chart_thirds f_x_chart_inner f_x_chart_owners f_x_chart_nears f_x_chart_basePlaces f_x_chart_baseFactors f_x_chart_baseStarts = some (b, nI th, inner, owners, nears, bp, bf, bs) := by
    unfold f_X5_drawAsItIs
    rw [pr_b8 e1]
  rcases pr_land w1 with ⟨l, hl, rfl⟩ | hl
  · rw [pr_b1 (pk_isLand hl), pr_b1 (pm_isIn3 hl), if_neg (by decide), if_neg (by decide), pr_b8 ed, pr_b5 f1, pr_b1 (pk_areaOf hn), pr_b1 (pm_areaOf hn a2 a4 s0 s1 f2 (nI_m9 (by omega)))]
    exact ⟨_, _, _, _, _, _, _, _, _, _, _, _, _, _, _, _, rfl, rfl, hR⟩
  · rw [pr_b1 (pk_isLandN hl), pr_b1 (pm_isIn0 hl), if_pos rfl, if_pos rfl]
    by_cases c2 : w1 = -2
    · rw [if_pos c2, if_pos c2, pr_b8 ed, pr_b5 f1, pr_b1 (pk_areaOf hn), pr_b1 (pm_areaOf hn a2 a4 s0 s1 f2 (by rw [c2]; decide))]
      exact ⟨_, _, _, _, _, _, _, _, _, _, _, _, _, _, _, _, rfl, rfl, hR⟩
    · rw [if_neg c2, if_neg c2]
      by_cases c3 : w1 = -3
      · rw [if_pos c3, if_pos c3, pr_b8 ed, pr_b5 f1, pr_b1 (pk_areaOf hn), pr_b1 (pm_areaOf hn a2 a4 s0 s1 f2 (by rw [c3]; decide))]
        exact ⟨_, _, _, _, _, _, _, _, _, _, _, _, _, _, _, _, rfl, rfl, hR⟩
      · obtain ⟨g, g', r1, r2, r3⟩ := pr_refuse (n := n) (v := -1) 1 (by omega) (by decide) R10
        rw [if_neg c3, if_neg c3, pr_b2 r1, pr_b2 r2]
        exact ⟨_, _, _, _, _, _, _, _, _, _, _, _, _, _, _, _, rfl, rfl, R1, R2, R3, R4, R5, R6, R7, R8, R9, r3⟩
def FA (kinds owners : Nat → Int32) : Int32 := nI (AR owners 0) * nI (SH kinds 1) - nI (AR owners 1) * nI (SH kinds 0)
theorem pk_fairness {n : Nat} (hn : 200 ≤ n) (kinds owners : Nat → Int32) : f_X5_fairness n kinds owners = some (FA kinds owners) := by
  have p0 : f_X4_shoreOf n kinds 0 = some (nI (SH kinds 0)) := pc_shoreOf (l := 0) hn kinds (by omega)
  have p1 : f_X4_shoreOf n kinds 1 = some (nI (SH kinds 1)) := pc_shoreOf (l := 1) hn kinds (by omega)
  unfold f_X5_fairness
  rw [pr_b1 (pk_areaOf hn), pr_b1 p1, pr_b1 (pk_areaOf hn), pr_b1 p0]
  rfl
theorem pm_fairNow {n w h : Nat} (hn : 200 ≤ n) {kinds s owners innerOf whoseOf nearOf fromOf i0 w0 n0 f0 : Nat → Int32} {z th : Int32} (H : Cel w h kinds s) (f1 : f_X6_find n z s i0 w0 n0 f0 = some (th, innerOf, whoseOf, nearOf, fromOf)) (f2 : SameO w h owners whoseOf) : f_X6_fairNow n z s i0 w0 n0 f0 = some (FA kinds owners, th, innerOf, whoseOf, nearOf, fromOf) := by
  obtain ⟨a1, a2, a3, a4, s0, s1, hin, ho⟩ := id H
  have p0 : f_X6_shoreOf n s 0 = some (nI (SH kinds 0)) := pm_shoreOf (l := 0) hn H (by omega)
  have p1 : f_X6_shoreOf n s 1 = some (nI (SH kinds 1)) := pm_shoreOf (l := 1) hn H (by omega)
  unfold f_X6_fairNow
  rw [pr_b5 f1, pr_b1 (pm_areaOf hn a2 a4 s0 s1 f2 (by decide)), pr_b1 p1, pr_b1 (pm_areaOf hn a2 a4 s0 s1 f2 (by decide)), pr_b1 p0]
  rfl
theorem st_fair {n : Nat} (hn : 200 ≤ n) {v_x_tape_length : Int32} {f_x_tape_signs : (Nat → Int32)} {v_x_waters_wide : Int32} {v_x_waters_high : Int32} {v_x_waters_wells : Int32} {f_x_waters_kinds : (Nat → Int32)} {f_x_waters_wellPlaces : (Nat → Int32)} {f_x_waters_wellWorths : (Nat → Int32)} {v_x_waters_rules_mouth : Int32} {v_x_waters_rules_weight : Int32} {v_x_waters_rules_reach : Int32} {v_x_waters_rules_bend : Int32} {v_x_kept_wide : Int32} {v_x_kept_high : Int32} {v_x_kept_wells : Int32} {f_x_kept_kinds : (Nat → Int32)} {f_x_kept_wellPlaces : (Nat → Int32)} {f_x_kept_wellWorths : (Nat → Int32)} {v_x_kept_rules_mouth : Int32} {v_x_kept_rules_weight : Int32} {v_x_kept_rules_reach : Int32} {v_x_kept_rules_bend : Int32} {v_x_hasImage : Int32} {v_x_rowLength : Int32} {f_x_row : (Nat → Int32)} {f_x_refusals : (Nat → Int32)} {v_m_isImage : Int32} {v_m_taped : Int32} {v_m_rowed : Int32} {f_m_tape : (Nat → Int32)} {f_m_s : (Nat → Int32)} {f_m_image : (Nat → Int32)} {f_m_row : (Nat → Int32)} {f_m_refusals : (Nat → Int32)} (v_x_chart_bases : Int32) (v_x_chart_thirds : Int32) (f_x_chart_inner : (Nat → Int32)) (f_x_chart_owners : (Nat → Int32)) (f_x_chart_nears : (Nat → Int32)) (f_x_chart_basePlaces : (Nat → Int32)) (f_x_chart_baseFactors : (Nat → Int32)) (f_x_chart_baseStarts : (Nat → Int32)) (v_m_thirds : Int32) (f_m_innerOf : (Nat → Int32)) (f_m_whoseOf : (Nat → Int32)) (f_m_nearOf : (Nat → Int32)) (f_m_fromOf : (Nat → Int32)) (hR : Rel v_x_tape_length f_x_tape_signs v_x_waters_wide v_x_waters_high v_x_waters_wells f_x_waters_kinds f_x_waters_wellPlaces f_x_waters_wellWorths v_x_waters_rules_mouth v_x_waters_rules_weight v_x_waters_rules_reach v_x_waters_rules_bend v_x_kept_wide v_x_kept_high v_x_kept_wells f_x_kept_kinds f_x_kept_wellPlaces f_x_kept_wellWorths v_x_kept_rules_mouth v_x_kept_rules_weight v_x_kept_rules_reach v_x_kept_rules_bend v_x_hasImage v_x_rowLength f_x_row f_x_refusals v_m_isImage v_m_taped v_m_rowed f_m_tape f_m_s f_m_image f_m_row f_m_refusals) : ∃ (r : Int32) (r_v_x_chart_bases : Int32) (r_v_x_chart_thirds : Int32) (r_f_x_chart_inner : (Nat → Int32)) (r_f_x_chart_owners : (Nat → Int32)) (r_f_x_chart_nears : (Nat → Int32)) (r_f_x_chart_basePlaces : (Nat → Int32)) (r_f_x_chart_baseFactors : (Nat → Int32)) (r_f_x_chart_baseStarts : (Nat → Int32)) (r_v_m_thirds : Int32) (r_f_m_innerOf : (Nat → Int32)) (r_f_m_whoseOf : (Nat → Int32)) (r_f_m_nearOf : (Nat → Int32)) (r_f_m_fromOf : (Nat → Int32)), f_X5_fair n f_x_waters_kinds v_x_waters_rules_mouth v_x_waters_rules_weight v_x_waters_rules_reach v_x_waters_rules_bend v_x_chart_bases v_x_chart_thirds f_x_chart_inner f_x_chart_owners f_x_chart_nears f_x_chart_basePlaces f_x_chart_baseFactors f_x_chart_baseStarts = some (r, r_v_x_chart_bases, r_v_x_chart_thirds, r_f_x_chart_inner, r_f_x_chart_owners, r_f_x_chart_nears, r_f_x_chart_basePlaces, r_f_x_chart_baseFactors, r_f_x_chart_baseStarts) ∧ f_X6_fair n v_m_thirds f_m_s f_m_innerOf f_m_whoseOf f_m_nearOf f_m_fromOf = some (r, r_v_m_thirds, r_f_m_innerOf, r_f_m_whoseOf, r_f_m_nearOf, r_f_m_fromOf) ∧ Rel v_x_tape_length f_x_tape_signs v_x_waters_wide v_x_waters_high v_x_waters_wells f_x_waters_kinds f_x_waters_wellPlaces f_x_waters_wellWorths v_x_waters_rules_mouth v_x_waters_rules_weight v_x_waters_rules_reach v_x_waters_rules_bend v_x_kept_wide v_x_kept_high v_x_kept_wells f_x_kept_kinds f_x_kept_wellPlaces f_x_kept_wellWorths v_x_kept_rules_mouth v_x_kept_rules_weight v_x_kept_rules_reach v_x_kept_rules_bend v_x_hasImage v_x_rowLength f_x_row f_x_refusals v_m_isImage v_m_taped v_m_rowed f_m_tape f_m_s f_m_image f_m_row f_m_refusals := by
  obtain ⟨R1, R2, R3, R4, R5, R6, R7, R8, R9, R10⟩ := id hR
  obtain ⟨w, h, nw, HS⟩ := id R4
  obtain ⟨M, hM, eM, s2, hW, s3, s4, s5, H⟩ := sea_all HS
  obtain ⟨a1, a2, a3, a4, s0, s1, hin, ho⟩ := id H
  subst eM
  unfold f_X5_fair f_X6_fair
  obtain ⟨b, th, inner, owners, nears, bp, bf, bs, e1, e2, e3⟩ := both hn H hM s2 hW s3 s4 s5 v_x_chart_bases v_x_chart_thirds f_x_chart_inner f_x_chart_owners f_x_chart_nears f_x_chart_basePlaces f_x_chart_baseFactors f_x_chart_baseStarts
  obtain ⟨innerOf, whoseOf, nearOf, fromOf, f1, f2⟩ := e3 v_m_thirds f_m_innerOf f_m_whoseOf f_m_nearOf f_m_fromOf
  have ed : f_X5_drawAsItIs n f_x_waters_kinds (nI M) v_x_waters_rules_weight v_x_waters_rules_reach v_x_waters_rules_bend v_x_chart_bases v_x_chart_thirds f_x_chart_inner f_x_chart_owners f_x_chart_nears f_x_chart_basePlaces f_x_chart_baseFactors f_x_chart_baseStarts = some (b, nI th, inner, owners, nears, bp, bf, bs) := by
    unfold f_X5_drawAsItIs
    rw [pr_b8 e1]
  rw [pr_b8 ed, pr_b1 (pk_fairness hn _ _), pr_b6 (pm_fairNow hn H f1 f2)]
  exact ⟨_, _, _, _, _, _, _, _, _, _, _, _, _, _, rfl, rfl, hR⟩
