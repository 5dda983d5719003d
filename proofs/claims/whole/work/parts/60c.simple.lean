/-! the pure side, 4: the sea as it changes; steps that only look or set -/
theorem pr_inj {w x y x' y' : Nat} (hx : x < w) (hx' : x' < w) (e : w * y + x = w * y' + x') : y = y' ∧ x = x' := by
  have hw : 0 < w := by omega
  have h1 : (w * y + x) / w = y := by rw [Nat.mul_add_div hw, Nat.div_eq_of_lt hx]; omega
  have h2 : (w * y' + x') / w = y' := by rw [Nat.mul_add_div hw, Nat.div_eq_of_lt hx']; omega
  have h3 : y = y' := by rw [← h1, ← h2, e]
  subst h3
  exact ⟨rfl, by omega⟩
theorem pr_c120 {w h x y : Nat} (hw : w ≤ 12) (hh : h ≤ 10) (hx : x < w) (hy : y < h) : w * y + x < 120 := Nat.lt_of_lt_of_le (pr_wy hx hy) (pr_wh hw hh)
section SEA
variable {w h nw : Nat} {wide high wells : Int32} {kinds wp ww kinds' wp' ww' : Nat → Int32} {mouth weight reach bend : Int32} {s s' : Nat → Int32}
/-- only the places within matter -/
theorem sea_congr (hk : ∀ j, j < 120 → kinds' j = kinds j) (hp : ∀ j, j < 12 → wp' j = wp j) (hq : ∀ j, j < 12 → ww' j = ww j) (hs : ∀ j, j < 151 → s' j = s j) (h2 : SeaAt w h nw wide high wells kinds wp ww mouth weight reach bend s) : SeaAt w h nw wide high wells kinds' wp' ww' mouth weight reach bend s' := by
  obtain ⟨a1, a2, a3, a4, a5, ew, eh, en, s0, s1, s2, s3, s4, s5, s6, hm, hwt, hre, hbd, hin, ho, hwl⟩ := h2
  refine ⟨a1, a2, a3, a4, a5, ew, eh, en, by rw [hs 0 (by omega)]; exact s0, by rw [hs 1 (by omega)]; exact s1, by rw [hs 2 (by omega)]; exact s2, by rw [hs 3 (by omega)]; exact s3, by rw [hs 4 (by omega)]; exact s4, by rw [hs 5 (by omega)]; exact s5, by rw [hs 6 (by omega)]; exact s6, hm, hwt, hre, hbd, fun y x hy hx => ?_, fun y x hy hx hn => ?_, fun k hk' => ?_⟩
  · have hc := pr_c120 a2 a4 hx hy
    rw [hk _ (by omega), hs _ (by omega)]
    exact hin y x hy hx
  · rw [hk _ (by omega)]
    exact ho y x hy hx hn
  · obtain ⟨y, x, b1, b2, b3, b4, b5, b6, b7⟩ := hwl k hk'
    exact ⟨y, x, b1, b2, by rw [hp k (by omega)]; exact b3, by rw [hs _ (by omega)]; exact b4, by rw [hk _ (by omega)]; exact b5, by rw [hq k (by omega), hs _ (by omega)]; exact b6, by rw [hq k (by omega)]; exact b7⟩
/-- a cell is set; a well on it stays only if it is sea -/
theorem sea_set {x y v : Nat} (hx : x < w) (hy : y < h) (hv : v ≤ 7) (h2 : SeaAt w h nw wide high wells kinds wp ww mouth weight reach bend s) (hW : v = 0 ∨ ∀ k : Nat, k < nw → ¬ wp k = nI (12 * y + x)) : SeaAt w h nw wide high wells (upd kinds (12 * y + x) (nI v)) wp ww mouth weight reach bend (upd s (7 + (w * y + x)) (nI v)) := by
  obtain ⟨a1, a2, a3, a4, a5, ew, eh, en, s0, s1, s2, s3, s4, s5, s6, hm, hwt, hre, hbd, hin, ho, hwl⟩ := h2
  have hc := pr_c120 a2 a4 hx hy
  refine ⟨a1, a2, a3, a4, a5, ew, eh, en, by rw [pk_un (by omega)]; exact s0, by rw [pk_un (by omega)]; exact s1, by rw [pk_un (by omega)]; exact s2, by rw [pk_un (by omega)]; exact s3, by rw [pk_un (by omega)]; exact s4, by rw [pk_un (by omega)]; exact s5, by rw [pk_un (by omega)]; exact s6, hm, hwt, hre, hbd, fun y' x' hy' hx' => ?_, fun y' x' hy' hx' hn => ?_, fun k hk => ?_⟩
  · by_cases e : y' = y ∧ x' = x
    · obtain ⟨rfl, rfl⟩ := e
      rw [pk_us, pk_us]
      exact ⟨⟨v, hv, rfl⟩, rfl⟩
    · have n1 : ¬ 12 * y' + x' = 12 * y + x := fun q => e (pr_inj (by omega) (by omega) q)
      have n2 : ¬ 7 + (w * y' + x') = 7 + (w * y + x) := fun q => e (pr_inj hx' hx (by omega))
      rw [pk_un n1, pk_un n2]
      exact hin y' x' hy' hx'
  · have n1 : ¬ 12 * y' + x' = 12 * y + x := fun q => by
      obtain ⟨rfl, rfl⟩ := pr_inj (w := 12) (by omega) (by omega) q
      exact hn ⟨hy, hx⟩
    rw [pk_un n1]
    exact ho y' x' hy' hx' hn
  · obtain ⟨y', x', b1, b2, b3, b4, b5, b6, b7⟩ := hwl k hk
    refine ⟨y', x', b1, b2, b3, by rw [pk_un (by omega)]; exact b4, ?_, by rw [pk_un (by omega)]; exact b6, b7⟩
    by_cases e : y' = y ∧ x' = x
    · obtain ⟨rfl, rfl⟩ := e
      rcases hW with rfl | hW
      · rw [pk_us]; rfl
      · exact absurd b3 (hW k hk)
    · have n1 : ¬ 12 * y' + x' = 12 * y + x := fun q => e (pr_inj (by omega) (by omega) q)
      rw [pk_un n1]
      exact b5
end SEA
theorem pm_within0 {n : Nat} {v a b : Int32} (h1 : a ≤ v) (h2 : v ≤ b) : f_X6_within n v a b = some 0 := by
  unfold f_X6_within; rw [if_pos h1, if_pos h2]
theorem pm_within6 {n : Nat} {v a b : Int32} (h1 : a ≤ v) (h2 : ¬ v ≤ b) : f_X6_within n v a b = some (-6) := by
  unfold f_X6_within; rw [if_pos h1, if_neg h2]
theorem pm_within4 {n : Nat} {v a b : Int32} (h1 : ¬ a ≤ v) : f_X6_within n v a b = some (-4) := by
  unfold f_X6_within; rw [if_neg h1]
theorem pm_isIn0 {n : Nat} {v a : Int32} (h1 : v < 0 ∨ a ≤ v) : f_X6_isIn n v a = some 0 := by
  unfold f_X6_isIn
  by_cases c : v < 0
  · rw [if_pos c]
  · rw [if_neg c, if_pos (h1.resolve_left c)]
theorem pm_isIn1 {n : Nat} {v a : Int32} (h1 : ¬ v < 0) (h2 : ¬ a ≤ v) : f_X6_isIn n v a = some 1 := by
  unfold f_X6_isIn; rw [if_neg h1, if_neg h2]
theorem rel_0 : Rel 0 (fun _ => 0) 1 1 0 cz_K0 (fun _ => 0) (fun _ => 0) 0 2 20 0 1 1 0 cz_K0 (fun _ => 0) (fun _ => 0) 0 2 20 0 0 0 (fun _ => 0) (fun _ => 0) 0 0 0 (fun _ => 0) cz_s0 (fun _ => 0) (fun _ => 0) (fun _ => 0) := by
  have hK : ∀ j : Nat, cz_K0 j = if j = 0 then 0 else if j < 120 then 8 else 0 := fun j => by
    show upd (fun j => if j < 120 then 8 else 0) (0 : Int32).toNatClampNeg 0 j = _
    rw [sb_cl0]
    by_cases e : j = 0
    · subst e; rw [pk_us]; rfl
    · rw [pk_un e, if_neg e]
  refine ⟨rfl, ⟨0, by omega, rfl⟩, fun j _ => ⟨rfl, 0, by omega, rfl⟩, ⟨1, 1, 0, by omega, by omega, by omega, by omega, by omega, rfl, rfl, rfl, by decide, by decide, by decide, by decide, by decide, by decide, by decide, ⟨0, by omega, rfl⟩, ⟨2, by omega, rfl⟩, ⟨20, by omega, rfl⟩, by decide, fun y x hy hx => ?_, fun y x hy hx hn => ?_, fun k hk => absurd hk (by omega)⟩, rfl, fun h => absurd rfl h, rfl, ⟨0, by omega, rfl⟩, fun _ _ => rfl, fun _ _ => rfl⟩
  · have : y = 0 := by omega
    subst this
    have : x = 0 := by omega
    subst this
    exact ⟨⟨0, by omega, by decide⟩, by decide⟩
  · rw [hK, if_neg (by omega), if_pos (by omega)]
theorem st_put {n : Nat} (hn : 200 ≤ n) {v_x_tape_length : Int32} {f_x_tape_signs : (Nat → Int32)} {v_x_waters_wide : Int32} {v_x_waters_high : Int32} {v_x_waters_wells : Int32} {f_x_waters_kinds : (Nat → Int32)} {f_x_waters_wellPlaces : (Nat → Int32)} {f_x_waters_wellWorths : (Nat → Int32)} {v_x_waters_rules_mouth : Int32} {v_x_waters_rules_weight : Int32} {v_x_waters_rules_reach : Int32} {v_x_waters_rules_bend : Int32} {v_x_kept_wide : Int32} {v_x_kept_high : Int32} {v_x_kept_wells : Int32} {f_x_kept_kinds : (Nat → Int32)} {f_x_kept_wellPlaces : (Nat → Int32)} {f_x_kept_wellWorths : (Nat → Int32)} {v_x_kept_rules_mouth : Int32} {v_x_kept_rules_weight : Int32} {v_x_kept_rules_reach : Int32} {v_x_kept_rules_bend : Int32} {v_x_hasImage : Int32} {v_x_rowLength : Int32} {f_x_row : (Nat → Int32)} {f_x_refusals : (Nat → Int32)} {v_m_isImage : Int32} {v_m_taped : Int32} {v_m_rowed : Int32} {f_m_tape : (Nat → Int32)} {f_m_s : (Nat → Int32)} {f_m_image : (Nat → Int32)} {f_m_row : (Nat → Int32)} {f_m_refusals : (Nat → Int32)} (w1 : Int32) (hR : Rel v_x_tape_length f_x_tape_signs v_x_waters_wide v_x_waters_high v_x_waters_wells f_x_waters_kinds f_x_waters_wellPlaces f_x_waters_wellWorths v_x_waters_rules_mouth v_x_waters_rules_weight v_x_waters_rules_reach v_x_waters_rules_bend v_x_kept_wide v_x_kept_high v_x_kept_wells f_x_kept_kinds f_x_kept_wellPlaces f_x_kept_wellWorths v_x_kept_rules_mouth v_x_kept_rules_weight v_x_kept_rules_reach v_x_kept_rules_bend v_x_hasImage v_x_rowLength f_x_row f_x_refusals v_m_isImage v_m_taped v_m_rowed f_m_tape f_m_s f_m_image f_m_row f_m_refusals) : ∃ (r : Int32) (r_v_x_rowLength : Int32) (r_f_x_row : (Nat → Int32)) (r_f_x_refusals : (Nat → Int32)) (r_v_m_rowed : Int32) (r_f_m_refusals : (Nat → Int32)) (r_f_m_row : (Nat → Int32)), f_X5_put n v_x_rowLength f_x_row f_x_refusals w1 = some (r, r_v_x_rowLength, r_f_x_row, r_f_x_refusals) ∧ f_X6_put n v_m_rowed f_m_refusals f_m_row w1 = some (r, r_v_m_rowed, r_f_m_refusals, r_f_m_row) ∧ Rel v_x_tape_length f_x_tape_signs v_x_waters_wide v_x_waters_high v_x_waters_wells f_x_waters_kinds f_x_waters_wellPlaces f_x_waters_wellWorths v_x_waters_rules_mouth v_x_waters_rules_weight v_x_waters_rules_reach v_x_waters_rules_bend v_x_kept_wide v_x_kept_high v_x_kept_wells f_x_kept_kinds f_x_kept_wellPlaces f_x_kept_wellWorths v_x_kept_rules_mouth v_x_kept_rules_weight v_x_kept_rules_reach v_x_kept_rules_bend v_x_hasImage r_v_x_rowLength r_f_x_row r_f_x_refusals v_m_isImage v_m_taped r_v_m_rowed f_m_tape f_m_s f_m_image r_f_m_row r_f_m_refusals := by
  obtain ⟨R1, R2, R3, R4, R5, R6, R7, ⟨t, ht, rfl⟩, R9, R10⟩ := hR
  subst R7
  by_cases c1 : (-9 : Int32) ≤ w1
  · by_cases c2 : (9 : Int32) < w1
    · obtain ⟨g, g', e1, e2, e3⟩ := pr_refuse (n := n) 6 (by omega) (v := -6) rfl R10
      refine ⟨-6, _, _, g, _, g', _, ?_, ?_, R1, R2, R3, R4, R5, R6, rfl, ⟨t, ht, rfl⟩, R9, e3⟩
      · unfold f_X5_put
        rw [if_pos c1, if_pos c2, pr_b2 e1]
      · unfold f_X6_put
        rw [pr_b1 (pm_within6 c1 (Int32.not_le.mpr c2)), if_neg (by decide), pr_lt, if_neg (by decide), pr_b2 e2]
    · by_cases c3 : t < 120
      · refine ⟨nI (t + 1), nI (t + 1), upd f_x_row t w1, f_x_refusals, nI (t + 1), f_m_refusals, upd f_m_row t w1, ?_, ?_, R1, R2, R3, R4, R5, R6, rfl, ⟨t + 1, by omega, rfl⟩, fun j hj => ?_, R10⟩
        · unfold f_X5_put
          have e120 : (120 : Int32) = nI 120 := rfl
          rw [if_pos c1, if_neg c2, if_neg (nI_pos (by omega)), e120, if_pos (nI_lt c3 (by omega)), pr_wr c3 (by omega), pr_lt, nI_1]
        · unfold f_X6_put
          have e120 : (120 : Int32) = nI 120 := rfl
          rw [pr_b1 (pm_within0 c1 (Int32.not_lt.mp c2)), if_pos rfl, e120, if_neg (fun q => by have := (nI_eq (by omega) (by omega)).mp q; omega), pr_lt, if_pos rfl, pr_wr c3 (by omega), pr_lt, nI_1]
        · by_cases e : j = t
          · subst e; rw [pk_us, pk_us]
          · rw [pk_un e, pk_un e]; exact R9 j hj
      · have : t = 120 := by omega
        subst this
        obtain ⟨g, g', e1, e2, e3⟩ := pr_refuse (n := n) 6 (by omega) (v := -6) rfl R10
        refine ⟨-6, _, _, g, _, g', _, ?_, ?_, R1, R2, R3, R4, R5, R6, rfl, ⟨120, ht, rfl⟩, R9, e3⟩
        · unfold f_X5_put
          rw [if_pos c1, if_neg c2, if_neg (by decide), if_neg (by decide), pr_b2 e1]
        · unfold f_X6_put
          rw [pr_b1 (pm_within0 c1 (Int32.not_lt.mp c2)), if_pos rfl, if_pos (show nI 120 = 120 from rfl), pr_lt, if_neg (by decide), pr_b2 e2]
  · obtain ⟨g, g', e1, e2, e3⟩ := pr_refuse (n := n) 4 (by omega) (v := -4) rfl R10
    refine ⟨-4, _, _, g, _, g', _, ?_, ?_, R1, R2, R3, R4, R5, R6, rfl, ⟨t, ht, rfl⟩, R9, e3⟩
    · unfold f_X5_put
      rw [if_neg c1, pr_b2 e1]
    · unfold f_X6_put
      rw [pr_b1 (pm_within4 c1), if_neg (by decide), pr_lt, if_neg (by decide), pr_b2 e2]
theorem st_cell {n : Nat} (hn : 200 ≤ n) {v_x_tape_length : Int32} {f_x_tape_signs : (Nat → Int32)} {v_x_waters_wide : Int32} {v_x_waters_high : Int32} {v_x_waters_wells : Int32} {f_x_waters_kinds : (Nat → Int32)} {f_x_waters_wellPlaces : (Nat → Int32)} {f_x_waters_wellWorths : (Nat → Int32)} {v_x_waters_rules_mouth : Int32} {v_x_waters_rules_weight : Int32} {v_x_waters_rules_reach : Int32} {v_x_waters_rules_bend : Int32} {v_x_kept_wide : Int32} {v_x_kept_high : Int32} {v_x_kept_wells : Int32} {f_x_kept_kinds : (Nat → Int32)} {f_x_kept_wellPlaces : (Nat → Int32)} {f_x_kept_wellWorths : (Nat → Int32)} {v_x_kept_rules_mouth : Int32} {v_x_kept_rules_weight : Int32} {v_x_kept_rules_reach : Int32} {v_x_kept_rules_bend : Int32} {v_x_hasImage : Int32} {v_x_rowLength : Int32} {f_x_row : (Nat → Int32)} {f_x_refusals : (Nat → Int32)} {v_m_isImage : Int32} {v_m_taped : Int32} {v_m_rowed : Int32} {f_m_tape : (Nat → Int32)} {f_m_s : (Nat → Int32)} {f_m_image : (Nat → Int32)} {f_m_row : (Nat → Int32)} {f_m_refusals : (Nat → Int32)} (w1 : Int32) (hR : Rel v_x_tape_length f_x_tape_signs v_x_waters_wide v_x_waters_high v_x_waters_wells f_x_waters_kinds f_x_waters_wellPlaces f_x_waters_wellWorths v_x_waters_rules_mouth v_x_waters_rules_weight v_x_waters_rules_reach v_x_waters_rules_bend v_x_kept_wide v_x_kept_high v_x_kept_wells f_x_kept_kinds f_x_kept_wellPlaces f_x_kept_wellWorths v_x_kept_rules_mouth v_x_kept_rules_weight v_x_kept_rules_reach v_x_kept_rules_bend v_x_hasImage v_x_rowLength f_x_row f_x_refusals v_m_isImage v_m_taped v_m_rowed f_m_tape f_m_s f_m_image f_m_row f_m_refusals) : ∃ (r : Int32) (r_f_x_refusals : (Nat → Int32)) (r_f_m_refusals : (Nat → Int32)), f_X5_cell n f_x_waters_kinds f_x_refusals w1 = some (r, r_f_x_refusals) ∧ f_X6_cell n f_m_refusals f_m_s w1 = some (r, r_f_m_refusals) ∧ Rel v_x_tape_length f_x_tape_signs v_x_waters_wide v_x_waters_high v_x_waters_wells f_x_waters_kinds f_x_waters_wellPlaces f_x_waters_wellWorths v_x_waters_rules_mouth v_x_waters_rules_weight v_x_waters_rules_reach v_x_waters_rules_bend v_x_kept_wide v_x_kept_high v_x_kept_wells f_x_kept_kinds f_x_kept_wellPlaces f_x_kept_wellWorths v_x_kept_rules_mouth v_x_kept_rules_weight v_x_kept_rules_reach v_x_kept_rules_bend v_x_hasImage v_x_rowLength f_x_row r_f_x_refusals v_m_isImage v_m_taped v_m_rowed f_m_tape f_m_s f_m_image f_m_row r_f_m_refusals := by
  obtain ⟨R1, R2, R3, R4, R5, R6, R7, R8, R9, R10⟩ := hR
  obtain ⟨w, h, nw, a1, a2, a3, a4, a5, ew, eh, en, s0, s1, s2, s3, s4, s5, s6, hm, hwt, hre, hbd, hin, ho, hwl⟩ := id R4
  rcases pr_cell_or w1 w h with ⟨x, y, hx, hy, rfl⟩ | hno
  · obtain ⟨⟨a, ha, ea⟩, es⟩ := hin y x hy hx
    have hc := pr_c120 a2 a4 hx hy
    have h8 : ¬ f_x_waters_kinds (12 * y + x) = 8 := fun q => by
      have e8 : (8 : Int32) = nI 8 := rfl
      rw [ea, e8, nI_eq (by omega) (by omega)] at q
      omega
    refine ⟨f_x_waters_kinds (12 * y + x), f_x_refusals, f_m_refusals, ?_, ?_, R1, R2, R3, R4, R5, R6, R7, R8, R9, R10⟩
    · unfold f_X5_cell
      rw [pr_b1 (pk_placeOf a2 a4 hx hy h8), if_pos (nI_pos' (by omega)), pr_b1 (pk_kindOf (by omega))]
    · unfold f_X6_cell
      rw [pr_b1 (pm_isCell s0 s1 a2 a4 hx hy), if_neg (by decide), pr_b1 (pm_of s0 a2 hx (by omega)), pr_b1 (pm_at (by omega)), es]
  · obtain ⟨g, g', e1, e2, e3⟩ := pr_refuse (n := n) 1 (by omega) (v := -1) rfl R10
    refine ⟨-1, g, g', ?_, ?_, R1, R2, R3, R4, R5, R6, R7, R8, R9, e3⟩
    · unfold f_X5_cell
      rw [pr_b1 (pk_placeOfN a2 a4 ho hno), if_neg (by decide), pr_b2 e1]
    · unfold f_X6_cell
      rw [pr_b1 (pm_isCellN s0 s1 a2 a4 hno), if_pos rfl, pr_b2 e2]
theorem st_drown {n : Nat} (hn : 200 ≤ n) {v_x_tape_length : Int32} {f_x_tape_signs : (Nat → Int32)} {v_x_waters_wide : Int32} {v_x_waters_high : Int32} {v_x_waters_wells : Int32} {f_x_waters_kinds : (Nat → Int32)} {f_x_waters_wellPlaces : (Nat → Int32)} {f_x_waters_wellWorths : (Nat → Int32)} {v_x_waters_rules_mouth : Int32} {v_x_waters_rules_weight : Int32} {v_x_waters_rules_reach : Int32} {v_x_waters_rules_bend : Int32} {v_x_kept_wide : Int32} {v_x_kept_high : Int32} {v_x_kept_wells : Int32} {f_x_kept_kinds : (Nat → Int32)} {f_x_kept_wellPlaces : (Nat → Int32)} {f_x_kept_wellWorths : (Nat → Int32)} {v_x_kept_rules_mouth : Int32} {v_x_kept_rules_weight : Int32} {v_x_kept_rules_reach : Int32} {v_x_kept_rules_bend : Int32} {v_x_hasImage : Int32} {v_x_rowLength : Int32} {f_x_row : (Nat → Int32)} {f_x_refusals : (Nat → Int32)} {v_m_isImage : Int32} {v_m_taped : Int32} {v_m_rowed : Int32} {f_m_tape : (Nat → Int32)} {f_m_s : (Nat → Int32)} {f_m_image : (Nat → Int32)} {f_m_row : (Nat → Int32)} {f_m_refusals : (Nat → Int32)} (w1 : Int32) (hR : Rel v_x_tape_length f_x_tape_signs v_x_waters_wide v_x_waters_high v_x_waters_wells f_x_waters_kinds f_x_waters_wellPlaces f_x_waters_wellWorths v_x_waters_rules_mouth v_x_waters_rules_weight v_x_waters_rules_reach v_x_waters_rules_bend v_x_kept_wide v_x_kept_high v_x_kept_wells f_x_kept_kinds f_x_kept_wellPlaces f_x_kept_wellWorths v_x_kept_rules_mouth v_x_kept_rules_weight v_x_kept_rules_reach v_x_kept_rules_bend v_x_hasImage v_x_rowLength f_x_row f_x_refusals v_m_isImage v_m_taped v_m_rowed f_m_tape f_m_s f_m_image f_m_row f_m_refusals) : ∃ (r : Int32) (r_f_x_waters_kinds : (Nat → Int32)) (r_f_x_refusals : (Nat → Int32)) (r_f_m_refusals : (Nat → Int32)) (r_f_m_s : (Nat → Int32)), f_X5_drown n f_x_waters_kinds f_x_refusals w1 = some (r, r_f_x_waters_kinds, r_f_x_refusals) ∧ f_X6_drown n f_m_refusals f_m_s w1 = some (r, r_f_m_refusals, r_f_m_s) ∧ Rel v_x_tape_length f_x_tape_signs v_x_waters_wide v_x_waters_high v_x_waters_wells r_f_x_waters_kinds f_x_waters_wellPlaces f_x_waters_wellWorths v_x_waters_rules_mouth v_x_waters_rules_weight v_x_waters_rules_reach v_x_waters_rules_bend v_x_kept_wide v_x_kept_high v_x_kept_wells f_x_kept_kinds f_x_kept_wellPlaces f_x_kept_wellWorths v_x_kept_rules_mouth v_x_kept_rules_weight v_x_kept_rules_reach v_x_kept_rules_bend v_x_hasImage v_x_rowLength f_x_row r_f_x_refusals v_m_isImage v_m_taped v_m_rowed f_m_tape r_f_m_s f_m_image f_m_row r_f_m_refusals := by
  obtain ⟨R1, R2, R3, R4, R5, R6, R7, R8, R9, R10⟩ := hR
  obtain ⟨w, h, nw, R4'⟩ := id R4
  obtain ⟨a1, a2, a3, a4, a5, ew, eh, en, s0, s1, s2, s3, s4, s5, s6, hm, hwt, hre, hbd, hin, ho, hwl⟩ := id R4'
  rcases pr_cell_or w1 w h with ⟨x, y, hx, hy, rfl⟩ | hno
  · obtain ⟨⟨a, ha, ea⟩, es⟩ := hin y x hy hx
    have hc := pr_c120 a2 a4 hx hy
    have h8 : ¬ f_x_waters_kinds (12 * y + x) = 8 := fun q => by
      have e8 : (8 : Int32) = nI 8 := rfl
      rw [ea, e8, nI_eq (by omega) (by omega)] at q
      omega
    by_cases h0 : f_x_waters_kinds (12 * y + x) = 0
    · obtain ⟨g, g', e1, e2, e3⟩ := pr_refuse (n := n) 3 (by omega) (v := -3) rfl R10
      refine ⟨-3, _, g, g', _, ?_, ?_, R1, R2, R3, R4, R5, R6, R7, R8, R9, e3⟩
      · unfold f_X5_drown
        rw [pr_b1 (pk_placeOf a2 a4 hx hy h8), if_pos (nI_pos' (by omega)), pr_b1 (pk_kindOf (by omega)), if_pos h0, pr_b2 e1]
      · unfold f_X6_drown
        rw [pr_b1 (pm_isCell s0 s1 a2 a4 hx hy), if_neg (by decide), pr_b1 (pm_of s0 a2 hx (by omega)), pr_b1 (pm_at (by omega)), es, if_pos h0, pr_b1 rfl, if_neg (by decide), pr_b2 e2]
    · refine ⟨f_x_waters_kinds (12 * y + x), upd f_x_waters_kinds (12 * y + x) 0, f_x_refusals, f_m_refusals, upd f_m_s (7 + (w * y + x)) 0, ?_, ?_, R1, R2, R3, ⟨w, h, nw, sea_set (v := 0) hx hy (by omega) R4' (Or.inl rfl)⟩, R5, R6, R7, R8, R9, R10⟩
      · unfold f_X5_drown
        rw [pr_b1 (pk_placeOf a2 a4 hx hy h8), if_pos (nI_pos' (by omega)), pr_b1 (pk_kindOf (by omega)), if_neg h0]
        have e120 : (120 : Int32) = nI 120 := rfl
        have : f_X4_setKind n f_x_waters_kinds (nI (12 * y + x)) 0 = some (upd f_x_waters_kinds (12 * y + x) 0) := by
          unfold f_X4_setKind
          rw [if_neg (nI_pos (by omega)), e120, if_neg (nI_ge (by omega) (by omega)), pr_wr (by omega) (by omega)]
        rw [pr_b1 this]
      · unfold f_X6_drown
        have e7 : (7 : Int32) = nI 7 := rfl
        rw [pr_b1 (pm_isCell s0 s1 a2 a4 hx hy), if_neg (by decide), pr_b1 (pm_of s0 a2 hx (by omega)), pr_b1 (pm_at (by omega)), es, if_neg h0, pr_b1 rfl, if_pos rfl, pr_b1 (pm_of s0 a2 hx (by omega)), pr_b1 (pm_at (by omega)), pr_b1 (pm_of s0 a2 hx (by omega)), es, e7, nI_add, pr_wr (by omega) (by omega)]
  · obtain ⟨g, g', e1, e2, e3⟩ := pr_refuse (n := n) 1 (by omega) (v := -1) rfl R10
    refine ⟨-1, _, g, g', _, ?_, ?_, R1, R2, R3, R4, R5, R6, R7, R8, R9, e3⟩
    · unfold f_X5_drown
      rw [pr_b1 (pk_placeOfN a2 a4 ho hno), if_neg (by decide), pr_b2 e1]
    · unfold f_X6_drown
      rw [pr_b1 (pm_isCellN s0 s1 a2 a4 hno), if_pos rfl, pr_b1 rfl, if_neg (by decide), pr_b2 e2]
