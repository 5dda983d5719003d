/-! the pure side, 22: worth, moves, most -/
theorem nI_7 (c : Nat) : (7 : Int32) + nI c = nI (7 + c) := nI_add 7 c
section WOR
variable {n w h nw : Nat} {wide high wells : Int32} {kinds wp ww : Nat → Int32} {mouth weight reach bend : Int32} {s : Nat → Int32} {owners whoseOf : Nat → Int32}
theorem worth_L (H : SeaAt w h nw wide high wells kinds wp ww mouth weight reach bend s) {v : Int32} : ∀ (d i k a : Nat), i + d = nw → d < k → a ≤ 99 * i → ∃ b : Nat, b ≤ 99 * nw ∧ f_X4_worthOf_L5 n wells wp ww owners v k (nI a) (nI i) = some (nI b, nI nw) ∧ ∀ (k' : Nat) (whoseOf s' : Nat → Int32), d < k' → SameO w h owners whoseOf → (∀ j : Nat, 6 ≤ j → s' j = s j) → f_X6_worthOf_L4 n s' whoseOf v k' (nI a) (nI i) = some (nI b, nI nw) := by
  obtain ⟨a1, a2, a3, a4, a5, ew, eh, en, s0, s1, s2, s3, s4, s5, s6, hm, hwt, hre, hbd, hin, ho, hwl⟩ := id H
  intro d
  induction d with
  | zero =>
    intro i k a h1 h2 h3
    obtain ⟨k, rfl⟩ : ∃ q, k = q + 1 := ⟨k - 1, by omega⟩
    have : i = nw := by omega
    subst this
    refine ⟨a, h3, ?_, fun k' whoseOf s' hk' hS hs => ?_⟩
    · rw [f_X4_worthOf_L5, en]
      exact if_pos (Int32.le_refl _)
    · obtain ⟨k', rfl⟩ : ∃ q, k' = q + 1 := ⟨k' - 1, by omega⟩
      rw [f_X6_worthOf_L4, pr_rd6 (by omega) (by omega), hs 6 (by omega), s6]
      exact if_pos (Int32.le_refl _)
  | succ d ih =>
    intro i k a h1 h2 h3
    obtain ⟨k, rfl⟩ : ∃ q, k = q + 1 := ⟨k - 1, by omega⟩
    obtain ⟨y, x, hy, hx, e1, e2, e3, e4, ⟨v0, hv0, e5⟩⟩ := hwl i (by omega)
    have hc := pr_c120 a2 a4 hx hy
    have hstep : ∀ (a' : Nat), (f_X4_worthOf_L5 n wells wp ww owners v (k + 1) (nI a) (nI i) = f_X4_worthOf_L5 n wells wp ww owners v k (nI a') (nI (i + 1))) → (∀ (k' : Nat) (whoseOf s' : Nat → Int32), SameO w h owners whoseOf → (∀ j : Nat, 6 ≤ j → s' j = s j) → f_X6_worthOf_L4 n s' whoseOf v (k' + 1) (nI a) (nI i) = f_X6_worthOf_L4 n s' whoseOf v k' (nI a') (nI (i + 1))) → a' ≤ 99 * (i + 1) → ∃ b : Nat, b ≤ 99 * nw ∧ f_X4_worthOf_L5 n wells wp ww owners v (k + 1) (nI a) (nI i) = some (nI b, nI nw) ∧ ∀ (k' : Nat) (whoseOf s' : Nat → Int32), d + 1 < k' → SameO w h owners whoseOf → (∀ j : Nat, 6 ≤ j → s' j = s j) → f_X6_worthOf_L4 n s' whoseOf v k' (nI a) (nI i) = some (nI b, nI nw) := fun a' q1 q2 q3 => by
      obtain ⟨b, r1, r2, r3⟩ := ih (i + 1) k a' (by omega) (by omega) q3
      refine ⟨b, r1, q1.trans r2, fun k' whoseOf s' hk' hS hs => ?_⟩
      obtain ⟨k', rfl⟩ : ∃ q, k' = q + 1 := ⟨k' - 1, by omega⟩
      exact (q2 k' whoseOf s' hS hs).trans (r3 k' whoseOf s' (by omega) hS hs)
    have ei : (127 : Int32) + (2 : Int32) * nI i = nI (127 + 2 * i) := by
      rw [show (2 : Int32) = nI 2 from rfl, show (127 : Int32) = nI 127 from rfl, pk_mul, nI_add]
    have hmod : ∀ (k' : Nat) (whoseOf s' : Nat → Int32), SameO w h owners whoseOf → (∀ j : Nat, 6 ≤ j → s' j = s j) → f_X6_worthOf_L4 n s' whoseOf v (k' + 1) (nI a) (nI i) = f_X6_worthOf_L4 n s' whoseOf v k' (nI (if owners (12 * y + x) = v then a + v0 else a)) (nI (i + 1)) := fun k' whoseOf s' hS hs => by
      rw [f_X6_worthOf_L4, pr_rd6 (by omega) (by omega), hs 6 (by omega), s6, if_neg (nI_ge (by omega) (by omega)), ei, pr_rd (by omega) (by omega), hs _ (by omega), e2, pr_rd (by omega) (by omega), hS.1 y x hy hx, nI_1]
      by_cases c : owners (12 * y + x) = v
      · rw [if_pos c, if_pos c, pr_rd (by omega) (by omega), hs _ (by omega), ← e4, e5, pr_b1 rfl, pr_lt, pr_lt, nI_add, nI_1]
      · rw [if_neg c, if_neg c, pr_b1 rfl, pr_lt, pr_lt, Int32.add_zero, nI_1]
    have hcls : f_X4_worthOf_L5 n wells wp ww owners v (k + 1) (nI a) (nI i) = f_X4_worthOf_L5 n wells wp ww owners v k (nI (if owners (12 * y + x) = v then a + v0 else a)) (nI (i + 1)) := by
      rw [f_X4_worthOf_L5, en, if_neg (nI_ge (by omega) (by omega)), if_neg (show ¬ (12 : Int32) ≤ nI i from nI_ge (b := 12) (by omega) (by omega)), pr_rd (by omega) (by omega), e1, pr_b1 (pk_ownerOf (by omega))]
      by_cases c : owners (12 * y + x) = v
      · rw [if_pos c, if_pos c, pr_rd (by omega) (by omega), e5, pr_lt, pr_b1 rfl, pr_lt, nI_add, nI_1]
      · rw [if_neg c, if_neg c, pr_b1 rfl, pr_lt, nI_1]
    refine hstep _ hcls hmod ?_
    split <;> omega
theorem worth_both (hn : 200 ≤ n) (H : SeaAt w h nw wide high wells kinds wp ww mouth weight reach bend s) (owners : Nat → Int32) (v : Int32) : ∃ b : Nat, b ≤ 1188 ∧ f_X4_worthOf n wells wp ww owners v = some (nI b) ∧ ∀ (whoseOf s' : Nat → Int32), SameO w h owners whoseOf → (∀ j : Nat, 6 ≤ j → s' j = s j) → f_X6_worthOf n s' whoseOf v = some (nI b) := by
  have hnw : nw ≤ 12 := by
    obtain ⟨a1, a2, a3, a4, a5, _⟩ := id H
    exact a5
  obtain ⟨b, h1, h2, h3⟩ := worth_L (n := n) (owners := owners) (v := v) H nw 0 n 0 (by omega) (by omega) (by omega)
  refine ⟨b, by omega, ?_, fun whoseOf s' hS hs => ?_⟩
  · unfold f_X4_worthOf
    exact pr_b2 h2
  · unfold f_X6_worthOf
    exact pr_b2 (h3 n whoseOf s' (by omega) hS hs)
end WOR
theorem st_worth {n : Nat} (hn : 200 ≤ n) {v_x_tape_length : Int32} {f_x_tape_signs : (Nat → Int32)} {v_x_waters_wide : Int32} {v_x_waters_high : Int32} {v_x_waters_wells : Int32} {f_x_waters_kinds : (Nat → Int32)} {f_x_waters_wellPlaces : (Nat → Int32)} {f_x_waters_wellWorths : (Nat → Int32)} {v_x_waters_rules_mouth : Int32} {v_x_waters_rules_weight : Int32} {v_x_waters_rules_reach : Int32} {v_x_waters_rules_bend : Int32} {v_x_kept_wide : Int32} {v_x_kept_high : Int32} {v_x_kept_wells : Int32} {f_x_kept_kinds : (Nat → Int32)} {f_x_kept_wellPlaces : (Nat → Int32)} {f_x_kept_wellWorths : (Nat → Int32)} {v_x_kept_rules_mouth : Int32} {v_x_kept_rules_weight : Int32} {v_x_kept_rules_reach : Int32} {v_x_kept_rules_bend : Int32} {v_x_hasImage : Int32} {v_x_rowLength : Int32} {f_x_row : (Nat → Int32)} {f_x_refusals : (Nat → Int32)} {v_m_isImage : Int32} {v_m_taped : Int32} {v_m_rowed : Int32} {f_m_tape : (Nat → Int32)} {f_m_s : (Nat → Int32)} {f_m_image : (Nat → Int32)} {f_m_row : (Nat → Int32)} {f_m_refusals : (Nat → Int32)} (v_x_chart_bases : Int32) (v_x_chart_thirds : Int32) (f_x_chart_inner : (Nat → Int32)) (f_x_chart_owners : (Nat → Int32)) (f_x_chart_nears : (Nat → Int32)) (f_x_chart_basePlaces : (Nat → Int32)) (f_x_chart_baseFactors : (Nat → Int32)) (f_x_chart_baseStarts : (Nat → Int32)) (v_m_thirds : Int32) (f_m_innerOf : (Nat → Int32)) (f_m_whoseOf : (Nat → Int32)) (f_m_nearOf : (Nat → Int32)) (f_m_fromOf : (Nat → Int32)) (w1 : Int32) (hR : Rel v_x_tape_length f_x_tape_signs v_x_waters_wide v_x_waters_high v_x_waters_wells f_x_waters_kinds f_x_waters_wellPlaces f_x_waters_wellWorths v_x_waters_rules_mouth v_x_waters_rules_weight v_x_waters_rules_reach v_x_waters_rules_bend v_x_kept_wide v_x_kept_high v_x_kept_wells f_x_kept_kinds f_x_kept_wellPlaces f_x_kept_wellWorths v_x_kept_rules_mouth v_x_kept_rules_weight v_x_kept_rules_reach v_x_kept_rules_bend v_x_hasImage v_x_rowLength f_x_row f_x_refusals v_m_isImage v_m_taped v_m_rowed f_m_tape f_m_s f_m_image f_m_row f_m_refusals) : ∃ (r : Int32) (r_v_x_chart_bases : Int32) (r_v_x_chart_thirds : Int32) (r_f_x_chart_inner : (Nat → Int32)) (r_f_x_chart_owners : (Nat → Int32)) (r_f_x_chart_nears : (Nat → Int32)) (r_f_x_chart_basePlaces : (Nat → Int32)) (r_f_x_chart_baseFactors : (Nat → Int32)) (r_f_x_chart_baseStarts : (Nat → Int32)) (r_f_x_refusals : (Nat → Int32)) (r_v_m_thirds : Int32) (r_f_m_refusals : (Nat → Int32)) (r_f_m_innerOf : (Nat → Int32)) (r_f_m_whoseOf : (Nat → Int32)) (r_f_m_nearOf : (Nat → Int32)) (r_f_m_fromOf : (Nat → Int32)), f_X5_worth n v_x_waters_wells f_x_waters_kinds f_x_waters_wellPlaces f_x_waters_wellWorths v_x_waters_rules_mouth v_x_waters_rules_weight v_x_waters_rules_reach v_x_waters_rules_bend v_x_chart_bases v_x_chart_thirds f_x_chart_inner f_x_chart_owners f_x_chart_nears f_x_chart_basePlaces f_x_chart_baseFactors f_x_chart_baseStarts f_x_refusals w1 = some (r, r_v_x_chart_bases, r_v_x_chart_thirds, r_f_x_chart_inner, r_f_x_chart_owners, r_f_x_chart_nears, r_f_x_chart_basePlaces, r_f_x_chart_baseFactors, r_f_x_chart_baseStarts, r_f_x_refusals) ∧ f_X6_worth n v_m_thirds f_m_refusals f_m_s f_m_innerOf f_m_whoseOf f_m_nearOf f_m_fromOf w1 = some (r, r_v_m_thirds, r_f_m_refusals, r_f_m_innerOf, r_f_m_whoseOf, r_f_m_nearOf, r_f_m_fromOf) ∧ Rel v_x_tape_length f_x_tape_signs v_x_waters_wide v_x_waters_high v_x_waters_wells f_x_waters_kinds f_x_waters_wellPlaces f_x_waters_wellWorths v_x_waters_rules_mouth v_x_waters_rules_weight v_x_waters_rules_reach v_x_waters_rules_bend v_x_kept_wide v_x_kept_high v_x_kept_wells f_x_kept_kinds f_x_kept_wellPlaces f_x_kept_wellWorths v_x_kept_rules_mouth v_x_kept_rules_weight v_x_kept_rules_reach v_x_kept_rules_bend v_x_hasImage v_x_rowLength f_x_row r_f_x_refusals v_m_isImage v_m_taped v_m_rowed f_m_tape f_m_s f_m_image f_m_row r_f_m_refusals := by
  obtain ⟨R1, R2, R3, R4, R5, R6, R7, R8, R9, R10⟩ := id hR
  obtain ⟨w, h, nw, HS⟩ := id R4
  obtain ⟨M, hM, eM, s2, hW, s3, s4, s5, H⟩ := sea_all HS
  subst eM
  unfold f_X5_worth f_X6_worth
  rcases pr_land w1 with ⟨l, hl, rfl⟩ | hl
  · obtain ⟨b, th, inner, owners, nears, bp, bf, bs, e1, e2, e3⟩ := both hn H hM s2 hW s3 s4 s5 v_x_chart_bases v_x_chart_thirds f_x_chart_inner f_x_chart_owners f_x_chart_nears f_x_chart_basePlaces f_x_chart_baseFactors f_x_chart_baseStarts
    obtain ⟨innerOf, whoseOf, nearOf, fromOf, f1, f2⟩ := e3 v_m_thirds f_m_innerOf f_m_whoseOf f_m_nearOf f_m_fromOf
    have ed : f_X5_drawAsItIs n f_x_waters_kinds (nI M) v_x_waters_rules_weight v_x_waters_rules_reach v_x_waters_rules_bend v_x_chart_bases v_x_chart_thirds f_x_chart_inner f_x_chart_owners f_x_chart_nears f_x_chart_basePlaces f_x_chart_baseFactors f_x_chart_baseStarts = some (b, nI th, inner, owners, nears, bp, bf, bs) := by
      unfold f_X5_drawAsItIs
      rw [pr_b8 e1]
    obtain ⟨W, hW1, q1, q2⟩ := worth_both hn HS owners (nI l)
    rw [pr_b1 (pk_isLand hl), pr_b1 (pm_isIn3 hl), if_neg (by decide), if_neg (by decide), pr_b8 ed, pr_b5 f1, pr_b1 q1, pr_b1 (q2 whoseOf f_m_s f2 (fun j _ => rfl))]
    exact ⟨_, _, _, _, _, _, _, _, _, _, _, _, _, _, _, _, rfl, rfl, hR⟩
  · obtain ⟨g, g', r1, r2, r3⟩ := pr_refuse (n := n) (v := -1) 1 (by omega) (by decide) R10
    rw [pr_b1 (pk_isLandN hl), pr_b1 (pm_isIn0 hl), if_pos rfl, if_pos rfl, pr_b2 r1, pr_b2 r2]
    exact ⟨_, _, _, _, _, _, _, _, _, _, _, _, _, _, _, _, rfl, rfl, R1, R2, R3, R4, R5, R6, R7, R8, R9, r3⟩
theorem upd_back (f : Nat → Int32) (i : Nat) (a : Int32) : upd (upd f i a) i (f i) = f := by
  funext j
  by_cases e : j = i
  · subst e
    exact pk_us
  · rw [pk_un e, pk_un e]
theorem cel_set {w h : Nat} {kinds s : Nat → Int32} (H : Cel w h kinds s) {y x : Nat} (hy : y < h) (hx : x < w) : Cel w h (upd kinds (12 * y + x) 0) (upd s (7 + (w * y + x)) 0) := by
  obtain ⟨a1, a2, a3, a4, s0, s1, hin, ho⟩ := H
  refine ⟨a1, a2, a3, a4, by rw [pk_un (by omega)]; exact s0, by rw [pk_un (by omega)]; exact s1, fun y' x' hy' hx' => ?_, fun y' x' hy' hx' hno => ?_⟩
  · by_cases e : 12 * y' + x' = 12 * y + x
    · have e' := pr_inj (show x' < 12 by omega) (show x < 12 by omega) e
      rw [e, pk_us, e'.1, e'.2, pk_us]
      exact ⟨⟨0, by omega, rfl⟩, rfl⟩
    · have e' : ¬ 7 + (w * y' + x') = 7 + (w * y + x) := fun q => by
        have := pr_inj hx' hx (show w * y' + x' = w * y + x by omega)
        exact e (by rw [this.1, this.2])
      rw [pk_un e, pk_un e']
      exact hin y' x' hy' hx'
  · have e : ¬ 12 * y' + x' = 12 * y + x := fun q => by
      have := pr_inj hx' (show x < 12 by omega) q
      omega
    rw [pk_un e]
    exact ho y' x' hy' hx' hno
theorem pk_setKind {n : Nat} {kinds : Nat → Int32} {j : Nat} (hj : j < 120) (v : Int32) : f_X4_setKind n kinds (nI j) v = some (upd kinds j v) := by
  unfold f_X4_setKind
  rw [if_neg (nI_pos (by omega)), if_neg (show ¬ (120 : Int32) ≤ nI j from nI_ge (b := 120) (by omega) (by omega)), pr_wr (by omega) (by omega)]
section MOV
variable {n w h M : Nat} {kinds s owners kept : Nat → Int32} {weight reach bend : Int32}
theorem pk_diff_L {o2 : Nat → Int32} {c : Nat} (hc : c < 120) : ∀ (d i k : Nat), i + d = 120 → d < k → f_X0_differences_L5 n owners o2 (nI c) k (nI (ct (fun j => decide (¬ j = c ∧ ¬ owners j = o2 j)) i)) (nI i) = some (nI (ct (fun j => decide (¬ j = c ∧ ¬ owners j = o2 j)) 120), nI 120) := by
  intro d
  induction d with
  | zero =>
    intro i k h1 h2
    obtain ⟨k, rfl⟩ : ∃ q, k = q + 1 := ⟨k - 1, by omega⟩
    have : i = 120 := by omega
    subst this
    rw [f_X0_differences_L5]
    exact if_pos (Int32.le_refl _)
  | succ d ih =>
    intro i k h1 h2
    obtain ⟨k, rfl⟩ : ∃ q, k = q + 1 := ⟨k - 1, by omega⟩
    have := ih (i + 1) k (by omega) (by omega)
    rw [ct_succ] at this
    rw [f_X0_differences_L5, if_neg (show ¬ (120 : Int32) ≤ nI i from nI_ge (b := 120) (by omega) (by omega))]
    by_cases c1 : i = c
    · rw [if_neg (fun q => (of_decide_eq_true q).1 c1)] at this
      rw [if_pos (by rw [c1]), pr_b1 rfl, pr_lt, nI_1]
      exact this
    · rw [if_neg (fun q => c1 ((nI_eq (by omega) (by omega)).mp q)), pr_rd (by omega) (by omega), pr_rd (by omega) (by omega)]
      by_cases c2 : owners i = o2 i
      · rw [if_neg (fun q => (of_decide_eq_true q).2 c2)] at this
        rw [if_pos c2, pr_b1 rfl, pr_lt, nI_1]
        exact this
      · rw [if_pos (decide_eq_true ⟨c1, c2⟩)] at this
        rw [if_neg c2, pr_lt, pr_b1 rfl, pr_lt, nI_1, nI_1]
        exact this
theorem pm_diff_L {whoseOf : Nat → Int32} (h0 : s 0 = nI w) (h1' : s 1 = nI h) (hwh : w * h ≤ 120) {c : Nat} (hc : c < 120) : ∀ (d i k : Nat), i + d = w * h → d < k → f_X6_movesOf_L35 n s whoseOf kept (nI c) k (nI (ct (fun j => decide (¬ j = c ∧ ¬ whoseOf j = kept j)) i)) (nI i) = some (nI (ct (fun j => decide (¬ j = c ∧ ¬ whoseOf j = kept j)) (w * h)), nI (w * h)) := by
  intro d
  induction d with
  | zero =>
    intro i k h1 h2
    obtain ⟨k, rfl⟩ : ∃ q, k = q + 1 := ⟨k - 1, by omega⟩
    have : i = w * h := by omega
    subst this
    rw [f_X6_movesOf_L35, pr_b1 (pm_many h0 h1')]
    exact if_pos (Int32.le_refl _)
  | succ d ih =>
    intro i k h1 h2
    obtain ⟨k, rfl⟩ : ∃ q, k = q + 1 := ⟨k - 1, by omega⟩
    have := ih (i + 1) k (by omega) (by omega)
    rw [ct_succ] at this
    rw [f_X6_movesOf_L35, pr_b1 (pm_many h0 h1'), if_neg (nI_ge (by omega) (by omega))]
    by_cases c1 : i = c
    · rw [if_neg (fun q => (of_decide_eq_true q).1 c1)] at this
      rw [if_pos (by rw [c1]), pr_b1 rfl, pr_lt, pr_lt, nI_1, Int32.add_zero]
      exact this
    · rw [if_neg (fun q => c1 ((nI_eq (by omega) (by omega)).mp q)), pr_rd (by omega) (by omega), pr_rd (by omega) (by omega)]
      by_cases c2 : whoseOf i = kept i
      · rw [if_neg (fun q => (of_decide_eq_true q).2 c2)] at this
        rw [if_pos c2, pr_b1 rfl, pr_lt, pr_lt, nI_1, Int32.add_zero]
        exact this
      · rw [if_pos (decide_eq_true ⟨c1, c2⟩)] at this
        rw [if_neg c2, pr_b1 rfl, pr_lt, pr_lt, nI_1, nI_1]
        exact this
theorem moved_both (hn : 200 ≤ n) (H : Cel w h kinds s) (hM : M ≤ 9) (s2 : s 2 = nI M) (hW : ∃ a : Nat, a ≤ 2 ∧ weight = nI a) (s3 : s 3 = weight) (s4 : s 4 = reach) (s5 : s 5 = bend) (hK : SameO w h owners kept) {y x : Nat} (hy : y < h) (hx : x < w) (z t : Int32) (i0 o0 n0 p0 q0 st0 : Nat → Int32) : ∃ (D : Nat) (b th : Int32) (inner o2 nears bp bf bs : Nat → Int32), D ≤ 120 ∧ f_X5_movedWithout n kinds (nI M) weight reach bend owners z t i0 o0 n0 p0 q0 st0 (nI (12 * y + x)) = some (nI D, kinds, b, th, inner, o2, nears, bp, bf, bs) ∧ ∀ (z' : Int32) (i1 w1 n1 f1 : Nat → Int32), ∃ th' innerOf whoseOf nearOf fromOf, f_X6_movesOf n z' s i1 w1 n1 f1 kept (nI (w * y + x)) = some (nI D, th', s, innerOf, whoseOf, nearOf, fromOf) := by
  obtain ⟨a1, a2, a3, a4, s0, s1, hin, ho⟩ := id H
  have hwh := pr_wh a2 a4
  have hc := pr_c120 a2 a4 hx hy
  have H' := cel_set H hy hx
  have hu : ∀ j : Nat, j < 7 → upd s (7 + (w * y + x)) 0 j = s j := fun j hj => pk_un (by omega)
  obtain ⟨b, th, inner, o2, nears, bp, bf, bs, e1, e2, e3⟩ := both hn H' hM ((hu 2 (by omega)).trans s2) hW ((hu 3 (by omega)).trans s3) ((hu 4 (by omega)).trans s4) ((hu 5 (by omega)).trans s5) z t i0 o0 n0 p0 q0 st0
  refine ⟨ct (fun j => decide (¬ j = 12 * y + x ∧ ¬ owners j = o2 j)) 120, b, nI th, inner, o2, nears, bp, bf, bs, ct_le _ _, ?_, fun z' i1 w1 n1 f1 => ?_⟩
  · have ed : f_X0_differences n owners o2 (nI (12 * y + x)) = some (nI (ct (fun j => decide (¬ j = 12 * y + x ∧ ¬ owners j = o2 j)) 120)) := by
      unfold f_X0_differences
      exact pr_b2 (pk_diff_L (n := n) (show 12 * y + x < 120 by omega) 120 0 n (by omega) (by omega))
    unfold f_X5_movedWithout
    rw [pr_b1 (pk_kindOf (by omega)), pr_b1 (pk_setKind (by omega) 0), pr_b8 e1, pr_b1 (pk_setKind (by omega) _), upd_back, pr_b1 ed]
  · obtain ⟨innerOf, whoseOf, nearOf, fromOf, f1', f2⟩ := e3 z' i1 w1 n1 f1
    refine ⟨nI th, innerOf, whoseOf, nearOf, fromOf, ?_⟩
    have ed : f_X6_movesOf_L35 n s whoseOf kept (nI (w * y + x)) n 0 0 = some (nI (ct (fun j => decide (¬ j = w * y + x ∧ ¬ whoseOf j = kept j)) (w * h)), nI (w * h)) := pm_diff_L (n := n) (whoseOf := whoseOf) s0 s1 hwh hc (w * h) 0 n (by omega) (by omega)
    have ec : ct (fun j => decide (¬ j = w * y + x ∧ ¬ whoseOf j = kept j)) (w * h) = ct (fun j => decide (¬ j = 12 * y + x ∧ ¬ owners j = o2 j)) 120 := by
      refine (ct_grid a2 a4 (fun y' x' hy' hx' => ?_) (fun y' x' hy' hx' hno => ?_)).symm
      · rw [f2.1 y' x' hy' hx', hK.1 y' x' hy' hx']
        have hj : 12 * y' + x' = 12 * y + x ↔ w * y' + x' = w * y + x := ⟨fun q => by
          have := pr_inj (show x' < 12 by omega) (show x < 12 by omega) q
          rw [this.1, this.2], fun q => by
          have := pr_inj hx' hx q
          rw [this.1, this.2]⟩
        refine decide_eq_decide.mpr ⟨fun q => ⟨fun r => q.1 (hj.mpr r), fun r => q.2 r.symm⟩, fun q => ⟨fun r => q.1 (hj.mp r), fun r => q.2 r.symm⟩⟩
      · refine decide_eq_false fun q => q.2 ?_
        rw [hK.2 y' x' hy' hx' hno, f2.2 y' x' hy' hx' hno]
    rw [ec] at ed
    unfold f_X6_movesOf
    rw [pr_b1 (pm_at (by omega)), nI_7, pr_wr (by omega) (by omega), pr_b5 f1', pr_wr (by omega) (by omega), upd_back, pr_b2 ed]
theorem keeps_L {g3 : Nat → Int32} (h0 : s 0 = nI w) (h1' : s 1 = nI h) (hwh : w * h ≤ 120) : ∀ (d i k : Nat) (g : Nat → Int32), i + d = w * h → d < k → (∀ j : Nat, j < i → g j = g3 j) → ∃ g', f_X6_keeps_L6 n s g3 k (nI i) g = some (nI (w * h), g') ∧ ∀ j : Nat, j < w * h → g' j = g3 j := by
  intro d
  induction d with
  | zero =>
    intro i k g h1 h2 h3
    obtain ⟨k, rfl⟩ : ∃ q, k = q + 1 := ⟨k - 1, by omega⟩
    have : i = w * h := by omega
    subst this
    refine ⟨g, ?_, h3⟩
    rw [f_X6_keeps_L6, pr_b1 (pm_many h0 h1')]
    exact if_pos (Int32.le_refl _)
  | succ d ih =>
    intro i k g h1 h2 h3
    obtain ⟨k, rfl⟩ : ∃ q, k = q + 1 := ⟨k - 1, by omega⟩
    rw [f_X6_keeps_L6, pr_b1 (pm_many h0 h1'), if_neg (nI_ge (by omega) (by omega)), pr_rd (by omega) (by omega), pr_wr (by omega) (by omega), pr_lt, nI_1]
    refine ih (i + 1) k _ (by omega) (by omega) fun j hj => ?_
    by_cases e : j = i
    · subst e
      exact pk_us
    · rw [pk_un e]
      exact h3 j (by omega)
theorem keeps_both {z : Int32} {i0 w0 n0 f0 innerOf whoseOf nearOf fromOf : Nat → Int32} {th : Int32} (hn : 200 ≤ n) (h0 : s 0 = nI w) (h1' : s 1 = nI h) (hwh : w * h ≤ 120) (f1 : f_X6_find n z s i0 w0 n0 f0 = some (th, innerOf, whoseOf, nearOf, fromOf)) (f2 : SameO w h owners whoseOf) (k0 : Nat → Int32) : ∃ kept', f_X6_keeps n z s i0 w0 n0 f0 k0 = some (th, innerOf, whoseOf, nearOf, fromOf, kept') ∧ SameO w h owners kept' := by
  obtain ⟨g', e1, e2⟩ := keeps_L (n := n) (g3 := whoseOf) h0 h1' hwh (w * h) 0 n k0 (by omega) (by omega) (fun j hj => by omega)
  have e1' : f_X6_keeps_L6 n s whoseOf n 0 k0 = some (nI (w * h), g') := e1
  refine ⟨g', ?_, fun y x hy hx => ?_, f2.2⟩
  · unfold f_X6_keeps
    rw [pr_b5 f1, pr_b2 e1']
  · rw [e2 _ (pr_wy hx hy), f2.1 y x hy hx]
theorem pk_coast {a : Nat} (ha : a ≤ 8) : f_X5_isCoastOrIsland n (nI a) = some (if 1 ≤ a ∧ a < 7 then 1 else 0) := by
  unfold f_X5_isCoastOrIsland
  by_cases c1 : a < 1
  · rw [if_pos (show nI a < (1 : Int32) from nI_lt (b := 1) c1 (by omega)), if_neg (by omega)]
  · rw [if_neg (show ¬ nI a < (1 : Int32) from nI_nlt (b := 1) (by omega) (by omega))]
    by_cases c2 : 7 ≤ a
    · rw [if_pos (show (7 : Int32) ≤ nI a from nI_le (a := 7) c2 (by omega)), if_neg (by omega)]
    · rw [if_neg (show ¬ (7 : Int32) ≤ nI a from nI_ge (b := 7) (by omega) (by omega)), if_pos (by omega)]
end MOV
theorem st_moves {n : Nat} (hn : 200 ≤ n) {v_x_tape_length : Int32} {f_x_tape_signs : (Nat → Int32)} {v_x_waters_wide : Int32} {v_x_waters_high : Int32} {v_x_waters_wells : Int32} {f_x_waters_kinds : (Nat → Int32)} {f_x_waters_wellPlaces : (Nat → Int32)} {f_x_waters_wellWorths : (Nat → Int32)} {v_x_waters_rules_mouth : Int32} {v_x_waters_rules_weight : Int32} {v_x_waters_rules_reach : Int32} {v_x_waters_rules_bend : Int32} {v_x_kept_wide : Int32} {v_x_kept_high : Int32} {v_x_kept_wells : Int32} {f_x_kept_kinds : (Nat → Int32)} {f_x_kept_wellPlaces : (Nat → Int32)} {f_x_kept_wellWorths : (Nat → Int32)} {v_x_kept_rules_mouth : Int32} {v_x_kept_rules_weight : Int32} {v_x_kept_rules_reach : Int32} {v_x_kept_rules_bend : Int32} {v_x_hasImage : Int32} {v_x_rowLength : Int32} {f_x_row : (Nat → Int32)} {f_x_refusals : (Nat → Int32)} {v_m_isImage : Int32} {v_m_taped : Int32} {v_m_rowed : Int32} {f_m_tape : (Nat → Int32)} {f_m_s : (Nat → Int32)} {f_m_image : (Nat → Int32)} {f_m_row : (Nat → Int32)} {f_m_refusals : (Nat → Int32)} (v_x_chart_bases : Int32) (v_x_chart_thirds : Int32) (f_x_chart_inner : (Nat → Int32)) (f_x_chart_owners : (Nat → Int32)) (f_x_chart_nears : (Nat → Int32)) (f_x_chart_basePlaces : (Nat → Int32)) (f_x_chart_baseFactors : (Nat → Int32)) (f_x_chart_baseStarts : (Nat → Int32)) (v_x_otherChart_bases : Int32) (v_x_otherChart_thirds : Int32) (f_x_otherChart_inner : (Nat → Int32)) (f_x_otherChart_owners : (Nat → Int32)) (f_x_otherChart_nears : (Nat → Int32)) (f_x_otherChart_basePlaces : (Nat → Int32)) (f_x_otherChart_baseFactors : (Nat → Int32)) (f_x_otherChart_baseStarts : (Nat → Int32)) (v_m_thirds : Int32) (f_m_innerOf : (Nat → Int32)) (f_m_whoseOf : (Nat → Int32)) (f_m_nearOf : (Nat → Int32)) (f_m_fromOf : (Nat → Int32)) (f_m_kept : (Nat → Int32)) (w1 : Int32) (hR : Rel v_x_tape_length f_x_tape_signs v_x_waters_wide v_x_waters_high v_x_waters_wells f_x_waters_kinds f_x_waters_wellPlaces f_x_waters_wellWorths v_x_waters_rules_mouth v_x_waters_rules_weight v_x_waters_rules_reach v_x_waters_rules_bend v_x_kept_wide v_x_kept_high v_x_kept_wells f_x_kept_kinds f_x_kept_wellPlaces f_x_kept_wellWorths v_x_kept_rules_mouth v_x_kept_rules_weight v_x_kept_rules_reach v_x_kept_rules_bend v_x_hasImage v_x_rowLength f_x_row f_x_refusals v_m_isImage v_m_taped v_m_rowed f_m_tape f_m_s f_m_image f_m_row f_m_refusals) : ∃ (r : Int32) (r_f_x_waters_kinds : (Nat → Int32)) (r_v_x_chart_bases : Int32) (r_v_x_chart_thirds : Int32) (r_f_x_chart_inner : (Nat → Int32)) (r_f_x_chart_owners : (Nat → Int32)) (r_f_x_chart_nears : (Nat → Int32)) (r_f_x_chart_basePlaces : (Nat → Int32)) (r_f_x_chart_baseFactors : (Nat → Int32)) (r_f_x_chart_baseStarts : (Nat → Int32)) (r_v_x_otherChart_bases : Int32) (r_v_x_otherChart_thirds : Int32) (r_f_x_otherChart_inner : (Nat → Int32)) (r_f_x_otherChart_owners : (Nat → Int32)) (r_f_x_otherChart_nears : (Nat → Int32)) (r_f_x_otherChart_basePlaces : (Nat → Int32)) (r_f_x_otherChart_baseFactors : (Nat → Int32)) (r_f_x_otherChart_baseStarts : (Nat → Int32)) (r_f_x_refusals : (Nat → Int32)) (r_v_m_thirds : Int32) (r_f_m_refusals : (Nat → Int32)) (r_f_m_s : (Nat → Int32)) (r_f_m_innerOf : (Nat → Int32)) (r_f_m_whoseOf : (Nat → Int32)) (r_f_m_nearOf : (Nat → Int32)) (r_f_m_fromOf : (Nat → Int32)) (r_f_m_kept : (Nat → Int32)), f_X5_moves n f_x_waters_kinds v_x_waters_rules_mouth v_x_waters_rules_weight v_x_waters_rules_reach v_x_waters_rules_bend v_x_chart_bases v_x_chart_thirds f_x_chart_inner f_x_chart_owners f_x_chart_nears f_x_chart_basePlaces f_x_chart_baseFactors f_x_chart_baseStarts v_x_otherChart_bases v_x_otherChart_thirds f_x_otherChart_inner f_x_otherChart_owners f_x_otherChart_nears f_x_otherChart_basePlaces f_x_otherChart_baseFactors f_x_otherChart_baseStarts f_x_refusals w1 = some (r, r_f_x_waters_kinds, r_v_x_chart_bases, r_v_x_chart_thirds, r_f_x_chart_inner, r_f_x_chart_owners, r_f_x_chart_nears, r_f_x_chart_basePlaces, r_f_x_chart_baseFactors, r_f_x_chart_baseStarts, r_v_x_otherChart_bases, r_v_x_otherChart_thirds, r_f_x_otherChart_inner, r_f_x_otherChart_owners, r_f_x_otherChart_nears, r_f_x_otherChart_basePlaces, r_f_x_otherChart_baseFactors, r_f_x_otherChart_baseStarts, r_f_x_refusals) ∧ f_X6_moves n v_m_thirds f_m_refusals f_m_s f_m_innerOf f_m_whoseOf f_m_nearOf f_m_fromOf f_m_kept w1 = some (r, r_v_m_thirds, r_f_m_refusals, r_f_m_s, r_f_m_innerOf, r_f_m_whoseOf, r_f_m_nearOf, r_f_m_fromOf, r_f_m_kept) ∧ Rel v_x_tape_length f_x_tape_signs v_x_waters_wide v_x_waters_high v_x_waters_wells r_f_x_waters_kinds f_x_waters_wellPlaces f_x_waters_wellWorths v_x_waters_rules_mouth v_x_waters_rules_weight v_x_waters_rules_reach v_x_waters_rules_bend v_x_kept_wide v_x_kept_high v_x_kept_wells f_x_kept_kinds f_x_kept_wellPlaces f_x_kept_wellWorths v_x_kept_rules_mouth v_x_kept_rules_weight v_x_kept_rules_reach v_x_kept_rules_bend v_x_hasImage v_x_rowLength f_x_row r_f_x_refusals v_m_isImage v_m_taped v_m_rowed f_m_tape r_f_m_s f_m_image f_m_row r_f_m_refusals := by
  obtain ⟨R1, R2, R3, R4, R5, R6, R7, R8, R9, R10⟩ := id hR
  obtain ⟨w, h, nw, HS⟩ := id R4
  obtain ⟨M, hM, eM, s2, hW, s3, s4, s5, H⟩ := sea_all HS
  obtain ⟨a1, a2, a3, a4, s0, s1, hin, ho⟩ := id H
  have hwh := pr_wh a2 a4
  subst eM
  unfold f_X5_moves f_X6_moves
  rcases cell_or (n := n) H w1 with ⟨x, y, hx, hy, q1, q2, q3⟩ | ⟨q1, q2⟩
  · have hc := pr_c120 a2 a4 hx hy
    obtain ⟨⟨a, ha, ea⟩, es⟩ := hin y x hy hx
    have eat : f_X6_at n f_m_s (nI (w * y + x)) = some (nI a) := by rw [pm_at (by omega), es, ea]
    have eki : f_X4_kindOf n f_x_waters_kinds (nI (12 * y + x)) = some (nI a) := by rw [pk_kindOf (by omega), ea]
    rw [pr_b1 q1, pr_b1 q2, if_pos (nI_pos' (by omega)), if_neg (by decide), pr_b1 eki, pr_b1 (pk_coast (by omega)), pr_b1 q3, pr_b1 eat, pr_b1 q3, pr_b1 eat]
    by_cases c : 1 ≤ a ∧ a < 7
    · obtain ⟨b, th, inner, owners, nears, bp, bf, bs, e1, e2, e3⟩ := both hn H hM s2 hW s3 s4 s5 v_x_chart_bases v_x_chart_thirds f_x_chart_inner f_x_chart_owners f_x_chart_nears f_x_chart_basePlaces f_x_chart_baseFactors f_x_chart_baseStarts
      obtain ⟨innerOf, whoseOf, nearOf, fromOf, f1, f2⟩ := e3 v_m_thirds f_m_innerOf f_m_whoseOf f_m_nearOf f_m_fromOf
      have ed : f_X5_drawAsItIs n f_x_waters_kinds (nI M) v_x_waters_rules_weight v_x_waters_rules_reach v_x_waters_rules_bend v_x_chart_bases v_x_chart_thirds f_x_chart_inner f_x_chart_owners f_x_chart_nears f_x_chart_basePlaces f_x_chart_baseFactors f_x_chart_baseStarts = some (b, nI th, inner, owners, nears, bp, bf, bs) := by
        unfold f_X5_drawAsItIs
        rw [pr_b8 e1]
      obtain ⟨kept, k1, k2⟩ := keeps_both hn s0 s1 hwh f1 f2 f_m_kept
      obtain ⟨D, b', t', i', o', n', p', q', st', hD, d1, d2⟩ := moved_both hn H hM s2 hW s3 s4 s5 k2 hy hx v_x_otherChart_bases v_x_otherChart_thirds f_x_otherChart_inner f_x_otherChart_owners f_x_otherChart_nears f_x_otherChart_basePlaces f_x_otherChart_baseFactors f_x_otherChart_baseStarts
      obtain ⟨th', i2, w2, n2, f2', d3⟩ := d2 (nI th) innerOf whoseOf nearOf fromOf
      rw [if_pos c, if_neg (by decide), pr_b8 ed, pr_b10 d1, if_neg (nI_z' (by omega) (by omega)), if_neg (show ¬ nI a = (7 : Int32) from fun q => by have := (nI_eq (b := 7) (by omega) (by omega)).mp q; omega), pr_b6 k1, pr_b1 q3, pr_b7 d3]
      exact ⟨_, _, _, _, _, _, _, _, _, _, _, _, _, _, _, _, _, _, _, _, _, _, _, _, _, _, _, rfl, rfl, hR⟩
    · obtain ⟨g, g', r1, r2, r3⟩ := pr_refuse (n := n) (v := -3) 3 (by omega) (by decide) R10
      rw [if_neg c, if_pos rfl, pr_b2 r1]
      by_cases c0 : a = 0
      · rw [if_pos (by rw [c0]; rfl), pr_b2 r2]
        exact ⟨_, _, _, _, _, _, _, _, _, _, _, _, _, _, _, _, _, _, _, _, _, _, _, _, _, _, _, rfl, rfl, R1, R2, R3, R4, R5, R6, R7, R8, R9, r3⟩
      · have c7 : a = 7 := by omega
        rw [if_neg (nI_z' (by omega) c0), if_pos (by rw [c7]; rfl), pr_b2 r2]
        exact ⟨_, _, _, _, _, _, _, _, _, _, _, _, _, _, _, _, _, _, _, _, _, _, _, _, _, _, _, rfl, rfl, R1, R2, R3, R4, R5, R6, R7, R8, R9, r3⟩
  · obtain ⟨g, g', r1, r2, r3⟩ := pr_refuse (n := n) (v := -1) 1 (by omega) (by decide) R10
    rw [pr_b1 q1, pr_b1 q2, if_neg (by decide), if_pos rfl, pr_b2 r1, pr_b2 r2]
    exact ⟨_, _, _, _, _, _, _, _, _, _, _, _, _, _, _, _, _, _, _, _, _, _, _, _, _, _, _, rfl, rfl, R1, R2, R3, R4, R5, R6, R7, R8, R9, r3⟩
/-- the best so far: how much it moves, and where it lies -/
def bC (t : Option (Nat × Nat × Nat)) : Int32 := match t with
  | none => -1
  | some (_, y, x) => nI (12 * y + x)
def mC (t : Option (Nat × Nat × Nat)) : Int32 := match t with
  | none => -1
  | some (m, _, _) => nI m
def bM (w : Nat) (t : Option (Nat × Nat × Nat)) : Int32 := match t with
  | none => -9
  | some (_, y, x) => nI (w * y + x)
def mM (t : Option (Nat × Nat × Nat)) : Int32 := match t with
  | none => 0
  | some (m, _, _) => nI m
section MOS
variable {n w h M : Nat} {kinds s owners kept : Nat → Int32} {weight reach bend : Int32}
theorem most_L (hn : 200 ≤ n) (H : Cel w h kinds s) (hM : M ≤ 9) (s2 : s 2 = nI M) (hW : ∃ a : Nat, a ≤ 2 ∧ weight = nI a) (s3 : s 3 = weight) (s4 : s 4 = reach) (s5 : s 5 = bend) (hK : SameO w h owners kept) : ∀ (d i k k' : Nat) (B : Option (Nat × Nat × Nat)) (z t : Int32) (i0 o0 n0 p0 q0 st0 : Nat → Int32) (z' : Int32) (i1 w1 n1 f1 : Nat → Int32), i + d = 120 → d < k → d < k' → (∀ m y x : Nat, B = some (m, y, x) → m ≤ 120 ∧ y < h ∧ x < w) → ∃ (B' : Option (Nat × Nat × Nat)) (b th : Int32) (inner o2 nears bp bf bs : Nat → Int32) (th' : Int32) (innerOf whoseOf nearOf fromOf : Nat → Int32), f_X5_most_L10 n (nI M) weight reach bend owners k (bC B) (mC B) (nI i) kinds z t i0 o0 n0 p0 q0 st0 = some (bC B', mC B', nI 120, kinds, b, th, inner, o2, nears, bp, bf, bs) ∧ f_X6_most__L11 n kept k' (bM w B) (mM B) (nI (PC w h i)) z' s i1 w1 n1 f1 = some (bM w B', mM B', nI (w * h), th', s, innerOf, whoseOf, nearOf, fromOf) ∧ ∀ m y x : Nat, B' = some (m, y, x) → m ≤ 120 ∧ y < h ∧ x < w := by
  obtain ⟨a1, a2, a3, a4, s0, s1, hin, ho⟩ := id H
  have hwh := pr_wh a2 a4
  intro d
  induction d with
  | zero =>
    intro i k k' B z t i0 o0 n0 p0 q0 st0 z' i1 w1 n1 f1 h1 h2 h3 h4
    obtain ⟨k, rfl⟩ : ∃ q, k = q + 1 := ⟨k - 1, by omega⟩
    obtain ⟨k', rfl⟩ : ∃ q, k' = q + 1 := ⟨k' - 1, by omega⟩
    have : i = 120 := by omega
    subst this
    refine ⟨B, z, t, i0, o0, n0, p0, q0, st0, z', i1, w1, n1, f1, ?_, ?_, h4⟩
    · rw [f_X5_most_L10]
      exact if_pos (Int32.le_refl _)
    · rw [f_X6_most__L11, pr_b1 (pm_many s0 s1), PC_120 a2 a4]
      exact if_pos (Int32.le_refl _)
  | succ d ih =>
    intro i k k' B z t i0 o0 n0 p0 q0 st0 z' i1 w1 n1 f1 h1 h2 h3 h4
    obtain ⟨k, rfl⟩ : ∃ q, k = q + 1 := ⟨k - 1, by omega⟩
    rcases place_or H (show i < 120 by omega) with ⟨hy, hx, p, p', hlt, e, hk, a, ha, ea⟩ | ⟨p', e8⟩
    · obtain ⟨k', rfl⟩ : ∃ q, k' = q + 1 := ⟨k' - 1, by omega⟩
      have eat : f_X6_at n s (nI (w * (i / 12) + i % 12)) = some (nI a) := by rw [pm_at (by omega), hk, ea]
      have eki : f_X4_kindOf n kinds (nI i) = some (nI a) := by rw [pk_kindOf (by omega), ea]
      rw [f_X5_most_L10, f_X6_most__L11, pr_b1 (pm_many s0 s1), if_neg (show ¬ (120 : Int32) ≤ nI i from nI_ge (b := 120) (by omega) (by omega)), p, if_neg (show ¬ nI (w * h) ≤ nI (w * (i / 12) + i % 12) from nI_ge (by omega) (by omega)), pr_b1 eki, pr_b1 (pk_coast (by omega)), pr_b1 eat, pr_b1 eat]
      by_cases c : 1 ≤ a ∧ a < 7
      · obtain ⟨D, b', t', i', o', n', pp', q', st', hD, d1, d2⟩ := moved_both hn H hM s2 hW s3 s4 s5 hK hy hx z t i0 o0 n0 p0 q0 st0
        rw [e] at d1
        obtain ⟨th', i2, w2, n2, f2', d3⟩ := d2 z' i1 w1 n1 f1
        rw [if_pos c, if_neg (show ¬ (1 : Int32) = 0 by decide), pr_b10 d1, if_neg (nI_z' (by omega) (by omega)), if_neg (show ¬ nI a = (7 : Int32) from fun q => by have := (nI_eq (b := 7) (by omega) (by omega)).mp q; omega), pr_b7 d3]
        have hnew := ih (i + 1) k k' (some (D, i / 12, i % 12)) b' t' i' o' n' pp' q' st' th' i2 w2 n2 f2' (by omega) (by omega) (by omega) (fun m y x q => by
          injection q with q
          injection q with q1 q
          injection q with q2 q3
          subst q1 q2 q3
          exact ⟨hD, hy, hx⟩)
        have ebc : bC (some (D, i / 12, i % 12)) = nI i := by
          show nI (12 * (i / 12) + i % 12) = _
          rw [e]
        have ebm : bM w (some (D, i / 12, i % 12)) = nI (w * (i / 12) + i % 12) := rfl
        have emc : mC (some (D, i / 12, i % 12)) = nI D := rfl
        have emm : mM (some (D, i / 12, i % 12)) = nI D := rfl
        rw [p', ebc, ebm, emc, emm] at hnew
        have hold := ih (i + 1) k k' B b' t' i' o' n' pp' q' st' th' i2 w2 n2 f2' (by omega) (by omega) (by omega) h4
        rw [p'] at hold
        cases B with
        | none =>
          have x1 : bC none = -1 := rfl
          have x2 : mC none = -1 := rfl
          have x3 : bM w none = -9 := rfl
          have x4 : mM none = 0 := rfl
          rw [x2, x3, if_neg (show ¬ nI D ≤ (-1 : Int32) from fun q => by
            have := Int32.le_iff_toInt_le.mp q
            rw [nI_toInt (by omega), show (-1 : Int32).toInt = -1 by decide] at this
            omega), if_pos (by decide), pr_b11 rfl, pr_b8 rfl, pr_lt, pr_lt, nI_1, nI_1]
          exact hnew
        | some q =>
          obtain ⟨m, y, x⟩ := q
          obtain ⟨g1, g2, g3⟩ := h4 m y x rfl
          have hcc := pr_c120 a2 a4 g3 g2
          have x2 : mC (some (m, y, x)) = nI m := rfl
          have x3 : bM w (some (m, y, x)) = nI (w * y + x) := rfl
          have x4 : mM (some (m, y, x)) = nI m := rfl
          rw [x2, x3, x4] at hold ⊢
          rw [if_neg (show ¬ nI (w * y + x) < 0 from nI_pos (by omega))]
          by_cases cm : D ≤ m
          · rw [if_pos (nI_le cm (by omega)), if_neg (nI_nlt cm (by omega)), pr_b11 rfl, pr_b8 rfl, pr_lt, pr_lt, nI_1, nI_1]
            exact hold
          · rw [if_neg (nI_ge (by omega) (by omega)), if_pos (nI_lt (by omega) (by omega)), pr_b11 rfl, pr_b8 rfl, pr_lt, pr_lt, nI_1, nI_1]
            exact hnew
      · have hold := ih (i + 1) k k' B z t i0 o0 n0 p0 q0 st0 z' i1 w1 n1 f1 (by omega) (by omega) (by omega) h4
        rw [p'] at hold
        rw [if_neg c, if_pos (show (0 : Int32) = 0 from rfl), pr_b11 rfl]
        by_cases c0 : a = 0
        · rw [if_pos (show nI a = (0 : Int32) by rw [c0]; rfl), pr_b8 rfl, pr_lt, pr_lt, nI_1, nI_1]
          exact hold
        · have c7 : a = 7 := by omega
          rw [if_neg (nI_z' (by omega) c0), if_pos (show nI a = (7 : Int32) by rw [c7]; rfl), pr_b8 rfl, pr_lt, pr_lt, nI_1, nI_1]
          exact hold
    · have hold := ih (i + 1) k k' B z t i0 o0 n0 p0 q0 st0 z' i1 w1 n1 f1 (by omega) (by omega) (by omega) h4
      rw [p'] at hold
      have eki : f_X4_kindOf n kinds (nI i) = some (nI 8) := by rw [pk_kindOf (by omega), e8]; rfl
      rw [f_X5_most_L10, if_neg (show ¬ (120 : Int32) ≤ nI i from nI_ge (b := 120) (by omega) (by omega)), pr_b1 eki, pr_b1 (pk_coast (by omega)), if_neg (show ¬ (1 ≤ 8 ∧ 8 < 7) by omega), if_pos (show (0 : Int32) = 0 from rfl), pr_b11 rfl, pr_lt, nI_1]
      exact hold
end MOS
theorem st_most {n : Nat} (hn : 200 ≤ n) {v_x_tape_length : Int32} {f_x_tape_signs : (Nat → Int32)} {v_x_waters_wide : Int32} {v_x_waters_high : Int32} {v_x_waters_wells : Int32} {f_x_waters_kinds : (Nat → Int32)} {f_x_waters_wellPlaces : (Nat → Int32)} {f_x_waters_wellWorths : (Nat → Int32)} {v_x_waters_rules_mouth : Int32} {v_x_waters_rules_weight : Int32} {v_x_waters_rules_reach : Int32} {v_x_waters_rules_bend : Int32} {v_x_kept_wide : Int32} {v_x_kept_high : Int32} {v_x_kept_wells : Int32} {f_x_kept_kinds : (Nat → Int32)} {f_x_kept_wellPlaces : (Nat → Int32)} {f_x_kept_wellWorths : (Nat → Int32)} {v_x_kept_rules_mouth : Int32} {v_x_kept_rules_weight : Int32} {v_x_kept_rules_reach : Int32} {v_x_kept_rules_bend : Int32} {v_x_hasImage : Int32} {v_x_rowLength : Int32} {f_x_row : (Nat → Int32)} {f_x_refusals : (Nat → Int32)} {v_m_isImage : Int32} {v_m_taped : Int32} {v_m_rowed : Int32} {f_m_tape : (Nat → Int32)} {f_m_s : (Nat → Int32)} {f_m_image : (Nat → Int32)} {f_m_row : (Nat → Int32)} {f_m_refusals : (Nat → Int32)} (v_x_chart_bases : Int32) (v_x_chart_thirds : Int32) (f_x_chart_inner : (Nat → Int32)) (f_x_chart_owners : (Nat → Int32)) (f_x_chart_nears : (Nat → Int32)) (f_x_chart_basePlaces : (Nat → Int32)) (f_x_chart_baseFactors : (Nat → Int32)) (f_x_chart_baseStarts : (Nat → Int32)) (v_x_otherChart_bases : Int32) (v_x_otherChart_thirds : Int32) (f_x_otherChart_inner : (Nat → Int32)) (f_x_otherChart_owners : (Nat → Int32)) (f_x_otherChart_nears : (Nat → Int32)) (f_x_otherChart_basePlaces : (Nat → Int32)) (f_x_otherChart_baseFactors : (Nat → Int32)) (f_x_otherChart_baseStarts : (Nat → Int32)) (v_m_thirds : Int32) (f_m_innerOf : (Nat → Int32)) (f_m_whoseOf : (Nat → Int32)) (f_m_nearOf : (Nat → Int32)) (f_m_fromOf : (Nat → Int32)) (f_m_kept : (Nat → Int32)) (hR : Rel v_x_tape_length f_x_tape_signs v_x_waters_wide v_x_waters_high v_x_waters_wells f_x_waters_kinds f_x_waters_wellPlaces f_x_waters_wellWorths v_x_waters_rules_mouth v_x_waters_rules_weight v_x_waters_rules_reach v_x_waters_rules_bend v_x_kept_wide v_x_kept_high v_x_kept_wells f_x_kept_kinds f_x_kept_wellPlaces f_x_kept_wellWorths v_x_kept_rules_mouth v_x_kept_rules_weight v_x_kept_rules_reach v_x_kept_rules_bend v_x_hasImage v_x_rowLength f_x_row f_x_refusals v_m_isImage v_m_taped v_m_rowed f_m_tape f_m_s f_m_image f_m_row f_m_refusals) : ∃ (r : Int32) (r_f_x_waters_kinds : (Nat → Int32)) (r_v_x_chart_bases : Int32) (r_v_x_chart_thirds : Int32) (r_f_x_chart_inner : (Nat → Int32)) (r_f_x_chart_owners : (Nat → Int32)) (r_f_x_chart_nears : (Nat → Int32)) (r_f_x_chart_basePlaces : (Nat → Int32)) (r_f_x_chart_baseFactors : (Nat → Int32)) (r_f_x_chart_baseStarts : (Nat → Int32)) (r_v_x_otherChart_bases : Int32) (r_v_x_otherChart_thirds : Int32) (r_f_x_otherChart_inner : (Nat → Int32)) (r_f_x_otherChart_owners : (Nat → Int32)) (r_f_x_otherChart_nears : (Nat → Int32)) (r_f_x_otherChart_basePlaces : (Nat → Int32)) (r_f_x_otherChart_baseFactors : (Nat → Int32)) (r_f_x_otherChart_baseStarts : (Nat → Int32)) (r_v_m_thirds : Int32) (r_f_m_s : (Nat → Int32)) (r_f_m_innerOf : (Nat → Int32)) (r_f_m_whoseOf : (Nat → Int32)) (r_f_m_nearOf : (Nat → Int32)) (r_f_m_fromOf : (Nat → Int32)) (r_f_m_kept : (Nat → Int32)), f_X5_most n f_x_waters_kinds v_x_waters_rules_mouth v_x_waters_rules_weight v_x_waters_rules_reach v_x_waters_rules_bend v_x_chart_bases v_x_chart_thirds f_x_chart_inner f_x_chart_owners f_x_chart_nears f_x_chart_basePlaces f_x_chart_baseFactors f_x_chart_baseStarts v_x_otherChart_bases v_x_otherChart_thirds f_x_otherChart_inner f_x_otherChart_owners f_x_otherChart_nears f_x_otherChart_basePlaces f_x_otherChart_baseFactors f_x_otherChart_baseStarts = some (r, r_f_x_waters_kinds, r_v_x_chart_bases, r_v_x_chart_thirds, r_f_x_chart_inner, r_f_x_chart_owners, r_f_x_chart_nears, r_f_x_chart_basePlaces, r_f_x_chart_baseFactors, r_f_x_chart_baseStarts, r_v_x_otherChart_bases, r_v_x_otherChart_thirds, r_f_x_otherChart_inner, r_f_x_otherChart_owners, r_f_x_otherChart_nears, r_f_x_otherChart_basePlaces, r_f_x_otherChart_baseFactors, r_f_x_otherChart_baseStarts) ∧ f_X6_most_ n v_m_thirds f_m_s f_m_innerOf f_m_whoseOf f_m_nearOf f_m_fromOf f_m_kept = some (r, r_v_m_thirds, r_f_m_s, r_f_m_innerOf, r_f_m_whoseOf, r_f_m_nearOf, r_f_m_fromOf, r_f_m_kept) ∧ Rel v_x_tape_length f_x_tape_signs v_x_waters_wide v_x_waters_high v_x_waters_wells r_f_x_waters_kinds f_x_waters_wellPlaces f_x_waters_wellWorths v_x_waters_rules_mouth v_x_waters_rules_weight v_x_waters_rules_reach v_x_waters_rules_bend v_x_kept_wide v_x_kept_high v_x_kept_wells f_x_kept_kinds f_x_kept_wellPlaces f_x_kept_wellWorths v_x_kept_rules_mouth v_x_kept_rules_weight v_x_kept_rules_reach v_x_kept_rules_bend v_x_hasImage v_x_rowLength f_x_row f_x_refusals v_m_isImage v_m_taped v_m_rowed f_m_tape r_f_m_s f_m_image f_m_row f_m_refusals := by
  obtain ⟨R1, R2, R3, R4, R5, R6, R7, R8, R9, R10⟩ := id hR
  obtain ⟨w, h, nw, HS⟩ := id R4
  obtain ⟨M, hM, eM, s2, hW, s3, s4, s5, H⟩ := sea_all HS
  obtain ⟨a1, a2, a3, a4, s0, s1, hin, ho⟩ := id H
  have hwh := pr_wh a2 a4
  subst eM
  obtain ⟨b, th, inner, owners, nears, bp, bf, bs, e1, e2, e3⟩ := both hn H hM s2 hW s3 s4 s5 v_x_chart_bases v_x_chart_thirds f_x_chart_inner f_x_chart_owners f_x_chart_nears f_x_chart_basePlaces f_x_chart_baseFactors f_x_chart_baseStarts
  obtain ⟨innerOf, whoseOf, nearOf, fromOf, f1, f2⟩ := e3 v_m_thirds f_m_innerOf f_m_whoseOf f_m_nearOf f_m_fromOf
  have ed : f_X5_drawAsItIs n f_x_waters_kinds (nI M) v_x_waters_rules_weight v_x_waters_rules_reach v_x_waters_rules_bend v_x_chart_bases v_x_chart_thirds f_x_chart_inner f_x_chart_owners f_x_chart_nears f_x_chart_basePlaces f_x_chart_baseFactors f_x_chart_baseStarts = some (b, nI th, inner, owners, nears, bp, bf, bs) := by
    unfold f_X5_drawAsItIs
    rw [pr_b8 e1]
  obtain ⟨kept, k1, k2⟩ := keeps_both hn s0 s1 hwh f1 f2 f_m_kept
  obtain ⟨B, b', t', i', o', n', p', q', st', th', i2, w2, n2, f2', d1, d2, d3⟩ := most_L (n := n) hn H hM s2 hW s3 s4 s5 k2 120 0 n n none v_x_otherChart_bases v_x_otherChart_thirds f_x_otherChart_inner f_x_otherChart_owners f_x_otherChart_nears f_x_otherChart_basePlaces f_x_otherChart_baseFactors f_x_otherChart_baseStarts (nI th) innerOf whoseOf nearOf fromOf (by omega) (by omega) (by omega) (fun m y x q => by cases q)
  have d1' : f_X5_most_L10 n (nI M) v_x_waters_rules_weight v_x_waters_rules_reach v_x_waters_rules_bend owners n (-1) (-1) 0 f_x_waters_kinds v_x_otherChart_bases v_x_otherChart_thirds f_x_otherChart_inner f_x_otherChart_owners f_x_otherChart_nears f_x_otherChart_basePlaces f_x_otherChart_baseFactors f_x_otherChart_baseStarts = _ := d1
  have d2' : f_X6_most__L11 n kept n (-9) 0 0 (nI th) f_m_s innerOf whoseOf nearOf fromOf = _ := d2
  unfold f_X5_most f_X6_most_
  rw [pr_b8 ed, pr_b12 d1', pr_b6 k1, pr_b9 d2']
  cases B with
  | none =>
    rw [show bC none = -1 from rfl, show bM w none = -9 from rfl, pr_b1 (pk_toldN (by decide)), if_neg (by decide)]
    exact ⟨_, _, _, _, _, _, _, _, _, _, _, _, _, _, _, _, _, _, _, _, _, _, _, _, _, rfl, rfl, hR⟩
  | some q =>
    obtain ⟨m, y, x⟩ := q
    obtain ⟨g1, g2, g3⟩ := d3 m y x rfl
    have hcc := pr_c120 a2 a4 g3 g2
    rw [show bC (some (m, y, x)) = nI (12 * y + x) from rfl, show bM w (some (m, y, x)) = nI (w * y + x) from rfl, pr_b1 (pk_told (by omega) (by omega)), if_pos (nI_pos' (by omega)), pr_b1 (pm_told (h := h) s0 a1 a2 a4 g3 g2)]
    exact ⟨_, _, _, _, _, _, _, _, _, _, _, _, _, _, _, _, _, _, _, _, _, _, _, _, _, rfl, rfl, hR⟩
