/-! the pure side, 24: claims, claimed, meet -/
/-- who claims a cell -/
def CL (o1 o2 : Nat → Int32) (j : Nat) : Int32 := (if o1 j = (0 : Int32) then (1 : Int32) else 0) + (if o2 j = (1 : Int32) then (2 : Int32) else 0)
theorem pk_claimOn {n : Nat} {o1 o2 : Nat → Int32} {j : Nat} (hj : j < 120) : f_X5_claimOn n o1 o2 (nI j) = some (CL o1 o2 j) := by
  unfold f_X5_claimOn
  rw [pr_b1 (pk_ownerOf hj), pr_lt, pr_b1 (pk_ownerOf hj), pr_lt]
  rfl
section CLA
variable {n w h : Nat} {s : Nat → Int32}
theorem clz_L (h0 : s 0 = nI w) (h1' : s 1 = nI h) (hwh : w * h ≤ 120) : ∀ (d i k : Nat) (g : Nat → Int32), i + d = w * h → d < k → (∀ j : Nat, j < i → g j = 0) → ∃ g', f_X6_findClaims_L2 n s k (nI i) g = some (nI (w * h), g') ∧ ∀ j : Nat, j < w * h → g' j = 0 := by
  intro d
  induction d with
  | zero =>
    intro i k g h1 h2 h3
    obtain ⟨k, rfl⟩ : ∃ q, k = q + 1 := ⟨k - 1, by omega⟩
    have : i = w * h := by omega
    subst this
    refine ⟨g, ?_, h3⟩
    rw [f_X6_findClaims_L2, pr_b1 (pm_many h0 h1')]
    exact if_pos (Int32.le_refl _)
  | succ d ih =>
    intro i k g h1 h2 h3
    obtain ⟨k, rfl⟩ : ∃ q, k = q + 1 := ⟨k - 1, by omega⟩
    rw [f_X6_findClaims_L2, pr_b1 (pm_many h0 h1'), if_neg (nI_ge (by omega) (by omega)), pr_wr (by omega) (by omega), pr_lt, nI_1]
    refine ih (i + 1) k _ (by omega) (by omega) fun j hj => ?_
    by_cases e : j = i
    · subst e
      exact pk_us
    · rw [pk_un e]
      exact h3 j (by omega)
theorem cla_L {whoseOf : Nat → Int32} {v : Int32} (h0 : s 0 = nI w) (h1' : s 1 = nI h) (hwh : w * h ≤ 120) : ∀ (d i k : Nat) (g : Nat → Int32), i + d = w * h → d < k → ∃ g', f_X6_findClaims_L41 n s whoseOf v k (nI i) g = some (nI (w * h), g') ∧ (∀ j : Nat, j < i → g' j = g j) ∧ ∀ j : Nat, i ≤ j → j < w * h → g' j = g j + (if whoseOf j = v then (1 : Int32) + v else 0) := by
  intro d
  induction d with
  | zero =>
    intro i k g h1 h2
    obtain ⟨k, rfl⟩ : ∃ q, k = q + 1 := ⟨k - 1, by omega⟩
    have : i = w * h := by omega
    subst this
    refine ⟨g, ?_, fun _ _ => rfl, fun j q1 q2 => by omega⟩
    rw [f_X6_findClaims_L41, pr_b1 (pm_many h0 h1')]
    exact if_pos (Int32.le_refl _)
  | succ d ih =>
    intro i k g h1 h2
    obtain ⟨k, rfl⟩ : ∃ q, k = q + 1 := ⟨k - 1, by omega⟩
    rw [f_X6_findClaims_L41, pr_b1 (pm_many h0 h1'), if_neg (nI_ge (by omega) (by omega)), pr_rd (by omega) (by omega), pr_rd (by omega) (by omega), pr_lt, pr_wr (by omega) (by omega), pr_lt, nI_1]
    obtain ⟨g', e1, e2, e3⟩ := ih (i + 1) k (upd g i (g i + (if whoseOf i = v then (1 : Int32) + v else 0))) (by omega) (by omega)
    refine ⟨g', e1, fun j hj => ?_, fun j q1 q2 => ?_⟩
    · rw [e2 j (by omega), pk_un (by omega)]
    · by_cases e : j = i
      · subst e
        rw [e2 _ (by omega), pk_us]
      · rw [e3 j (by omega) q2, pk_un e]
theorem claims_both {nw M : Nat} {wide high wells : Int32} {kinds wp ww : Nat → Int32} {weight reach bend : Int32} (hn : 200 ≤ n) (H : SeaAt w h nw wide high wells kinds wp ww (nI M) weight reach bend s) (hM : M ≤ 9) (x5 x6 x7 x8 z t : Int32) (i0 o0 n0 p0 q0 st0 : Nat → Int32) (z2 t2 : Int32) (i2 o2 n2 p2 q2 st2 : Nat → Int32) : ∃ (y5 y6 y7 y8 b th : Int32) (inner owners nears bp bf bs : Nat → Int32) (b2 th2 : Int32) (inner2 owners2 nears2 bp2 bf2 bs2 : Nat → Int32), f_X5_drawClaims n wells kinds wp ww (nI M) reach bend x5 x6 x7 x8 z t i0 o0 n0 p0 q0 st0 z2 t2 i2 o2 n2 p2 q2 st2 = some (y5, y6, y7, y8, b, th, inner, owners, nears, bp, bf, bs, b2, th2, inner2, owners2, nears2, bp2, bf2, bs2) ∧ (∀ y x : Nat, y < 10 → x < 12 → ¬ (y < h ∧ x < w) → CL owners owners2 (12 * y + x) = 0) ∧ ∀ (z' : Int32) (i1 w1 n1 f1 c1 : Nat → Int32), ∃ th' innerOf whoseOf nearOf fromOf claimOf, f_X6_findClaims n z' s i1 w1 n1 f1 c1 = some (th', s, innerOf, whoseOf, nearOf, fromOf, claimOf) ∧ ∀ y x : Nat, y < h → x < w → claimOf (w * y + x) = CL owners owners2 (12 * y + x) := by
  obtain ⟨M', hM', eM', s2', hW, s3, s4, s5, HC⟩ := sea_all H
  have s2 : s 2 = nI M := s2'.trans eM'.symm
  obtain ⟨a1, a2, a3, a4, s0, s1, hin, ho⟩ := id HC
  have hwh := pr_wh a2 a4
  obtain ⟨k0, y5, y6, y7, y8, b, th, inner, owners, nears, bp, bf, bs, hk0, e1, e2⟩ := best_both (l := 0) hn H hM (by omega) x5 x6 x7 x8 z t i0 o0 n0 p0 q0 st0
  have e1' : f_X5_bestOption n wells kinds wp ww (nI M) reach bend x5 x6 x7 x8 z t i0 o0 n0 p0 q0 st0 (0 : Int32) = _ := e1
  obtain ⟨k1, Y5, Y6, Y7, Y8, B, TH, INNER, OWNERS, NEARS, BP, BF, BS, hk1, g1, g2⟩ := best_both (l := 1) hn H hM (by omega) y5 y6 y7 y8 b th inner owners nears bp bf bs
  have g1' : f_X5_bestOption n wells kinds wp ww (nI M) reach bend y5 y6 y7 y8 b th inner owners nears bp bf bs (1 : Int32) = _ := g1
  obtain ⟨b3, th3, inner3, owners3, nears3, bp3, bf3, bs3, d1, d2⟩ := opt_both (k := k0) hn HC hM s2 s4 s5 hk0 B TH INNER OWNERS NEARS BP BF BS
  obtain ⟨b4, th4, inner4, owners4, nears4, bp4, bf4, bs4, d3, d4⟩ := opt_both (k := k1) hn HC hM s2 s4 s5 hk1 z2 t2 i2 o2 n2 p2 q2 st2
  have hO3 : ∀ y x : Nat, y < 10 → x < 12 → ¬ (y < h ∧ x < w) → owners3 (12 * y + x) = -9 := by
    obtain ⟨_, _, _, _, _, _, f2⟩ := d2 0 i0 i0 i0 i0
    exact f2.2
  have hO4 : ∀ y x : Nat, y < 10 → x < 12 → ¬ (y < h ∧ x < w) → owners4 (12 * y + x) = -9 := by
    obtain ⟨_, _, _, _, _, _, f2⟩ := d4 0 i0 i0 i0 i0
    exact f2.2
  refine ⟨nI (oM M k1), nI (k1 / 4), oR reach k1, bend, b3, th3, inner3, owners3, nears3, bp3, bf3, bs3, b4, th4, inner4, owners4, nears4, bp4, bf4, bs4, ?_, fun y x hy hx hno => ?_, fun z' i1 w1 n1 f1 c1 => ?_⟩
  · unfold f_X5_drawClaims
    rw [pr_b13 e1', pr_b13 g1', pr_b4 (pk_become hk0 _ _ _ _ _ _), pr_b8 d1, pr_b4 (pk_become hk1 _ _ _ _ _ _), pr_b8 d3]
  · unfold CL
    rw [hO3 y x hy hx hno, hO4 y x hy hx hno]
    decide
  · obtain ⟨c2, z1, z2'⟩ := clz_L (n := n) (s := s) s0 s1 hwh (w * h) 0 n c1 (by omega) (by omega) (fun j hj => by omega)
    have z1' : f_X6_findClaims_L2 n s n (0 : Int32) c1 = _ := z1
    obtain ⟨m1, m2, m3, m4, m5, r1⟩ := e2 z' i1 w1 n1 f1
    have r1' : f_X6_chosenOf n z' s i1 w1 n1 f1 (0 : Int32) = _ := r1
    obtain ⟨u1, u2, u3, u4, u5, r2, r3⟩ := d2 m1 m2 m3 m4 m5
    obtain ⟨c3, v1, _, v3⟩ := cla_L (n := n) (s := s) (whoseOf := u3) (v := 0) s0 s1 hwh (w * h) 0 n c2 (by omega) (by omega)
    have v1' : f_X6_findClaims_L41 n s u3 0 n (0 : Int32) c2 = _ := v1
    obtain ⟨M1, M2, M3, M4, M5, t1⟩ := g2 u1 u2 u3 u4 u5
    have t1' : f_X6_chosenOf n u1 s u2 u3 u4 u5 (1 : Int32) = _ := t1
    obtain ⟨U1, U2, U3, U4, U5, t2', t3⟩ := d4 M1 M2 M3 M4 M5
    obtain ⟨c4, V1, _, V3⟩ := cla_L (n := n) (s := s) (whoseOf := U3) (v := 1) s0 s1 hwh (w * h) 0 n c3 (by omega) (by omega)
    have V1' : f_X6_findClaims_L41 n s U3 1 n (0 : Int32) c3 = _ := V1
    refine ⟨U1, U2, U3, U4, U5, c4, ?_, fun y x hy hx => ?_⟩
    · have hl : ∀ k : Nat, f_X6_findClaims_L25 n (k + 3) (0 : Int32) z' s i1 w1 n1 f1 c2 = some ((2 : Int32), U1, s, U2, U3, U4, U5, c4) := fun k => by
        rw [f_X6_findClaims_L25, if_neg (by decide), pr_b7 r1', pr_b6 r2, pr_b2 v1', pr_lt, show (0 : Int32) + 1 = 1 from rfl, f_X6_findClaims_L25, if_neg (by decide), pr_b7 t1', pr_b6 t2', pr_b2 V1', pr_lt, show (1 : Int32) + 1 = 2 from rfl, f_X6_findClaims_L25, if_pos (Int32.le_refl _)]
      have hl' := hl (n - 3)
      rw [show n - 3 + 3 = n by omega] at hl'
      unfold f_X6_findClaims
      rw [pr_b2 z1', pr_b8 hl']
    · have hj := pr_wy hx hy
      rw [V3 _ (by omega) hj, v3 _ (by omega) hj, z2' _ hj, r3.1 y x hy hx, t3.1 y x hy hx]
      unfold CL
      rw [Int32.zero_add, show (1 : Int32) + 0 = 1 from rfl, show (1 : Int32) + 1 = 2 from rfl]
theorem pk_claims_L {o1 o2 : Nat → Int32} : ∀ (d i k : Nat), i + d = 120 → d < k → f_X5_claims_L8 n o1 o2 k (nI (ct (fun j => decide (CL o1 o2 j = 3)) i)) (nI i) = some (nI (ct (fun j => decide (CL o1 o2 j = 3)) 120), nI 120) := by
  intro d
  induction d with
  | zero =>
    intro i k h1 h2
    obtain ⟨k, rfl⟩ : ∃ q, k = q + 1 := ⟨k - 1, by omega⟩
    have : i = 120 := by omega
    subst this
    rw [f_X5_claims_L8]
    exact if_pos (Int32.le_refl _)
  | succ d ih =>
    intro i k h1 h2
    obtain ⟨k, rfl⟩ : ∃ q, k = q + 1 := ⟨k - 1, by omega⟩
    have := ih (i + 1) k (by omega) (by omega)
    rw [ct_succ] at this
    rw [f_X5_claims_L8, if_neg (show ¬ (120 : Int32) ≤ nI i from nI_ge (b := 120) (by omega) (by omega)), pr_b1 (pk_claimOn (by omega))]
    by_cases c : CL o1 o2 i = 3
    · rw [if_pos (decide_eq_true c)] at this
      rw [if_pos c, pr_lt, pr_b1 rfl, pr_lt, nI_1, nI_1]
      exact this
    · rw [if_neg (fun q => c (of_decide_eq_true q))] at this
      rw [if_neg c, pr_b1 rfl, pr_lt, nI_1]
      exact this
theorem pm_claims_L {g : Nat → Int32} (h0 : s 0 = nI w) (h1' : s 1 = nI h) (hwh : w * h ≤ 120) : ∀ (d i k : Nat), i + d = w * h → d < k → f_X6_claims_L8 n s g k (nI (ct (fun j => decide (g j = 3)) i)) (nI i) = some (nI (ct (fun j => decide (g j = 3)) (w * h)), nI (w * h)) := by
  intro d
  induction d with
  | zero =>
    intro i k h1 h2
    obtain ⟨k, rfl⟩ : ∃ q, k = q + 1 := ⟨k - 1, by omega⟩
    have : i = w * h := by omega
    subst this
    rw [f_X6_claims_L8, pr_b1 (pm_many h0 h1')]
    exact if_pos (Int32.le_refl _)
  | succ d ih =>
    intro i k h1 h2
    obtain ⟨k, rfl⟩ : ∃ q, k = q + 1 := ⟨k - 1, by omega⟩
    have := ih (i + 1) k (by omega) (by omega)
    rw [ct_succ] at this
    rw [f_X6_claims_L8, pr_b1 (pm_many h0 h1'), if_neg (nI_ge (by omega) (by omega)), pr_rd (by omega) (by omega), pr_lt, pr_lt, pr_lt]
    by_cases c : g i = 3
    · rw [if_pos (decide_eq_true c)] at this
      rw [if_pos c, nI_1, nI_1]
      exact this
    · rw [if_neg (fun q => c (of_decide_eq_true q))] at this
      rw [if_neg c, Int32.add_zero, nI_1]
      exact this
end CLA
theorem st_claims {n : Nat} (hn : 200 ≤ n) {v_x_tape_length : Int32} {f_x_tape_signs : (Nat → Int32)} {v_x_waters_wide : Int32} {v_x_waters_high : Int32} {v_x_waters_wells : Int32} {f_x_waters_kinds : (Nat → Int32)} {f_x_waters_wellPlaces : (Nat → Int32)} {f_x_waters_wellWorths : (Nat → Int32)} {v_x_waters_rules_mouth : Int32} {v_x_waters_rules_weight : Int32} {v_x_waters_rules_reach : Int32} {v_x_waters_rules_bend : Int32} {v_x_kept_wide : Int32} {v_x_kept_high : Int32} {v_x_kept_wells : Int32} {f_x_kept_kinds : (Nat → Int32)} {f_x_kept_wellPlaces : (Nat → Int32)} {f_x_kept_wellWorths : (Nat → Int32)} {v_x_kept_rules_mouth : Int32} {v_x_kept_rules_weight : Int32} {v_x_kept_rules_reach : Int32} {v_x_kept_rules_bend : Int32} {v_x_hasImage : Int32} {v_x_rowLength : Int32} {f_x_row : (Nat → Int32)} {f_x_refusals : (Nat → Int32)} {v_m_isImage : Int32} {v_m_taped : Int32} {v_m_rowed : Int32} {f_m_tape : (Nat → Int32)} {f_m_s : (Nat → Int32)} {f_m_image : (Nat → Int32)} {f_m_row : (Nat → Int32)} {f_m_refusals : (Nat → Int32)} (v_x_option_mouth : Int32) (v_x_option_weight : Int32) (v_x_option_reach : Int32) (v_x_option_bend : Int32) (v_x_chart_bases : Int32) (v_x_chart_thirds : Int32) (f_x_chart_inner : (Nat → Int32)) (f_x_chart_owners : (Nat → Int32)) (f_x_chart_nears : (Nat → Int32)) (f_x_chart_basePlaces : (Nat → Int32)) (f_x_chart_baseFactors : (Nat → Int32)) (f_x_chart_baseStarts : (Nat → Int32)) (v_x_otherChart_bases : Int32) (v_x_otherChart_thirds : Int32) (f_x_otherChart_inner : (Nat → Int32)) (f_x_otherChart_owners : (Nat → Int32)) (f_x_otherChart_nears : (Nat → Int32)) (f_x_otherChart_basePlaces : (Nat → Int32)) (f_x_otherChart_baseFactors : (Nat → Int32)) (f_x_otherChart_baseStarts : (Nat → Int32)) (v_m_thirds : Int32) (f_m_innerOf : (Nat → Int32)) (f_m_whoseOf : (Nat → Int32)) (f_m_nearOf : (Nat → Int32)) (f_m_fromOf : (Nat → Int32)) (f_m_claimOf : (Nat → Int32)) (hR : Rel v_x_tape_length f_x_tape_signs v_x_waters_wide v_x_waters_high v_x_waters_wells f_x_waters_kinds f_x_waters_wellPlaces f_x_waters_wellWorths v_x_waters_rules_mouth v_x_waters_rules_weight v_x_waters_rules_reach v_x_waters_rules_bend v_x_kept_wide v_x_kept_high v_x_kept_wells f_x_kept_kinds f_x_kept_wellPlaces f_x_kept_wellWorths v_x_kept_rules_mouth v_x_kept_rules_weight v_x_kept_rules_reach v_x_kept_rules_bend v_x_hasImage v_x_rowLength f_x_row f_x_refusals v_m_isImage v_m_taped v_m_rowed f_m_tape f_m_s f_m_image f_m_row f_m_refusals) : ∃ (r : Int32) (r_v_x_option_mouth : Int32) (r_v_x_option_weight : Int32) (r_v_x_option_reach : Int32) (r_v_x_option_bend : Int32) (r_v_x_chart_bases : Int32) (r_v_x_chart_thirds : Int32) (r_f_x_chart_inner : (Nat → Int32)) (r_f_x_chart_owners : (Nat → Int32)) (r_f_x_chart_nears : (Nat → Int32)) (r_f_x_chart_basePlaces : (Nat → Int32)) (r_f_x_chart_baseFactors : (Nat → Int32)) (r_f_x_chart_baseStarts : (Nat → Int32)) (r_v_x_otherChart_bases : Int32) (r_v_x_otherChart_thirds : Int32) (r_f_x_otherChart_inner : (Nat → Int32)) (r_f_x_otherChart_owners : (Nat → Int32)) (r_f_x_otherChart_nears : (Nat → Int32)) (r_f_x_otherChart_basePlaces : (Nat → Int32)) (r_f_x_otherChart_baseFactors : (Nat → Int32)) (r_f_x_otherChart_baseStarts : (Nat → Int32)) (r_v_m_thirds : Int32) (r_f_m_s : (Nat → Int32)) (r_f_m_innerOf : (Nat → Int32)) (r_f_m_whoseOf : (Nat → Int32)) (r_f_m_nearOf : (Nat → Int32)) (r_f_m_fromOf : (Nat → Int32)) (r_f_m_claimOf : (Nat → Int32)), f_X5_claims n v_x_waters_wells f_x_waters_kinds f_x_waters_wellPlaces f_x_waters_wellWorths v_x_waters_rules_mouth v_x_waters_rules_reach v_x_waters_rules_bend v_x_option_mouth v_x_option_weight v_x_option_reach v_x_option_bend v_x_chart_bases v_x_chart_thirds f_x_chart_inner f_x_chart_owners f_x_chart_nears f_x_chart_basePlaces f_x_chart_baseFactors f_x_chart_baseStarts v_x_otherChart_bases v_x_otherChart_thirds f_x_otherChart_inner f_x_otherChart_owners f_x_otherChart_nears f_x_otherChart_basePlaces f_x_otherChart_baseFactors f_x_otherChart_baseStarts = some (r, r_v_x_option_mouth, r_v_x_option_weight, r_v_x_option_reach, r_v_x_option_bend, r_v_x_chart_bases, r_v_x_chart_thirds, r_f_x_chart_inner, r_f_x_chart_owners, r_f_x_chart_nears, r_f_x_chart_basePlaces, r_f_x_chart_baseFactors, r_f_x_chart_baseStarts, r_v_x_otherChart_bases, r_v_x_otherChart_thirds, r_f_x_otherChart_inner, r_f_x_otherChart_owners, r_f_x_otherChart_nears, r_f_x_otherChart_basePlaces, r_f_x_otherChart_baseFactors, r_f_x_otherChart_baseStarts) ∧ f_X6_claims n v_m_thirds f_m_s f_m_innerOf f_m_whoseOf f_m_nearOf f_m_fromOf f_m_claimOf = some (r, r_v_m_thirds, r_f_m_s, r_f_m_innerOf, r_f_m_whoseOf, r_f_m_nearOf, r_f_m_fromOf, r_f_m_claimOf) ∧ Rel v_x_tape_length f_x_tape_signs v_x_waters_wide v_x_waters_high v_x_waters_wells f_x_waters_kinds f_x_waters_wellPlaces f_x_waters_wellWorths v_x_waters_rules_mouth v_x_waters_rules_weight v_x_waters_rules_reach v_x_waters_rules_bend v_x_kept_wide v_x_kept_high v_x_kept_wells f_x_kept_kinds f_x_kept_wellPlaces f_x_kept_wellWorths v_x_kept_rules_mouth v_x_kept_rules_weight v_x_kept_rules_reach v_x_kept_rules_bend v_x_hasImage v_x_rowLength f_x_row f_x_refusals v_m_isImage v_m_taped v_m_rowed f_m_tape r_f_m_s f_m_image f_m_row f_m_refusals := by
  obtain ⟨R1, R2, R3, R4, R5, R6, R7, R8, R9, R10⟩ := id hR
  obtain ⟨w, h, nw, HS⟩ := id R4
  obtain ⟨M, hM, eM, s2, hW, s3, s4, s5, H⟩ := sea_all HS
  obtain ⟨a1, a2, a3, a4, s0, s1, hin, ho⟩ := id H
  have hwh := pr_wh a2 a4
  subst eM
  obtain ⟨y5, y6, y7, y8, b, th, inner, owners, nears, bp, bf, bs, b2, th2, inner2, owners2, nears2, bp2, bf2, bs2, e1, e2, e3⟩ := claims_both hn HS hM v_x_option_mouth v_x_option_weight v_x_option_reach v_x_option_bend v_x_chart_bases v_x_chart_thirds f_x_chart_inner f_x_chart_owners f_x_chart_nears f_x_chart_basePlaces f_x_chart_baseFactors f_x_chart_baseStarts v_x_otherChart_bases v_x_otherChart_thirds f_x_otherChart_inner f_x_otherChart_owners f_x_otherChart_nears f_x_otherChart_basePlaces f_x_otherChart_baseFactors f_x_otherChart_baseStarts
  obtain ⟨th', innerOf, whoseOf, nearOf, fromOf, claimOf, f1, f2⟩ := e3 v_m_thirds f_m_innerOf f_m_whoseOf f_m_nearOf f_m_fromOf f_m_claimOf
  have c1 : f_X5_claims_L8 n owners owners2 n (0 : Int32) (0 : Int32) = _ := pk_claims_L (n := n) (o1 := owners) (o2 := owners2) 120 0 n (by omega) (by omega)
  have c2 : f_X6_claims_L8 n f_m_s claimOf n (0 : Int32) (0 : Int32) = _ := pm_claims_L (n := n) (g := claimOf) s0 s1 hwh (w * h) 0 n (by omega) (by omega)
  have ec : ct (fun j => decide (CL owners owners2 j = 3)) 120 = ct (fun j => decide (claimOf j = 3)) (w * h) := by
    refine ct_grid a2 a4 (fun y x hy hx => ?_) (fun y x hy hx hno => ?_)
    · rw [f2 y x hy hx]
    · rw [e2 y x hy hx hno]
      decide
  rw [← ec] at c2
  unfold f_X5_claims f_X6_claims
  rw [pr_b20 e1, pr_b2 c1, pr_b7 f1, pr_b2 c2]
  exact ⟨_, _, _, _, _, _, _, _, _, _, _, _, _, _, _, _, _, _, _, _, _, _, _, _, _, _, _, _, rfl, rfl, hR⟩
theorem st_claimed {n : Nat} (hn : 200 ≤ n) {v_x_tape_length : Int32} {f_x_tape_signs : (Nat → Int32)} {v_x_waters_wide : Int32} {v_x_waters_high : Int32} {v_x_waters_wells : Int32} {f_x_waters_kinds : (Nat → Int32)} {f_x_waters_wellPlaces : (Nat → Int32)} {f_x_waters_wellWorths : (Nat → Int32)} {v_x_waters_rules_mouth : Int32} {v_x_waters_rules_weight : Int32} {v_x_waters_rules_reach : Int32} {v_x_waters_rules_bend : Int32} {v_x_kept_wide : Int32} {v_x_kept_high : Int32} {v_x_kept_wells : Int32} {f_x_kept_kinds : (Nat → Int32)} {f_x_kept_wellPlaces : (Nat → Int32)} {f_x_kept_wellWorths : (Nat → Int32)} {v_x_kept_rules_mouth : Int32} {v_x_kept_rules_weight : Int32} {v_x_kept_rules_reach : Int32} {v_x_kept_rules_bend : Int32} {v_x_hasImage : Int32} {v_x_rowLength : Int32} {f_x_row : (Nat → Int32)} {f_x_refusals : (Nat → Int32)} {v_m_isImage : Int32} {v_m_taped : Int32} {v_m_rowed : Int32} {f_m_tape : (Nat → Int32)} {f_m_s : (Nat → Int32)} {f_m_image : (Nat → Int32)} {f_m_row : (Nat → Int32)} {f_m_refusals : (Nat → Int32)} (v_x_option_mouth : Int32) (v_x_option_weight : Int32) (v_x_option_reach : Int32) (v_x_option_bend : Int32) (v_x_chart_bases : Int32) (v_x_chart_thirds : Int32) (f_x_chart_inner : (Nat → Int32)) (f_x_chart_owners : (Nat → Int32)) (f_x_chart_nears : (Nat → Int32)) (f_x_chart_basePlaces : (Nat → Int32)) (f_x_chart_baseFactors : (Nat → Int32)) (f_x_chart_baseStarts : (Nat → Int32)) (v_x_otherChart_bases : Int32) (v_x_otherChart_thirds : Int32) (f_x_otherChart_inner : (Nat → Int32)) (f_x_otherChart_owners : (Nat → Int32)) (f_x_otherChart_nears : (Nat → Int32)) (f_x_otherChart_basePlaces : (Nat → Int32)) (f_x_otherChart_baseFactors : (Nat → Int32)) (f_x_otherChart_baseStarts : (Nat → Int32)) (v_m_thirds : Int32) (f_m_innerOf : (Nat → Int32)) (f_m_whoseOf : (Nat → Int32)) (f_m_nearOf : (Nat → Int32)) (f_m_fromOf : (Nat → Int32)) (f_m_claimOf : (Nat → Int32)) (w1 : Int32) (hR : Rel v_x_tape_length f_x_tape_signs v_x_waters_wide v_x_waters_high v_x_waters_wells f_x_waters_kinds f_x_waters_wellPlaces f_x_waters_wellWorths v_x_waters_rules_mouth v_x_waters_rules_weight v_x_waters_rules_reach v_x_waters_rules_bend v_x_kept_wide v_x_kept_high v_x_kept_wells f_x_kept_kinds f_x_kept_wellPlaces f_x_kept_wellWorths v_x_kept_rules_mouth v_x_kept_rules_weight v_x_kept_rules_reach v_x_kept_rules_bend v_x_hasImage v_x_rowLength f_x_row f_x_refusals v_m_isImage v_m_taped v_m_rowed f_m_tape f_m_s f_m_image f_m_row f_m_refusals) : ∃ (r : Int32) (r_v_x_option_mouth : Int32) (r_v_x_option_weight : Int32) (r_v_x_option_reach : Int32) (r_v_x_option_bend : Int32) (r_v_x_chart_bases : Int32) (r_v_x_chart_thirds : Int32) (r_f_x_chart_inner : (Nat → Int32)) (r_f_x_chart_owners : (Nat → Int32)) (r_f_x_chart_nears : (Nat → Int32)) (r_f_x_chart_basePlaces : (Nat → Int32)) (r_f_x_chart_baseFactors : (Nat → Int32)) (r_f_x_chart_baseStarts : (Nat → Int32)) (r_v_x_otherChart_bases : Int32) (r_v_x_otherChart_thirds : Int32) (r_f_x_otherChart_inner : (Nat → Int32)) (r_f_x_otherChart_owners : (Nat → Int32)) (r_f_x_otherChart_nears : (Nat → Int32)) (r_f_x_otherChart_basePlaces : (Nat → Int32)) (r_f_x_otherChart_baseFactors : (Nat → Int32)) (r_f_x_otherChart_baseStarts : (Nat → Int32)) (r_f_x_refusals : (Nat → Int32)) (r_v_m_thirds : Int32) (r_f_m_refusals : (Nat → Int32)) (r_f_m_s : (Nat → Int32)) (r_f_m_innerOf : (Nat → Int32)) (r_f_m_whoseOf : (Nat → Int32)) (r_f_m_nearOf : (Nat → Int32)) (r_f_m_fromOf : (Nat → Int32)) (r_f_m_claimOf : (Nat → Int32)), f_X5_claimed n v_x_waters_wells f_x_waters_kinds f_x_waters_wellPlaces f_x_waters_wellWorths v_x_waters_rules_mouth v_x_waters_rules_reach v_x_waters_rules_bend v_x_option_mouth v_x_option_weight v_x_option_reach v_x_option_bend v_x_chart_bases v_x_chart_thirds f_x_chart_inner f_x_chart_owners f_x_chart_nears f_x_chart_basePlaces f_x_chart_baseFactors f_x_chart_baseStarts v_x_otherChart_bases v_x_otherChart_thirds f_x_otherChart_inner f_x_otherChart_owners f_x_otherChart_nears f_x_otherChart_basePlaces f_x_otherChart_baseFactors f_x_otherChart_baseStarts f_x_refusals w1 = some (r, r_v_x_option_mouth, r_v_x_option_weight, r_v_x_option_reach, r_v_x_option_bend, r_v_x_chart_bases, r_v_x_chart_thirds, r_f_x_chart_inner, r_f_x_chart_owners, r_f_x_chart_nears, r_f_x_chart_basePlaces, r_f_x_chart_baseFactors, r_f_x_chart_baseStarts, r_v_x_otherChart_bases, r_v_x_otherChart_thirds, r_f_x_otherChart_inner, r_f_x_otherChart_owners, r_f_x_otherChart_nears, r_f_x_otherChart_basePlaces, r_f_x_otherChart_baseFactors, r_f_x_otherChart_baseStarts, r_f_x_refusals) ∧ f_X6_claimed n v_m_thirds f_m_refusals f_m_s f_m_innerOf f_m_whoseOf f_m_nearOf f_m_fromOf f_m_claimOf w1 = some (r, r_v_m_thirds, r_f_m_refusals, r_f_m_s, r_f_m_innerOf, r_f_m_whoseOf, r_f_m_nearOf, r_f_m_fromOf, r_f_m_claimOf) ∧ Rel v_x_tape_length f_x_tape_signs v_x_waters_wide v_x_waters_high v_x_waters_wells f_x_waters_kinds f_x_waters_wellPlaces f_x_waters_wellWorths v_x_waters_rules_mouth v_x_waters_rules_weight v_x_waters_rules_reach v_x_waters_rules_bend v_x_kept_wide v_x_kept_high v_x_kept_wells f_x_kept_kinds f_x_kept_wellPlaces f_x_kept_wellWorths v_x_kept_rules_mouth v_x_kept_rules_weight v_x_kept_rules_reach v_x_kept_rules_bend v_x_hasImage v_x_rowLength f_x_row r_f_x_refusals v_m_isImage v_m_taped v_m_rowed f_m_tape r_f_m_s f_m_image f_m_row r_f_m_refusals := by
  obtain ⟨R1, R2, R3, R4, R5, R6, R7, R8, R9, R10⟩ := id hR
  obtain ⟨w, h, nw, HS⟩ := id R4
  obtain ⟨M, hM, eM, s2, hW, s3, s4, s5, H⟩ := sea_all HS
  obtain ⟨a1, a2, a3, a4, s0, s1, hin, ho⟩ := id H
  have hwh := pr_wh a2 a4
  subst eM
  unfold f_X5_claimed f_X6_claimed
  rcases cell_or (n := n) H w1 with ⟨x, y, hx, hy, q1, q2, q3⟩ | ⟨q1, q2⟩
  · have hc := pr_c120 a2 a4 hx hy
    obtain ⟨y5, y6, y7, y8, b, th, inner, owners, nears, bp, bf, bs, b2, th2, inner2, owners2, nears2, bp2, bf2, bs2, e1, e2, e3⟩ := claims_both hn HS hM v_x_option_mouth v_x_option_weight v_x_option_reach v_x_option_bend v_x_chart_bases v_x_chart_thirds f_x_chart_inner f_x_chart_owners f_x_chart_nears f_x_chart_basePlaces f_x_chart_baseFactors f_x_chart_baseStarts v_x_otherChart_bases v_x_otherChart_thirds f_x_otherChart_inner f_x_otherChart_owners f_x_otherChart_nears f_x_otherChart_basePlaces f_x_otherChart_baseFactors f_x_otherChart_baseStarts
    obtain ⟨th', innerOf, whoseOf, nearOf, fromOf, claimOf, f1, f2⟩ := e3 v_m_thirds f_m_innerOf f_m_whoseOf f_m_nearOf f_m_fromOf f_m_claimOf
    rw [pr_b1 q1, pr_b1 q2, if_pos (nI_pos' (by omega)), if_neg (by decide), pr_b20 e1, pr_b1 (pk_claimOn (by omega)), pr_b7 f1, pr_b1 q3, pr_rd (by omega) (by omega), f2 y x hy hx]
    exact ⟨_, _, _, _, _, _, _, _, _, _, _, _, _, _, _, _, _, _, _, _, _, _, _, _, _, _, _, _, _, _, rfl, rfl, hR⟩
  · obtain ⟨g, g', r1, r2, r3⟩ := pr_refuse (n := n) (v := -1) 1 (by omega) (by decide) R10
    rw [pr_b1 q1, pr_b1 q2, if_neg (by decide), if_pos rfl, pr_b2 r1, pr_b2 r2]
    exact ⟨_, _, _, _, _, _, _, _, _, _, _, _, _, _, _, _, _, _, _, _, _, _, _, _, _, _, _, _, _, _, rfl, rfl, R1, R2, R3, R4, R5, R6, R7, R8, R9, r3⟩
theorem pr_s13r {ρ γ A1 A2 A3 A4 A5 A6 A7 A8 A9 A10 A11 A12 A13 : Type} {o : Option (ρ ⊕ (A1 × A2 × A3 × A4 × A5 × A6 × A7 × A8 × A9 × A10 × A11 × A12 × A13))} {a1 : A1} {a2 : A2} {a3 : A3} {a4 : A4} {a5 : A5} {a6 : A6} {a7 : A7} {a8 : A8} {a9 : A9} {a10 : A10} {a11 : A11} {a12 : A12} {a13 : A13} {J : ρ → Option γ} {K : A1 → A2 → A3 → A4 → A5 → A6 → A7 → A8 → A9 → A10 → A11 → A12 → A13 → Option γ} (h : o = some (Sum.inr (a1, a2, a3, a4, a5, a6, a7, a8, a9, a10, a11, a12, a13))) : cz_s13 o J K = K a1 a2 a3 a4 a5 a6 a7 a8 a9 a10 a11 a12 a13 := by subst h; rfl
theorem pr_s13l {ρ γ A1 A2 A3 A4 A5 A6 A7 A8 A9 A10 A11 A12 A13 : Type} {o : Option (ρ ⊕ (A1 × A2 × A3 × A4 × A5 × A6 × A7 × A8 × A9 × A10 × A11 × A12 × A13))} {q : ρ} {J : ρ → Option γ} {K : A1 → A2 → A3 → A4 → A5 → A6 → A7 → A8 → A9 → A10 → A11 → A12 → A13 → Option γ} (h : o = some (Sum.inl q)) : cz_s13 o J K = J q := by subst h; rfl
theorem pr_s7r {ρ γ A1 A2 A3 A4 A5 A6 A7 : Type} {o : Option (ρ ⊕ (A1 × A2 × A3 × A4 × A5 × A6 × A7))} {a1 : A1} {a2 : A2} {a3 : A3} {a4 : A4} {a5 : A5} {a6 : A6} {a7 : A7} {J : ρ → Option γ} {K : A1 → A2 → A3 → A4 → A5 → A6 → A7 → Option γ} (h : o = some (Sum.inr (a1, a2, a3, a4, a5, a6, a7))) : cz_s7 o J K = K a1 a2 a3 a4 a5 a6 a7 := by subst h; rfl
theorem pr_s7l {ρ γ A1 A2 A3 A4 A5 A6 A7 : Type} {o : Option (ρ ⊕ (A1 × A2 × A3 × A4 × A5 × A6 × A7))} {q : ρ} {J : ρ → Option γ} {K : A1 → A2 → A3 → A4 → A5 → A6 → A7 → Option γ} (h : o = some (Sum.inl q)) : cz_s7 o J K = J q := by subst h; rfl
theorem meet_L {n w h M : Nat} {kinds s rf mrf : Nat → Int32} {reach bend v1 v2 : Int32} (hn : 200 ≤ n) (H : Cel w h kinds s) (hM : M ≤ 9) (s2 : s 2 = nI M) (s4 : s 4 = reach) (s5 : s 5 = bend) : ∀ (d i k k' : Nat) (x5 x6 x7 x8 z t : Int32) (i0 o0 n0 p0 q0 st0 : Nat → Int32) (z' : Int32) (i1 w1 n1 f1 : Nat → Int32), i + d = 12 → d < k → d < k' → ∃ (r y5 y6 y7 y8 b th : Int32) (inner owners nears bp bf bs : Nat → Int32) (th' : Int32) (innerOf whoseOf nearOf fromOf : Nat → Int32), (f_X5_meet_L36 n kinds (nI M) reach bend rf v1 v2 k (nI i) x5 x6 x7 x8 z t i0 o0 n0 p0 q0 st0 = some (Sum.inl (r, y5, y6, y7, y8, b, th, inner, owners, nears, bp, bf, bs, rf)) ∧ f_X6_meet_L36 n mrf v1 v2 k' (nI i) z' s i1 w1 n1 f1 = some (Sum.inl (r, th', mrf, s, innerOf, whoseOf, nearOf, fromOf))) ∨ (f_X5_meet_L36 n kinds (nI M) reach bend rf v1 v2 k (nI i) x5 x6 x7 x8 z t i0 o0 n0 p0 q0 st0 = some (Sum.inr (nI 12, y5, y6, y7, y8, b, th, inner, owners, nears, bp, bf, bs)) ∧ f_X6_meet_L36 n mrf v1 v2 k' (nI i) z' s i1 w1 n1 f1 = some (Sum.inr (nI 12, th', s, innerOf, whoseOf, nearOf, fromOf))) := by
  obtain ⟨a1, a2, a3, a4, s0, s1, hin, ho⟩ := id H
  intro d
  induction d with
  | zero =>
    intro i k k' x5 x6 x7 x8 z t i0 o0 n0 p0 q0 st0 z' i1 w1 n1 f1 h1 h2 h3
    obtain ⟨k, rfl⟩ : ∃ q, k = q + 1 := ⟨k - 1, by omega⟩
    obtain ⟨k', rfl⟩ : ∃ q, k' = q + 1 := ⟨k' - 1, by omega⟩
    have : i = 12 := by omega
    subst this
    refine ⟨0, x5, x6, x7, x8, z, t, i0, o0, n0, p0, q0, st0, z', i1, w1, n1, f1, Or.inr ⟨?_, ?_⟩⟩
    · rw [f_X5_meet_L36]
      exact if_pos (Int32.le_refl _)
    · rw [f_X6_meet_L36]
      exact if_pos (Int32.le_refl _)
  | succ d ih =>
    intro i k k' x5 x6 x7 x8 z t i0 o0 n0 p0 q0 st0 z' i1 w1 n1 f1 h1 h2 h3
    obtain ⟨k, rfl⟩ : ∃ q, k = q + 1 := ⟨k - 1, by omega⟩
    obtain ⟨k', rfl⟩ : ∃ q, k' = q + 1 := ⟨k' - 1, by omega⟩
    obtain ⟨b, th, inner, owners, nears, bp, bf, bs, e1, e2⟩ := opt_both (k := i) hn H hM s2 s4 s5 (by omega) z t i0 o0 n0 p0 q0 st0
    obtain ⟨th2, innerOf, whoseOf, nearOf, fromOf, f1', f2⟩ := e2 z' i1 w1 n1 f1
    have hi := ih (i + 1) k k' (nI (oM M i)) (nI (i / 4)) (oR reach i) bend b th inner owners nears bp bf bs th2 innerOf whoseOf nearOf fromOf (by omega) (by omega) (by omega)
    have b12 : ¬ (12 : Int32) ≤ nI i := nI_ge (b := 12) (by omega) (by omega)
    rw [f_X5_meet_L36, f_X6_meet_L36, if_neg b12, if_neg b12, pr_b4 (pk_become (by omega) _ _ _ _ _ _), pr_b8 e1, pr_b1 (pk_areaOf hn), pr_b1 (pm_code (by omega)), pr_b6 f1', pr_b1 (pm_areaOf hn a2 a4 s0 s1 f2 (by decide))]
    by_cases c1 : nI (AR owners 0) < v1
    · rw [if_pos c1, if_pos c1, pr_lt, pr_lt, nI_1]
      exact hi
    · rw [if_neg c1, if_neg c1, pr_b1 (pk_areaOf hn), pr_b1 (pm_areaOf hn a2 a4 s0 s1 f2 (by decide))]
      by_cases c2 : nI (AR owners 1) < v2
      · rw [if_pos c2, if_pos c2, pr_lt, pr_lt, nI_1]
        exact hi
      · rw [if_neg c2, if_neg c2, pr_b1 (pk_optNum (by omega)), pr_b1 (pm_code (by omega))]
        exact ⟨_, _, _, _, _, _, _, _, _, _, _, _, _, _, _, _, _, _, Or.inl ⟨rfl, rfl⟩⟩
theorem st_meet {n : Nat} (hn : 200 ≤ n) {v_x_tape_length : Int32} {f_x_tape_signs : (Nat → Int32)} {v_x_waters_wide : Int32} {v_x_waters_high : Int32} {v_x_waters_wells : Int32} {f_x_waters_kinds : (Nat → Int32)} {f_x_waters_wellPlaces : (Nat → Int32)} {f_x_waters_wellWorths : (Nat → Int32)} {v_x_waters_rules_mouth : Int32} {v_x_waters_rules_weight : Int32} {v_x_waters_rules_reach : Int32} {v_x_waters_rules_bend : Int32} {v_x_kept_wide : Int32} {v_x_kept_high : Int32} {v_x_kept_wells : Int32} {f_x_kept_kinds : (Nat → Int32)} {f_x_kept_wellPlaces : (Nat → Int32)} {f_x_kept_wellWorths : (Nat → Int32)} {v_x_kept_rules_mouth : Int32} {v_x_kept_rules_weight : Int32} {v_x_kept_rules_reach : Int32} {v_x_kept_rules_bend : Int32} {v_x_hasImage : Int32} {v_x_rowLength : Int32} {f_x_row : (Nat → Int32)} {f_x_refusals : (Nat → Int32)} {v_m_isImage : Int32} {v_m_taped : Int32} {v_m_rowed : Int32} {f_m_tape : (Nat → Int32)} {f_m_s : (Nat → Int32)} {f_m_image : (Nat → Int32)} {f_m_row : (Nat → Int32)} {f_m_refusals : (Nat → Int32)} (v_x_option_mouth : Int32) (v_x_option_weight : Int32) (v_x_option_reach : Int32) (v_x_option_bend : Int32) (v_x_chart_bases : Int32) (v_x_chart_thirds : Int32) (f_x_chart_inner : (Nat → Int32)) (f_x_chart_owners : (Nat → Int32)) (f_x_chart_nears : (Nat → Int32)) (f_x_chart_basePlaces : (Nat → Int32)) (f_x_chart_baseFactors : (Nat → Int32)) (f_x_chart_baseStarts : (Nat → Int32)) (v_m_thirds : Int32) (f_m_innerOf : (Nat → Int32)) (f_m_whoseOf : (Nat → Int32)) (f_m_nearOf : (Nat → Int32)) (f_m_fromOf : (Nat → Int32)) (w1 : Int32) (w2 : Int32) (hR : Rel v_x_tape_length f_x_tape_signs v_x_waters_wide v_x_waters_high v_x_waters_wells f_x_waters_kinds f_x_waters_wellPlaces f_x_waters_wellWorths v_x_waters_rules_mouth v_x_waters_rules_weight v_x_waters_rules_reach v_x_waters_rules_bend v_x_kept_wide v_x_kept_high v_x_kept_wells f_x_kept_kinds f_x_kept_wellPlaces f_x_kept_wellWorths v_x_kept_rules_mouth v_x_kept_rules_weight v_x_kept_rules_reach v_x_kept_rules_bend v_x_hasImage v_x_rowLength f_x_row f_x_refusals v_m_isImage v_m_taped v_m_rowed f_m_tape f_m_s f_m_image f_m_row f_m_refusals) : ∃ (r : Int32) (r_v_x_option_mouth : Int32) (r_v_x_option_weight : Int32) (r_v_x_option_reach : Int32) (r_v_x_option_bend : Int32) (r_v_x_chart_bases : Int32) (r_v_x_chart_thirds : Int32) (r_f_x_chart_inner : (Nat → Int32)) (r_f_x_chart_owners : (Nat → Int32)) (r_f_x_chart_nears : (Nat → Int32)) (r_f_x_chart_basePlaces : (Nat → Int32)) (r_f_x_chart_baseFactors : (Nat → Int32)) (r_f_x_chart_baseStarts : (Nat → Int32)) (r_f_x_refusals : (Nat → Int32)) (r_v_m_thirds : Int32) (r_f_m_refusals : (Nat → Int32)) (r_f_m_s : (Nat → Int32)) (r_f_m_innerOf : (Nat → Int32)) (r_f_m_whoseOf : (Nat → Int32)) (r_f_m_nearOf : (Nat → Int32)) (r_f_m_fromOf : (Nat → Int32)), f_X5_meet n f_x_waters_kinds v_x_waters_rules_mouth v_x_waters_rules_reach v_x_waters_rules_bend v_x_option_mouth v_x_option_weight v_x_option_reach v_x_option_bend v_x_chart_bases v_x_chart_thirds f_x_chart_inner f_x_chart_owners f_x_chart_nears f_x_chart_basePlaces f_x_chart_baseFactors f_x_chart_baseStarts f_x_refusals w1 w2 = some (r, r_v_x_option_mouth, r_v_x_option_weight, r_v_x_option_reach, r_v_x_option_bend, r_v_x_chart_bases, r_v_x_chart_thirds, r_f_x_chart_inner, r_f_x_chart_owners, r_f_x_chart_nears, r_f_x_chart_basePlaces, r_f_x_chart_baseFactors, r_f_x_chart_baseStarts, r_f_x_refusals) ∧ f_X6_meet n v_m_thirds f_m_refusals f_m_s f_m_innerOf f_m_whoseOf f_m_nearOf f_m_fromOf w1 w2 = some (r, r_v_m_thirds, r_f_m_refusals, r_f_m_s, r_f_m_innerOf, r_f_m_whoseOf, r_f_m_nearOf, r_f_m_fromOf) ∧ Rel v_x_tape_length f_x_tape_signs v_x_waters_wide v_x_waters_high v_x_waters_wells f_x_waters_kinds f_x_waters_wellPlaces f_x_waters_wellWorths v_x_waters_rules_mouth v_x_waters_rules_weight v_x_waters_rules_reach v_x_waters_rules_bend v_x_kept_wide v_x_kept_high v_x_kept_wells f_x_kept_kinds f_x_kept_wellPlaces f_x_kept_wellWorths v_x_kept_rules_mouth v_x_kept_rules_weight v_x_kept_rules_reach v_x_kept_rules_bend v_x_hasImage v_x_rowLength f_x_row r_f_x_refusals v_m_isImage v_m_taped v_m_rowed f_m_tape r_f_m_s f_m_image f_m_row r_f_m_refusals := by
  obtain ⟨R1, R2, R3, R4, R5, R6, R7, R8, R9, R10⟩ := id hR
  obtain ⟨w, h, nw, HS⟩ := id R4
  obtain ⟨M, hM, eM, s2, hW, s3, s4, s5, H⟩ := sea_all HS
  subst eM
  unfold f_X5_meet f_X6_meet
  by_cases c1 : w1 < 0
  · obtain ⟨g, g', r1, r2, r3⟩ := pr_refuse (n := n) (v := -4) 4 (by omega) (by decide) R10
    rw [if_pos c1, if_pos c1, pr_b2 r1, pr_b2 r2]
    exact ⟨_, _, _, _, _, _, _, _, _, _, _, _, _, _, _, _, _, _, _, _, _, rfl, rfl, R1, R2, R3, R4, R5, R6, R7, R8, R9, r3⟩
  · rw [if_neg c1, if_neg c1]
    by_cases c2 : (0 : Int32) ≤ w2
    · rw [if_pos c2, if_pos c2]
      by_cases c3 : (120 : Int32) < w1
      · obtain ⟨g, g', r1, r2, r3⟩ := pr_refuse (n := n) (v := -6) 6 (by omega) (by decide) R10
        rw [if_pos c3, if_pos c3, pr_b2 r1, pr_b2 r2]
        exact ⟨_, _, _, _, _, _, _, _, _, _, _, _, _, _, _, _, _, _, _, _, _, rfl, rfl, R1, R2, R3, R4, R5, R6, R7, R8, R9, r3⟩
      · rw [if_neg c3, if_neg c3]
        by_cases c4 : w2 ≤ (120 : Int32)
        · rw [if_pos c4, if_pos c4]
          obtain ⟨r, y5, y6, y7, y8, b, th, inner, owners, nears, bp, bf, bs, th', innerOf, whoseOf, nearOf, fromOf, hh⟩ := meet_L (n := n) (rf := f_x_refusals) (mrf := f_m_refusals) (v1 := w1) (v2 := w2) hn H hM s2 s4 s5 12 0 n n v_x_option_mouth v_x_option_weight v_x_option_reach v_x_option_bend v_x_chart_bases v_x_chart_thirds f_x_chart_inner f_x_chart_owners f_x_chart_nears f_x_chart_basePlaces f_x_chart_baseFactors f_x_chart_baseStarts v_m_thirds f_m_innerOf f_m_whoseOf f_m_nearOf f_m_fromOf (by omega) (by omega) (by omega)
          rcases hh with ⟨e1, e2⟩ | ⟨e1, e2⟩
          · have e1' : f_X5_meet_L36 n f_x_waters_kinds (nI M) v_x_waters_rules_reach v_x_waters_rules_bend f_x_refusals w1 w2 n (0 : Int32) v_x_option_mouth v_x_option_weight v_x_option_reach v_x_option_bend v_x_chart_bases v_x_chart_thirds f_x_chart_inner f_x_chart_owners f_x_chart_nears f_x_chart_basePlaces f_x_chart_baseFactors f_x_chart_baseStarts = _ := e1
            have e2' : f_X6_meet_L36 n f_m_refusals w1 w2 n (0 : Int32) v_m_thirds f_m_s f_m_innerOf f_m_whoseOf f_m_nearOf f_m_fromOf = _ := e2
            rw [pr_s13l e1', pr_s7l e2']
            exact ⟨_, _, _, _, _, _, _, _, _, _, _, _, _, _, _, _, _, _, _, _, _, rfl, rfl, hR⟩
          · have e1' : f_X5_meet_L36 n f_x_waters_kinds (nI M) v_x_waters_rules_reach v_x_waters_rules_bend f_x_refusals w1 w2 n (0 : Int32) v_x_option_mouth v_x_option_weight v_x_option_reach v_x_option_bend v_x_chart_bases v_x_chart_thirds f_x_chart_inner f_x_chart_owners f_x_chart_nears f_x_chart_basePlaces f_x_chart_baseFactors f_x_chart_baseStarts = _ := e1
            have e2' : f_X6_meet_L36 n f_m_refusals w1 w2 n (0 : Int32) v_m_thirds f_m_s f_m_innerOf f_m_whoseOf f_m_nearOf f_m_fromOf = _ := e2
            rw [pr_s13r e1', pr_s7r e2']
            exact ⟨_, _, _, _, _, _, _, _, _, _, _, _, _, _, _, _, _, _, _, _, _, rfl, rfl, hR⟩
        · obtain ⟨g, g', r1, r2, r3⟩ := pr_refuse (n := n) (v := -6) 6 (by omega) (by decide) R10
          rw [if_neg c4, if_neg c4, pr_b2 r1, pr_b2 r2]
          exact ⟨_, _, _, _, _, _, _, _, _, _, _, _, _, _, _, _, _, _, _, _, _, rfl, rfl, R1, R2, R3, R4, R5, R6, R7, R8, R9, r3⟩
    · obtain ⟨g, g', r1, r2, r3⟩ := pr_refuse (n := n) (v := -4) 4 (by omega) (by decide) R10
      rw [if_neg c2, if_neg c2, pr_b2 r1, pr_b2 r2]
      exact ⟨_, _, _, _, _, _, _, _, _, _, _, _, _, _, _, _, _, _, _, _, _, rfl, rfl, R1, R2, R3, R4, R5, R6, R7, R8, R9, r3⟩
