/-! the pure side, 20: bent -/
theorem cel_congr {w h : Nat} {kinds s s' : Nat → Int32} (H : Cel w h kinds s) (e0 : s' 0 = s 0) (e1 : s' 1 = s 1) (e7 : ∀ c : Nat, c < 120 → s' (7 + c) = s (7 + c)) : Cel w h kinds s' := by
  obtain ⟨a1, a2, a3, a4, s0, s1, hin, ho⟩ := H
  refine ⟨a1, a2, a3, a4, e0.trans s0, e1.trans s1, fun y x hy hx => ?_, ho⟩
  rw [e7 _ (pr_c120 a2 a4 hx hy)]
  exact hin y x hy hx
theorem nI_negI {m : Nat} (hm : m < 2 ^ 30) : (-(nI m)).toInt = -(m : Int) := by
  rw [Int32.toInt_neg, nI_toInt (by omega)]
  exact Int.bmod_eq_of_le (by omega) (by omega)
/-- what both make of a difference -/
def fok (V : Nat) (x : Int32) : Bool := decide (-(V : Int) ≤ x.toInt ∧ x.toInt ≤ (V : Int))
theorem fair_x {p q : Nat} (hp : p ≤ 14400) (hq : q ≤ 14400) : (nI p - nI q).toInt = (p : Int) - (q : Int) := by
  rw [Int32.toInt_sub, nI_toInt (by omega), nI_toInt (by omega)]
  exact Int.bmod_eq_of_le (by omega) (by omega)
theorem fok_c {V : Nat} (hV : V ≤ 999999) {x : Int32} (hx : -14400 ≤ x.toInt ∧ x.toInt ≤ 14400) : (nI V < (if (0 : Int32) ≤ x then x else (0 : Int32) - x)) ↔ ¬ fok V x = true := by
  have z : (0 : Int32).toInt = 0 := by decide
  unfold fok
  rw [decide_eq_true_iff, Int32.lt_iff_toInt_lt, nI_toInt (by omega)]
  by_cases c : (0 : Int32) ≤ x
  · rw [if_pos c]
    have := Int32.le_iff_toInt_le.mp c
    rw [z] at this
    omega
  · rw [if_neg c, Int32.toInt_sub, z]
    have h0 : ¬ 0 ≤ x.toInt := fun q => c (Int32.le_iff_toInt_le.mpr (by rw [z]; exact q))
    rw [Int.bmod_eq_of_le (by omega) (by omega)]
    omega
theorem fok_m {V : Nat} (hV : V ≤ 999999) {x : Int32} : (nI V < x ∨ x < -(nI V)) ↔ ¬ fok V x = true := by
  unfold fok
  rw [decide_eq_true_iff, Int32.lt_iff_toInt_lt, Int32.lt_iff_toInt_lt, nI_toInt (by omega), nI_negI (by omega)]
  omega
theorem FA_b (kinds owners : Nat → Int32) : -14400 ≤ (FA kinds owners).toInt ∧ (FA kinds owners).toInt ≤ 14400 := by
  have h1 : AR owners 0 * SH kinds 1 ≤ 120 * 120 := Nat.mul_le_mul (AR_le _ _) (SH_le _ _)
  have h2 : AR owners 1 * SH kinds 0 ≤ 120 * 120 := Nat.mul_le_mul (AR_le _ _) (SH_le _ _)
  unfold FA
  rw [pk_mul, pk_mul, fair_x (by omega) (by omega)]
  omega
theorem ct_congr {p q : Nat → Bool} {N : Nat} (h : ∀ j : Nat, j < N → p j = q j) : ct p N = ct q N := it_congr (fun k hk s => by rw [h k hk])
theorem AR_congr {o o' : Nat → Int32} (h : ∀ j : Nat, j < 120 → o j = o' j) (v : Int32) : AR o v = AR o' v := by
  unfold AR
  exact ct_congr fun j hj => by rw [h j hj]
theorem FA_congr {kinds o o' : Nat → Int32} (h : ∀ j : Nat, j < 120 → o j = o' j) : FA kinds o = FA kinds o' := by
  unfold FA
  rw [AR_congr h, AR_congr h]
/-- the bend that is found, of those from i on -/
def BR (ok : Int32 → Bool) : Nat → Nat → Int32
  | 0, _ => -100
  | d + 1, i => if ok (nI i) = true then nI i else if ok (-(nI i)) = true then -(nI i) else BR ok d (i + 1)
section BEN
variable {n w h M V : Nat} {kinds s inner nears : Nat → Int32} {weight reach : Int32}
def okB (kinds inner nears : Nat → Int32) (reach : Int32) (V : Nat) (b : Int32) : Bool := fok V (FA kinds (OW kinds inner nears reach b))
theorem pk_isFair (hn : 200 ≤ n) (hV : V ≤ 999999) (b t : Int32) (g : Nat → Int32) : ∃ t' g', f_X5_isFairWith n kinds reach t inner g nears b (nI V) = some (if okB kinds inner nears reach V b = true then 1 else 0, t', g') := by
  obtain ⟨g', e1, e2⟩ := pk_shareOut (n := n) (kinds := kinds) (inner := inner) (nears := nears) hn reach b t g
  have ef := FA_congr (kinds := kinds) e2
  refine ⟨nI (ct (TP kinds inner nears reach b) 120), g', ?_⟩
  unfold f_X5_isFairWith
  rw [pr_b2 e1, pr_b1 (pk_fairness hn _ _), ef]
  by_cases c : okB kinds inner nears reach V b = true
  · rw [if_pos c, if_neg (fun q => (fok_c hV (FA_b _ _)).mp q c)]
  · rw [if_neg c, if_pos ((fok_c hV (FA_b _ _)).mpr c)]
theorem pk_bent_L (hn : 200 ≤ n) (hV : V ≤ 999999) (x3 : Int32) (bp bf bs rf : Nat → Int32) : ∀ (d i k : Nat) (t : Int32) (g : Nat → Int32), i + d = 51 → d < k → ∃ t' g', f_X5_bent_L41 n kinds reach x3 inner nears bp bf bs rf (nI V) k (nI i) t g = some (Sum.inl (BR (okB kinds inner nears reach V) d i, x3, t', inner, g', nears, bp, bf, bs, rf)) ∨ (BR (okB kinds inner nears reach V) d i = -100 ∧ f_X5_bent_L41 n kinds reach x3 inner nears bp bf bs rf (nI V) k (nI i) t g = some (Sum.inr (nI 51, t', g'))) := by
  intro d
  induction d with
  | zero =>
    intro i k t g h1 h2
    obtain ⟨k, rfl⟩ : ∃ q, k = q + 1 := ⟨k - 1, by omega⟩
    have : i = 51 := by omega
    subst this
    refine ⟨t, g, Or.inr ⟨rfl, ?_⟩⟩
    rw [f_X5_bent_L41]
    exact if_pos (by decide)
  | succ d ih =>
    intro i k t g h1 h2
    obtain ⟨k, rfl⟩ : ∃ q, k = q + 1 := ⟨k - 1, by omega⟩
    obtain ⟨t1, g1, e1⟩ := pk_isFair (n := n) (kinds := kinds) (inner := inner) (nears := nears) (reach := reach) hn hV (nI i) t g
    rw [f_X5_bent_L41]
    rw [if_neg (show ¬ (50 : Int32) < nI i from nI_nlt (a := 50) (by omega) (by omega)), pr_b3 e1, BR]
    by_cases c1 : okB kinds inner nears reach V (nI i) = true
    · rw [if_pos c1, if_pos c1, if_neg (by decide)]
      exact ⟨_, _, Or.inl rfl⟩
    · obtain ⟨t2, g2, e2⟩ := pk_isFair (n := n) (kinds := kinds) (inner := inner) (nears := nears) (reach := reach) hn hV (-(nI i)) t1 g1
      rw [if_neg c1, if_neg c1, if_pos rfl, pr_b3 e2]
      by_cases c2 : okB kinds inner nears reach V (-(nI i)) = true
      · rw [if_pos c2, if_pos c2, if_neg (by decide)]
        exact ⟨_, _, Or.inl rfl⟩
      · rw [if_neg c2, if_neg c2, if_pos rfl, pr_lt, nI_1]
        exact ih (i + 1) k t2 g2 (by omega) (by omega)
theorem pm_fairAt (hn : 200 ≤ n) (H : Cel w h kinds s) (hM : M ≤ 9) (s2 : s 2 = nI M) (s3 : s 3 = weight) (s4 : s 4 = reach) (hC : Cha kinds M weight inner nears) {g : Nat → Int32} (hg : ∀ j : Nat, ¬ j = 5 → g j = s j) (b z : Int32) (i0 w0 n0 f0 : Nat → Int32) : ∃ th innerOf whoseOf nearOf fromOf, f_X6_fairNow n z (upd g 5 b) i0 w0 n0 f0 = some (FA kinds (OW kinds inner nears reach b), th, innerOf, whoseOf, nearOf, fromOf) := by
  have hu : ∀ j : Nat, ¬ j = 5 → upd g 5 b j = s j := fun j hj => by rw [pk_un hj, hg j hj]
  have H' : Cel w h kinds (upd g 5 b) := cel_congr H (hu 0 (by omega)) (hu 1 (by omega)) (fun c hc => hu _ (by omega))
  obtain ⟨innerOf, whoseOf, nearOf, fromOf, f1, f2⟩ := pm_find (reach := reach) (bend := b) hn H' hM ((hu 2 (by omega)).trans s2) ((hu 3 (by omega)).trans s3) ((hu 4 (by omega)).trans s4) pk_us hC z i0 w0 n0 f0
  exact ⟨_, innerOf, whoseOf, nearOf, fromOf, pm_fairNow hn H' f1 ⟨fun y x hy hx => (f2 y x hy hx).2.1, fun y x hy hx hno => OW_out H hy hx hno⟩⟩
theorem pm_bent1 (hn : 200 ≤ n) (hV : V ≤ 999999) (H : Cel w h kinds s) (hM : M ≤ 9) (s2 : s 2 = nI M) (s3 : s 3 = weight) (s4 : s 4 = reach) (hC : Cha kinds M weight inner nears) {k : Nat} {K b : Int32} (hK : ¬ (101 : Int32) ≤ K) (hb : (if (K - K / (2 : Int32) * (2 : Int32)) = (1 : Int32) then cz_lt (((K + (1 : Int32)) / (2 : Int32))) fun x55 => some x55 else cz_lt (((-K) / (2 : Int32))) fun x54 => some x54) = some b) {g : Nat → Int32} (hg : ∀ j : Nat, ¬ j = 5 → g j = s j) (z : Int32) (i0 w0 n0 f0 : Nat → Int32) : ∃ th innerOf whoseOf nearOf fromOf g', f_X6_bent_L32 n (nI V) (k + 1) (-100) K z g i0 w0 n0 f0 = f_X6_bent_L32 n (nI V) k (if okB kinds inner nears reach V b = true then b else -100) (K + 1) th g' innerOf whoseOf nearOf fromOf ∧ ∀ j : Nat, ¬ j = 5 → g' j = s j := by
  obtain ⟨th, innerOf, whoseOf, nearOf, fromOf, e1⟩ := pm_fairAt hn H hM s2 s3 s4 hC hg b z i0 w0 n0 f0
  refine ⟨th, innerOf, whoseOf, nearOf, fromOf, upd g 5 b, ?_, fun j hj => by rw [pk_un hj, hg j hj]⟩
  have ew : ∀ {β : Type} (K : (Nat → Int32) → Option β), cz_wr g 151 (5 : Int32) b K = K (upd g 5 b) := fun K => pr_wr (i := 5) (by omega) (by omega)
  rw [f_X6_bent_L32, if_neg hK, if_pos rfl, pr_b1 hb, ew, pr_b6 e1]
  have ef : (if nI V < FA kinds (OW kinds inner nears reach b) then some (-100 : Int32) else (if FA kinds (OW kinds inner nears reach b) < -(nI V) then some (-100) else cz_rd (upd g 5 b) 151 (5 : Int32) fun x52 => some x52)) = some (if okB kinds inner nears reach V b = true then b else -100) := by
    by_cases c : okB kinds inner nears reach V b = true
    · have : ¬ (nI V < FA kinds (OW kinds inner nears reach b) ∨ FA kinds (OW kinds inner nears reach b) < -(nI V)) := fun q => (fok_m hV).mp q c
      rw [if_pos c, if_neg (fun q => this (Or.inl q)), if_neg (fun q => this (Or.inr q)), pr_rd5 (by omega) (by omega), pk_us]
    · rw [if_neg c]
      by_cases c1 : nI V < FA kinds (OW kinds inner nears reach b)
      · rw [if_pos c1]
      · rw [if_neg c1, if_pos (((fok_m hV).mpr c).resolve_left c1)]
  rw [pr_b1 ef, pr_lt]
theorem pm_bentOut {k : Nat} {f K z : Int32} {g i0 w0 n0 f0 : Nat → Int32} (hf : (101 : Int32) ≤ K ∨ ¬ f = -100) : f_X6_bent_L32 n (nI V) (k + 1) f K z g i0 w0 n0 f0 = some (f, K, z, g, i0, w0, n0, f0) := by
  rw [f_X6_bent_L32]
  by_cases c : (101 : Int32) ≤ K
  · rw [if_pos c]
  · rw [if_neg c, if_neg (hf.resolve_left c)]
theorem bend_odd : ∀ i : Nat, i ≤ 50 → (nI (2 * i + 1) - nI (2 * i + 1) / (2 : Int32) * (2 : Int32) = 1 ∧ (nI (2 * i + 1) + 1) / (2 : Int32) = nI (i + 1)) := by decide
theorem bend_even : ∀ i : Nat, i ≤ 50 → (¬ nI (2 * i) - nI (2 * i) / (2 : Int32) * (2 : Int32) = 1 ∧ (-(nI (2 * i))) / (2 : Int32) = -(nI i) ∧ ¬ -(nI i) = (-100 : Int32) ∧ ¬ nI i = (-100 : Int32)) := by decide
theorem pm_bent_L (hn : 200 ≤ n) (hV : V ≤ 999999) (H : Cel w h kinds s) (hM : M ≤ 9) (s2 : s 2 = nI M) (s3 : s 3 = weight) (s4 : s 4 = reach) (hC : Cha kinds M weight inner nears) : ∀ (d i k : Nat) (z : Int32) (g i0 w0 n0 f0 : Nat → Int32), i + d = 50 → 2 * d + 1 < k → (∀ j : Nat, ¬ j = 5 → g j = s j) → ∃ K th g' innerOf whoseOf nearOf fromOf, f_X6_bent_L32 n (nI V) k (-100) (nI (2 * i + 1)) z g i0 w0 n0 f0 = some (BR (okB kinds inner nears reach V) d (i + 1), K, th, g', innerOf, whoseOf, nearOf, fromOf) ∧ ∀ j : Nat, ¬ j = 5 → g' j = s j := by
  intro d
  induction d with
  | zero =>
    intro i k z g i0 w0 n0 f0 h1 h2 hg
    obtain ⟨k, rfl⟩ : ∃ q, k = q + 1 := ⟨k - 1, by omega⟩
    have : i = 50 := by omega
    subst this
    exact ⟨_, _, _, _, _, _, _, pm_bentOut (Or.inl (by decide)), hg⟩
  | succ d ih =>
    intro i k z g i0 w0 n0 f0 h1 h2 hg
    obtain ⟨k, rfl⟩ : ∃ q, k = q + 3 := ⟨k - 3, by omega⟩
    obtain ⟨o1, o2⟩ := bend_odd i (by omega)
    obtain ⟨v1, v2, v3, v4⟩ := bend_even (i + 1) (by omega)
    obtain ⟨th, a1, a2, a3, a4, g1, e1, hg1⟩ := pm_bent1 (k := k + 2) hn hV H hM s2 s3 s4 hC (K := nI (2 * i + 1)) (b := nI (i + 1)) (show ¬ (101 : Int32) ≤ nI (2 * i + 1) from nI_ge (b := 101) (by omega) (by omega)) (by rw [if_pos o1, pr_lt, o2]) hg z i0 w0 n0 f0
    rw [e1, BR]
    by_cases c1 : okB kinds inner nears reach V (nI (i + 1)) = true
    · rw [if_pos c1, if_pos c1]
      exact ⟨_, _, _, _, _, _, _, pm_bentOut (Or.inr v4), hg1⟩
    · rw [if_neg c1, if_neg c1, nI_1, show 2 * i + 1 + 1 = 2 * (i + 1) by omega]
      obtain ⟨th', b1, b2, b3, b4, g2, e2, hg2⟩ := pm_bent1 (k := k + 1) hn hV H hM s2 s3 s4 hC (K := nI (2 * (i + 1))) (b := -(nI (i + 1))) (show ¬ (101 : Int32) ≤ nI (2 * (i + 1)) from nI_ge (b := 101) (by omega) (by omega)) (by rw [if_neg v1, pr_lt, v2]) hg1 th a1 a2 a3 a4
      rw [e2]
      by_cases c2 : okB kinds inner nears reach V (-(nI (i + 1))) = true
      · rw [if_pos c2, if_pos c2]
        exact ⟨_, _, _, _, _, _, _, pm_bentOut (Or.inr v3), hg2⟩
      · rw [if_neg c2, if_neg c2, nI_1]
        exact ih (i + 1) (k + 1) th' g2 b1 b2 b3 b4 (by omega) (by omega) hg2
end BEN
theorem st_bent {n : Nat} (hn : 200 ≤ n) {v_x_tape_length : Int32} {f_x_tape_signs : (Nat → Int32)} {v_x_waters_wide : Int32} {v_x_waters_high : Int32} {v_x_waters_wells : Int32} {f_x_waters_kinds : (Nat → Int32)} {f_x_waters_wellPlaces : (Nat → Int32)} {f_x_waters_wellWorths : (Nat → Int32)} {v_x_waters_rules_mouth : Int32} {v_x_waters_rules_weight : Int32} {v_x_waters_rules_reach : Int32} {v_x_waters_rules_bend : Int32} {v_x_kept_wide : Int32} {v_x_kept_high : Int32} {v_x_kept_wells : Int32} {f_x_kept_kinds : (Nat → Int32)} {f_x_kept_wellPlaces : (Nat → Int32)} {f_x_kept_wellWorths : (Nat → Int32)} {v_x_kept_rules_mouth : Int32} {v_x_kept_rules_weight : Int32} {v_x_kept_rules_reach : Int32} {v_x_kept_rules_bend : Int32} {v_x_hasImage : Int32} {v_x_rowLength : Int32} {f_x_row : (Nat → Int32)} {f_x_refusals : (Nat → Int32)} {v_m_isImage : Int32} {v_m_taped : Int32} {v_m_rowed : Int32} {f_m_tape : (Nat → Int32)} {f_m_s : (Nat → Int32)} {f_m_image : (Nat → Int32)} {f_m_row : (Nat → Int32)} {f_m_refusals : (Nat → Int32)} (v_x_chart_bases : Int32) (v_x_chart_thirds : Int32) (f_x_chart_inner : (Nat → Int32)) (f_x_chart_owners : (Nat → Int32)) (f_x_chart_nears : (Nat → Int32)) (f_x_chart_basePlaces : (Nat → Int32)) (f_x_chart_baseFactors : (Nat → Int32)) (f_x_chart_baseStarts : (Nat → Int32)) (v_m_thirds : Int32) (f_m_innerOf : (Nat → Int32)) (f_m_whoseOf : (Nat → Int32)) (f_m_nearOf : (Nat → Int32)) (f_m_fromOf : (Nat → Int32)) (w1 : Int32) (hR : Rel v_x_tape_length f_x_tape_signs v_x_waters_wide v_x_waters_high v_x_waters_wells f_x_waters_kinds f_x_waters_wellPlaces f_x_waters_wellWorths v_x_waters_rules_mouth v_x_waters_rules_weight v_x_waters_rules_reach v_x_waters_rules_bend v_x_kept_wide v_x_kept_high v_x_kept_wells f_x_kept_kinds f_x_kept_wellPlaces f_x_kept_wellWorths v_x_kept_rules_mouth v_x_kept_rules_weight v_x_kept_rules_reach v_x_kept_rules_bend v_x_hasImage v_x_rowLength f_x_row f_x_refusals v_m_isImage v_m_taped v_m_rowed f_m_tape f_m_s f_m_image f_m_row f_m_refusals) : ∃ (r : Int32) (r_v_x_chart_bases : Int32) (r_v_x_chart_thirds : Int32) (r_f_x_chart_inner : (Nat → Int32)) (r_f_x_chart_owners : (Nat → Int32)) (r_f_x_chart_nears : (Nat → Int32)) (r_f_x_chart_basePlaces : (Nat → Int32)) (r_f_x_chart_baseFactors : (Nat → Int32)) (r_f_x_chart_baseStarts : (Nat → Int32)) (r_f_x_refusals : (Nat → Int32)) (r_v_m_thirds : Int32) (r_f_m_refusals : (Nat → Int32)) (r_f_m_s : (Nat → Int32)) (r_f_m_innerOf : (Nat → Int32)) (r_f_m_whoseOf : (Nat → Int32)) (r_f_m_nearOf : (Nat → Int32)) (r_f_m_fromOf : (Nat → Int32)), f_X5_bent n f_x_waters_kinds v_x_waters_rules_mouth v_x_waters_rules_weight v_x_waters_rules_reach v_x_chart_bases v_x_chart_thirds f_x_chart_inner f_x_chart_owners f_x_chart_nears f_x_chart_basePlaces f_x_chart_baseFactors f_x_chart_baseStarts f_x_refusals w1 = some (r, r_v_x_chart_bases, r_v_x_chart_thirds, r_f_x_chart_inner, r_f_x_chart_owners, r_f_x_chart_nears, r_f_x_chart_basePlaces, r_f_x_chart_baseFactors, r_f_x_chart_baseStarts, r_f_x_refusals) ∧ f_X6_bent n v_m_thirds f_m_refusals f_m_s f_m_innerOf f_m_whoseOf f_m_nearOf f_m_fromOf w1 = some (r, r_v_m_thirds, r_f_m_refusals, r_f_m_s, r_f_m_innerOf, r_f_m_whoseOf, r_f_m_nearOf, r_f_m_fromOf) ∧ Rel v_x_tape_length f_x_tape_signs v_x_waters_wide v_x_waters_high v_x_waters_wells f_x_waters_kinds f_x_waters_wellPlaces f_x_waters_wellWorths v_x_waters_rules_mouth v_x_waters_rules_weight v_x_waters_rules_reach v_x_waters_rules_bend v_x_kept_wide v_x_kept_high v_x_kept_wells f_x_kept_kinds f_x_kept_wellPlaces f_x_kept_wellWorths v_x_kept_rules_mouth v_x_kept_rules_weight v_x_kept_rules_reach v_x_kept_rules_bend v_x_hasImage v_x_rowLength f_x_row r_f_x_refusals v_m_isImage v_m_taped v_m_rowed f_m_tape r_f_m_s f_m_image f_m_row r_f_m_refusals := by
  obtain ⟨R1, R2, R3, R4, R5, R6, R7, R8, R9, R10⟩ := id hR
  obtain ⟨w, h, nw, HS⟩ := id R4
  obtain ⟨M, hM, eM, s2, hW, s3, s4, s5, H⟩ := sea_all HS
  subst eM
  unfold f_X5_bent f_X6_bent
  by_cases c1 : (0 : Int32) ≤ w1
  · rw [if_pos c1]
    by_cases c2 : w1 ≤ (999999 : Int32)
    · obtain ⟨V, hV, rfl⟩ := nI_of2 (M := 999999) (n := 999999) (by decide) (Int32.not_lt.mpr c1) c2
      obtain ⟨inner, bp, bf, bs, b, nears, e1, e2, e3, e4⟩ := pk_charted hn (Cel_kin H) hM hW v_x_chart_bases f_x_chart_inner f_x_chart_nears f_x_chart_basePlaces f_x_chart_baseFactors f_x_chart_baseStarts
      have el : f_X5_layBasesAsItIs n f_x_waters_kinds (nI M) v_x_waters_rules_weight v_x_chart_bases f_x_chart_inner f_x_chart_basePlaces f_x_chart_baseFactors f_x_chart_baseStarts = some (b, inner, bp, bf, bs) := by
        unfold f_X5_layBasesAsItIs
        rw [pr_b1 e1, pr_b4 e2]
      obtain ⟨t', g', hcl⟩ := pk_bent_L (n := n) (kinds := f_x_waters_kinds) (inner := inner) (nears := nears) (reach := v_x_waters_rules_reach) hn hV b bp bf bs f_x_refusals 51 0 n v_x_chart_thirds f_x_chart_owners (by omega) (by omega)
      obtain ⟨k, rfl⟩ : ∃ q, n = q + 1 := ⟨n - 1, by omega⟩
      obtain ⟨v1, v2, v3, v4⟩ := bend_even 0 (by omega)
      obtain ⟨th, i1, i2, i3, i4, g1, m1, hg1⟩ := pm_bent1 (k := k) hn hV H hM s2 s3 s4 e4 (K := nI (2 * 0)) (b := -(nI 0)) (show ¬ (101 : Int32) ≤ nI (2 * 0) by decide) (by rw [if_neg v1, pr_lt, v2]) (g := f_m_s) (fun j _ => rfl) v_m_thirds f_m_innerOf f_m_whoseOf f_m_nearOf f_m_fromOf
      have hz : -(nI 0) = nI 0 := by decide
      have hm : ∃ K th g' innerOf whoseOf nearOf fromOf, f_X6_bent_L32 (k + 1) (nI V) (k + 1) (-100) 0 v_m_thirds f_m_s f_m_innerOf f_m_whoseOf f_m_nearOf f_m_fromOf = some (BR (okB f_x_waters_kinds inner nears v_x_waters_rules_reach V) 51 0, K, th, g', innerOf, whoseOf, nearOf, fromOf) ∧ ∀ j : Nat, ¬ j = 5 → g' j = f_m_s j := by
        have m1' : f_X6_bent_L32 (k + 1) (nI V) (k + 1) (-100) 0 v_m_thirds f_m_s f_m_innerOf f_m_whoseOf f_m_nearOf f_m_fromOf = _ := m1
        rw [m1', BR, hz]
        by_cases c : okB f_x_waters_kinds inner nears v_x_waters_rules_reach V (nI 0) = true
        · obtain ⟨k, rfl⟩ : ∃ q, k = q + 1 := ⟨k - 1, by omega⟩
          rw [if_pos c, if_pos c]
          exact ⟨_, _, _, _, _, _, _, pm_bentOut (Or.inr v4), hg1⟩
        · rw [if_neg c, if_neg c, if_neg c]
          exact pm_bent_L hn hV H hM s2 s3 s4 e4 50 0 k th g1 i1 i2 i3 i4 (by omega) (by omega) hg1
      obtain ⟨K, th', g2, j1, j2, j3, j4, m2, hg2⟩ := hm
      have hseaS : SeaRel v_x_waters_wide v_x_waters_high v_x_waters_wells f_x_waters_kinds f_x_waters_wellPlaces f_x_waters_wellWorths (nI M) v_x_waters_rules_weight v_x_waters_rules_reach v_x_waters_rules_bend (upd g2 5 (f_m_s 5)) := ⟨w, h, nw, sea_congr (fun j _ => rfl) (fun j _ => rfl) (fun j _ => rfl) (fun j _ => by
        by_cases e : j = 5
        · subst e
          exact pk_us
        · rw [pk_un e, hg2 j e]) HS⟩
      have ew : ∀ {β : Type} (K : (Nat → Int32) → Option β), cz_wr g2 151 (5 : Int32) (f_m_s 5) K = K (upd g2 5 (f_m_s 5)) := fun K => pr_wr (i := 5) (by omega) (by omega)
      rw [if_pos c2, pr_b5 el, pr_b1 e3, pr_b1 (pm_within0 c1 c2), if_pos rfl, pr_rd5 (by omega) (by omega), pr_b8 m2, ew]
      rcases hcl with hcl | ⟨hbr, hcl⟩
      · have hcl' : f_X5_bent_L41 (k + 1) f_x_waters_kinds v_x_waters_rules_reach b inner nears bp bf bs f_x_refusals (nI V) (k + 1) 0 v_x_chart_thirds f_x_chart_owners = _ := hcl
        rw [hcl']
        exact ⟨_, _, _, _, _, _, _, _, _, _, _, _, _, _, _, _, _, rfl, rfl, R1, R2, R3, hseaS, R5, R6, R7, R8, R9, R10⟩
      · have hcl' : f_X5_bent_L41 (k + 1) f_x_waters_kinds v_x_waters_rules_reach b inner nears bp bf bs f_x_refusals (nI V) (k + 1) 0 v_x_chart_thirds f_x_chart_owners = _ := hcl
        rw [hcl', hbr]
        exact ⟨_, _, _, _, _, _, _, _, _, _, _, _, _, _, _, _, _, rfl, rfl, R1, R2, R3, hseaS, R5, R6, R7, R8, R9, R10⟩
    · obtain ⟨g, g', r1, r2, r3⟩ := pr_refuse (n := n) (v := -6) 6 (by omega) (by decide) R10
      rw [if_neg c2, pr_b1 (pm_within6 c1 c2), if_neg (by decide), pr_b2 r1, pr_b2 r2]
      exact ⟨_, _, _, _, _, _, _, _, _, _, _, _, _, _, _, _, _, rfl, rfl, R1, R2, R3, R4, R5, R6, R7, R8, R9, r3⟩
  · obtain ⟨g, g', r1, r2, r3⟩ := pr_refuse (n := n) (v := -4) 4 (by omega) (by decide) R10
    rw [if_neg c1, pr_b1 (pm_within4 c1), if_neg (by decide), pr_b2 r1, pr_b2 r2]
    exact ⟨_, _, _, _, _, _, _, _, _, _, _, _, _, _, _, _, _, rfl, rfl, R1, R2, R3, R4, R5, R6, R7, R8, R9, r3⟩
