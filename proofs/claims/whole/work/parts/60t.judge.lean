/-! the pure side, 21: judge, turnings, worth -/
/-- how many cells of the sea lie ahead of a place -/
def PC (w h i : Nat) : Nat := ct (fun j => decide (j / 12 < h ∧ j % 12 < w)) i
theorem PC_succ (w h i : Nat) : PC w h (i + 1) = if i / 12 < h ∧ i % 12 < w then PC w h i + 1 else PC w h i := by
  unfold PC
  rw [ct_succ]
  by_cases c : i / 12 < h ∧ i % 12 < w
  · rw [if_pos c, if_pos (decide_eq_true c)]
  · rw [if_neg c, if_neg (fun q => c (of_decide_eq_true q))]
theorem PC_eq {w h : Nat} (hw : w ≤ 12) : ∀ i : Nat, (i / 12 < h → PC w h i = w * (i / 12) + (if i % 12 ≤ w then i % 12 else w)) ∧ (¬ i / 12 < h → PC w h i = w * h) := fun i => by
  induction i with
  | zero =>
    refine ⟨fun _ => ?_, fun h0 => ?_⟩
    · rw [if_pos (by omega)]
      rfl
    · have : h = 0 := by omega
      subst this
      rfl
  | succ i ih =>
    obtain ⟨ih1, ih2⟩ := ih
    rw [PC_succ]
    by_cases c : i % 12 = 11
    · have e1 : (i + 1) / 12 = i / 12 + 1 := by omega
      have e2 : (i + 1) % 12 = 0 := by omega
      rw [e1, e2, c]
      by_cases cy : i / 12 < h
      · have p := ih1 cy
        rw [c] at p
        have hv : (if i / 12 < h ∧ 11 < w then PC w h i + 1 else PC w h i) = w * (i / 12 + 1) := by
          rw [Nat.mul_succ]
          by_cases cw : 11 < w
          · rw [if_pos ⟨cy, cw⟩, p, if_pos (by omega)]
            omega
          · rw [if_neg (fun q => cw q.2), p]
            by_cases c11 : 11 ≤ w
            · rw [if_pos c11]
              omega
            · rw [if_neg c11]
        rw [hv]
        refine ⟨fun _ => ?_, fun q => ?_⟩
        · rw [if_pos (by omega)]
          rfl
        · have : i / 12 + 1 = h := by omega
          rw [this]
      · rw [if_neg (fun q => cy q.1)]
        exact ⟨fun q => by omega, fun _ => ih2 cy⟩
    · have e1 : (i + 1) / 12 = i / 12 := by omega
      have e2 : (i + 1) % 12 = i % 12 + 1 := by omega
      rw [e1, e2]
      refine ⟨fun cy => ?_, fun cy => ?_⟩
      · rw [ih1 cy]
        by_cases cx : i % 12 < w
        · rw [if_pos ⟨cy, cx⟩, if_pos (by omega), if_pos (by omega)]
          omega
        · rw [if_neg (fun q => cx q.2), if_neg (show ¬ i % 12 + 1 ≤ w by omega)]
          by_cases cx' : i % 12 ≤ w
          · rw [if_pos cx']
            omega
          · rw [if_neg cx']
      · rw [if_neg (fun q => cy q.1)]
        exact ih2 cy
theorem PC_in {w h i : Nat} (hw : w ≤ 12) (h1 : i / 12 < h) (h2 : i % 12 < w) : PC w h i = w * (i / 12) + i % 12 := by
  rw [(PC_eq hw i).1 h1, if_pos (by omega)]
theorem PC_120 {w h : Nat} (hw : w ≤ 12) (hh : h ≤ 10) : PC w h 120 = w * h := (PC_eq hw 120).2 (by omega)
theorem PC_0 (w h : Nat) : PC w h 0 = 0 := rfl
/-- a place: in the sea, or beside it -/
theorem place_or {w h : Nat} {kinds s : Nat → Int32} (H : Cel w h kinds s) {i : Nat} (hi : i < 120) : (i / 12 < h ∧ i % 12 < w ∧ PC w h i = w * (i / 12) + i % 12 ∧ PC w h (i + 1) = w * (i / 12) + i % 12 + 1 ∧ w * (i / 12) + i % 12 < w * h ∧ 12 * (i / 12) + i % 12 = i ∧ s (7 + (w * (i / 12) + i % 12)) = kinds i ∧ ∃ a : Nat, a ≤ 7 ∧ kinds i = nI a) ∨ (PC w h (i + 1) = PC w h i ∧ kinds i = 8) := by
  obtain ⟨a1, a2, a3, a4, s0, s1, hin, ho⟩ := id H
  have e : 12 * (i / 12) + i % 12 = i := by omega
  by_cases c : i / 12 < h ∧ i % 12 < w
  · have p := PC_in a2 c.1 c.2
    obtain ⟨q1, q2⟩ := hin _ _ c.1 c.2
    rw [e] at q1 q2
    refine Or.inl ⟨c.1, c.2, p, ?_, pr_wy c.2 c.1, e, q2, q1⟩
    rw [PC_succ, if_pos c, p]
  · refine Or.inr ⟨?_, ?_⟩
    · rw [PC_succ, if_neg c]
    · have := ho (i / 12) (i % 12) (by omega) (by omega) c
      rw [e] at this
      exact this
theorem n8 {a : Nat} (ha : a ≤ 7) : ¬ nI a = (8 : Int32) := fun q => by
  have := (nI_eq (b := 8) (by omega) (by omega)).mp q
  omega
theorem pr_s2r {ρ γ A1 A2 : Type} {o : Option (ρ ⊕ (A1 × A2))} {a : A1} {b : A2} {J : ρ → Option γ} {K : A1 → A2 → Option γ} (h : o = some (Sum.inr (a, b))) : cz_s2 o J K = K a b := by subst h; rfl
theorem pr_s2l {ρ γ A1 A2 : Type} {o : Option (ρ ⊕ (A1 × A2))} {q : ρ} {J : ρ → Option γ} {K : A1 → A2 → Option γ} (h : o = some (Sum.inl q)) : cz_s2 o J K = J q := by subst h; rfl
theorem judge_L {n w h rl : Nat} {kinds s owners row mrow g2 g3 g4 g5 : Nat → Int32} {x1 x8 : Int32} (H : Cel w h kinds s) (hS : SameO w h owners g3) (hrl : rl ≤ 120) (hrow : ∀ j : Nat, j < 120 → mrow j = row j) : ∀ (d i k k' : Nat), i + d = 120 → d < k → d < k' → (∃ r, f_X5_firstWrong_L4 n (nI rl) kinds owners row k (nI (PC w h i)) (nI i) = some (Sum.inl r) ∧ f_X6_judge_L16 n x1 s g2 g3 g4 g5 mrow (nI rl) k' (nI (PC w h i)) x8 = some (Sum.inl (r, x1, x8, g2, g3, g4, g5))) ∨ (f_X5_firstWrong_L4 n (nI rl) kinds owners row k (nI (PC w h i)) (nI i) = some (Sum.inr (nI (w * h), nI 120)) ∧ f_X6_judge_L16 n x1 s g2 g3 g4 g5 mrow (nI rl) k' (nI (PC w h i)) x8 = some (Sum.inr (nI (w * h), x8))) := by
  obtain ⟨a1, a2, a3, a4, s0, s1, hin, ho⟩ := id H
  have hwh := pr_wh a2 a4
  intro d
  induction d with
  | zero =>
    intro i k k' h1 h2 h3
    obtain ⟨k, rfl⟩ : ∃ q, k = q + 1 := ⟨k - 1, by omega⟩
    obtain ⟨k', rfl⟩ : ∃ q, k' = q + 1 := ⟨k' - 1, by omega⟩
    have : i = 120 := by omega
    subst this
    refine Or.inr ⟨?_, ?_⟩
    · rw [f_X5_firstWrong_L4, PC_120 a2 a4]
      exact if_pos (Int32.le_refl _)
    · rw [f_X6_judge_L16, pr_b1 (pm_many s0 s1), PC_120 a2 a4]
      exact if_pos (Int32.le_refl _)
  | succ d ih =>
    intro i k k' h1 h2 h3
    obtain ⟨k, rfl⟩ : ∃ q, k = q + 1 := ⟨k - 1, by omega⟩
    rcases place_or H (show i < 120 by omega) with ⟨hy, hx, p, p', hlt, e, hk, a, ha, ea⟩ | ⟨p', e8⟩
    · obtain ⟨k', rfl⟩ : ∃ q, k' = q + 1 := ⟨k' - 1, by omega⟩
      have := ih (i + 1) k k' (by omega) (by omega) (by omega)
      rw [p'] at this
      have ht : f_X5_toldOf n (nI i) = some (nI (100 * (i % 12) + i / 12)) := by
        have := pk_told (n := n) (y := i / 12) (x := i % 12) (by omega) (by omega)
        rw [e] at this
        exact this
      have hmt := pm_told (n := n) (h := h) s0 a1 a2 a4 hx hy
      have hso : g3 (w * (i / 12) + i % 12) = owners i := by
        rw [hS.1 _ _ hy hx, e]
      rw [f_X5_firstWrong_L4, f_X6_judge_L16, pr_b1 (pm_many s0 s1), if_neg (show ¬ (120 : Int32) ≤ nI i from nI_ge (b := 120) (by omega) (by omega)), pr_b1 (pk_kindOf (by omega)), if_neg (by rw [ea]; exact n8 ha), p, if_neg (show ¬ nI (w * h) ≤ nI (w * (i / 12) + i % 12) from nI_ge (by omega) (by omega))]
      by_cases c1 : rl ≤ w * (i / 12) + i % 12
      · rw [if_pos (nI_le c1 (by omega)), if_pos (nI_le c1 (by omega)), pr_b1 ht, pr_b1 hmt]
        exact Or.inl ⟨_, rfl, rfl⟩
      · rw [if_neg (nI_ge (by omega) (by omega)), if_neg (nI_ge (by omega) (by omega)), if_pos (show nI (w * (i / 12) + i % 12) < (120 : Int32) from nI_lt (b := 120) (by omega) (by omega)), pr_b1 (pm_at (by omega)), hk]
        by_cases c2 : kinds i = 0
        · rw [if_pos c2, if_pos c2, pr_rd (by omega) (by omega), pr_b1 (pk_ownerOf (by omega)), pr_rd (by omega) (by omega), hrow _ (by omega), pr_rd (by omega) (by omega), hso]
          by_cases c3 : row (w * (i / 12) + i % 12) = owners i
          · rw [if_pos c3, if_pos c3, pr_lt, pr_lt, pr_lt, nI_1, nI_1]
            exact this
          · rw [if_neg c3, if_neg c3, pr_b1 ht, pr_b1 hmt]
            exact Or.inl ⟨_, rfl, rfl⟩
        · rw [if_neg c2, if_neg c2, pr_lt, pr_lt, pr_lt, nI_1, nI_1]
          exact this
    · have := ih (i + 1) k k' (by omega) (by omega) (by omega)
      rw [p'] at this
      rw [f_X5_firstWrong_L4, if_neg (show ¬ (120 : Int32) ≤ nI i from nI_ge (b := 120) (by omega) (by omega)), pr_b1 (pk_kindOf (by omega)), if_pos e8, pr_lt, nI_1]
      exact this
theorem st_judge {n : Nat} (hn : 200 ≤ n) {v_x_tape_length : Int32} {f_x_tape_signs : (Nat → Int32)} {v_x_waters_wide : Int32} {v_x_waters_high : Int32} {v_x_waters_wells : Int32} {f_x_waters_kinds : (Nat → Int32)} {f_x_waters_wellPlaces : (Nat → Int32)} {f_x_waters_wellWorths : (Nat → Int32)} {v_x_waters_rules_mouth : Int32} {v_x_waters_rules_weight : Int32} {v_x_waters_rules_reach : Int32} {v_x_waters_rules_bend : Int32} {v_x_kept_wide : Int32} {v_x_kept_high : Int32} {v_x_kept_wells : Int32} {f_x_kept_kinds : (Nat → Int32)} {f_x_kept_wellPlaces : (Nat → Int32)} {f_x_kept_wellWorths : (Nat → Int32)} {v_x_kept_rules_mouth : Int32} {v_x_kept_rules_weight : Int32} {v_x_kept_rules_reach : Int32} {v_x_kept_rules_bend : Int32} {v_x_hasImage : Int32} {v_x_rowLength : Int32} {f_x_row : (Nat → Int32)} {f_x_refusals : (Nat → Int32)} {v_m_isImage : Int32} {v_m_taped : Int32} {v_m_rowed : Int32} {f_m_tape : (Nat → Int32)} {f_m_s : (Nat → Int32)} {f_m_image : (Nat → Int32)} {f_m_row : (Nat → Int32)} {f_m_refusals : (Nat → Int32)} (v_x_chart_bases : Int32) (v_x_chart_thirds : Int32) (f_x_chart_inner : (Nat → Int32)) (f_x_chart_owners : (Nat → Int32)) (f_x_chart_nears : (Nat → Int32)) (f_x_chart_basePlaces : (Nat → Int32)) (f_x_chart_baseFactors : (Nat → Int32)) (f_x_chart_baseStarts : (Nat → Int32)) (v_m_thirds : Int32) (f_m_innerOf : (Nat → Int32)) (f_m_whoseOf : (Nat → Int32)) (f_m_nearOf : (Nat → Int32)) (f_m_fromOf : (Nat → Int32)) (hR : Rel v_x_tape_length f_x_tape_signs v_x_waters_wide v_x_waters_high v_x_waters_wells f_x_waters_kinds f_x_waters_wellPlaces f_x_waters_wellWorths v_x_waters_rules_mouth v_x_waters_rules_weight v_x_waters_rules_reach v_x_waters_rules_bend v_x_kept_wide v_x_kept_high v_x_kept_wells f_x_kept_kinds f_x_kept_wellPlaces f_x_kept_wellWorths v_x_kept_rules_mouth v_x_kept_rules_weight v_x_kept_rules_reach v_x_kept_rules_bend v_x_hasImage v_x_rowLength f_x_row f_x_refusals v_m_isImage v_m_taped v_m_rowed f_m_tape f_m_s f_m_image f_m_row f_m_refusals) : ∃ (r : Int32) (r_v_x_rowLength : Int32) (r_v_x_chart_bases : Int32) (r_v_x_chart_thirds : Int32) (r_f_x_chart_inner : (Nat → Int32)) (r_f_x_chart_owners : (Nat → Int32)) (r_f_x_chart_nears : (Nat → Int32)) (r_f_x_chart_basePlaces : (Nat → Int32)) (r_f_x_chart_baseFactors : (Nat → Int32)) (r_f_x_chart_baseStarts : (Nat → Int32)) (r_v_m_thirds : Int32) (r_v_m_rowed : Int32) (r_f_m_innerOf : (Nat → Int32)) (r_f_m_whoseOf : (Nat → Int32)) (r_f_m_nearOf : (Nat → Int32)) (r_f_m_fromOf : (Nat → Int32)), f_X5_judge n v_x_rowLength f_x_waters_kinds v_x_waters_rules_mouth v_x_waters_rules_weight v_x_waters_rules_reach v_x_waters_rules_bend v_x_chart_bases v_x_chart_thirds f_x_chart_inner f_x_chart_owners f_x_chart_nears f_x_chart_basePlaces f_x_chart_baseFactors f_x_chart_baseStarts f_x_row = some (r, r_v_x_rowLength, r_v_x_chart_bases, r_v_x_chart_thirds, r_f_x_chart_inner, r_f_x_chart_owners, r_f_x_chart_nears, r_f_x_chart_basePlaces, r_f_x_chart_baseFactors, r_f_x_chart_baseStarts) ∧ f_X6_judge n v_m_thirds v_m_rowed f_m_s f_m_innerOf f_m_whoseOf f_m_nearOf f_m_fromOf f_m_row = some (r, r_v_m_thirds, r_v_m_rowed, r_f_m_innerOf, r_f_m_whoseOf, r_f_m_nearOf, r_f_m_fromOf) ∧ Rel v_x_tape_length f_x_tape_signs v_x_waters_wide v_x_waters_high v_x_waters_wells f_x_waters_kinds f_x_waters_wellPlaces f_x_waters_wellWorths v_x_waters_rules_mouth v_x_waters_rules_weight v_x_waters_rules_reach v_x_waters_rules_bend v_x_kept_wide v_x_kept_high v_x_kept_wells f_x_kept_kinds f_x_kept_wellPlaces f_x_kept_wellWorths v_x_kept_rules_mouth v_x_kept_rules_weight v_x_kept_rules_reach v_x_kept_rules_bend v_x_hasImage r_v_x_rowLength f_x_row f_x_refusals v_m_isImage v_m_taped r_v_m_rowed f_m_tape f_m_s f_m_image f_m_row f_m_refusals := by
  obtain ⟨R1, R2, R3, R4, R5, R6, R7, ⟨rl, hrl, erl⟩, R9, R10⟩ := id hR
  obtain ⟨w, h, nw, HS⟩ := id R4
  obtain ⟨M, hM, eM, s2, hW, s3, s4, s5, H⟩ := sea_all HS
  obtain ⟨a1, a2, a3, a4, s0, s1, hin, ho⟩ := id H
  have hwh := pr_wh a2 a4
  subst eM
  obtain ⟨b, th, inner, owners, nears, bp, bf, bs, e1, e2, e3⟩ := both hn H hM s2 hW s3 s4 s5 v_x_chart_bases v_x_chart_thirds f_x_chart_inner f_x_chart_owners f_x_chart_nears f_x_chart_basePlaces f_x_chart_baseFactors f_x_chart_baseStarts
  obtain ⟨innerOf, whoseOf, nearOf, fromOf, f1, f2⟩ := e3 v_m_thirds f_m_innerOf f_m_whoseOf f_m_nearOf f_m_fromOf
  have ed : f_X5_drawAsItIs n f_x_waters_kinds (nI M) v_x_waters_rules_weight v_x_waters_rules_reach v_x_waters_rules_bend v_x_chart_bases v_x_chart_thirds f_x_chart_inner f_x_chart_owners f_x_chart_nears f_x_chart_basePlaces f_x_chart_baseFactors f_x_chart_baseStarts = some (b, nI th, inner, owners, nears, bp, bf, bs) := by
    unfold f_X5_drawAsItIs
    rw [pr_b8 e1]
  unfold f_X5_judge f_X6_judge f_X5_firstWrong
  rw [pr_b8 ed, pr_b5 f1, R7, erl]
  rcases judge_L (n := n) (x1 := nI th) (x8 := 0) (g2 := innerOf) (g4 := nearOf) (g5 := fromOf) H f2 hrl R9 120 0 n n (by omega) (by omega) (by omega) with ⟨r, q1, q2⟩ | ⟨q1, q2⟩
  · have q1' : f_X5_firstWrong_L4 n (nI rl) f_x_waters_kinds owners f_x_row n 0 0 = _ := q1
    have q2' : f_X6_judge_L16 n (nI th) f_m_s innerOf whoseOf nearOf fromOf f_m_row (nI rl) n 0 0 = _ := q2
    rw [q1', q2']
    exact ⟨_, _, _, _, _, _, _, _, _, _, _, _, _, _, _, _, rfl, rfl, R1, R2, R3, R4, R5, R6, rfl, ⟨0, by omega, rfl⟩, R9, R10⟩
  · have q1' : f_X5_firstWrong_L4 n (nI rl) f_x_waters_kinds owners f_x_row n 0 0 = _ := q1
    have q2' : f_X6_judge_L16 n (nI th) f_m_s innerOf whoseOf nearOf fromOf f_m_row (nI rl) n 0 0 = _ := q2
    rw [pr_s2r q1', pr_s2r q2', pr_b1 (pm_many s0 s1)]
    by_cases c : nI rl ≤ nI (w * h)
    · rw [if_pos c, if_pos c]
      exact ⟨_, _, _, _, _, _, _, _, _, _, _, _, _, _, _, _, rfl, rfl, R1, R2, R3, R4, R5, R6, rfl, ⟨0, by omega, rfl⟩, R9, R10⟩
    · rw [if_neg c, if_neg c]
      exact ⟨_, _, _, _, _, _, _, _, _, _, _, _, _, _, _, _, rfl, rfl, R1, R2, R3, R4, R5, R6, rfl, ⟨0, by omega, rfl⟩, R9, R10⟩
/-- even at a place -/
abbrev EV (owners : Nat → Int32) (y x : Nat) : Prop := x < 12 ∧ y < 10 ∧ owners (12 * y + x) = -2
section EVE
variable {n w h : Nat} {owners whoseOf s : Nat → Int32}
theorem pk_evenAt {x y : Nat} (hx : x < 2 ^ 20) (hy : y < 2 ^ 20) : f_X0_isEvenAt n owners (nI x) (nI y) = some (if EV owners y x then 1 else 0) := by
  unfold f_X0_isEvenAt
  by_cases c : x < 12 ∧ y < 10
  · rw [pr_b1 (pk_placeAt c.1 c.2), pr_b1 (pk_ownerOf (by omega))]
    by_cases c2 : owners (12 * y + x) = -2
    · rw [if_pos c2, if_pos ⟨c.1, c.2, c2⟩]
    · rw [if_neg c2, if_neg (fun q => c2 q.2.2)]
  · have hp : f_X4_placeAt n (nI x) (nI y) = some (-1) := by
      unfold f_X4_placeAt
      rw [if_neg (nI_pos (by omega))]
      by_cases c1 : 12 ≤ x
      · rw [if_pos (show (12 : Int32) ≤ nI x from nI_le (a := 12) c1 (by omega))]
      · rw [if_neg (show ¬ (12 : Int32) ≤ nI x from nI_ge (b := 12) (by omega) (by omega)), if_neg (nI_pos (by omega)), if_neg (show ¬ nI y < (10 : Int32) from nI_nlt (b := 10) (by omega) (by omega))]
    have hz : f_X0_ownerOf n owners (-1) = some (-9) := by
      unfold f_X0_ownerOf
      rw [if_pos (by decide)]
    rw [pr_b1 hp, pr_b1 hz, if_neg (by decide), if_neg (fun q => c ⟨q.1, q.2.1⟩)]
theorem pk_evenAtN {X Y : Int32} (h : X < 0 ∨ Y < 0) : f_X0_isEvenAt n owners X Y = some 0 := by
  have hp : f_X4_placeAt n X Y = some (-1) := by
    unfold f_X4_placeAt
    by_cases c1 : X < 0
    · rw [if_pos c1]
    · rw [if_neg c1]
      by_cases c2 : (12 : Int32) ≤ X
      · rw [if_pos c2]
      · rw [if_neg c2, if_pos (h.resolve_left c1)]
  have hz : f_X0_ownerOf n owners (-1) = some (-9) := by
    unfold f_X0_ownerOf
    rw [if_pos (by decide)]
  unfold f_X0_isEvenAt
  rw [pr_b1 hp, pr_b1 hz, if_neg (by decide)]
theorem pm_even (h0 : s 0 = nI w) (h1 : s 1 = nI h) (hw : w ≤ 12) (hh : h ≤ 10) (hS : SameO w h owners whoseOf) {x y : Nat} (hx : x < 2 ^ 20) (hy : y < 2 ^ 20) : f_X6_isEven n s whoseOf (nI x) (nI y) = some (if EV owners y x then 1 else 0) := by
  have hno : ¬ (y < h ∧ x < w) → ¬ EV owners y x := fun c q => by
    have := hS.2 y x q.2.1 q.1 c
    exact absurd (this.symm.trans q.2.2) (by decide)
  unfold f_X6_isEven
  rw [if_neg (nI_pos (by omega)), pr_rd0 (by omega) (by omega), h0]
  by_cases c1 : w ≤ x
  · rw [if_pos (nI_le c1 (by omega)), if_neg (hno (by omega))]
  · rw [if_neg (nI_ge (by omega) (by omega)), if_neg (nI_pos (by omega)), pr_rd1 (by omega) (by omega), h1]
    by_cases c2 : h ≤ y
    · rw [if_pos (nI_le c2 (by omega)), if_neg (hno (by omega))]
    · have hc := pr_c120 hw hh (show x < w by omega) (show y < h by omega)
      rw [if_neg (nI_ge (by omega) (by omega)), pr_rd0 (by omega) (by omega), h0, pk_mul, nI_add, Nat.mul_comm y w, pr_rd hc (by omega), hS.1 y x (by omega) (by omega)]
      by_cases c3 : owners (12 * y + x) = -2
      · rw [if_pos c3, if_pos ⟨by omega, by omega, c3⟩]
      · rw [if_neg c3, if_neg (fun q => c3 q.2.2)]
theorem pm_evenN {X Y : Int32} (h0 : s 0 = nI w) (h : X < 0 ∨ Y < 0) : f_X6_isEven n s whoseOf X Y = some 0 := by
  unfold f_X6_isEven
  by_cases c1 : X < 0
  · rw [if_pos c1]
  · rw [if_neg c1, pr_rd0 (by omega) (by omega), h0]
    by_cases c2 : nI w ≤ X
    · rw [if_pos c2]
    · rw [if_neg c2, if_pos (h.resolve_left c1)]
/-- the four looks, alike in both -/
theorem looks (h0 : s 0 = nI w) (h1 : s 1 = nI h) (hw : w ≤ 12) (hh : h ≤ 10) (hS : SameO w h owners whoseOf) {x y : Nat} (hx : x < 12) (hy : y < 10) : ∃ z1 z2 z3 z4 : Int32, (f_X0_isEvenAt n owners (nI x - 1) (nI y) = some z1 ∧ f_X0_isEvenAt n owners (nI x + 1) (nI y) = some z2 ∧ f_X0_isEvenAt n owners (nI x) (nI y - 1) = some z3 ∧ f_X0_isEvenAt n owners (nI x) (nI y + 1) = some z4) ∧ (f_X6_isEven n s whoseOf (nI x - 1) (nI y) = some z1 ∧ f_X6_isEven n s whoseOf (nI x + 1) (nI y) = some z2 ∧ f_X6_isEven n s whoseOf (nI x) (nI y - 1) = some z3 ∧ f_X6_isEven n s whoseOf (nI x) (nI y + 1) = some z4) := by
  have e1 : ∃ z, f_X0_isEvenAt n owners (nI x - 1) (nI y) = some z ∧ f_X6_isEven n s whoseOf (nI x - 1) (nI y) = some z := by
    rcases nI_m x with ⟨q, _⟩ | ⟨z, rfl, e⟩
    · exact ⟨0, pk_evenAtN (Or.inl q), pm_evenN h0 (Or.inl q)⟩
    · rw [e]
      exact ⟨_, pk_evenAt (by omega) (by omega), pm_even h0 h1 hw hh hS (by omega) (by omega)⟩
  have e3 : ∃ z, f_X0_isEvenAt n owners (nI x) (nI y - 1) = some z ∧ f_X6_isEven n s whoseOf (nI x) (nI y - 1) = some z := by
    rcases nI_m y with ⟨q, _⟩ | ⟨z, rfl, e⟩
    · exact ⟨0, pk_evenAtN (Or.inr q), pm_evenN h0 (Or.inr q)⟩
    · rw [e]
      exact ⟨_, pk_evenAt (by omega) (by omega), pm_even h0 h1 hw hh hS (by omega) (by omega)⟩
  obtain ⟨z1, p1, q1⟩ := e1
  obtain ⟨z3, p3, q3⟩ := e3
  rw [nI_1, nI_1]
  exact ⟨z1, _, z3, _, ⟨p1, pk_evenAt (by omega) (by omega), p3, pk_evenAt (by omega) (by omega)⟩, q1, pm_even h0 h1 hw hh hS (by omega) (by omega), q3, pm_even h0 h1 hw hh hS (by omega) (by omega)⟩
theorem turns_L {kinds : Nat → Int32} (H : Cel w h kinds s) (hS : SameO w h owners whoseOf) : ∀ (d i k k' a : Nat), i + d = 120 → d < k → d < k' → ∃ r, f_X1_countTurns_L4 n owners k (nI a) (nI i) = some (r, nI 120) ∧ f_X6_turnings_L8 n s whoseOf k' (nI a) (nI (PC w h i)) = some (r, nI (w * h)) := by
  obtain ⟨a1, a2, a3, a4, s0, s1, hin, ho⟩ := id H
  have hwh := pr_wh a2 a4
  have hwz : ¬ nI w = 0 := fun e => by have := (nI_eq (b := 0) (by omega) (by omega)).mp e; omega
  intro d
  induction d with
  | zero =>
    intro i k k' a h1 h2 h3
    obtain ⟨k, rfl⟩ : ∃ q, k = q + 1 := ⟨k - 1, by omega⟩
    obtain ⟨k', rfl⟩ : ∃ q, k' = q + 1 := ⟨k' - 1, by omega⟩
    have : i = 120 := by omega
    subst this
    refine ⟨nI a, ?_, ?_⟩
    · rw [f_X1_countTurns_L4]
      exact if_pos (Int32.le_refl _)
    · rw [f_X6_turnings_L8, pr_b1 (pm_many s0 s1), PC_120 a2 a4]
      exact if_pos (Int32.le_refl _)
  | succ d ih =>
    intro i k k' a h1 h2 h3
    obtain ⟨k, rfl⟩ : ∃ q, k = q + 1 := ⟨k - 1, by omega⟩
    have e : 12 * (i / 12) + i % 12 = i := by omega
    by_cases c : i / 12 < h ∧ i % 12 < w
    · obtain ⟨hy, hx⟩ := id c
      have p := PC_in a2 hy hx
      have p' : PC w h (i + 1) = w * (i / 12) + i % 12 + 1 := by rw [PC_succ, if_pos c, p]
      have hlt := pr_wy hx hy
      obtain ⟨k', rfl⟩ : ∃ q, k' = q + 1 := ⟨k' - 1, by omega⟩
      obtain ⟨z1, z2, z3, z4, ⟨l1, l2, l3, l4⟩, m1, m2, m3, m4⟩ := looks (n := n) (x := i % 12) (y := i / 12) s0 s1 a2 a4 hS (by omega) (by omega)
      have t0 := ih (i + 1) k k' a (by omega) (by omega) (by omega)
      have t1 := ih (i + 1) k k' (a + 1) (by omega) (by omega) (by omega)
      rw [p'] at t0 t1
      rw [f_X1_countTurns_L4, f_X6_turnings_L8, pr_b1 (pm_many s0 s1), if_neg (show ¬ (120 : Int32) ≤ nI i from nI_ge (b := 120) (by omega) (by omega)), p, if_neg (show ¬ nI (w * h) ≤ nI (w * (i / 12) + i % 12) from nI_ge (by omega) (by omega)), show (12 : Int32) = nI 12 from rfl, pk_rem (by omega) (by omega) (by omega), pk_div (by omega) (by omega) (by omega), pr_rd0 (by omega) (by omega), s0, pr_nz hwz, pk_rem (by omega) (by omega) (by omega)]
      simp only [pr_lt]
      rw [pr_rd0 (by omega) (by omega), s0, pr_nz hwz, pk_div (by omega) (by omega) (by omega), (dmw hx).1, (dmw hx).2, pr_b1 (pk_evenAt (by omega) (by omega)), pr_b1 (pm_even s0 s1 a2 a4 hS (by omega) (by omega)), pr_b1 l1, pr_b1 l2, pr_b1 l3, pr_b1 l4, pr_b1 m1, pr_b1 m2, pr_b1 m3, pr_b1 m4]
      have st0 : ∃ r, (cz_b1 (some (nI a)) fun x17 => cz_lt (nI i + 1) fun x22 => f_X1_countTurns_L4 n owners k x17 x22) = some (r, nI 120) ∧ (cz_b1 (some (0 : Int32)) fun x27 => cz_lt (nI a + x27) fun x32 => cz_lt (nI (w * (i / 12) + i % 12) + 1) fun x33 => f_X6_turnings_L8 n s whoseOf k' x32 x33) = some (r, nI (w * h)) := by
        rw [pr_b1 rfl, pr_b1 rfl, pr_lt, pr_lt, pr_lt, nI_1, nI_1, Int32.add_zero]
        exact t0
      have st1 : ∃ r, (cz_b1 (some (nI a + 1)) fun x17 => cz_lt (nI i + 1) fun x22 => f_X1_countTurns_L4 n owners k x17 x22) = some (r, nI 120) ∧ (cz_b1 (some (1 : Int32)) fun x27 => cz_lt (nI a + x27) fun x32 => cz_lt (nI (w * (i / 12) + i % 12) + 1) fun x33 => f_X6_turnings_L8 n s whoseOf k' x32 x33) = some (r, nI (w * h)) := by
        rw [pr_b1 rfl, pr_b1 rfl, pr_lt, pr_lt, pr_lt, nI_1, nI_1, nI_1]
        exact t1
      by_cases c0 : (if EV owners (i / 12) (i % 12) then (1 : Int32) else 0) = 0
      · rw [if_pos c0, if_pos c0]
        exact st0
      rw [if_neg c0, if_neg c0]
      by_cases c1 : z1 = 0
      · rw [if_pos c1, if_pos c1]
        by_cases c2 : z2 = 0
        · rw [if_pos c2, if_pos c2]
          exact st0
        rw [if_neg c2, if_neg c2]
        by_cases c3 : z3 = 0
        · rw [if_pos c3, if_pos c3]
          by_cases c4 : z4 = 0
          · rw [if_pos c4, if_pos c4]
            exact st0
          · rw [if_neg c4, if_neg c4]
            exact st1
        · rw [if_neg c3, if_neg c3]
          exact st1
      · rw [if_neg c1, if_neg c1]
        by_cases c3 : z3 = 0
        · rw [if_pos c3, if_pos c3]
          by_cases c4 : z4 = 0
          · rw [if_pos c4, if_pos c4]
            exact st0
          · rw [if_neg c4, if_neg c4]
            exact st1
        · rw [if_neg c3, if_neg c3]
          exact st1
    · have p' : PC w h (i + 1) = PC w h i := by rw [PC_succ, if_neg c]
      have t0 := ih (i + 1) k k' a (by omega) (by omega) (by omega)
      rw [p'] at t0
      have hev : ¬ EV owners (i / 12) (i % 12) := fun q => by
        have := hS.2 (i / 12) (i % 12) q.2.1 q.1 c
        exact absurd (this.symm.trans q.2.2) (by decide)
      rw [f_X1_countTurns_L4, if_neg (show ¬ (120 : Int32) ≤ nI i from nI_ge (b := 120) (by omega) (by omega)), show (12 : Int32) = nI 12 from rfl, pk_rem (by omega) (by omega) (by omega), pk_div (by omega) (by omega) (by omega), pr_lt, pr_lt, pr_b1 (pk_evenAt (by omega) (by omega)), if_neg hev, if_pos rfl, pr_b1 rfl, pr_lt, nI_1]
      exact t0
end EVE
theorem st_turnings {n : Nat} (hn : 200 ≤ n) {v_x_tape_length : Int32} {f_x_tape_signs : (Nat → Int32)} {v_x_waters_wide : Int32} {v_x_waters_high : Int32} {v_x_waters_wells : Int32} {f_x_waters_kinds : (Nat → Int32)} {f_x_waters_wellPlaces : (Nat → Int32)} {f_x_waters_wellWorths : (Nat → Int32)} {v_x_waters_rules_mouth : Int32} {v_x_waters_rules_weight : Int32} {v_x_waters_rules_reach : Int32} {v_x_waters_rules_bend : Int32} {v_x_kept_wide : Int32} {v_x_kept_high : Int32} {v_x_kept_wells : Int32} {f_x_kept_kinds : (Nat → Int32)} {f_x_kept_wellPlaces : (Nat → Int32)} {f_x_kept_wellWorths : (Nat → Int32)} {v_x_kept_rules_mouth : Int32} {v_x_kept_rules_weight : Int32} {v_x_kept_rules_reach : Int32} {v_x_kept_rules_bend : Int32} {v_x_hasImage : Int32} {v_x_rowLength : Int32} {f_x_row : (Nat → Int32)} {f_x_refusals : (Nat → Int32)} {v_m_isImage : Int32} {v_m_taped : Int32} {v_m_rowed : Int32} {f_m_tape : (Nat → Int32)} {f_m_s : (Nat → Int32)} {f_m_image : (Nat → Int32)} {f_m_row : (Nat → Int32)} {f_m_refusals : (Nat → Int32)} (v_x_chart_bases : Int32) (v_x_chart_thirds : Int32) (f_x_chart_inner : (Nat → Int32)) (f_x_chart_owners : (Nat → Int32)) (f_x_chart_nears : (Nat → Int32)) (f_x_chart_basePlaces : (Nat → Int32)) (f_x_chart_baseFactors : (Nat → Int32)) (f_x_chart_baseStarts : (Nat → Int32)) (v_m_thirds : Int32) (f_m_innerOf : (Nat → Int32)) (f_m_whoseOf : (Nat → Int32)) (f_m_nearOf : (Nat → Int32)) (f_m_fromOf : (Nat → Int32)) (hR : Rel v_x_tape_length f_x_tape_signs v_x_waters_wide v_x_waters_high v_x_waters_wells f_x_waters_kinds f_x_waters_wellPlaces f_x_waters_wellWorths v_x_waters_rules_mouth v_x_waters_rules_weight v_x_waters_rules_reach v_x_waters_rules_bend v_x_kept_wide v_x_kept_high v_x_kept_wells f_x_kept_kinds f_x_kept_wellPlaces f_x_kept_wellWorths v_x_kept_rules_mouth v_x_kept_rules_weight v_x_kept_rules_reach v_x_kept_rules_bend v_x_hasImage v_x_rowLength f_x_row f_x_refusals v_m_isImage v_m_taped v_m_rowed f_m_tape f_m_s f_m_image f_m_row f_m_refusals) : ∃ (r : Int32) (r_v_x_chart_bases : Int32) (r_v_x_chart_thirds : Int32) (r_f_x_chart_inner : (Nat → Int32)) (r_f_x_chart_owners : (Nat → Int32)) (r_f_x_chart_nears : (Nat → Int32)) (r_f_x_chart_basePlaces : (Nat → Int32)) (r_f_x_chart_baseFactors : (Nat → Int32)) (r_f_x_chart_baseStarts : (Nat → Int32)) (r_v_m_thirds : Int32) (r_f_m_innerOf : (Nat → Int32)) (r_f_m_whoseOf : (Nat → Int32)) (r_f_m_nearOf : (Nat → Int32)) (r_f_m_fromOf : (Nat → Int32)), f_X5_turnings n f_x_waters_kinds v_x_waters_rules_mouth v_x_waters_rules_weight v_x_waters_rules_reach v_x_waters_rules_bend v_x_chart_bases v_x_chart_thirds f_x_chart_inner f_x_chart_owners f_x_chart_nears f_x_chart_basePlaces f_x_chart_baseFactors f_x_chart_baseStarts = some (r, r_v_x_chart_bases, r_v_x_chart_thirds, r_f_x_chart_inner, r_f_x_chart_owners, r_f_x_chart_nears, r_f_x_chart_basePlaces, r_f_x_chart_baseFactors, r_f_x_chart_baseStarts) ∧ f_X6_turnings n v_m_thirds f_m_s f_m_innerOf f_m_whoseOf f_m_nearOf f_m_fromOf = some (r, r_v_m_thirds, r_f_m_innerOf, r_f_m_whoseOf, r_f_m_nearOf, r_f_m_fromOf) ∧ Rel v_x_tape_length f_x_tape_signs v_x_waters_wide v_x_waters_high v_x_waters_wells f_x_waters_kinds f_x_waters_wellPlaces f_x_waters_wellWorths v_x_waters_rules_mouth v_x_waters_rules_weight v_x_waters_rules_reach v_x_waters_rules_bend v_x_kept_wide v_x_kept_high v_x_kept_wells f_x_kept_kinds f_x_kept_wellPlaces f_x_kept_wellWorths v_x_kept_rules_mouth v_x_kept_rules_weight v_x_kept_rules_reach v_x_kept_rules_bend v_x_hasImage v_x_rowLength f_x_row f_x_refusals v_m_isImage v_m_taped v_m_rowed f_m_tape f_m_s f_m_image f_m_row f_m_refusals := by
  obtain ⟨R1, R2, R3, R4, R5, R6, R7, R8, R9, R10⟩ := id hR
  obtain ⟨w, h, nw, HS⟩ := id R4
  obtain ⟨M, hM, eM, s2, hW, s3, s4, s5, H⟩ := sea_all HS
  subst eM
  obtain ⟨b, th, inner, owners, nears, bp, bf, bs, e1, e2, e3⟩ := both hn H hM s2 hW s3 s4 s5 v_x_chart_bases v_x_chart_thirds f_x_chart_inner f_x_chart_owners f_x_chart_nears f_x_chart_basePlaces f_x_chart_baseFactors f_x_chart_baseStarts
  obtain ⟨innerOf, whoseOf, nearOf, fromOf, f1, f2⟩ := e3 v_m_thirds f_m_innerOf f_m_whoseOf f_m_nearOf f_m_fromOf
  have ed : f_X5_drawAsItIs n f_x_waters_kinds (nI M) v_x_waters_rules_weight v_x_waters_rules_reach v_x_waters_rules_bend v_x_chart_bases v_x_chart_thirds f_x_chart_inner f_x_chart_owners f_x_chart_nears f_x_chart_basePlaces f_x_chart_baseFactors f_x_chart_baseStarts = some (b, nI th, inner, owners, nears, bp, bf, bs) := by
    unfold f_X5_drawAsItIs
    rw [pr_b8 e1]
  obtain ⟨r, q1, q2⟩ := turns_L (n := n) H f2 120 0 n n 0 (by omega) (by omega) (by omega)
  have q1' : f_X1_countTurns n owners = some r := by
    unfold f_X1_countTurns
    exact pr_b2 q1
  have q2' : f_X6_turnings_L8 n f_m_s whoseOf n 0 0 = some (r, nI (w * h)) := q2
  unfold f_X5_turnings f_X6_turnings
  rw [pr_b8 ed, pr_b1 q1', pr_b5 f1, pr_b2 q2']
  exact ⟨_, _, _, _, _, _, _, _, _, _, _, _, _, _, rfl, rfl, hR⟩
