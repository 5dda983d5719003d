/-! the pure side, 6: wells, what grows -/
theorem st_well {n : Nat} (hn : 200 ≤ n) {v_x_tape_length : Int32} {f_x_tape_signs : (Nat → Int32)} {v_x_waters_wide : Int32} {v_x_waters_high : Int32} {v_x_waters_wells : Int32} {f_x_waters_kinds : (Nat → Int32)} {f_x_waters_wellPlaces : (Nat → Int32)} {f_x_waters_wellWorths : (Nat → Int32)} {v_x_waters_rules_mouth : Int32} {v_x_waters_rules_weight : Int32} {v_x_waters_rules_reach : Int32} {v_x_waters_rules_bend : Int32} {v_x_kept_wide : Int32} {v_x_kept_high : Int32} {v_x_kept_wells : Int32} {f_x_kept_kinds : (Nat → Int32)} {f_x_kept_wellPlaces : (Nat → Int32)} {f_x_kept_wellWorths : (Nat → Int32)} {v_x_kept_rules_mouth : Int32} {v_x_kept_rules_weight : Int32} {v_x_kept_rules_reach : Int32} {v_x_kept_rules_bend : Int32} {v_x_hasImage : Int32} {v_x_rowLength : Int32} {f_x_row : (Nat → Int32)} {f_x_refusals : (Nat → Int32)} {v_m_isImage : Int32} {v_m_taped : Int32} {v_m_rowed : Int32} {f_m_tape : (Nat → Int32)} {f_m_s : (Nat → Int32)} {f_m_image : (Nat → Int32)} {f_m_row : (Nat → Int32)} {f_m_refusals : (Nat → Int32)} (w1 : Int32) (w2 : Int32) (hR : Rel v_x_tape_length f_x_tape_signs v_x_waters_wide v_x_waters_high v_x_waters_wells f_x_waters_kinds f_x_waters_wellPlaces f_x_waters_wellWorths v_x_waters_rules_mouth v_x_waters_rules_weight v_x_waters_rules_reach v_x_waters_rules_bend v_x_kept_wide v_x_kept_high v_x_kept_wells f_x_kept_kinds f_x_kept_wellPlaces f_x_kept_wellWorths v_x_kept_rules_mouth v_x_kept_rules_weight v_x_kept_rules_reach v_x_kept_rules_bend v_x_hasImage v_x_rowLength f_x_row f_x_refusals v_m_isImage v_m_taped v_m_rowed f_m_tape f_m_s f_m_image f_m_row f_m_refusals) : ∃ (r : Int32) (r_v_x_waters_wells : Int32) (r_f_x_waters_wellPlaces : (Nat → Int32)) (r_f_x_waters_wellWorths : (Nat → Int32)) (r_f_x_refusals : (Nat → Int32)) (r_f_m_refusals : (Nat → Int32)) (r_f_m_s : (Nat → Int32)), f_X5_well n v_x_waters_wells f_x_waters_kinds f_x_waters_wellPlaces f_x_waters_wellWorths f_x_refusals w1 w2 = some (r, r_v_x_waters_wells, r_f_x_waters_wellPlaces, r_f_x_waters_wellWorths, r_f_x_refusals) ∧ f_X6_well n f_m_refusals f_m_s w1 w2 = some (r, r_f_m_refusals, r_f_m_s) ∧ Rel v_x_tape_length f_x_tape_signs v_x_waters_wide v_x_waters_high r_v_x_waters_wells f_x_waters_kinds r_f_x_waters_wellPlaces r_f_x_waters_wellWorths v_x_waters_rules_mouth v_x_waters_rules_weight v_x_waters_rules_reach v_x_waters_rules_bend v_x_kept_wide v_x_kept_high v_x_kept_wells f_x_kept_kinds f_x_kept_wellPlaces f_x_kept_wellWorths v_x_kept_rules_mouth v_x_kept_rules_weight v_x_kept_rules_reach v_x_kept_rules_bend v_x_hasImage v_x_rowLength f_x_row r_f_x_refusals v_m_isImage v_m_taped v_m_rowed f_m_tape r_f_m_s f_m_image f_m_row r_f_m_refusals := by
  obtain ⟨R1, R2, R3, R4, R5, R6, R7, R8, R9, R10⟩ := hR
  obtain ⟨w, h, nw, R4'⟩ := id R4
  obtain ⟨a1, a2, a3, a4, a5, ew, eh, en, s0, s1, s2, s3, s4, s5, s6, hm, hwt, hre, hbd, hin, ho, hwl⟩ := id R4'
  subst en
  have hbad : ∀ (c : Nat) (v : Int32), 1 ≤ c ∧ c ≤ 6 → -v = nI c → (∀ (g : Nat → Int32), f_X5_refuse n f_x_refusals v = some (v, g) → f_X5_well n (nI nw) f_x_waters_kinds f_x_waters_wellPlaces f_x_waters_wellWorths f_x_refusals w1 w2 = some (v, nI nw, f_x_waters_wellPlaces, f_x_waters_wellWorths, g)) → (∀ (g : Nat → Int32), f_X6_refuse n f_m_refusals v = some (v, g) → f_X6_well n f_m_refusals f_m_s w1 w2 = some (v, g, f_m_s)) → ∃ (r : Int32) (r_v_x_waters_wells : Int32) (r_f_x_waters_wellPlaces : Nat → Int32) (r_f_x_waters_wellWorths : Nat → Int32) (r_f_x_refusals : Nat → Int32) (r_f_m_refusals : Nat → Int32) (r_f_m_s : Nat → Int32), f_X5_well n (nI nw) f_x_waters_kinds f_x_waters_wellPlaces f_x_waters_wellWorths f_x_refusals w1 w2 = some (r, r_v_x_waters_wells, r_f_x_waters_wellPlaces, r_f_x_waters_wellWorths, r_f_x_refusals) ∧ f_X6_well n f_m_refusals f_m_s w1 w2 = some (r, r_f_m_refusals, r_f_m_s) ∧ Rel v_x_tape_length f_x_tape_signs v_x_waters_wide v_x_waters_high r_v_x_waters_wells f_x_waters_kinds r_f_x_waters_wellPlaces r_f_x_waters_wellWorths v_x_waters_rules_mouth v_x_waters_rules_weight v_x_waters_rules_reach v_x_waters_rules_bend v_x_kept_wide v_x_kept_high v_x_kept_wells f_x_kept_kinds f_x_kept_wellPlaces f_x_kept_wellWorths v_x_kept_rules_mouth v_x_kept_rules_weight v_x_kept_rules_reach v_x_kept_rules_bend v_x_hasImage v_x_rowLength f_x_row r_f_x_refusals v_m_isImage v_m_taped v_m_rowed f_m_tape r_f_m_s f_m_image f_m_row r_f_m_refusals := by
    intro c v hc hv h5 h6
    obtain ⟨g, g', e1, e2, e3⟩ := pr_refuse (n := n) c hc (v := v) hv R10
    exact ⟨_, _, _, _, _, _, _, h5 g e1, h6 g' e2, R1, R2, R3, R4, R5, R6, R7, R8, R9, e3⟩
  have e6 : (6 : Int32) = nI 6 := rfl
  have e12 : (12 : Int32) = nI 12 := rfl
  rcases pr_cell_or w1 w h with ⟨x, y, hx, hy, rfl⟩ | hno
  · obtain ⟨⟨a, ha, ea⟩, es⟩ := hin y x hy hx
    have hc := pr_c120 a2 a4 hx hy
    have h8 : ¬ f_x_waters_kinds (12 * y + x) = 8 := fun q => by
      have e8 : (8 : Int32) = nI 8 := rfl
      rw [ea, e8, nI_eq (by omega) (by omega)] at q
      omega
    have hp := pk_placeOf (n := n) a2 a4 hx hy h8
    have hk := pk_kindOf (n := n) (kinds := f_x_waters_kinds) (c := 12 * y + x) (by omega)
    have q1 := pm_isCell (n := n) s0 s1 a2 a4 hx hy
    have q2 := pm_of (n := n) s0 a2 hx (y := y) (by omega)
    have q3 := pm_at (n := n) (s := f_m_s) (c := w * y + x) (by omega)
    by_cases h0 : f_x_waters_kinds (12 * y + x) = 0
    · by_cases c1 : (1 : Int32) ≤ w2
      · by_cases c2 : w2 ≤ (99 : Int32)
        · by_cases c3 : nw < 12
          · obtain ⟨z, hz, ez⟩ := nI_of2 (M := 99) (n := 99) (by decide) (fun q => absurd (Int32.lt_of_lt_of_le q (Int32.le_trans (by decide) c1)) (Int32.lt_irrefl)) c2
            refine ⟨nI (nw + 1), nI (nw + 1), upd f_x_waters_wellPlaces nw (nI (12 * y + x)), upd f_x_waters_wellWorths nw w2, f_x_refusals, f_m_refusals, upd (upd (upd f_m_s (127 + 2 * nw) (nI (w * y + x))) (127 + 2 * nw + 1) w2) 6 (nI (nw + 1)), ?_, ?_, R1, R2, R3, ⟨w, h, nw + 1, a1, a2, a3, a4, by omega, ew, eh, rfl, by rw [pk_un (by omega), pk_un (by omega), pk_un (by omega)]; exact s0, by rw [pk_un (by omega), pk_un (by omega), pk_un (by omega)]; exact s1, by rw [pk_un (by omega), pk_un (by omega), pk_un (by omega)]; exact s2, by rw [pk_un (by omega), pk_un (by omega), pk_un (by omega)]; exact s3, by rw [pk_un (by omega), pk_un (by omega), pk_un (by omega)]; exact s4, by rw [pk_un (by omega), pk_un (by omega), pk_un (by omega)]; exact s5, pk_us, hm, hwt, hre, hbd, fun y' x' hy' hx' => ?_, ho, fun k hk' => ?_⟩, R5, R6, R7, R8, R9, R10⟩
            · unfold f_X5_well
              rw [pr_b1 hp, if_pos (nI_pos' (by omega)), pr_b1 hk, if_pos h0, if_pos c1, if_neg (Int32.not_lt.mpr c2), e12, if_pos (nI_lt c3 (by omega))]
              have : f_X4_addWell n (nI nw) f_x_waters_wellPlaces f_x_waters_wellWorths (nI (12 * y + x)) w2 = some (nI (nw + 1), upd f_x_waters_wellPlaces nw (nI (12 * y + x)), upd f_x_waters_wellWorths nw w2) := by
                unfold f_X4_addWell
                rw [if_neg (nI_pos (by omega)), e12, if_neg (nI_ge c3 (by omega)), pr_wr c3 (by omega), pr_wr c3 (by omega), pr_lt, nI_1]
              rw [pr_b3 this]
            · unfold f_X6_well
              have e127 : (127 : Int32) = nI 127 := rfl
              have e2 : (2 : Int32) = nI 2 := rfl
              have t1 : nI 127 + nI 2 * nI nw = nI (127 + 2 * nw) := by rw [pk_mul, nI_add]
              have t2 : nI (127 + 2 * nw) + 1 = nI (127 + 2 * nw + 1) := nI_1 _
              rw [pr_b1 q1, if_neg (by decide), pr_b1 q2, pr_b1 q3, es, if_pos h0, pr_b1 (pm_within0 c1 c2), pr_b1 rfl, if_pos rfl, e6, pr_rd (by omega) (by omega), s6, e12, if_neg (fun q => by have := (nI_eq (by omega) (by omega)).mp q; omega), pr_b1 rfl, if_pos rfl, pr_rd (by omega) (by omega), s6, pr_b1 q2, e127, e2, t1, pr_wr (by omega) (by omega), pr_rd (by omega) (by omega), pk_un (by omega), s6, t1, t2, pr_wr (by omega) (by omega), pr_rd (by omega) (by omega), pk_un (by omega), pk_un (by omega), s6, nI_1, pr_wr (by omega) (by omega), pr_rd (by omega) (by omega), pk_us]
            · have hc' := pr_c120 a2 a4 hx' hy'
              rw [pk_un (by omega), pk_un (by omega), pk_un (by omega)]
              exact hin y' x' hy' hx'
            · by_cases ek : k = nw
              · subst ek
                refine ⟨y, x, hy, hx, pk_us, by rw [pk_un (by omega), pk_un (by omega), pk_us], h0, by rw [pk_us, pk_un (by omega), pk_us], z, hz, by rw [pk_us]; exact ez⟩
              · obtain ⟨y', x', b1, b2, b3, b4, b5, b6, b7⟩ := hwl k (by omega)
                exact ⟨y', x', b1, b2, by rw [pk_un ek]; exact b3, by rw [pk_un (by omega), pk_un (by omega), pk_un (by omega)]; exact b4, b5, by rw [pk_un ek, pk_un (by omega), pk_un (by omega), pk_un (by omega)]; exact b6, by rw [pk_un ek]; exact b7⟩
          · have : nw = 12 := by omega
            subst this
            refine hbad 6 (-6) (by omega) rfl (fun g e => ?_) (fun g e => ?_)
            · unfold f_X5_well
              rw [pr_b1 hp, if_pos (nI_pos' (by omega)), pr_b1 hk, if_pos h0, if_pos c1, if_neg (Int32.not_lt.mpr c2), if_neg (by decide), pr_b2 e]
            · unfold f_X6_well
              rw [pr_b1 q1, if_neg (by decide), pr_b1 q2, pr_b1 q3, es, if_pos h0, pr_b1 (pm_within0 c1 c2), pr_b1 rfl, if_pos rfl, e6, pr_rd (by omega) (by omega), s6, if_pos (show nI 12 = 12 from rfl), pr_b1 rfl, if_neg (by decide)]
              exact pr_b2 e
        · refine hbad 6 (-6) (by omega) rfl (fun g e => ?_) (fun g e => ?_)
          · unfold f_X5_well
            rw [pr_b1 hp, if_pos (nI_pos' (by omega)), pr_b1 hk, if_pos h0, if_pos c1, if_pos (Int32.not_le.mp c2), pr_b2 e]
          · unfold f_X6_well
            rw [pr_b1 q1, if_neg (by decide), pr_b1 q2, pr_b1 q3, es, if_pos h0, pr_b1 (pm_within6 c1 c2), pr_b1 rfl, if_neg (by decide), pr_b1 rfl, if_neg (by decide), pr_b2 e]
      · refine hbad 4 (-4) (by omega) rfl (fun g e => ?_) (fun g e => ?_)
        · unfold f_X5_well
          rw [pr_b1 hp, if_pos (nI_pos' (by omega)), pr_b1 hk, if_pos h0, if_neg c1, pr_b2 e]
        · unfold f_X6_well
          rw [pr_b1 q1, if_neg (by decide), pr_b1 q2, pr_b1 q3, es, if_pos h0, pr_b1 (pm_within4 c1), pr_b1 rfl, if_neg (by decide), pr_b1 rfl, if_neg (by decide), pr_b2 e]
    · refine hbad 3 (-3) (by omega) rfl (fun g e => ?_) (fun g e => ?_)
      · unfold f_X5_well
        rw [pr_b1 hp, if_pos (nI_pos' (by omega)), pr_b1 hk, if_neg h0, pr_b2 e]
      · unfold f_X6_well
        rw [pr_b1 q1, if_neg (by decide), pr_b1 q2, pr_b1 q3, es, if_neg h0, pr_b1 rfl, if_neg (by decide), pr_b1 rfl, if_neg (by decide), pr_b2 e]
  · refine hbad 1 (-1) (by omega) rfl (fun g e => ?_) (fun g e => ?_)
    · unfold f_X5_well
      rw [pr_b1 (pk_placeOfN a2 a4 ho hno), if_neg (by decide), pr_b2 e]
    · unfold f_X6_well
      rw [pr_b1 (pm_isCellN s0 s1 a2 a4 hno), if_pos rfl, pr_b1 rfl, if_neg (by decide), pr_b1 rfl, if_neg (by decide), pr_b2 e]
/-- the wells that are not at a place, in their order -/
theorem pf_drop (n : Nat) {w nw : Nat} (hnw : nw ≤ 12) {p ch : Nat} (P C V : Nat → Nat) (hP : ∀ k, k < nw → P k < 2 ^ 31 ∧ C k < 2 ^ 31 ∧ (P k = p ↔ C k = ch)) (hp : p < 2 ^ 31) (hch : ch < 2 ^ 31) :
    ∀ (d i l k1 k2 : Nat) (g g' s : Nat → Int32), i + d = nw → l ≤ i → d < k1 → d < k2 → s 6 = nI nw →
      (∀ k, i ≤ k → k < nw → g k = nI (P k) ∧ g' k = nI (V k) ∧ s (127 + 2 * k) = nI (C k) ∧ s (127 + 2 * k + 1) = nI (V k)) →
      ∃ (l' : Nat) (G G' S : Nat → Int32), l ≤ l' ∧ l' ≤ nw ∧ f_X4_dropWells_L4 n (nI nw) (nI p) k1 (nI l) (nI i) g g' = some (nI l', nI nw, G, G') ∧ f_X6_closes_L4 n (nI ch) k2 (nI l) (nI i) s = some (nI l', nI nw, S) ∧
        (∀ k, k < l → G k = g k ∧ G' k = g' k ∧ S (127 + 2 * k) = s (127 + 2 * k) ∧ S (127 + 2 * k + 1) = s (127 + 2 * k + 1)) ∧ (∀ k, l ≤ k → k < l' → ∃ q, i ≤ q ∧ q < nw ∧ ¬ P q = p ∧ G k = nI (P q) ∧ G' k = nI (V q) ∧ S (127 + 2 * k) = nI (C q) ∧ S (127 + 2 * k + 1) = nI (V q)) ∧ (∀ k, k < 127 → S k = s k) := by
  have e127 : (127 : Int32) = nI 127 := rfl
  have e2 : (2 : Int32) = nI 2 := rfl
  have e6 : (6 : Int32) = nI 6 := rfl
  have e12 : (12 : Int32) = nI 12 := rfl
  have t1 : ∀ m : Nat, nI 127 + nI 2 * nI m = nI (127 + 2 * m) := fun m => by rw [pk_mul, nI_add]
  have t2 : ∀ m : Nat, nI (127 + 2 * m) + 1 = nI (127 + 2 * m + 1) := fun m => nI_1 _
  intro d
  induction d with
  | zero =>
    intro i l k1 k2 g g' s h1 h2 h3 h4 h6 hk
    obtain ⟨k1, rfl⟩ : ∃ q, k1 = q + 1 := ⟨k1 - 1, by omega⟩
    obtain ⟨k2, rfl⟩ : ∃ q, k2 = q + 1 := ⟨k2 - 1, by omega⟩
    have : i = nw := by omega
    subst this
    refine ⟨l, g, g', s, Nat.le_refl _, h2, ?_, ?_, fun k _ => ⟨rfl, rfl, rfl, rfl⟩, fun k q1 q2 => absurd q2 (by omega), fun k _ => rfl⟩
    · rw [f_X4_dropWells_L4, if_pos (Int32.le_refl _)]
    · rw [f_X6_closes_L4, e6, pr_rd (by omega) (by omega), h6, if_pos (Int32.le_refl _)]
  | succ d ih =>
    intro i l k1 k2 g g' s h1 h2 h3 h4 h6 hk
    obtain ⟨k1, rfl⟩ : ∃ q, k1 = q + 1 := ⟨k1 - 1, by omega⟩
    obtain ⟨k2, rfl⟩ : ∃ q, k2 = q + 1 := ⟨k2 - 1, by omega⟩
    obtain ⟨b1, b2, b3, b4⟩ := hk i (Nat.le_refl _) (by omega)
    obtain ⟨p1, p2, p3⟩ := hP i (by omega)
    by_cases c : P i = p
    · have E5 : f_X4_dropWells_L4 n (nI nw) (nI p) (k1 + 1) (nI l) (nI i) g g' = f_X4_dropWells_L4 n (nI nw) (nI p) k1 (nI l) (nI (i + 1)) g g' := by
        rw [f_X4_dropWells_L4, if_neg (nI_ge (by omega) (by omega)), e12, if_neg (nI_ge (by omega) (by omega)), pr_rd (by omega) (by omega), b1, if_pos (by rw [c]), pr_b3 rfl, pr_lt, nI_1]
      have E6 : f_X6_closes_L4 n (nI ch) (k2 + 1) (nI l) (nI i) s = f_X6_closes_L4 n (nI ch) k2 (nI l) (nI (i + 1)) s := by
        rw [f_X6_closes_L4, e6, pr_rd (by omega) (by omega), h6, if_neg (nI_ge (by omega) (by omega)), e127, e2, t1, pr_rd (by omega) (by omega), b3, if_pos (by rw [p3.mp c]), pr_b2 rfl, pr_lt, nI_1]
      rw [E5, E6]
      obtain ⟨l', G, G', S, q1, q2, q3, q4, q5, q6, q7⟩ := ih (i + 1) l k1 k2 g g' s (by omega) (by omega) (by omega) (by omega) h6 (fun k z1 z2 => hk k (by omega) z2)
      refine ⟨l', G, G', S, q1, q2, q3, q4, q5, fun k z1 z2 => ?_, q7⟩
      obtain ⟨q, y1, y2, y3⟩ := q6 k z1 z2
      exact ⟨q, by omega, y2, y3⟩
    · have E5 : f_X4_dropWells_L4 n (nI nw) (nI p) (k1 + 1) (nI l) (nI i) g g' = f_X4_dropWells_L4 n (nI nw) (nI p) k1 (nI (l + 1)) (nI (i + 1)) (upd g l (nI (P i))) (upd g' l (nI (V i))) := by
        rw [f_X4_dropWells_L4, if_neg (nI_ge (by omega) (by omega)), e12, if_neg (nI_ge (by omega) (by omega)), pr_rd (by omega) (by omega), if_neg (by rw [b1]; exact fun q => c ((nI_eq p1 hp).mp q)), pr_rd (by omega) (by omega), pr_wr (by omega) (by omega), pr_rd (by omega) (by omega), pr_wr (by omega) (by omega), pr_lt, pr_b3 rfl, pr_lt, nI_1, nI_1, b1, b2]
      have E6 : f_X6_closes_L4 n (nI ch) (k2 + 1) (nI l) (nI i) s = f_X6_closes_L4 n (nI ch) k2 (nI (l + 1)) (nI (i + 1)) (upd (upd s (127 + 2 * l) (nI (C i))) (127 + 2 * l + 1) (nI (V i))) := by
        rw [f_X6_closes_L4, e6, pr_rd (by omega) (by omega), h6, if_neg (nI_ge (by omega) (by omega)), e127, e2, t1, t1, pr_rd (by omega) (by omega), if_neg (by rw [b3]; exact fun q => c (p3.mpr ((nI_eq p2 hch).mp q))), pr_rd (by omega) (by omega), pr_wr (by omega) (by omega), t2, t2, pr_rd (by omega) (by omega), pr_wr (by omega) (by omega), pr_lt, pr_b2 rfl, pr_lt, nI_1, nI_1, b3, pk_un (by omega), b4]
      rw [E5, E6]
      obtain ⟨l', G, G', S, q1, q2, q3, q4, q5, q6, q7⟩ := ih (i + 1) (l + 1) k1 k2 (upd g l (nI (P i))) (upd g' l (nI (V i))) (upd (upd s (127 + 2 * l) (nI (C i))) (127 + 2 * l + 1) (nI (V i))) (by omega) (by omega) (by omega) (by omega) (by rw [pk_un (by omega), pk_un (by omega)]; exact h6) (fun k z1 z2 => by
        obtain ⟨y1, y2, y3, y4⟩ := hk k (by omega) z2
        rw [pk_un (by omega), pk_un (by omega), pk_un (by omega), pk_un (by omega), pk_un (by omega), pk_un (by omega)]
        exact ⟨y1, y2, y3, y4⟩)
      refine ⟨l', G, G', S, by omega, q2, q3, q4, fun k z => ?_, fun k z1 z2 => ?_, fun k z => ?_⟩
      · obtain ⟨y1, y2, y3, y4⟩ := q5 k (by omega)
        rw [pk_un (by omega)] at y1 y2
        rw [pk_un (by omega), pk_un (by omega)] at y3 y4
        exact ⟨y1, y2, y3, y4⟩
      · by_cases ek : k = l
        · subst ek
          obtain ⟨y1, y2, y3, y4⟩ := q5 k (by omega)
          rw [pk_us] at y1 y2
          rw [pk_un (by omega), pk_us] at y3
          rw [pk_us] at y4
          exact ⟨i, Nat.le_refl _, by omega, c, y1, y2, y3, y4⟩
        · obtain ⟨q, y1, y2, y3⟩ := q6 k (by omega) z2
          exact ⟨q, by omega, y2, y3⟩
      · rw [q7 k z, pk_un (by omega), pk_un (by omega)]
theorem st_grow {n : Nat} (hn : 200 ≤ n) {v_x_tape_length : Int32} {f_x_tape_signs : (Nat → Int32)} {v_x_waters_wide : Int32} {v_x_waters_high : Int32} {v_x_waters_wells : Int32} {f_x_waters_kinds : (Nat → Int32)} {f_x_waters_wellPlaces : (Nat → Int32)} {f_x_waters_wellWorths : (Nat → Int32)} {v_x_waters_rules_mouth : Int32} {v_x_waters_rules_weight : Int32} {v_x_waters_rules_reach : Int32} {v_x_waters_rules_bend : Int32} {v_x_kept_wide : Int32} {v_x_kept_high : Int32} {v_x_kept_wells : Int32} {f_x_kept_kinds : (Nat → Int32)} {f_x_kept_wellPlaces : (Nat → Int32)} {f_x_kept_wellWorths : (Nat → Int32)} {v_x_kept_rules_mouth : Int32} {v_x_kept_rules_weight : Int32} {v_x_kept_rules_reach : Int32} {v_x_kept_rules_bend : Int32} {v_x_hasImage : Int32} {v_x_rowLength : Int32} {f_x_row : (Nat → Int32)} {f_x_refusals : (Nat → Int32)} {v_m_isImage : Int32} {v_m_taped : Int32} {v_m_rowed : Int32} {f_m_tape : (Nat → Int32)} {f_m_s : (Nat → Int32)} {f_m_image : (Nat → Int32)} {f_m_row : (Nat → Int32)} {f_m_refusals : (Nat → Int32)} (w1 : Int32) (w2 : Int32) (hR : Rel v_x_tape_length f_x_tape_signs v_x_waters_wide v_x_waters_high v_x_waters_wells f_x_waters_kinds f_x_waters_wellPlaces f_x_waters_wellWorths v_x_waters_rules_mouth v_x_waters_rules_weight v_x_waters_rules_reach v_x_waters_rules_bend v_x_kept_wide v_x_kept_high v_x_kept_wells f_x_kept_kinds f_x_kept_wellPlaces f_x_kept_wellWorths v_x_kept_rules_mouth v_x_kept_rules_weight v_x_kept_rules_reach v_x_kept_rules_bend v_x_hasImage v_x_rowLength f_x_row f_x_refusals v_m_isImage v_m_taped v_m_rowed f_m_tape f_m_s f_m_image f_m_row f_m_refusals) : ∃ (r : Int32) (r_v_x_waters_wells : Int32) (r_f_x_waters_kinds : (Nat → Int32)) (r_f_x_waters_wellPlaces : (Nat → Int32)) (r_f_x_waters_wellWorths : (Nat → Int32)) (r_f_x_refusals : (Nat → Int32)) (r_f_m_refusals : (Nat → Int32)) (r_f_m_s : (Nat → Int32)), f_X5_grow n v_x_waters_wells f_x_waters_kinds f_x_waters_wellPlaces f_x_waters_wellWorths f_x_refusals w1 w2 = some (r, r_v_x_waters_wells, r_f_x_waters_kinds, r_f_x_waters_wellPlaces, r_f_x_waters_wellWorths, r_f_x_refusals) ∧ f_X6_grow n f_m_refusals f_m_s w1 w2 = some (r, r_f_m_refusals, r_f_m_s) ∧ Rel v_x_tape_length f_x_tape_signs v_x_waters_wide v_x_waters_high r_v_x_waters_wells r_f_x_waters_kinds r_f_x_waters_wellPlaces r_f_x_waters_wellWorths v_x_waters_rules_mouth v_x_waters_rules_weight v_x_waters_rules_reach v_x_waters_rules_bend v_x_kept_wide v_x_kept_high v_x_kept_wells f_x_kept_kinds f_x_kept_wellPlaces f_x_kept_wellWorths v_x_kept_rules_mouth v_x_kept_rules_weight v_x_kept_rules_reach v_x_kept_rules_bend v_x_hasImage v_x_rowLength f_x_row r_f_x_refusals v_m_isImage v_m_taped v_m_rowed f_m_tape r_f_m_s f_m_image f_m_row r_f_m_refusals := by
  obtain ⟨R1, R2, R3, R4, R5, R6, R7, R8, R9, R10⟩ := hR
  obtain ⟨w, h, nw, R4'⟩ := id R4
  obtain ⟨a1, a2, a3, a4, a5, ew, eh, en, s0, s1, s2, s3, s4, s5, s6, hm, hwt, hre, hbd, hin, ho, hwl⟩ := id R4'
  subst en
  have hbad : ∀ (c : Nat) (v : Int32), 1 ≤ c ∧ c ≤ 6 → -v = nI c → (∀ (g : Nat → Int32), f_X5_refuse n f_x_refusals v = some (v, g) → f_X5_grow n (nI nw) f_x_waters_kinds f_x_waters_wellPlaces f_x_waters_wellWorths f_x_refusals w1 w2 = some (v, nI nw, f_x_waters_kinds, f_x_waters_wellPlaces, f_x_waters_wellWorths, g)) → (∀ (g : Nat → Int32), f_X6_refuse n f_m_refusals v = some (v, g) → f_X6_grow n f_m_refusals f_m_s w1 w2 = some (v, g, f_m_s)) → ∃ (r : Int32) (r_v_x_waters_wells : Int32) (r_f_x_waters_kinds : Nat → Int32) (r_f_x_waters_wellPlaces : Nat → Int32) (r_f_x_waters_wellWorths : Nat → Int32) (r_f_x_refusals : Nat → Int32) (r_f_m_refusals : Nat → Int32) (r_f_m_s : Nat → Int32), f_X5_grow n (nI nw) f_x_waters_kinds f_x_waters_wellPlaces f_x_waters_wellWorths f_x_refusals w1 w2 = some (r, r_v_x_waters_wells, r_f_x_waters_kinds, r_f_x_waters_wellPlaces, r_f_x_waters_wellWorths, r_f_x_refusals) ∧ f_X6_grow n f_m_refusals f_m_s w1 w2 = some (r, r_f_m_refusals, r_f_m_s) ∧ Rel v_x_tape_length f_x_tape_signs v_x_waters_wide v_x_waters_high r_v_x_waters_wells r_f_x_waters_kinds r_f_x_waters_wellPlaces r_f_x_waters_wellWorths v_x_waters_rules_mouth v_x_waters_rules_weight v_x_waters_rules_reach v_x_waters_rules_bend v_x_kept_wide v_x_kept_high v_x_kept_wells f_x_kept_kinds f_x_kept_wellPlaces f_x_kept_wellWorths v_x_kept_rules_mouth v_x_kept_rules_weight v_x_kept_rules_reach v_x_kept_rules_bend v_x_hasImage v_x_rowLength f_x_row r_f_x_refusals v_m_isImage v_m_taped v_m_rowed f_m_tape r_f_m_s f_m_image f_m_row r_f_m_refusals := by
    intro c v hc hv h5 h6
    obtain ⟨g, g', e1, e2, e3⟩ := pr_refuse (n := n) c hc (v := v) hv R10
    exact ⟨_, _, _, _, _, _, _, _, h5 g e1, h6 g' e2, R1, R2, R3, R4, R5, R6, R7, R8, R9, e3⟩
  rcases pr_cell_or w1 w h with ⟨x, y, hx, hy, rfl⟩ | hno
  · obtain ⟨⟨a, ha, ea⟩, es⟩ := hin y x hy hx
    have hc := pr_c120 a2 a4 hx hy
    have h8 : ¬ f_x_waters_kinds (12 * y + x) = 8 := fun q => by
      have e8 : (8 : Int32) = nI 8 := rfl
      rw [ea, e8, nI_eq (by omega) (by omega)] at q
      omega
    have hp := pk_placeOf (n := n) a2 a4 hx hy h8
    have hk := pk_kindOf (n := n) (kinds := f_x_waters_kinds) (c := 12 * y + x) (by omega)
    have q1 := pm_isCell (n := n) s0 s1 a2 a4 hx hy
    have q2 := pm_of (n := n) s0 a2 hx (y := y) (by omega)
    have q3 := pm_at (n := n) (s := f_m_s) (c := w * y + x) (by omega)
    by_cases cl : w2 < 0 ∨ (3 : Int32) ≤ w2
    · have z1 : f_X5_isLand n w2 = some 0 := pm_isIn0 (n := n) cl
      refine hbad 1 (-1) (by omega) rfl (fun g e => ?_) (fun g e => ?_)
      · unfold f_X5_grow
        rw [pr_b1 hp, if_neg (nI_pos (by omega)), pr_b1 z1, if_pos rfl, pr_b2 e]
      · unfold f_X6_grow
        rw [pr_b1 q1, if_neg (by decide), pr_b1 (pm_isIn0 cl), if_pos rfl, pr_b1 rfl, if_neg (by decide), pr_b2 e]
    · have cl1 : ¬ w2 < 0 := fun q => cl (Or.inl q)
      have cl2 : ¬ (3 : Int32) ≤ w2 := fun q => cl (Or.inr q)
      have z1 : f_X5_isLand n w2 = some 1 := pm_isIn1 (n := n) cl1 cl2
      by_cases h0 : f_x_waters_kinds (12 * y + x) = 0
      · obtain ⟨l, hl, rfl⟩ := nI_of cl1
        have hl3 : l < 3 := Decidable.of_not_not fun q => cl2 (nI_le (a := 3) (by omega) hl)
        have h0' : ∀ k : Nat, ∃ q : Nat × Nat × Nat, k < nw → q.1 < h ∧ q.2.1 < w ∧ f_x_waters_wellPlaces k = nI (12 * q.1 + q.2.1) ∧ f_m_s (127 + 2 * k) = nI (w * q.1 + q.2.1) ∧ f_x_waters_kinds (12 * q.1 + q.2.1) = 0 ∧ f_m_s (127 + 2 * k + 1) = nI q.2.2 ∧ q.2.2 ≤ 99 ∧ f_x_waters_wellWorths k = nI q.2.2 := fun k => by
          by_cases ck : k < nw
          · obtain ⟨y', x', b1, b2, b3, b4, b5, b6, v, b7, b8⟩ := hwl k ck
            exact ⟨(y', x', v), fun _ => ⟨b1, b2, b3, b4, b5, by rw [← b6]; exact b8, b7, b8⟩⟩
          · exact ⟨(0, 0, 0), fun q => absurd q ck⟩
        obtain ⟨F, hF⟩ := Classical.axiomOfChoice h0'
        obtain ⟨l', G, G', S, d1, d2, d3, d4, d5, d6, d7⟩ := pf_drop n (w := w) a5 (p := 12 * y + x) (ch := w * y + x) (fun k => 12 * (F k).1 + (F k).2.1) (fun k => w * (F k).1 + (F k).2.1) (fun k => (F k).2.2)
          (fun k hk' => by
            obtain ⟨b1, b2, -⟩ := hF k hk'
            have hc' := pr_c120 a2 a4 b2 b1
            refine ⟨by omega, by omega, fun e => ?_, fun e => ?_⟩
            · obtain ⟨i1, i2⟩ := pr_inj (w := 12) (by omega) (by omega) e
              show w * (F k).1 + (F k).2.1 = w * y + x
              rw [i1, i2]
            · obtain ⟨i1, i2⟩ := pr_inj b2 hx e
              show 12 * (F k).1 + (F k).2.1 = 12 * y + x
              rw [i1, i2]) (by omega) (by omega)
          nw 0 0 n n f_x_waters_wellPlaces f_x_waters_wellWorths (upd f_m_s (7 + (w * y + x)) (nI (l + 1))) (by omega) (by omega) (by omega) (by omega) (by rw [pk_un (by omega)]; exact s6)
          (fun k _ hk' => by
            obtain ⟨b1, b2, b3, b4, b5, b6, b7, b8⟩ := hF k hk'
            rw [pk_un (by omega), pk_un (by omega)]
            exact ⟨b3, b8, b4, b6⟩)
        have e1l : (1 : Int32) + nI l = nI (l + 1) := by
          have : (1 : Int32) = nI 1 := rfl
          rw [this, nI_add, Nat.add_comm]
        refine ⟨1, nI l', upd f_x_waters_kinds (12 * y + x) (nI (l + 1)), G, G', f_x_refusals, f_m_refusals, upd S 6 (nI l'), ?_, ?_, R1, R2, R3, ⟨w, h, l', a1, a2, a3, a4, by omega, ew, eh, rfl, ?_, ?_, ?_, ?_, ?_, ?_, pk_us, hm, hwt, hre, hbd, fun y' x' hy' hx' => ?_, fun y' x' hy' hx' hn' => ?_, fun k hk' => ?_⟩, R5, R6, R7, R8, R9, R10⟩
        · unfold f_X5_grow f_X4_dropWells
          have e120 : (120 : Int32) = nI 120 := rfl
          have : f_X4_setKind n f_x_waters_kinds (nI (12 * y + x)) (nI (l + 1)) = some (upd f_x_waters_kinds (12 * y + x) (nI (l + 1))) := by
            unfold f_X4_setKind
            rw [if_neg (nI_pos (by omega)), e120, if_neg (nI_ge (by omega) (by omega)), pr_wr (by omega) (by omega)]
          rw [pr_b1 hp, if_neg (nI_pos (by omega)), pr_b1 z1, if_neg (by decide), pr_b1 hk, if_pos h0, e1l, pr_b1 this]
          refine pr_b3 ?_
          exact pr_b4 d3
        · unfold f_X6_grow f_X6_closes
          have e7 : (7 : Int32) = nI 7 := rfl
          have e6 : (6 : Int32) = nI 6 := rfl
          have q2' := pm_of (n := n) (s := upd f_m_s (7 + (w * y + x)) (nI (l + 1))) (w := w) (by rw [pk_un (by omega)]; exact s0) a2 hx (y := y) (by omega)
          rw [pr_b1 q1, if_neg (by decide), pr_b1 (pm_isIn1 cl1 cl2), if_neg (by decide), pr_b1 q2, pr_b1 q3, es, if_pos h0, pr_b1 rfl, if_pos rfl, pr_b1 q2, e7, nI_add, nI_1, pr_wr (by omega) (by omega), pr_b1 q2']
          refine pr_b1 ?_
          refine (pr_b3 d4).trans ?_
          exact pr_wr (i := 6) (by omega) (by omega)
        · rw [pk_un (by omega), d7 0 (by omega), pk_un (by omega)]; exact s0
        · rw [pk_un (by omega), d7 1 (by omega), pk_un (by omega)]; exact s1
        · rw [pk_un (by omega), d7 2 (by omega), pk_un (by omega)]; exact s2
        · rw [pk_un (by omega), d7 3 (by omega), pk_un (by omega)]; exact s3
        · rw [pk_un (by omega), d7 4 (by omega), pk_un (by omega)]; exact s4
        · rw [pk_un (by omega), d7 5 (by omega), pk_un (by omega)]; exact s5
        · have hc' := pr_c120 a2 a4 hx' hy'
          rw [pk_un (show ¬ 7 + (w * y' + x') = 6 by omega), d7 _ (by omega)]
          by_cases e : y' = y ∧ x' = x
          · obtain ⟨rfl, rfl⟩ := e
            rw [pk_us, pk_us]
            exact ⟨⟨l + 1, by omega, rfl⟩, rfl⟩
          · rw [pk_un (fun q => e (pr_inj (w := 12) (by omega) (by omega) q)), pk_un (fun q => e (pr_inj hx' hx (by omega)))]
            exact hin y' x' hy' hx'
        · rw [pk_un (fun q => by
            obtain ⟨rfl, rfl⟩ := pr_inj (w := 12) (by omega) (by omega) q
            exact hn' ⟨hy, hx⟩)]
          exact ho y' x' hy' hx' hn'
        · obtain ⟨q, z1, z2, z3, z4, z5, z6, z7⟩ := d6 k (Nat.zero_le _) hk'
          obtain ⟨b1, b2, b3, b4, b5, b6, b7, b8⟩ := hF q z2
          exact ⟨(F q).1, (F q).2.1, b1, b2, z4, by rw [pk_un (by omega)]; exact z6, by rw [pk_un z3]; exact b5, by rw [pk_un (by omega), z7]; exact z5, (F q).2.2, b7, z5⟩
      · refine hbad 3 (-3) (by omega) rfl (fun g e => ?_) (fun g e => ?_)
        · unfold f_X5_grow
          rw [pr_b1 hp, if_neg (nI_pos (by omega)), pr_b1 z1, if_neg (by decide), pr_b1 hk, if_neg h0, pr_b2 e]
        · unfold f_X6_grow
          rw [pr_b1 q1, if_neg (by decide), pr_b1 (pm_isIn1 cl1 cl2), if_neg (by decide), pr_b1 q2, pr_b1 q3, es, if_neg h0, pr_b1 rfl, if_neg (by decide), pr_b2 e]
  · refine hbad 1 (-1) (by omega) rfl (fun g e => ?_) (fun g e => ?_)
    · unfold f_X5_grow
      rw [pr_b1 (pk_placeOfN a2 a4 ho hno), if_pos (by decide), pr_b2 e]
    · unfold f_X6_grow
      rw [pr_b1 (pm_isCellN s0 s1 a2 a4 hno), if_pos rfl, pr_b1 rfl, if_neg (by decide), pr_b2 e]
