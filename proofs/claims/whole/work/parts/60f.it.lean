/-! the pure side, 7: going through the cells -/
def it {σ : Type} (F : Nat → σ → σ) (s0 : σ) : Nat → σ
  | 0 => s0
  | n + 1 => F n (it F s0 n)
theorem it_add {σ : Type} (F : Nat → σ → σ) (s0 : σ) (a : Nat) : ∀ b : Nat, it F s0 (a + b) = it (fun k => F (a + k)) (it F s0 a) b
  | 0 => rfl
  | b + 1 => by
    show F (a + b) (it F s0 (a + b)) = F (a + b) (it (fun k => F (a + k)) (it F s0 a) b)
    rw [it_add F s0 a b]
theorem it_congr {σ : Type} {F G : Nat → σ → σ} {s0 : σ} : ∀ {n : Nat}, (∀ k, k < n → ∀ s, F k s = G k s) → it F s0 n = it G s0 n
  | 0, _ => rfl
  | n + 1, h => by
    show F n (it F s0 n) = G n (it G s0 n)
    rw [it_congr (n := n) (fun k hk s => h k (by omega) s), h n (by omega)]
theorem it_id {σ : Type} {F : Nat → σ → σ} {s0 : σ} : ∀ {n : Nat}, (∀ k, k < n → ∀ s, F k s = s) → it F s0 n = s0
  | 0, _ => rfl
  | n + 1, h => by
    show F n (it F s0 n) = s0
    rw [h n (by omega), it_id (n := n) (fun k hk s => h k (by omega) s)]
theorem it_inv {σ : Type} {F : Nat → σ → σ} {s0 : σ} (I : Nat → σ → Prop) (h0 : I 0 s0) : ∀ (n : Nat), (∀ k, k < n → ∀ s, I k s → I (k + 1) (F k s)) → I n (it F s0 n)
  | 0, _ => h0
  | n + 1, hs => hs n (by omega) _ (it_inv I h0 n (fun k hk s h => hs k (by omega) s h))
/-- through twelve wide rows, or through the rows as wide as they are -/
theorem it_grid {σ : Type} {F G : Nat → σ → σ} {s0 : σ} {w h : Nat} (hw : w ≤ 12) (hh : h ≤ 10) (hin : ∀ y x : Nat, y < h → x < w → ∀ s, F (12 * y + x) s = G (w * y + x) s) (hout : ∀ y x : Nat, y < 10 → x < 12 → ¬ (y < h ∧ x < w) → ∀ s, F (12 * y + x) s = s) : it F s0 120 = it G s0 (w * h) := by
  have row : ∀ (y : Nat) (s : σ), y < h → it (fun k => F (12 * y + k)) s 12 = it (fun k => G (w * y + k)) s w := fun y s hy => by
    have e : it (fun k => F (12 * y + k)) s 12 = it (fun k => F (12 * y + k)) s (w + (12 - w)) := congrArg _ (by omega)
    rw [e, it_add, it_id (n := 12 - w) (fun k hk t => hout y (w + k) (by omega) (by omega) (by omega) t)]
    exact it_congr (fun k hk t => hin y k hy hk t)
  have up : ∀ m : Nat, m ≤ h → it F s0 (12 * m) = it G s0 (w * m) := fun m => by
    induction m with
    | zero => intro _; rfl
    | succ m ih =>
      intro hm
      rw [Nat.mul_succ, Nat.mul_succ, it_add, it_add, ih (by omega), row m _ (by omega)]
  have rest : ∀ m : Nat, h + m ≤ 10 → it F s0 (12 * (h + m)) = it F s0 (12 * h) := fun m => by
    induction m with
    | zero => intro _; rfl
    | succ m ih =>
      intro hm
      rw [show 12 * (h + (m + 1)) = 12 * (h + m) + 12 by omega, it_add, ih (by omega)]
      exact it_id (fun k hk t => hout (h + m) k (by omega) (by omega) (by omega) t)
  have := rest (10 - h) (by omega)
  rw [show 12 * (h + (10 - h)) = 120 by omega] at this
  rw [this]
  exact up h (Nat.le_refl _)
abbrev ct (p : Nat → Bool) (N : Nat) : Nat := it (fun k (s : Nat) => if p k = true then s + 1 else s) 0 N
theorem ct_le (p : Nat → Bool) : ∀ N : Nat, ct p N ≤ N
  | 0 => Nat.le_refl _
  | N + 1 => by
    have := ct_le p N
    show (if p N = true then ct p N + 1 else ct p N) ≤ N + 1
    split <;> omega
theorem ct_succ (p : Nat → Bool) (N : Nat) : ct p (N + 1) = if p N = true then ct p N + 1 else ct p N := rfl
theorem ct_grid {p q : Nat → Bool} {w h : Nat} (hw : w ≤ 12) (hh : h ≤ 10) (hin : ∀ y x : Nat, y < h → x < w → p (12 * y + x) = q (w * y + x)) (hout : ∀ y x : Nat, y < 10 → x < 12 → ¬ (y < h ∧ x < w) → p (12 * y + x) = false) : ct p 120 = ct q (w * h) :=
  it_grid hw hh (fun y x hy hx t => by rw [hin y x hy hx]) (fun y x hy hx hn t => by rw [hout y x hy hx hn]; rfl)
/-- counting in class and model -/
theorem pf_cellsOfSea (n : Nat) (kinds : Nat → Int32) : ∀ (d i k : Nat), i + d = 120 → d < k → f_X4_cellsOfSea_L4 n kinds k (nI (ct (fun j => decide (kinds j = 0)) i)) (nI i) = some (nI (ct (fun j => decide (kinds j = 0)) 120), nI 120) := by
  intro d
  induction d with
  | zero =>
    intro i k h1 h2
    obtain ⟨k, rfl⟩ : ∃ q, k = q + 1 := ⟨k - 1, by omega⟩
    have : i = 120 := by omega
    subst this
    rw [f_X4_cellsOfSea_L4]
    exact if_pos (Int32.le_refl _)
  | succ d ih =>
    intro i k h1 h2
    obtain ⟨k, rfl⟩ : ∃ q, k = q + 1 := ⟨k - 1, by omega⟩
    rw [f_X4_cellsOfSea_L4]
    refine (if_neg (show ¬ nI 120 ≤ nI i from nI_ge (by omega) (by omega))).trans ?_
    rw [pr_rd (by omega) (by omega)]
    have := ih (i + 1) k (by omega) (by omega)
    rw [ct_succ] at this
    by_cases c : kinds i = 0
    · rw [if_pos c, pr_lt, pr_b1 rfl, pr_lt, nI_1, nI_1]
      rw [if_pos (decide_eq_true c)] at this
      exact this
    · rw [if_neg c, pr_b1 rfl, pr_lt, nI_1]
      rw [if_neg (fun q => c (of_decide_eq_true q))] at this
      exact this
theorem pm_cellsOfSea (n : Nat) {s : Nat → Int32} {w h : Nat} (h0 : s 0 = nI w) (h1' : s 1 = nI h) (hwh : w * h ≤ 120) : ∀ (d i k : Nat), i + d = w * h → d < k → f_X6_count_L80 n s k (nI (ct (fun j => decide (s (7 + j) = 0)) i)) (nI i) = some (nI (ct (fun j => decide (s (7 + j) = 0)) (w * h)), nI (w * h)) := by
  intro d
  induction d with
  | zero =>
    intro i k h1 h2
    obtain ⟨k, rfl⟩ : ∃ q, k = q + 1 := ⟨k - 1, by omega⟩
    have : i = w * h := by omega
    subst this
    rw [f_X6_count_L80, pr_b1 (pm_many h0 h1')]
    exact if_pos (Int32.le_refl _)
  | succ d ih =>
    intro i k h1 h2
    obtain ⟨k, rfl⟩ : ∃ q, k = q + 1 := ⟨k - 1, by omega⟩
    rw [f_X6_count_L80, pr_b1 (pm_many h0 h1')]
    refine (if_neg (show ¬ nI (w * h) ≤ nI i from nI_ge (by omega) (by omega))).trans ?_
    rw [pr_b1 (pm_at (by omega))]
    have := ih (i + 1) k (by omega) (by omega)
    rw [ct_succ] at this
    by_cases c : s (7 + i) = 0
    · rw [if_pos c, pr_lt, pr_lt, pr_lt, nI_1, nI_1]
      rw [if_pos (decide_eq_true c)] at this
      exact this
    · rw [if_neg c, pr_lt, pr_lt, pr_lt, nI_1, Int32.add_zero]
      rw [if_neg (fun q => c (of_decide_eq_true q))] at this
      exact this
theorem st_count {n : Nat} (hn : 200 ≤ n) {v_x_tape_length : Int32} {f_x_tape_signs : (Nat → Int32)} {v_x_waters_wide : Int32} {v_x_waters_high : Int32} {v_x_waters_wells : Int32} {f_x_waters_kinds : (Nat → Int32)} {f_x_waters_wellPlaces : (Nat → Int32)} {f_x_waters_wellWorths : (Nat → Int32)} {v_x_waters_rules_mouth : Int32} {v_x_waters_rules_weight : Int32} {v_x_waters_rules_reach : Int32} {v_x_waters_rules_bend : Int32} {v_x_kept_wide : Int32} {v_x_kept_high : Int32} {v_x_kept_wells : Int32} {f_x_kept_kinds : (Nat → Int32)} {f_x_kept_wellPlaces : (Nat → Int32)} {f_x_kept_wellWorths : (Nat → Int32)} {v_x_kept_rules_mouth : Int32} {v_x_kept_rules_weight : Int32} {v_x_kept_rules_reach : Int32} {v_x_kept_rules_bend : Int32} {v_x_hasImage : Int32} {v_x_rowLength : Int32} {f_x_row : (Nat → Int32)} {f_x_refusals : (Nat → Int32)} {v_m_isImage : Int32} {v_m_taped : Int32} {v_m_rowed : Int32} {f_m_tape : (Nat → Int32)} {f_m_s : (Nat → Int32)} {f_m_image : (Nat → Int32)} {f_m_row : (Nat → Int32)} {f_m_refusals : (Nat → Int32)} (w1 : Int32) (hR : Rel v_x_tape_length f_x_tape_signs v_x_waters_wide v_x_waters_high v_x_waters_wells f_x_waters_kinds f_x_waters_wellPlaces f_x_waters_wellWorths v_x_waters_rules_mouth v_x_waters_rules_weight v_x_waters_rules_reach v_x_waters_rules_bend v_x_kept_wide v_x_kept_high v_x_kept_wells f_x_kept_kinds f_x_kept_wellPlaces f_x_kept_wellWorths v_x_kept_rules_mouth v_x_kept_rules_weight v_x_kept_rules_reach v_x_kept_rules_bend v_x_hasImage v_x_rowLength f_x_row f_x_refusals v_m_isImage v_m_taped v_m_rowed f_m_tape f_m_s f_m_image f_m_row f_m_refusals) : ∃ (r : Int32), f_X5_count n v_x_rowLength v_x_tape_length v_x_waters_wide v_x_waters_high v_x_waters_wells f_x_waters_kinds f_x_refusals w1 = some r ∧ f_X6_count n v_m_taped v_m_rowed f_m_refusals f_m_s w1 = some r ∧ Rel v_x_tape_length f_x_tape_signs v_x_waters_wide v_x_waters_high v_x_waters_wells f_x_waters_kinds f_x_waters_wellPlaces f_x_waters_wellWorths v_x_waters_rules_mouth v_x_waters_rules_weight v_x_waters_rules_reach v_x_waters_rules_bend v_x_kept_wide v_x_kept_high v_x_kept_wells f_x_kept_kinds f_x_kept_wellPlaces f_x_kept_wellWorths v_x_kept_rules_mouth v_x_kept_rules_weight v_x_kept_rules_reach v_x_kept_rules_bend v_x_hasImage v_x_rowLength f_x_row f_x_refusals v_m_isImage v_m_taped v_m_rowed f_m_tape f_m_s f_m_image f_m_row f_m_refusals := by
  obtain ⟨R1, R2, R3, R4, R5, R6, R7, R8, R9, R10⟩ := id hR
  obtain ⟨w, h, nw, a1, a2, a3, a4, a5, ew, eh, en, s0, s1, s2, s3, s4, s5, s6, hm, hwt, hre, hbd, hin, ho, hwl⟩ := id R4
  have hwh := pr_wh a2 a4
  have e0 : (0 : Int32) = nI 0 := rfl
  have e1 : (1 : Int32) = nI 1 := rfl
  have e6 : (6 : Int32) = nI 6 := rfl
  unfold f_X5_count f_X6_count
  by_cases c0 : w1 = 0
  · subst c0
    refine ⟨nI w, ?_, ?_, hR⟩
    · rw [if_pos rfl, ew]
    · rw [if_pos (by decide), if_pos rfl, e0, pr_rd (by omega) (by omega), s0]
  by_cases c1 : w1 = 1
  · subst c1
    refine ⟨nI h, ?_, ?_, hR⟩
    · rw [if_neg c0, if_pos rfl, eh]
    · rw [if_pos (by decide), if_neg c0, if_pos rfl, e1, pr_rd (by omega) (by omega), s1]
  by_cases c2 : w1 = 2
  · subst c2
    refine ⟨nI (ct (fun j => decide (f_x_waters_kinds j = 0)) 120), ?_, ?_, hR⟩
    · rw [if_neg c0, if_neg c1, if_pos rfl]
      refine (pr_b1 (a := nI (ct (fun j => decide (f_x_waters_kinds j = 0)) 120)) ?_)
      unfold f_X4_cellsOfSea
      exact pr_b2 (pf_cellsOfSea n f_x_waters_kinds 120 0 n rfl (by omega))
    · rw [if_pos (by decide), if_neg c0, if_neg c1, if_pos rfl]
      refine (pr_b2 (pm_cellsOfSea n s0 s1 hwh (w * h) 0 n (by omega) (by omega))).trans ?_
      congr 2
      refine (ct_grid a2 a4 (fun y x hy hx => ?_) (fun y x hy hx hn => ?_)).symm
      · exact congrArg (fun z : Int32 => decide (z = 0)) (hin y x hy hx).2.symm
      · exact (congrArg (fun z : Int32 => decide (z = 0)) (ho y x hy hx hn)).trans (by decide)
  by_cases c3 : w1 = 3
  · subst c3
    refine ⟨nI nw, ?_, ?_, hR⟩
    · rw [if_neg c0, if_neg c1, if_neg c2, if_pos rfl, en]
    · rw [if_pos (by decide), if_neg c0, if_neg c1, if_neg c2, if_pos rfl, e6, pr_rd (by omega) (by omega), s6]
  by_cases c4 : w1 = 4
  · subst c4
    refine ⟨v_x_tape_length, ?_, ?_, hR⟩
    · rw [if_neg c0, if_neg c1, if_neg c2, if_neg c3, if_pos rfl]
    · rw [if_pos (by decide), if_neg c0, if_neg c1, if_neg c2, if_neg c3, if_pos rfl, R1]
  by_cases c5 : w1 = 5
  · subst c5
    refine ⟨v_x_rowLength, ?_, ?_, hR⟩
    · rw [if_neg c0, if_neg c1, if_neg c2, if_neg c3, if_neg c4, if_pos rfl]
    · rw [if_pos (by decide), if_neg c0, if_neg c1, if_neg c2, if_neg c3, if_neg c4, if_pos rfl, R7]
  by_cases d1 : w1 ≤ 10
  · refine ⟨-9, ?_, ?_, hR⟩
    · rw [if_neg c0, if_neg c1, if_neg c2, if_neg c3, if_neg c4, if_neg c5, if_pos d1]
    · rw [if_pos d1, if_neg c0, if_neg c1, if_neg c2, if_neg c3, if_neg c4, if_neg c5]
  by_cases d2 : (16 : Int32) < w1
  · have d2' : (17 : Int32) ≤ w1 := by
      have h1 := Int32.lt_iff_toInt_lt.mp d2
      refine Int32.le_iff_toInt_le.mpr ?_
      rw [show (16 : Int32).toInt = 16 by decide] at h1
      rw [show (17 : Int32).toInt = 17 by decide]
      omega
    refine ⟨-9, ?_, ?_, hR⟩
    · rw [if_neg c0, if_neg c1, if_neg c2, if_neg c3, if_neg c4, if_neg c5, if_neg d1, if_pos d2]
    · rw [if_neg d1, if_pos d2', if_neg c0, if_neg c1, if_neg c2, if_neg c3, if_neg c4, if_neg c5]
  · obtain ⟨j, hj, rfl⟩ := nI_of2 (M := 16) (n := 16) (by decide) (fun q => d1 (Int32.le_trans (Int32.le_of_lt q) (by decide))) (Int32.not_lt.mp d2)
    have hj2 : 10 < j := Decidable.of_not_not fun q => d1 (nI_le (b := 10) (by omega) (by omega))
    have e10 : (10 : Int32) = nI 10 := rfl
    refine ⟨f_x_refusals (j - 10), ?_, ?_, hR⟩
    · rw [if_neg c0, if_neg c1, if_neg c2, if_neg c3, if_neg c4, if_neg c5, if_neg d1, if_neg d2, e10, pk_sub (by omega), pr_rd (by omega) (by omega)]
    · rw [if_neg d1, if_neg (show ¬ (17 : Int32) ≤ nI j from nI_ge (b := 17) (by omega) (by omega)), e10, pk_sub (by omega), pr_rd (by omega) (by omega), R10 _ (by omega)]
