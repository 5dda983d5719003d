/-! the pure side, 16: the nearest base, as the model finds it; both are the same -/
section NEM
variable {n w h : Nat} {kinds s innerOf : Nat → Int32} {weight : Int32}
theorem pm_countOf {c : Nat} (hc : c < 120) (h3 : s 3 = weight) (l : Nat) : f_X6_countOf n s innerOf (nI c) (nI l) = some (nI (cn (s (7 + c)) (innerOf c) weight l)) := by
  unfold f_X6_countOf cn
  have e4 : ((3 : Int32) + nI l) + 1 = nI (4 + l) := by
    rw [show (3 : Int32) = nI 3 from rfl, nI_add, nI_1, show 3 + l + 1 = 4 + l by omega]
  rw [pr_b1 (pm_at (by omega)), nI_1, e4]
  by_cases c1 : s (7 + c) = nI (l + 1)
  · rw [if_pos c1, if_pos (Or.inl c1)]
    rfl
  · rw [if_neg c1, pr_rd hc (by omega)]
    by_cases c2 : innerOf c = nI l
    · rw [if_pos c2, if_pos (Or.inr c2)]
      rfl
    · rw [if_neg c2, if_neg (fun q => q.elim c1 c2), pr_b1 (pm_at (by omega))]
      by_cases c3 : s (7 + c) = nI (4 + l)
      · rw [if_pos c3, if_pos c3, pr_rd3 (by omega) (by omega), h3]
        by_cases c4 : weight = 0
        · rw [if_pos c4, if_pos c4]
          rfl
        · rw [if_neg c4, if_neg c4, pr_rd3 (by omega) (by omega), h3]
          by_cases c5 : weight = 1
          · rw [if_pos c5, if_pos c5]
            rfl
          · rw [if_neg c5, if_neg c5]
            rfl
      · rw [if_neg c3, if_neg c3]
        rfl
theorem nI_z' {f : Nat} (hf : f < 2 ^ 31) (h : ¬ f = 0) : ¬ nI f = 0 := fun e => h ((nI_eq (b := 0) hf (by omega)).mp e)
theorem pm_near_L (h0 : s 0 = nI w) (h1 : s 1 = nI h) (h3 : s 3 = weight) (hw1 : 1 ≤ w) (hw : w ≤ 12) (hh : h ≤ 10) {y0 x0 l : Nat} (hy : y0 < h) (hx : x0 < w) {c : Nat → Nat → Nat} (hc : ∀ l j : Nat, c l j = cn (s (7 + j)) (innerOf j) weight l) : ∀ (d i k : Nat), i + d = w * h → d < k → f_X6_findNear_L10 n s innerOf (nI (w * y0 + x0)) (nI l) k (bestOf (NR c w y0 x0 l i)) (fromIn w (NR c w y0 x0 l i)) (nI i) = some (bestOf (NR c w y0 x0 l (w * h)), fromIn w (NR c w y0 x0 l (w * h)), nI (w * h)) := by
  have hwh := pr_wh hw hh
  have hwz : ¬ nI w = 0 := fun e => by have := (nI_eq (b := 0) (by omega) (by omega)).mp e; omega
  have hc0 := pr_c120 hw hh hx hy
  intro d
  induction d with
  | zero =>
    intro i k h1' h2
    obtain ⟨k, rfl⟩ : ∃ q, k = q + 1 := ⟨k - 1, by omega⟩
    have : i = w * h := by omega
    subst this
    rw [f_X6_findNear_L10, pr_b1 (pm_many h0 h1)]
    exact if_pos (Int32.le_refl _)
  | succ d ih =>
    intro i k h1' h2
    obtain ⟨k, rfl⟩ : ∃ q, k = q + 1 := ⟨k - 1, by omega⟩
    obtain ⟨_, hxi, hyi, hci⟩ := dmi (w := w) (h := h) (i := i) (by omega)
    have := ih (i + 1) k (by omega) (by omega)
    rw [NR_succ] at this
    unfold stp at this
    rw [f_X6_findNear_L10, pr_b1 (pm_many h0 h1), if_neg (nI_ge (by omega) (by omega)), pr_b1 (pm_countOf (by omega) h3 l), ← hc l i]
    have h4 : c l i ≤ 4 := by
      rw [hc]
      exact cn_le _ _ _ _
    by_cases c0 : c l i = 0
    · rw [if_pos c0] at this
      rw [c0, if_pos (show nI 0 = (0 : Int32) from rfl), pr_b2 rfl, pr_lt, nI_1]
      exact this
    · rw [if_neg c0] at this
      have hsm : c l i * (sq x0 (i % w) + sq y0 (i / w)) ≤ 808 := sq_small h4 (by omega) (by omega) (by omega) (by omega)
      rw [if_neg (nI_z' (by omega) c0), pr_rd0 (by omega) (by omega), h0, pr_nz hwz, pr_rd0 (by omega) (by omega), h0, pr_nz hwz, pk_rem (by omega) (by omega) (by omega), pk_rem (by omega) (by omega) (by omega), pr_lt, pr_rd0 (by omega) (by omega), h0, pr_nz hwz, pr_rd0 (by omega) (by omega), h0, pr_nz hwz, pk_div (by omega) (by omega) (by omega), pk_div (by omega) (by omega) (by omega), pr_lt, (dmw hx).1, (dmw hx).2, nI_sq, nI_sq, nI_add, pk_mul, pr_lt]
      cases ht : NR c w y0 x0 l i with
      | none =>
        rw [ht] at this
        show cz_b2 (if (-9 : Int32) < 0 then _ else _) _ = _
        rw [if_pos (by decide), pr_b2 rfl, pr_lt, nI_1]
        have hb : fromIn w (some (c l i * (sq x0 (i % w) + sq y0 (i / w)), i / w, i % w)) = nI i := by
          show nI (w * (i / w) + i % w) = _
          rw [hci]
        dsimp only at this
        rw [hb] at this
        exact this
      | some p =>
        obtain ⟨b, qy, qx⟩ := p
        rw [ht] at this
        have hok := NR_ok c (show 0 < w by omega) y0 x0 l i b qy qx ht
        have hqy : qy < h := by
          refine Decidable.of_not_not fun q => ?_
          have := Nat.mul_le_mul_left w (show h ≤ qy by omega)
          omega
        have hbs : b ≤ 808 := by
          rw [hok.2.2.2]
          refine sq_small ?_ (by omega) (by omega) (by omega) (by omega)
          rw [hc]
          exact cn_le _ _ _ _
        show cz_b2 (if nI b < 0 then _ else (if _ < nI b then _ else _)) _ = _
        rw [if_neg (nI_pos (by omega))]
        dsimp only at this
        by_cases cc : c l i * (sq x0 (i % w) + sq y0 (i / w)) < b
        · rw [if_pos (nI_lt cc (by omega)), pr_b2 rfl, pr_lt, nI_1]
          rw [if_pos cc] at this
          have hb : fromIn w (some (c l i * (sq x0 (i % w) + sq y0 (i / w)), i / w, i % w)) = nI i := by
            show nI (w * (i / w) + i % w) = _
            rw [hci]
          rw [hb] at this
          exact this
        · rw [if_neg (nI_nlt (by omega) (by omega)), pr_b2 rfl, pr_lt, nI_1]
          rw [if_neg cc] at this
          exact this
theorem pm_findNear (hn : 200 ≤ n) (h0 : s 0 = nI w) (h1 : s 1 = nI h) (h3 : s 3 = weight) (hw1 : 1 ≤ w) (hw : w ≤ 12) (hh : h ≤ 10) {y0 x0 l : Nat} (hl : l < 3) (hy : y0 < h) (hx : x0 < w) {c : Nat → Nat → Nat} (hc : ∀ l j : Nat, c l j = cn (s (7 + j)) (innerOf j) weight l) (g f : Nat → Int32) : f_X6_findNear n s innerOf g f (nI (w * y0 + x0)) (nI l) = some (upd g (120 * l + (w * y0 + x0)) (bestOf (NR c w y0 x0 l (w * h))), upd f (120 * l + (w * y0 + x0)) (fromIn w (NR c w y0 x0 l (w * h)))) := by
  have hwh := pr_wh hw hh
  have hc0 := pr_c120 hw hh hx hy
  have e := pm_near_L (n := n) (innerOf := innerOf) (l := l) h0 h1 h3 hw1 hw hh hy hx hc (w * h) 0 n (by omega) (by omega)
  have e' : f_X6_findNear_L10 n s innerOf (nI (w * y0 + x0)) (nI l) n (-9) (-9) 0 = some (bestOf (NR c w y0 x0 l (w * h)), fromIn w (NR c w y0 x0 l (w * h)), nI (w * h)) := e
  have ei : (120 : Int32) * nI l + nI (w * y0 + x0) = nI (120 * l + (w * y0 + x0)) := by
    rw [show (120 : Int32) = nI 120 from rfl, pk_mul, nI_add]
  unfold f_X6_findNear
  rw [pr_b3 e', ei, pr_wr (by omega) (by omega), pr_wr (by omega) (by omega)]
theorem pm_nears1 (hn : 200 ≤ n) (h0 : s 0 = nI w) (h1 : s 1 = nI h) (h3 : s 3 = weight) (hw1 : 1 ≤ w) (hw : w ≤ 12) (hh : h ≤ 10) {y0 x0 : Nat} (hy : y0 < h) (hx : x0 < w) {c : Nat → Nat → Nat} (hc : ∀ l j : Nat, c l j = cn (s (7 + j)) (innerOf j) weight l) : ∀ (d l k : Nat) (g f : Nat → Int32), l + d = 3 → d < k → ∃ g' f', f_X6_find_L44 n s innerOf (nI (w * y0 + x0)) k (nI l) g f = some (nI 3, g', f') ∧ (∀ l' : Nat, l' < 3 → l ≤ l' → g' (120 * l' + (w * y0 + x0)) = bestOf (NR c w y0 x0 l' (w * h)) ∧ f' (120 * l' + (w * y0 + x0)) = fromIn w (NR c w y0 x0 l' (w * h))) ∧ ∀ j : Nat, (∀ l' : Nat, l' < 3 → l ≤ l' → j ≠ 120 * l' + (w * y0 + x0)) → g' j = g j ∧ f' j = f j := by
  intro d
  induction d with
  | zero =>
    intro l k g f h1 h2
    obtain ⟨k, rfl⟩ : ∃ q, k = q + 1 := ⟨k - 1, by omega⟩
    have : l = 3 := by omega
    subst this
    refine ⟨g, f, ?_, fun l' h3 h5 => by omega, fun j _ => ⟨rfl, rfl⟩⟩
    rw [f_X6_find_L44]
    exact if_pos (Int32.le_refl _)
  | succ d ih =>
    intro l k g f h1' h2
    obtain ⟨k, rfl⟩ : ∃ q, k = q + 1 := ⟨k - 1, by omega⟩
    obtain ⟨g', f', e1, e2, e3⟩ := ih (l + 1) k (upd g (120 * l + (w * y0 + x0)) (bestOf (NR c w y0 x0 l (w * h)))) (upd f (120 * l + (w * y0 + x0)) (fromIn w (NR c w y0 x0 l (w * h)))) (by omega) (by omega)
    refine ⟨g', f', ?_, fun l' h3 h5 => ?_, fun j hj => ?_⟩
    · rw [f_X6_find_L44]
      rw [if_neg (show ¬ (3 : Int32) ≤ nI l from nI_ge (b := 3) (by omega) (by omega)), pr_b2 (pm_findNear hn h0 h1 h3 hw1 hw hh (show l < 3 by omega) hy hx hc g f), pr_lt, nI_1]
      exact e1
    · by_cases e : l' = l
      · subst e
        obtain ⟨q1, q2⟩ := e3 (120 * l' + (w * y0 + x0)) (fun l'' h6 h7 => by omega)
        rw [q1, q2, pk_us, pk_us]
        exact ⟨rfl, rfl⟩
      · exact e2 l' h3 (by omega)
    · obtain ⟨q1, q2⟩ := e3 j (fun l'' h6 h7 => hj l'' h6 (by omega))
      rw [q1, q2, pk_un (hj l (by omega) (by omega)), pk_un (hj l (by omega) (by omega))]
      exact ⟨rfl, rfl⟩
theorem pm_nears_L (hn : 200 ≤ n) (h0 : s 0 = nI w) (h1 : s 1 = nI h) (h3 : s 3 = weight) (hw1 : 1 ≤ w) (hw : w ≤ 12) (hh : h ≤ 10) {c : Nat → Nat → Nat} (hc : ∀ l j : Nat, c l j = cn (s (7 + j)) (innerOf j) weight l) : ∀ (d i k : Nat) (g f : Nat → Int32), i + d = w * h → d < k → (∀ y x l : Nat, y < h → x < w → l < 3 → w * y + x < i → g (120 * l + (w * y + x)) = bestOf (NR c w y x l (w * h)) ∧ f (120 * l + (w * y + x)) = fromIn w (NR c w y x l (w * h))) → ∃ g' f', f_X6_find_L34 n s innerOf k (nI i) g f = some (nI (w * h), g', f') ∧ ∀ y x l : Nat, y < h → x < w → l < 3 → g' (120 * l + (w * y + x)) = bestOf (NR c w y x l (w * h)) ∧ f' (120 * l + (w * y + x)) = fromIn w (NR c w y x l (w * h)) := by
  have hwh := pr_wh hw hh
  intro d
  induction d with
  | zero =>
    intro i k g f h1' h2 h4
    obtain ⟨k, rfl⟩ : ∃ q, k = q + 1 := ⟨k - 1, by omega⟩
    have : i = w * h := by omega
    subst this
    refine ⟨g, f, ?_, fun y x l hy hx hl => h4 y x l hy hx hl (pr_wy hx hy)⟩
    rw [f_X6_find_L34, pr_b1 (pm_many h0 h1)]
    exact if_pos (Int32.le_refl _)
  | succ d ih =>
    intro i k g f h1' h2 h4
    obtain ⟨k, rfl⟩ : ∃ q, k = q + 1 := ⟨k - 1, by omega⟩
    obtain ⟨_, hxi, hyi, hci⟩ := dmi (w := w) (h := h) (i := i) (by omega)
    obtain ⟨g', f', e1, e2, e3⟩ := pm_nears1 (n := n) hn h0 h1 h3 hw1 hw hh hyi hxi hc 3 0 n g f (by omega) (by omega)
    rw [hci] at e1 e2 e3
    have e1' : f_X6_find_L44 n s innerOf (nI i) n 0 g f = some (nI 3, g', f') := e1
    rw [f_X6_find_L34, pr_b1 (pm_many h0 h1), if_neg (nI_ge (by omega) (by omega)), pr_b3 e1', pr_lt, nI_1]
    refine ih (i + 1) k g' f' (by omega) (by omega) fun y x l hy hx hl hlt => ?_
    by_cases c : w * y + x = i
    · have d := pr_inj hx hxi (c.trans hci.symm)
      have := e2 l hl (by omega)
      rw [← d.1, ← d.2] at this
      rw [c]
      exact this
    · have hcy := pr_c120 hw hh hx hy
      obtain ⟨q1, q2⟩ := e3 (120 * l + (w * y + x)) (fun l' h6 h7 => by omega)
      rw [q1, q2]
      exact h4 y x l hy hx hl (by omega)
/-- the same nearest -/
theorem NR_eq (H : Cel w h kinds s) {M : Nat} {inner : Nat → Int32} (hI : Inn (BayTo kinds M 120) inner) (hm : ∀ y x : Nat, y < h → x < w → innerOf (w * y + x) = inner (12 * y + x)) (y0 x0 : Nat) {l : Nat} (hl : l < 3) : NR (fun l j => cn (kinds j) (inner j) weight l) 12 y0 x0 l 120 = NR (fun l j => cn (s (7 + j)) (innerOf j) weight l) w y0 x0 l (w * h) := by
  obtain ⟨a1, a2, a3, a4, s0, s1, hin, ho⟩ := id H
  unfold NR
  refine it_grid a2 a4 (fun y x hy hx t => ?_) (fun y x hy hx hno t => ?_)
  · dsimp only
    rw [(dm12 (show x < 12 by omega)).1, (dm12 (show x < 12 by omega)).2, (dmw hx).1, (dmw hx).2, (hin y x hy hx).2, hm y x hy hx]
  · have e8 := ho y x hy hx hno
    have e9 : inner (12 * y + x) = -9 := by
      rcases hI y x hy hx with ⟨q, _⟩ | ⟨l0, h0, q, b, _⟩
      · exact q
      · have := bay_sea h0 b
        rw [KK_in hx hy, e8] at this
        exact absurd this (by decide)
    have hcn : cn (kinds (12 * y + x)) (inner (12 * y + x)) weight l = 0 := by
      rw [e8, e9]
      unfold cn
      have n1 : ∀ a : Nat, a < 8 → ¬ (8 : Int32) = nI a := fun a ha q => by
        have := (nI_eq (a := 8) (by omega) (by omega)).mp q
        omega
      rw [if_neg (fun q => q.elim (n1 _ (by omega)) (fun q => nI_m9 (a := l) (by omega) q.symm)), if_neg (n1 _ (by omega))]
    unfold stp
    rw [if_pos hcn]
end NEM
