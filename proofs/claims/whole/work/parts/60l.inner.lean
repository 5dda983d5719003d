/-! the pure side, 13: inner waters of class and model are alike -/
theorem ray_H {kinds : Nat → Int32} {M l y x0 j : Nat} : ray kinds M l y x0 0 1 j ↔ lray (fun i => KK kinds y i) M l x0 j := by
  unfold ray lray
  refine ⟨fun ⟨c, r1, r2, r3, r4, r5⟩ => ⟨c, r1, r2, r3, ?_, fun i h1 h2 => ?_⟩, fun ⟨c, r1, r2, r3, r4, r5⟩ => ⟨c, r1, r2, r3, ?_, fun i h1 h2 => ?_⟩⟩
  · rw [Nat.mul_zero, Nat.mul_one, Nat.add_zero] at r4
    exact r4
  · have := r5 i h1 h2
    rw [Nat.mul_zero, Nat.mul_one, Nat.add_zero] at this
    exact this
  · rw [Nat.mul_zero, Nat.mul_one, Nat.add_zero]
    exact r4
  · rw [Nat.mul_zero, Nat.mul_one, Nat.add_zero]
    exact r5 i h1 h2
theorem ray_V {kinds : Nat → Int32} {M l y0 x j : Nat} : ray kinds M l y0 x 1 0 j ↔ lray (fun i => KK kinds i x) M l y0 j := by
  unfold ray lray
  refine ⟨fun ⟨c, r1, r2, r3, r4, r5⟩ => ⟨c, r1, r2, r3, ?_, fun i h1 h2 => ?_⟩, fun ⟨c, r1, r2, r3, r4, r5⟩ => ⟨c, r1, r2, r3, ?_, fun i h1 h2 => ?_⟩⟩
  · rw [Nat.mul_zero, Nat.mul_one, Nat.add_zero] at r4
    exact r4
  · have := r5 i h1 h2
    rw [Nat.mul_zero, Nat.mul_one, Nat.add_zero] at this
    exact this
  · rw [Nat.mul_zero, Nat.mul_one, Nat.add_zero]
    exact r4
  · rw [Nat.mul_zero, Nat.mul_one, Nat.add_zero]
    exact r5 i h1 h2
theorem bay_iff {kinds : Nat → Int32} {M y x l : Nat} (hl : l < 3) : BayTo kinds M 120 y x l ↔ (∃ x0 j : Nat, 1 ≤ j ∧ x = x0 + j ∧ lray (fun i => KK kinds y i) M l x0 j) ∨ ∃ y0 j : Nat, 1 ≤ j ∧ y = y0 + j ∧ lray (fun i => KK kinds i x) M l y0 j := by
  refine ⟨fun ⟨y0, x0, j, h1, h2, h3, h4, h5⟩ => ?_, fun q => ?_⟩
  · rcases h5 with ⟨e1, e2, r⟩ | ⟨e1, e2, r⟩
    · rw [Nat.mul_zero, Nat.add_zero] at e1
      rw [Nat.mul_one] at e2
      subst e1
      exact Or.inl ⟨x0, j, h4, e2, ray_H.mp r⟩
    · rw [Nat.mul_zero, Nat.add_zero] at e2
      rw [Nat.mul_one] at e1
      subst e2
      exact Or.inr ⟨y0, j, h4, e1, ray_V.mp r⟩
  · rcases q with ⟨x0, j, h4, e, r⟩ | ⟨y0, j, h4, e, r⟩
    · obtain ⟨c, r1, r2, r3, r4, r5⟩ := id r
      have := KK_8 (v := l + 1) (by omega) r3
      exact ⟨y, x0, j, this.2, this.1, by omega, h4, Or.inl ⟨by omega, by omega, ray_H.mpr r⟩⟩
    · obtain ⟨c, r1, r2, r3, r4, r5⟩ := id r
      have := KK_8 (v := l + 1) (by omega) r3
      exact ⟨y0, x, j, this.2, this.1, by omega, h4, Or.inr ⟨by omega, by omega, ray_V.mpr r⟩⟩
theorem bay_sea {kinds : Nat → Int32} {M y x l : Nat} (hl : l < 3) (h : BayTo kinds M 120 y x l) : KK kinds y x = 0 := by
  rcases (bay_iff hl).mp h with ⟨x0, j, h4, e, c, r1, r2, r3, r4, r5⟩ | ⟨y0, j, h4, e, c, r1, r2, r3, r4, r5⟩
  · subst e
    exact r5 j h4 r1
  · subst e
    exact r5 j h4 r1
section INN
variable {n w h M : Nat} {kinds s : Nat → Int32}
theorem pm_innerBy (hn : 200 ≤ n) (H : Cel w h kinds s) (hM : M ≤ 9) (h2 : s 2 = nI M) {y x : Nat} (hy : y < h) (hx : x < w) : ∃ v : Int32, f_X6_innerBy n s (nI (w * y + x)) = some v ∧ Least (BayTo kinds M 120 y x) v := by
  obtain ⟨a1, a2, a3, a4, s0, s1, hin, ho⟩ := id H
  have hc := pr_c120 a2 a4 hx hy
  by_cases hz : KK kinds y x = 0
  · have loop : ∀ (d i k : Nat), i + d = 3 → d < k → (∀ l : Nat, l < i → ¬ BayTo kinds M 120 y x l) → (∃ l : Nat, l < 3 ∧ f_X6_innerBy_L2 n s (nI (w * y + x)) k (nI i) = some (Sum.inl (nI l)) ∧ BayTo kinds M 120 y x l ∧ ∀ l' : Nat, l' < l → ¬ BayTo kinds M 120 y x l') ∨ (f_X6_innerBy_L2 n s (nI (w * y + x)) k (nI i) = some (Sum.inr (nI 3)) ∧ ∀ l : Nat, l < 3 → ¬ BayTo kinds M 120 y x l) := by
      intro d
      induction d with
      | zero =>
        intro i k h1 h2 h3
        obtain ⟨k, rfl⟩ : ∃ q, k = q + 1 := ⟨k - 1, by omega⟩
        have : i = 3 := by omega
        subst this
        refine Or.inr ⟨?_, h3⟩
        rw [f_X6_innerBy_L2]
        exact if_pos (Int32.le_refl _)
      | succ d ih =>
        intro i k h1 h3 h4
        obtain ⟨k, rfl⟩ : ∃ q, k = q + 1 := ⟨k - 1, by omega⟩
        obtain ⟨z1, e1, e2⟩ := pm_closedH (n := n) hn H hM h2 hy hx (show i < 3 by omega) hz
        obtain ⟨z2, f1, f2⟩ := pm_closedV (n := n) hn H hM h2 hy hx (show i < 3 by omega) hz
        have hb := bay_iff (kinds := kinds) (M := M) (y := y) (x := x) (show i < 3 by omega)
        rw [f_X6_innerBy_L2]
        rw [if_neg (show ¬ (3 : Int32) ≤ nI i from nI_ge (b := 3) (by omega) (by omega)), pr_b1 (pm_at (by omega)), KK_m H hy hx, if_pos hz, pr_b1 e1]
        by_cases c1 : z1 = 0
        · rw [if_pos c1, pr_b1 f1]
          by_cases c2 : z2 = 0
          · rw [if_pos c2, pr_lt, nI_1]
            refine ih (i + 1) k (by omega) (by omega) fun l hl q => ?_
            by_cases e : l = i
            · subst e
              rcases hb.mp q with q | q
              · exact e2.mpr q c1
              · exact f2.mpr q c2
            · exact h4 l (by omega) q
          · rw [if_neg c2]
            exact Or.inl ⟨i, by omega, rfl, hb.mpr (Or.inr (f2.mp c2)), h4⟩
        · rw [if_neg c1]
          exact Or.inl ⟨i, by omega, rfl, hb.mpr (Or.inl (e2.mp c1)), h4⟩
    unfold f_X6_innerBy
    rcases loop 3 0 n (by omega) (by omega) (fun l hl => by omega) with ⟨l, hl, e, b, m⟩ | ⟨e, m⟩
    · refine ⟨nI l, ?_, Or.inr ⟨l, hl, rfl, b, m⟩⟩
      have e' : f_X6_innerBy_L2 n s (nI (w * y + x)) n 0 = some (Sum.inl (nI l)) := e
      rw [e']
      rfl
    · refine ⟨-9, ?_, Or.inl ⟨rfl, m⟩⟩
      have e' : f_X6_innerBy_L2 n s (nI (w * y + x)) n 0 = some (Sum.inr (nI 3)) := e
      rw [e']
      rfl
  · refine ⟨-9, ?_, Or.inl ⟨rfl, fun l hl q => hz (bay_sea hl q)⟩⟩
    unfold f_X6_innerBy
    obtain ⟨k, rfl⟩ : ∃ q, n = q + 1 := ⟨n - 1, by omega⟩
    rw [f_X6_innerBy_L2]
    rw [if_neg (by decide), pr_b1 (pm_at (by omega)), KK_m H hy hx, if_neg hz]
    rfl
theorem pm_inner_L (hn : 200 ≤ n) (H : Cel w h kinds s) (hM : M ≤ 9) (h2 : s 2 = nI M) (z : Int32) : ∀ (d i k : Nat) (g : Nat → Int32), i + d = w * h → d < k → (∀ y x : Nat, y < h → x < w → w * y + x < i → Least (BayTo kinds M 120 y x) (g (w * y + x))) → ∃ g', f_X6_find_L7 n s k (nI i) z g = some (nI (w * h), z, g') ∧ ∀ y x : Nat, y < h → x < w → Least (BayTo kinds M 120 y x) (g' (w * y + x)) := by
  obtain ⟨a1, a2, a3, a4, s0, s1, hin, ho⟩ := id H
  have hwh := pr_wh a2 a4
  intro d
  induction d with
  | zero =>
    intro i k g h1 h2 h3
    obtain ⟨k, rfl⟩ : ∃ q, k = q + 1 := ⟨k - 1, by omega⟩
    have : i = w * h := by omega
    subst this
    refine ⟨g, ?_, fun y x hy hx => h3 y x hy hx (pr_wy hx hy)⟩
    rw [f_X6_find_L7, pr_b1 (pm_many s0 s1)]
    exact if_pos (Int32.le_refl _)
  | succ d ih =>
    intro i k g h1 h4 h3
    obtain ⟨k, rfl⟩ : ∃ q, k = q + 1 := ⟨k - 1, by omega⟩
    obtain ⟨_, hx, hy, hc⟩ := dmi (w := w) (h := h) (i := i) (by omega)
    obtain ⟨v, e1, e2⟩ := pm_innerBy hn H hM h2 hy hx
    rw [hc] at e1
    rw [f_X6_find_L7, pr_b1 (pm_many s0 s1), if_neg (nI_ge (by omega) (by omega)), pr_b1 e1, pr_wr (by omega) (by omega), pr_lt, nI_1]
    refine ih (i + 1) k (upd g i v) (by omega) (by omega) fun y' x' hy' hx' hlt => ?_
    by_cases e : w * y' + x' = i
    · rw [e, pk_us]
      have := pr_inj hx' hx (e.trans hc.symm)
      rw [this.1, this.2]
      exact e2
    · rw [pk_un e]
      exact h3 y' x' hy' hx' (by omega)
theorem inner_eq (H : Cel w h kinds s) {inner innerOf : Nat → Int32} (hc : Inn (BayTo kinds M 120) inner) (hm : ∀ y x : Nat, y < h → x < w → Least (BayTo kinds M 120 y x) (innerOf (w * y + x))) {y x : Nat} (hy : y < h) (hx : x < w) : innerOf (w * y + x) = inner (12 * y + x) := by
  obtain ⟨a1, a2, a3, a4, s0, s1, hin, ho⟩ := id H
  exact least_uniq (hm y x hy hx) (hc y x (by omega) (by omega))
end INN
