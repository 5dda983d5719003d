/-! the pure side, 8: shores -/
section SHO
variable {n : Nat} {kinds : Nat → Int32}
theorem pk_kindAt {x y : Nat} (hx : x < 12) (hy : y < 10) : f_X4_kindAt n kinds (nI x) (nI y) = some (kinds (12 * y + x)) := by
  unfold f_X4_kindAt
  have e12 : (12 : Int32) = nI 12 := rfl
  have e10 : (10 : Int32) = nI 10 := rfl
  rw [if_neg (nI_pos (by omega)), e12, if_neg (nI_ge hx (by omega)), if_neg (nI_pos (by omega)), e10, if_pos (nI_lt hy (by omega)), pk_mul, nI_add, pr_rd (by omega) (by omega), Nat.mul_comm y 12]
theorem pk_kindAtN {x y : Int32} (hx : x < 0 ∨ (12 : Int32) ≤ x ∨ y < 0 ∨ (10 : Int32) ≤ y) : f_X4_kindAt n kinds x y = some 8 := by
  unfold f_X4_kindAt
  by_cases c1 : x < 0
  · rw [if_pos c1]
  · rw [if_neg c1]
    by_cases c2 : (12 : Int32) ≤ x
    · rw [if_pos c2]
    · rw [if_neg c2]
      by_cases c3 : y < 0
      · rw [if_pos c3]
      · rw [if_neg c3, if_neg]
        rcases hx with h | h | h | h
        · exact absurd h c1
        · exact absurd h c2
        · exact absurd h c3
        · exact Int32.not_lt.mpr h
theorem nI_m (x : Nat) : nI x - 1 < 0 ∧ x = 0 ∨ ∃ z : Nat, x = z + 1 ∧ nI x - 1 = nI z := by
  cases x with
  | zero => exact Or.inl ⟨by decide, rfl⟩
  | succ z => exact Or.inr ⟨z, rfl, nI_pred z⟩
/-- sea beside a place, in rows of w, of h rows; k tells the kinds -/
def sb (w h : Nat) (k : Nat → Nat → Int32) (y x : Nat) : Prop := (x ≠ 0 ∧ k y (x - 1) = 0) ∨ (x + 1 < w ∧ k y (x + 1) = 0) ∨ (y ≠ 0 ∧ k (y - 1) x = 0) ∨ (y + 1 < h ∧ k (y + 1) x = 0)
theorem pk_beside {x y : Nat} (hx : x < 12) (hy : y < 10) : (sb 12 10 (fun y x => kinds (12 * y + x)) y x → f_X4_hasSeaBeside n kinds (nI x) (nI y) = some 1) ∧ (¬ sb 12 10 (fun y x => kinds (12 * y + x)) y x → f_X4_hasSeaBeside n kinds (nI x) (nI y) = some 0) := by
  have e1 : ∃ z, f_X4_kindAt n kinds (nI x - 1) (nI y) = some z ∧ (z = 0 ↔ x ≠ 0 ∧ kinds (12 * y + (x - 1)) = 0) := by
    rcases nI_m x with ⟨h, rfl⟩ | ⟨z, rfl, e⟩
    · exact ⟨8, pk_kindAtN (Or.inl h), fun h => absurd h (by decide), fun h => absurd rfl h.1⟩
    · rw [e, pk_kindAt (by omega) hy]
      exact ⟨_, rfl, fun h => ⟨by omega, h⟩, fun h => h.2⟩
  have e2 : ∃ z, f_X4_kindAt n kinds (nI x + 1) (nI y) = some z ∧ (z = 0 ↔ x + 1 < 12 ∧ kinds (12 * y + (x + 1)) = 0) := by
    rw [nI_1]
    by_cases c : x + 1 < 12
    · rw [pk_kindAt c hy]
      exact ⟨_, rfl, fun h => ⟨c, h⟩, fun h => h.2⟩
    · exact ⟨8, pk_kindAtN (Or.inr (Or.inl (nI_le (a := 12) (by omega) (by omega)))), fun h => absurd h (by decide), fun h => absurd h.1 c⟩
  have e3 : ∃ z, f_X4_kindAt n kinds (nI x) (nI y - 1) = some z ∧ (z = 0 ↔ y ≠ 0 ∧ kinds (12 * (y - 1) + x) = 0) := by
    rcases nI_m y with ⟨h, rfl⟩ | ⟨z, rfl, e⟩
    · exact ⟨8, pk_kindAtN (Or.inr (Or.inr (Or.inl h))), fun h => absurd h (by decide), fun h => absurd rfl h.1⟩
    · rw [e, pk_kindAt hx (by omega)]
      exact ⟨_, rfl, fun h => ⟨by omega, h⟩, fun h => h.2⟩
  have e4 : ∃ z, f_X4_kindAt n kinds (nI x) (nI y + 1) = some z ∧ (z = 0 ↔ y + 1 < 10 ∧ kinds (12 * (y + 1) + x) = 0) := by
    rw [nI_1]
    by_cases c : y + 1 < 10
    · rw [pk_kindAt hx c]
      exact ⟨_, rfl, fun h => ⟨c, h⟩, fun h => h.2⟩
    · exact ⟨8, pk_kindAtN (Or.inr (Or.inr (Or.inr (nI_le (a := 10) (by omega) (by omega))))), fun h => absurd h (by decide), fun h => absurd h.1 c⟩
  obtain ⟨z1, p1, q1⟩ := e1
  obtain ⟨z2, p2, q2⟩ := e2
  obtain ⟨z3, p3, q3⟩ := e3
  obtain ⟨z4, p4, q4⟩ := e4
  unfold f_X4_hasSeaBeside
  rw [pr_b1 p1, pr_b1 p2, pr_b1 p3, pr_b1 p4]
  by_cases c1 : z1 = 0
  · rw [if_pos c1]
    exact ⟨fun _ => rfl, fun h => absurd (Or.inl (q1.mp c1)) h⟩
  rw [if_neg c1]
  by_cases c2 : z2 = 0
  · rw [if_pos c2]
    exact ⟨fun _ => rfl, fun h => absurd (Or.inr (Or.inl (q2.mp c2))) h⟩
  rw [if_neg c2]
  by_cases c3 : z3 = 0
  · rw [if_pos c3]
    exact ⟨fun _ => rfl, fun h => absurd (Or.inr (Or.inr (Or.inl (q3.mp c3)))) h⟩
  rw [if_neg c3]
  by_cases c4 : z4 = 0
  · rw [if_pos c4]
    exact ⟨fun _ => rfl, fun h => absurd (Or.inr (Or.inr (Or.inr (q4.mp c4)))) h⟩
  rw [if_neg c4]
  refine ⟨fun h => ?_, fun _ => rfl⟩
  rcases h with h | h | h | h
  · exact absurd (q1.mpr h) c1
  · exact absurd (q2.mpr h) c2
  · exact absurd (q3.mpr h) c3
  · exact absurd (q4.mpr h) c4
end SHO
section SHM
variable {n w h : Nat} {s : Nat → Int32}
theorem pm_isSea (h0 : s 0 = nI w) (h1 : s 1 = nI h) (hw : w ≤ 12) (hh : h ≤ 10) {x y : Nat} (hx : x < w) (hy : y < h) : f_X6_isSea n s (nI x) (nI y) = some (if s (7 + (w * y + x)) = 0 then 1 else 0) := by
  unfold f_X6_isSea
  have hc := pr_c120 hw hh hx hy
  have t : nI y * nI w + nI x = nI (w * y + x) := by rw [pk_mul, nI_add, Nat.mul_comm y w]
  rw [if_neg (nI_pos (by omega)), pr_rd0 (by omega) (by omega), h0, if_neg (nI_ge hx (by omega)), if_neg (nI_pos (by omega)), pr_rd1 (by omega) (by omega), h1, if_neg (nI_ge hy (by omega)), pr_rd0 (by omega) (by omega), h0, t, pr_b1 (pm_at (by omega))]
  by_cases c : s (7 + (w * y + x)) = 0
  · rw [if_pos c, if_pos c]
  · rw [if_neg c, if_neg c]
theorem pm_isSeaN (h0 : s 0 = nI w) (h1 : s 1 = nI h) {x y : Int32} (hx : x < 0 ∨ nI w ≤ x ∨ y < 0 ∨ nI h ≤ y) : f_X6_isSea n s x y = some 0 := by
  unfold f_X6_isSea
  by_cases c1 : x < 0
  · rw [if_pos c1]
  · rw [if_neg c1, pr_rd0 (by omega) (by omega), h0]
    by_cases c2 : nI w ≤ x
    · rw [if_pos c2]
    · rw [if_neg c2]
      by_cases c3 : y < 0
      · rw [if_pos c3]
      · rw [if_neg c3, pr_rd1 (by omega) (by omega), h1, if_pos]
        rcases hx with h | h | h | h
        · exact absurd h c1
        · exact absurd h c2
        · exact absurd h c3
        · exact h
theorem pm_seaZ {c : Prop} [Decidable c] : ((if c then (1 : Int32) else 0) = 0) ↔ ¬ c := by
  by_cases h : c
  · rw [if_pos h]; exact ⟨fun q => absurd q (by decide), fun q => absurd h q⟩
  · rw [if_neg h]; exact ⟨fun _ => h, fun _ => rfl⟩
/-- the four looks of the model: what they answer together -/
theorem pm_beside (h0 : s 0 = nI w) (h1 : s 1 = nI h) (hw : w ≤ 12) (hh : h ≤ 10) {x y : Nat} (hx : x < w) (hy : y < h) : ∃ z1 z2 z3 z4 : Int32, f_X6_isSea n s (nI x - 1) (nI y) = some z1 ∧ f_X6_isSea n s (nI x + 1) (nI y) = some z2 ∧ f_X6_isSea n s (nI x) (nI y - 1) = some z3 ∧ f_X6_isSea n s (nI x) (nI y + 1) = some z4 ∧ (sb w h (fun y x => s (7 + (w * y + x))) y x ↔ ¬ (z1 = 0 ∧ z2 = 0 ∧ z3 = 0 ∧ z4 = 0)) := by
  have e1 : ∃ z, f_X6_isSea n s (nI x - 1) (nI y) = some z ∧ (¬ z = 0 ↔ x ≠ 0 ∧ s (7 + (w * y + (x - 1))) = 0) := by
    rcases nI_m x with ⟨h, rfl⟩ | ⟨z, rfl, e⟩
    · exact ⟨0, pm_isSeaN h0 h1 (Or.inl h), fun h => absurd rfl h, fun h => absurd rfl h.1⟩
    · rw [e, pm_isSea h0 h1 hw hh (by omega) hy]
      refine ⟨_, rfl, fun h => ⟨by omega, ?_⟩, fun h q => pm_seaZ.mp q h.2⟩
      exact Decidable.of_not_not fun q => h (pm_seaZ.mpr q)
  have e2 : ∃ z, f_X6_isSea n s (nI x + 1) (nI y) = some z ∧ (¬ z = 0 ↔ x + 1 < w ∧ s (7 + (w * y + (x + 1))) = 0) := by
    rw [nI_1]
    by_cases c : x + 1 < w
    · rw [pm_isSea h0 h1 hw hh c hy]
      refine ⟨_, rfl, fun h => ⟨c, ?_⟩, fun h q => pm_seaZ.mp q h.2⟩
      exact Decidable.of_not_not fun q => h (pm_seaZ.mpr q)
    · exact ⟨0, pm_isSeaN h0 h1 (Or.inr (Or.inl (nI_le (by omega) (by omega)))), fun h => absurd rfl h, fun h => absurd h.1 c⟩
  have e3 : ∃ z, f_X6_isSea n s (nI x) (nI y - 1) = some z ∧ (¬ z = 0 ↔ y ≠ 0 ∧ s (7 + (w * (y - 1) + x)) = 0) := by
    rcases nI_m y with ⟨h, rfl⟩ | ⟨z, rfl, e⟩
    · exact ⟨0, pm_isSeaN h0 h1 (Or.inr (Or.inr (Or.inl h))), fun h => absurd rfl h, fun h => absurd rfl h.1⟩
    · rw [e, pm_isSea h0 h1 hw hh hx (by omega)]
      refine ⟨_, rfl, fun h => ⟨by omega, ?_⟩, fun h q => pm_seaZ.mp q h.2⟩
      exact Decidable.of_not_not fun q => h (pm_seaZ.mpr q)
  have e4 : ∃ z, f_X6_isSea n s (nI x) (nI y + 1) = some z ∧ (¬ z = 0 ↔ y + 1 < h ∧ s (7 + (w * (y + 1) + x)) = 0) := by
    rw [nI_1]
    by_cases c : y + 1 < h
    · rw [pm_isSea h0 h1 hw hh hx c]
      refine ⟨_, rfl, fun h => ⟨c, ?_⟩, fun h q => pm_seaZ.mp q h.2⟩
      exact Decidable.of_not_not fun q => h (pm_seaZ.mpr q)
    · exact ⟨0, pm_isSeaN h0 h1 (Or.inr (Or.inr (Or.inr (nI_le (by omega) (by omega))))), fun h => absurd rfl h, fun h => absurd h.1 c⟩
  obtain ⟨z1, p1, q1⟩ := e1
  obtain ⟨z2, p2, q2⟩ := e2
  obtain ⟨z3, p3, q3⟩ := e3
  obtain ⟨z4, p4, q4⟩ := e4
  refine ⟨z1, z2, z3, z4, p1, p2, p3, p4, fun h hz => ?_, fun h => ?_⟩
  · rcases h with h | h | h | h
    · exact q1.mpr h hz.1
    · exact q2.mpr h hz.2.1
    · exact q3.mpr h hz.2.2.1
    · exact q4.mpr h hz.2.2.2
  · by_cases c1 : z1 = 0
    · by_cases c2 : z2 = 0
      · by_cases c3 : z3 = 0
        · exact Or.inr (Or.inr (Or.inr (q4.mp fun c4 => h ⟨c1, c2, c3, c4⟩)))
        · exact Or.inr (Or.inr (Or.inl (q3.mp c3)))
      · exact Or.inr (Or.inl (q2.mp c2))
    · exact Or.inl (q1.mp c1)
end SHM
theorem pf_shoreOf (n : Nat) (kinds : Nat → Int32) {l : Nat} (hl : l < 3) (P : Nat → Bool) (hP : ∀ y x : Nat, y < 10 → x < 12 → (P (12 * y + x) = true ↔ kinds (12 * y + x) = nI (l + 1) ∧ sb 12 10 (fun y x => kinds (12 * y + x)) y x)) : ∀ (d i k : Nat), i + d = 120 → d < k → f_X4_shoreOf_L4 n kinds (nI l) k (nI (ct P i)) (nI i) = some (nI (ct P 120), nI 120) := by
  intro d
  induction d with
  | zero =>
    intro i k h1 h2
    obtain ⟨k, rfl⟩ : ∃ q, k = q + 1 := ⟨k - 1, by omega⟩
    have : i = 120 := by omega
    subst this
    rw [f_X4_shoreOf_L4]
    exact if_pos (Int32.le_refl _)
  | succ d ih =>
    intro i k h1 h2
    obtain ⟨k, rfl⟩ : ∃ q, k = q + 1 := ⟨k - 1, by omega⟩
    have e12 : (12 : Int32) = nI 12 := rfl
    have e1l : (1 : Int32) + nI l = nI (l + 1) := by
      have : (1 : Int32) = nI 1 := rfl
      rw [this, nI_add, Nat.add_comm]
    have hq := hP (i / 12) (i % 12) (by omega) (by omega)
    rw [show 12 * (i / 12) + i % 12 = i by omega] at hq
    rw [f_X4_shoreOf_L4]
    refine (if_neg (show ¬ nI 120 ≤ nI i from nI_ge (by omega) (by omega))).trans ?_
    rw [pr_rd (by omega) (by omega), e1l, e12, pk_rem (by omega) (by omega) (by omega), pk_div (by omega) (by omega) (by omega)]
    have := ih (i + 1) k (by omega) (by omega)
    rw [ct_succ] at this
    obtain ⟨b1, b0⟩ := pk_beside (n := n) (kinds := kinds) (x := i % 12) (y := i / 12) (by omega) (by omega)
    by_cases c : kinds i = nI (l + 1)
    · rw [if_pos c]
      by_cases c2 : sb 12 10 (fun y x => kinds (12 * y + x)) (i / 12) (i % 12)
      · rw [pr_b1 (b1 c2), if_neg (by decide), pr_lt, pr_b1 rfl, pr_lt, nI_1, nI_1]
        rw [if_pos (hq.mpr ⟨c, c2⟩)] at this
        exact this
      · rw [pr_b1 (b0 c2), if_pos rfl, pr_b1 rfl, pr_lt, nI_1]
        rw [if_neg (fun q => c2 (hq.mp q).2)] at this
        exact this
    · rw [if_neg c, pr_b1 rfl, pr_lt, nI_1]
      rw [if_neg (fun q => c (hq.mp q).1)] at this
      exact this
