/-! the pure side, 11: bays, as the class closes them -/
/-- the kind at a place, 8 outside -/
def KK (kinds : Nat → Int32) (y x : Nat) : Int32 := if x < 12 ∧ y < 10 then kinds (12 * y + x) else 8
theorem KK_in {kinds : Nat → Int32} {y x : Nat} (hx : x < 12) (hy : y < 10) : KK kinds y x = kinds (12 * y + x) := if_pos ⟨hx, hy⟩
theorem pk_KK {n : Nat} {kinds : Nat → Int32} {x y : Nat} (hx : x < 2 ^ 20) (hy : y < 2 ^ 20) : f_X4_kindAt n kinds (nI x) (nI y) = some (KK kinds y x) := by
  unfold KK
  by_cases c : x < 12 ∧ y < 10
  · rw [if_pos c, pk_kindAt c.1 c.2]
  · rw [if_neg c]
    refine pk_kindAtN ?_
    by_cases c1 : 12 ≤ x
    · exact Or.inr (Or.inl (nI_le (a := 12) c1 (by omega)))
    · exact Or.inr (Or.inr (Or.inr (nI_le (a := 10) (by omega) (by omega))))
/-- sea from a coast to the next coast of the same land, at most M cells of it; k is one of them -/
def ray (kinds : Nat → Int32) (M l y x dy dx k : Nat) : Prop :=
  ∃ c : Nat, k ≤ c ∧ c ≤ M ∧ KK kinds y x = nI (l + 1) ∧ KK kinds (y + (c + 1) * dy) (x + (c + 1) * dx) = nI (l + 1) ∧ ∀ j : Nat, 1 ≤ j → j ≤ c → KK kinds (y + j * dy) (x + j * dx) = 0
def Least (P : Nat → Prop) (v : Int32) : Prop := (v = -9 ∧ ∀ l : Nat, l < 3 → ¬ P l) ∨ ∃ l : Nat, l < 3 ∧ v = nI l ∧ P l ∧ ∀ l' : Nat, l' < l → ¬ P l'
theorem least_uniq {P : Nat → Prop} {v v' : Int32} (h : Least P v) (h' : Least P v') : v = v' := by
  rcases h with ⟨e, h⟩ | ⟨l, hl, e, p, m⟩
  · rcases h' with ⟨e', h'⟩ | ⟨l', hl', e', p', m'⟩
    · rw [e, e']
    · exact absurd p' (h l' hl')
  · rcases h' with ⟨e', h'⟩ | ⟨l', hl', e', p', m'⟩
    · exact absurd p (h' l hl)
    · rcases Nat.lt_trichotomy l l' with c | c | c
      · exact absurd p (m' l c)
      · rw [e, e', c]
      · exact absurd p' (m l' c)
theorem least_congr {P Q : Nat → Prop} {v : Int32} (hpq : ∀ l : Nat, l < 3 → (P l ↔ Q l)) (h : Least P v) : Least Q v := by
  rcases h with ⟨e, h⟩ | ⟨l, hl, e, p, m⟩
  · exact Or.inl ⟨e, fun l hl q => h l hl ((hpq l hl).mpr q)⟩
  · exact Or.inr ⟨l, hl, e, (hpq l hl).mp p, fun l' hl' q => m l' hl' ((hpq l' (by omega)).mpr q)⟩
def Inn (S : Nat → Nat → Nat → Prop) (inner : Nat → Int32) : Prop := ∀ y x : Nat, y < 10 → x < 12 → Least (S y x) (inner (12 * y + x))
theorem inn_congr {S T : Nat → Nat → Nat → Prop} {inner : Nat → Int32} (hst : ∀ y x l : Nat, y < 10 → x < 12 → l < 3 → (S y x l ↔ T y x l)) (h : Inn S inner) : Inn T inner := fun y x hy hx => least_congr (fun l hl => hst y x l hy hx hl) (h y x hy hx)
theorem pk_mark {n : Nat} {S : Nat → Nat → Nat → Prop} {inner : Nat → Int32} (h : Inn S inner) {y x l : Nat} (hy : y < 10) (hx : x < 12) (hl : l < 3) : ∃ inner', f_X0_markInner n inner (nI (12 * y + x)) (nI l) = some inner' ∧ Inn (fun y' x' l' => S y' x' l' ∨ (y' = y ∧ x' = x ∧ l' = l)) inner' := by
  have hset : (∀ l' : Nat, l' < l → ¬ S y x l') → Inn (fun y' x' l' => S y' x' l' ∨ (y' = y ∧ x' = x ∧ l' = l)) (upd inner (12 * y + x) (nI l)) := by
    intro hlow y' x' hy' hx'
    by_cases e : y' = y ∧ x' = x
    · obtain ⟨rfl, rfl⟩ := e
      rw [pk_us]
      refine Or.inr ⟨l, hl, rfl, Or.inr ⟨rfl, rfl, rfl⟩, fun l' hl' q => ?_⟩
      rcases q with q | q
      · exact hlow l' hl' q
      · omega
    · rw [pk_un (fun q => e (pr_inj hx' hx q))]
      refine least_congr (fun l' hl' => ⟨Or.inl, fun q => ?_⟩) (h y' x' hy' hx')
      rcases q with q | q
      · exact q
      · exact absurd ⟨q.1, q.2.1⟩ e
  have hkeep : (∃ l' : Nat, l' ≤ l ∧ S y x l' ∧ inner (12 * y + x) = nI l' ∧ ∀ l'' : Nat, l'' < l' → ¬ S y x l'') → Inn (fun y' x' l' => S y' x' l' ∨ (y' = y ∧ x' = x ∧ l' = l)) inner := by
    intro ⟨l0, h0, hs, hi, hlow⟩ y' x' hy' hx'
    by_cases e : y' = y ∧ x' = x
    · obtain ⟨rfl, rfl⟩ := e
      refine Or.inr ⟨l0, by omega, hi, Or.inl hs, fun l' hl' q => ?_⟩
      rcases q with q | q
      · exact hlow l' hl' q
      · omega
    · refine least_congr (fun l' hl' => ⟨Or.inl, fun q => ?_⟩) (h y' x' hy' hx')
      rcases q with q | q
      · exact q
      · exact absurd ⟨q.1, q.2.1⟩ e
  unfold f_X0_markInner
  rw [if_neg (nI_pos (by omega)), if_neg (show ¬ (120 : Int32) ≤ nI (12 * y + x) from nI_ge (b := 120) (by omega) (by omega)), pr_rd (by omega) (by omega)]
  rcases h y x hy hx with ⟨e, hh⟩ | ⟨l0, hl0, e, hs, hlow⟩
  · rw [if_pos e, pr_wr (by omega) (by omega)]
    exact ⟨_, rfl, hset fun l' hl' => hh l' (by omega)⟩
  · rw [if_neg (fun q => nI_m9 (a := l0) (by omega) (e.symm.trans q)), pr_rd (by omega) (by omega), e]
    by_cases c : l0 ≤ l
    · rw [if_pos (nI_le c (by omega))]
      exact ⟨_, rfl, hkeep ⟨l0, c, hs, e, hlow⟩⟩
    · rw [if_neg (nI_ge (by omega) (by omega)), pr_wr (by omega) (by omega)]
      exact ⟨_, rfl, hset fun l' hl' => hlow l' (by omega)⟩
section BAY
variable {n : Nat} {kinds : Nat → Int32} {M y x dy dx : Nat}
/-- how far sea goes -/
theorem pk_far (hM : M ≤ 9) (hy : y < 10) (hx : x < 12) (hdy : dy ≤ 1) (hdx : dx ≤ 1) : ∀ (d i k : Nat), i + d = M → d < k → (∀ j : Nat, 1 ≤ j → j ≤ i → KK kinds (y + j * dy) (x + j * dx) = 0) → ∃ c : Nat, f_X0_closeBay_L15 n kinds (nI M) (nI dx) (nI dy) (nI x) (nI y) k (nI i) = some (nI c) ∧ c ≤ M ∧ (∀ j : Nat, 1 ≤ j → j ≤ c → KK kinds (y + j * dy) (x + j * dx) = 0) ∧ (c = M ∨ ¬ KK kinds (y + (c + 1) * dy) (x + (c + 1) * dx) = 0) := by
  intro d
  induction d with
  | zero =>
    intro i k h1 h2 h3
    obtain ⟨k, rfl⟩ : ∃ q, k = q + 1 := ⟨k - 1, by omega⟩
    have : i = M := by omega
    subst this
    refine ⟨i, ?_, Nat.le_refl _, h3, Or.inl rfl⟩
    rw [f_X0_closeBay_L15]
    exact if_pos (Int32.le_refl _)
  | succ d ih =>
    intro i k h1 h2 h3
    obtain ⟨k, rfl⟩ : ∃ q, k = q + 1 := ⟨k - 1, by omega⟩
    have b1 : (i + 1) * dx ≤ i + 1 := by
      have := Nat.mul_le_mul_left (i + 1) hdx
      omega
    have b2 : (i + 1) * dy ≤ i + 1 := by
      have := Nat.mul_le_mul_left (i + 1) hdy
      omega
    rw [f_X0_closeBay_L15]
    rw [if_neg (nI_ge (by omega) (by omega)), nI_1, pk_mul, pk_mul, nI_add, nI_add, pr_b1 (pk_KK (by omega) (by omega))]
    by_cases c : KK kinds (y + (i + 1) * dy) (x + (i + 1) * dx) = 0
    · rw [if_pos c, pr_lt]
      refine ih (i + 1) k (by omega) (by omega) fun j hj hj' => ?_
      by_cases e : j = i + 1
      · rw [e]
        exact c
      · exact h3 j hj (by omega)
    · rw [if_neg c]
      exact ⟨i, rfl, by omega, h3, Or.inr c⟩
theorem KK_8 {v : Nat} (hv : v ≤ 7) {Y X : Nat} (h : KK kinds Y X = nI v) : X < 12 ∧ Y < 10 := by
  unfold KK at h
  by_cases c : X < 12 ∧ Y < 10
  · exact c
  · rw [if_neg c] at h
    have := (nI_eq (a := 8) (b := v) (by omega) (by omega)).mp h
    omega
theorem pk_marks {l c : Nat} {S : Nat → Nat → Nat → Prop} (hl : l < 3) (hc : c ≤ 9) (hy : y < 10) (hx : x < 12) (hdy : dy ≤ 1) (hdx : dx ≤ 1) (hin : ∀ j : Nat, 1 ≤ j → j ≤ c → x + j * dx < 12 ∧ y + j * dy < 10) : ∀ (d i k : Nat) (inner : Nat → Int32), i + d = c → d < k → Inn (fun y' x' l' => S y' x' l' ∨ ∃ j : Nat, 1 ≤ j ∧ j ≤ i ∧ y' = y + j * dy ∧ x' = x + j * dx ∧ l' = l) inner → ∃ inner', f_X0_closeBay_L93 n (nI dx) (nI dy) (nI x) (nI y) (nI c) (nI (l + 1)) k (nI (i + 1)) inner = some (nI (c + 1), inner') ∧ Inn (fun y' x' l' => S y' x' l' ∨ ∃ j : Nat, 1 ≤ j ∧ j ≤ c ∧ y' = y + j * dy ∧ x' = x + j * dx ∧ l' = l) inner' := by
  intro d
  induction d with
  | zero =>
    intro i k inner h1 h2 h3
    obtain ⟨k, rfl⟩ : ∃ q, k = q + 1 := ⟨k - 1, by omega⟩
    have : i = c := by omega
    subst this
    refine ⟨inner, ?_, h3⟩
    rw [f_X0_closeBay_L93]
    exact if_pos (nI_lt (by omega) (by omega))
  | succ d ih =>
    intro i k inner h1 h2 h3
    obtain ⟨k, rfl⟩ : ∃ q, k = q + 1 := ⟨k - 1, by omega⟩
    obtain ⟨q1, q2⟩ := hin (i + 1) (by omega) (by omega)
    obtain ⟨g, e1, e2⟩ := pk_mark (n := n) h3 q2 q1 hl
    rw [f_X0_closeBay_L93]
    rw [if_neg (nI_nlt (by omega) (by omega)), pk_mul, pk_mul, nI_add, nI_add, pr_b1 (pk_placeAt q1 q2), nI_pred, pr_b1 e1, pr_lt, nI_1]
    refine ih (i + 1) k g (by omega) (by omega) (inn_congr (fun y' x' l' _ _ _ => ⟨fun q => ?_, fun q => ?_⟩) e2)
    · rcases q with (q | ⟨j, j1, j2, j3⟩) | q
      · exact Or.inl q
      · exact Or.inr ⟨j, j1, by omega, j3⟩
      · exact Or.inr ⟨i + 1, by omega, by omega, q⟩
    · rcases q with q | ⟨j, j1, j2, j3⟩
      · exact Or.inl (Or.inl q)
      · by_cases e : j = i + 1
        · subst e
          exact Or.inr j3
        · exact Or.inl (Or.inr ⟨j, j1, by omega, j3⟩)
theorem pk_closeBay (hn : 200 ≤ n) {l : Nat} {S : Nat → Nat → Nat → Prop} {inner : Nat → Int32} (hM : M ≤ 9) (hl : l < 3) (hy : y < 10) (hx : x < 12) (hdy : dy ≤ 1) (hdx : dx ≤ 1) (hk : kinds (12 * y + x) = nI (l + 1)) (hI : Inn S inner) : ∃ inner', f_X0_closeBay n inner kinds (nI M) (nI (12 * y + x)) (nI dx) (nI dy) = some inner' ∧ Inn (fun y' x' l' => S y' x' l' ∨ ∃ j : Nat, 1 ≤ j ∧ y' = y + j * dy ∧ x' = x + j * dx ∧ ray kinds M l' y x dy dx j) inner' := by
  have hkk : KK kinds y x = nI (l + 1) := (KK_in hx hy).trans hk
  obtain ⟨c, e1, e2, e3, e4⟩ := pk_far (n := n) (kinds := kinds) hM hy hx hdy hdx M 0 n (by omega) (by omega) (fun j hj hj' => by omega)
  have b1 : (c + 1) * dx ≤ c + 1 := by
    have := Nat.mul_le_mul_left (c + 1) hdx
    omega
  have b2 : (c + 1) * dy ≤ c + 1 := by
    have := Nat.mul_le_mul_left (c + 1) hdy
    omega
  have e12 : (12 : Int32) = nI 12 := rfl
  have e1' : f_X0_closeBay_L15 n kinds (nI M) (nI dx) (nI dy) (nI x) (nI y) n 0 = some (nI c) := e1
  unfold f_X0_closeBay
  rw [e12, pk_rem (by omega) (by omega) (by omega), pk_div (by omega) (by omega) (by omega), (dm12 hx).1, (dm12 hx).2, pr_lt, pr_lt, pr_b1 e1', pr_b1 (pk_kindOf (by omega)), nI_1, pk_mul, pk_mul, nI_add, nI_add, pr_b1 (pk_KK (by omega) (by omega)), hk]
  by_cases cc : KK kinds (y + (c + 1) * dy) (x + (c + 1) * dx) = nI (l + 1)
  · rw [if_pos cc]
    have hin : ∀ j : Nat, 1 ≤ j → j ≤ c → x + j * dx < 12 ∧ y + j * dy < 10 := fun j h1 h2 => KK_8 (v := 0) (by omega) (e3 j h1 h2)
    obtain ⟨g, f1, f2⟩ := pk_marks (n := n) (S := S) hl (by omega) hy hx hdy hdx hin c 0 n inner (by omega) (by omega) (inn_congr (fun y' x' l' _ _ _ => ⟨Or.inl, fun q => by
      rcases q with q | ⟨j, j1, j2, _⟩
      · exact q
      · omega⟩) hI)
    refine ⟨g, pr_b2 f1, inn_congr (fun y' x' l' _ _ hl' => ⟨fun q => ?_, fun q => ?_⟩) f2⟩
    · rcases q with q | ⟨j, j1, j2, j3, j4, rfl⟩
      · exact Or.inl q
      · exact Or.inr ⟨j, j1, j3, j4, c, j2, e2, hkk, cc, e3⟩
    · rcases q with q | ⟨j, j1, j3, j4, c', r1, r2, r3, r4, r5⟩
      · exact Or.inl q
      · have hll : l' = l := by
          have := (nI_eq (by omega) (by omega)).mp (r3.symm.trans hkk)
          omega
        subst hll
        refine Or.inr ⟨j, j1, ?_, j3, j4, rfl⟩
        refine Decidable.of_not_not fun hjc => ?_
        have h0 := r5 (c + 1) (by omega) (by omega)
        have := (nI_eq (a := 0) (b := l' + 1) (by omega) (by omega)).mp (h0.symm.trans cc)
        omega
  · rw [if_neg cc]
    refine ⟨inner, rfl, inn_congr (fun y' x' l' _ _ hl' => ⟨Or.inl, fun q => ?_⟩) hI⟩
    rcases q with q | ⟨j, j1, j3, j4, c', r1, r2, r3, r4, r5⟩
    · exact q
    · have hll : l' = l := by
        have := (nI_eq (by omega) (by omega)).mp (r3.symm.trans hkk)
        omega
      subst hll
      exfalso
      rcases Nat.lt_trichotomy c c' with q | q | q
      · have h0 := r5 (c + 1) (by omega) (by omega)
        rcases e4 with e4 | e4
        · omega
        · exact e4 h0
      · subst q
        exact cc r4
      · have h0 := e3 (c' + 1) (by omega) (by omega)
        have := (nI_eq (a := 0) (b := l' + 1) (by omega) (by omega)).mp (h0.symm.trans r4)
        omega
/-- in a bay, that starts at a place ahead of i -/
def BayTo (kinds : Nat → Int32) (M i y x l : Nat) : Prop :=
  ∃ y0 x0 j : Nat, y0 < 10 ∧ x0 < 12 ∧ 12 * y0 + x0 < i ∧ 1 ≤ j ∧ ((y = y0 + j * 0 ∧ x = x0 + j * 1 ∧ ray kinds M l y0 x0 0 1 j) ∨ (y = y0 + j * 1 ∧ x = x0 + j * 0 ∧ ray kinds M l y0 x0 1 0 j))
theorem bayTo_succ {i y x l : Nat} (hi : i < 120) : BayTo kinds M (i + 1) y x l ↔ (BayTo kinds M i y x l ∨ ∃ j : Nat, 1 ≤ j ∧ y = i / 12 + j * 0 ∧ x = i % 12 + j * 1 ∧ ray kinds M l (i / 12) (i % 12) 0 1 j) ∨ ∃ j : Nat, 1 ≤ j ∧ y = i / 12 + j * 1 ∧ x = i % 12 + j * 0 ∧ ray kinds M l (i / 12) (i % 12) 1 0 j := by
  refine ⟨fun ⟨y0, x0, j, h1, h2, h3, h4, h5⟩ => ?_, fun q => ?_⟩
  · by_cases c : 12 * y0 + x0 < i
    · exact Or.inl (Or.inl ⟨y0, x0, j, h1, h2, c, h4, h5⟩)
    · have e1 : i / 12 = y0 := by omega
      have e2 : i % 12 = x0 := by omega
      rw [e1, e2]
      rcases h5 with h5 | h5
      · exact Or.inl (Or.inr ⟨j, h4, h5⟩)
      · exact Or.inr ⟨j, h4, h5⟩
  · rcases q with (⟨y0, x0, j, h1, h2, h3, h4⟩ | ⟨j, h4, h5⟩) | ⟨j, h4, h5⟩
    · exact ⟨y0, x0, j, h1, h2, by omega, h4⟩
    · exact ⟨i / 12, i % 12, j, by omega, by omega, by omega, h4, Or.inl h5⟩
    · exact ⟨i / 12, i % 12, j, by omega, by omega, by omega, h4, Or.inr h5⟩
/-- what the class needs of the kinds -/
def Kin (kinds : Nat → Int32) : Prop := ∀ i : Nat, i < 120 → ∃ a : Nat, a ≤ 8 ∧ kinds i = nI a
theorem pk_closeBays_L (hn : 200 ≤ n) (hM : M ≤ 9) (hK : Kin kinds) : ∀ (d i k : Nat) (inner : Nat → Int32), i + d = 120 → d < k → Inn (BayTo kinds M i) inner → ∃ inner', f_X0_closeBays_L11 n kinds (nI M) k (nI i) inner = some (nI 120, inner') ∧ Inn (BayTo kinds M 120) inner' := by
  intro d
  induction d with
  | zero =>
    intro i k inner h1 h2 h3
    obtain ⟨k, rfl⟩ : ∃ q, k = q + 1 := ⟨k - 1, by omega⟩
    have : i = 120 := by omega
    subst this
    refine ⟨inner, ?_, h3⟩
    rw [f_X0_closeBays_L11]
    exact if_pos (Int32.le_refl _)
  | succ d ih =>
    intro i k inner h1 h2 h3
    obtain ⟨k, rfl⟩ : ∃ q, k = q + 1 := ⟨k - 1, by omega⟩
    obtain ⟨a, ha, ea⟩ := hK i (by omega)
    rw [f_X0_closeBays_L11]
    rw [if_neg (show ¬ (120 : Int32) ≤ nI i from nI_ge (b := 120) (by omega) (by omega)), pr_b1 (pk_kindOf (by omega)), ea]
    have hi : 12 * (i / 12) + i % 12 = i := by omega
    have hnone : (¬ ∃ l : Nat, l < 3 ∧ kinds i = nI (l + 1)) → Inn (BayTo kinds M (i + 1)) inner := fun hno => by
      refine inn_congr (fun y' x' l' _ _ hl' => ?_) h3
      rw [bayTo_succ (by omega)]
      refine ⟨fun q => Or.inl (Or.inl q), fun q => ?_⟩
      have hkill : ∀ dy dx j : Nat, ¬ ray kinds M l' (i / 12) (i % 12) dy dx j := fun dy dx j ⟨c', r1, r2, r3, r4, r5⟩ => by
        rw [KK_in (by omega) (by omega), hi] at r3
        exact hno ⟨l', hl', r3⟩
      rcases q with (q | ⟨j, _, _, _, q⟩) | ⟨j, _, _, _, q⟩
      · exact q
      · exact absurd q (hkill _ _ _)
      · exact absurd q (hkill _ _ _)
    by_cases c1 : a < 1
    · rw [if_pos (show nI a < (1 : Int32) from nI_lt (b := 1) c1 (by omega)), pr_b1 rfl, pr_lt, nI_1]
      refine ih (i + 1) k inner (by omega) (by omega) (hnone fun ⟨l, hl, e⟩ => ?_)
      have := (nI_eq (by omega) (by omega)).mp (ea.symm.trans e)
      omega
    · rw [if_neg (show ¬ nI a < (1 : Int32) from nI_nlt (b := 1) (by omega) (by omega))]
      by_cases c2 : 4 ≤ a
      · rw [if_pos (show (4 : Int32) ≤ nI a from nI_le (a := 4) c2 (by omega)), pr_b1 rfl, pr_lt, nI_1]
        refine ih (i + 1) k inner (by omega) (by omega) (hnone fun ⟨l, hl, e⟩ => ?_)
        have := (nI_eq (by omega) (by omega)).mp (ea.symm.trans e)
        omega
      · have hk : kinds (12 * (i / 12) + i % 12) = nI (a - 1 + 1) := by
          rw [hi, ea, show a - 1 + 1 = a by omega]
        obtain ⟨g, e1, e2⟩ := pk_closeBay (dy := 0) (dx := 1) hn hM (show a - 1 < 3 by omega) (show i / 12 < 10 by omega) (show i % 12 < 12 by omega) (by omega) (by omega) hk h3
        obtain ⟨g', f1, f2⟩ := pk_closeBay (dy := 1) (dx := 0) hn hM (show a - 1 < 3 by omega) (show i / 12 < 10 by omega) (show i % 12 < 12 by omega) (by omega) (by omega) hk e2
        rw [hi] at e1 f1
        have e1' : f_X0_closeBay n inner kinds (nI M) (nI i) 1 0 = some g := e1
        have f1' : f_X0_closeBay n g kinds (nI M) (nI i) 0 1 = some g' := f1
        have ef : (cz_b1 (f_X0_closeBay n inner kinds (nI M) (nI i) 1 0) fun g25 => cz_b1 (f_X0_closeBay n g25 kinds (nI M) (nI i) 0 1) fun g27 => some g27) = some g' := by rw [pr_b1 e1', pr_b1 f1']
        rw [if_neg (show ¬ (4 : Int32) ≤ nI a from nI_ge (b := 4) (by omega) (by omega)), pr_b1 ef, pr_lt, nI_1]
        refine ih (i + 1) k g' (by omega) (by omega) (inn_congr (fun y' x' l' _ _ hl' => ?_) f2)
        rw [bayTo_succ (by omega)]
theorem pk_closeBays (hn : 200 ≤ n) (hM : M ≤ 9) (hK : Kin kinds) (inner : Nat → Int32) : ∃ inner', f_X0_closeBays n inner kinds (nI M) = some inner' ∧ Inn (BayTo kinds M 120) inner' := by
  obtain ⟨g, e1, e2⟩ := pk_closeBays_L hn hM hK 120 0 n (fun j => if j < 120 then -9 else inner j) rfl (by omega) (fun y x hy hx => Or.inl ⟨if_pos (by omega), fun l hl ⟨y0, x0, j, h1, h2, h3, _⟩ => by omega⟩)
  refine ⟨g, ?_, e2⟩
  unfold f_X0_closeBays
  rw [pr_b1 (pf_fill (by omega) inner (-9))]
  exact pr_b2 e1
end BAY
