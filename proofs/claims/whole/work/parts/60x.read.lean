/-! the pure side, 25: read -/
theorem st_ite {c : Prop} [Decidable c] {a b : Int32} {o : Option Int32} (h : o = some b) : (if c then some a else o) = some (if c then a else b) := by
  subst h
  by_cases q : c
  · rw [if_pos q, if_pos q]
  · rw [if_neg q, if_neg q]
theorem pm_kindOf {n : Nat} (x : Int32) : f_X6_kindOf n x = some (cz_ix x) := by
  unfold f_X6_kindOf cz_ix
  exact st_ite (st_ite (st_ite (st_ite (st_ite (st_ite (st_ite (st_ite rfl)))))))
theorem ix_byte : ∀ a : Nat, a < 256 → ((cz_ix (nI a) = -1 ∨ ((cz_ix (nI a)).toNatClampNeg ≤ 7 ∧ cz_ix (nI a) = nI (cz_ix (nI a)).toNatClampNeg)) ∧ (nI a = 47 → cz_ix (nI a) = -1) ∧ ((nI a).toUInt32 % 65536).toInt32 = nI a) := by decide +kernel
theorem pr_s3r {ρ γ A1 A2 A3 : Type} {o : Option (ρ ⊕ (A1 × A2 × A3))} {a : A1} {b : A2} {c : A3} {J : ρ → Option γ} {K : A1 → A2 → A3 → Option γ} (h : o = some (Sum.inr (a, b, c))) : cz_s3 o J K = K a b c := by subst h; rfl
theorem pr_s3l {ρ γ A1 A2 A3 : Type} {o : Option (ρ ⊕ (A1 × A2 × A3))} {q : ρ} {J : ρ → Option γ} {K : A1 → A2 → A3 → Option γ} (h : o = some (Sum.inl q)) : cz_s3 o J K = J q := by subst h; rfl
theorem pr_s5r {ρ γ A1 A2 A3 A4 A5 : Type} {o : Option (ρ ⊕ (A1 × A2 × A3 × A4 × A5))} {a1 : A1} {a2 : A2} {a3 : A3} {a4 : A4} {a5 : A5} {J : ρ → Option γ} {K : A1 → A2 → A3 → A4 → A5 → Option γ} (h : o = some (Sum.inr (a1, a2, a3, a4, a5))) : cz_s5 o J K = K a1 a2 a3 a4 a5 := by subst h; rfl
theorem pr_s5l {ρ γ A1 A2 A3 A4 A5 : Type} {o : Option (ρ ⊕ (A1 × A2 × A3 × A4 × A5))} {q : ρ} {J : ρ → Option γ} {K : A1 → A2 → A3 → A4 → A5 → Option γ} (h : o = some (Sum.inl q)) : cz_s5 o J K = J q := by subst h; rfl
/-- what the tape holds -/
def Tap (signs : Nat → Int32) : Prop := ∀ j : Nat, j < 129 → ∃ a : Nat, a < 256 ∧ signs j = nI a
def KD (signs : Nat → Int32) (j : Nat) : Int32 := cz_ix (signs j)
section REA
variable {n t : Nat} {signs : Nat → Int32}
theorem kd_val (hs : Tap signs) {j : Nat} (hj : j < 129) : (KD signs j = -1 ∨ ∃ b : Nat, b ≤ 7 ∧ KD signs j = nI b) ∧ (signs j = 47 → KD signs j = -1) := by
  obtain ⟨a, ha, e⟩ := hs j hj
  obtain ⟨h1, h2, _⟩ := ix_byte a ha
  unfold KD
  rw [e]
  refine ⟨?_, h2⟩
  rcases h1 with h1 | ⟨h1, h3⟩
  · exact Or.inl h1
  · exact Or.inr ⟨_, h1, h3⟩
theorem pk_signAt {j : Nat} (ht : t ≤ 129) (hj : j < t) : f_X3_signAt n (nI t) signs (nI j) = some (signs j) := by
  unfold f_X3_signAt
  rw [if_neg (nI_pos (by omega)), if_neg (nI_ge hj (by omega)), if_neg (show ¬ (129 : Int32) ≤ nI j from nI_ge (b := 129) (by omega) (by omega)), pr_rd (by omega) (by omega)]
theorem pk_kindT (hs : Tap signs) {j : Nat} (ht : t ≤ 129) (hj : j < t) : f_X3_kindAt n (nI t) signs (nI j) = some (KD signs j) := by
  obtain ⟨a, ha, e⟩ := hs j (by omega)
  obtain ⟨_, _, h3⟩ := ix_byte a ha
  unfold f_X3_kindAt
  rw [pr_b1 (pk_signAt ht hj), e, if_neg (nI_pos (by omega)), h3]
  unfold KD
  rw [e]
theorem pk_kindTN {j : Nat} (hj : t ≤ j) (hb : j < 2 ^ 31) : f_X3_kindAt n (nI t) signs (nI j) = some (-1) := by
  have : f_X3_signAt n (nI t) signs (nI j) = some (-1) := by
    unfold f_X3_signAt
    rw [if_neg (nI_pos (by omega)), if_pos (nI_le hj (by omega))]
  unfold f_X3_kindAt
  rw [pr_b1 this, if_pos (by decide)]
/-- the first line's end -/
theorem first_L (hs : Tap signs) (ht : t ≤ 129) : ∀ (d i k : Nat), i + d = 12 → d < k → i ≤ t → (∀ j : Nat, j < i → ¬ KD signs j = -1) → ∃ W : Nat, f_X3_firstLine_L2 n (nI t) signs k (nI i) = some (nI W) ∧ W ≤ 12 ∧ W ≤ t ∧ (∀ j : Nat, j < W → ¬ KD signs j = -1) ∧ (W = 12 ∨ W = t ∨ KD signs W = -1) := by
  intro d
  induction d with
  | zero =>
    intro i k h1 h2 h3 h4
    obtain ⟨k, rfl⟩ : ∃ q, k = q + 1 := ⟨k - 1, by omega⟩
    have : i = 12 := by omega
    subst this
    refine ⟨12, ?_, by omega, h3, h4, Or.inl rfl⟩
    rw [f_X3_firstLine_L2]
    exact if_pos (Int32.le_refl _)
  | succ d ih =>
    intro i k h1 h2 h3 h4
    obtain ⟨k, rfl⟩ : ∃ q, k = q + 1 := ⟨k - 1, by omega⟩
    rw [f_X3_firstLine_L2, if_neg (show ¬ (12 : Int32) ≤ nI i from nI_ge (b := 12) (by omega) (by omega))]
    by_cases c : i = t
    · rw [pr_b1 (pk_kindTN (by omega) (by omega)), if_pos (by decide)]
      exact ⟨i, rfl, by omega, h3, h4, Or.inr (Or.inl c)⟩
    · rw [pr_b1 (pk_kindT hs ht (by omega))]
      rcases (kd_val hs (show i < 129 by omega)).1 with q | ⟨b, hb, q⟩
      · rw [q, if_pos (by decide)]
        exact ⟨i, rfl, by omega, h3, h4, Or.inr (Or.inr q)⟩
      · rw [q, if_neg (nI_pos (by omega)), pr_lt, nI_1]
        refine ih (i + 1) k (by omega) (by omega) (by omega) fun j hj => ?_
        by_cases e : j = i
        · subst e
          rw [q]
          exact nI_m1 (by omega)
        · exact h4 j (by omega)
theorem first_both (hn : 200 ≤ n) (hs : Tap signs) (ht : t ≤ 129) : ∃ W : Nat, f_X3_firstLine n (nI t) signs = some (nI W) ∧ W ≤ 12 ∧ W ≤ t ∧ (∀ j : Nat, j < W → ¬ KD signs j = -1) ∧ (W = 12 ∨ W = t ∨ KD signs W = -1) := by
  obtain ⟨W, h1, h2⟩ := first_L (n := n) hs ht 12 0 n (by omega) (by omega) (by omega) (fun j hj => by omega)
  refine ⟨W, ?_, h2⟩
  unfold f_X3_firstLine
  exact pr_b1 h1
/-- where the reading stands -/
def RI (W : Nat) (K : Nat → Int32) (p x y : Nat) (x4 : Int32) (g : Nat → Int32) : Prop :=
  y ≤ 9 ∧ x ≤ W ∧ p = (W + 1) * y + x ∧ (y = 0 → x4 = 0) ∧ (1 ≤ y → x4 = nI W ∧ 1 ≤ W) ∧
  (∀ y' x' : Nat, (y' < y ∧ x' < W) ∨ (y' = y ∧ x' < x) → g (W * y' + x') = K ((W + 1) * y' + x') ∧ ¬ K ((W + 1) * y' + x') = -1) ∧ (∀ y' : Nat, y' < y → K ((W + 1) * y' + W) = -1)
theorem reads_L {W : Nat} {tape : Nat → Int32} {rh : Int32} (hs : Tap signs) (ht : t ≤ 129) (htp : ∀ j : Nat, j < 129 → tape j = signs j) (w12 : W ≤ 12) (hWt : W ≤ t) (hWl : ∀ j : Nat, j < W → ¬ KD signs j = -1) (hWe : W = 12 ∨ W = t ∨ KD signs W = -1) : ∀ (d p x y k k' : Nat) (x4 : Int32) (g : Nat → Int32), p + d = t → d < k → d < k' → RI W (KD signs) p x y x4 g → (∃ (q : Nat) (x4' : Int32) (g' : Nat → Int32), q ≤ t ∧ f_X3_firstFault_L12 n (nI t) signs (nI W) k (nI x) (nI y) (nI p) = some (Sum.inl (nI q)) ∧ f_X6_reads_L14 n (nI t) rh tape k' (nI x) (nI y) (nI p) x4 g = some (Sum.inl (0, nI q, x4', rh, g'))) ∨ (∃ (x' y' : Nat) (x4' : Int32) (g' : Nat → Int32), RI W (KD signs) t x' y' x4' g' ∧ f_X3_firstFault_L12 n (nI t) signs (nI W) k (nI x) (nI y) (nI p) = some (Sum.inr (nI x', nI y', nI t)) ∧ f_X6_reads_L14 n (nI t) rh tape k' (nI x) (nI y) (nI p) x4 g = some (Sum.inr (nI x', nI y', nI t, x4', g'))) := by
  intro d
  induction d with
  | zero =>
    intro p x y k k' x4 g h1 h2 h3 h4
    obtain ⟨k, rfl⟩ : ∃ q, k = q + 1 := ⟨k - 1, by omega⟩
    obtain ⟨k', rfl⟩ : ∃ q, k' = q + 1 := ⟨k' - 1, by omega⟩
    have : p = t := by omega
    subst this
    refine Or.inr ⟨x, y, x4, g, h4, ?_, ?_⟩
    · rw [f_X3_firstFault_L12]
      exact if_pos (Int32.le_refl _)
    · rw [f_X6_reads_L14]
      exact if_pos (Int32.le_refl _)
  | succ d ih =>
    intro p x y k k' x4 g h1 h2 h3 h4
    obtain ⟨k, rfl⟩ : ∃ q, k = q + 1 := ⟨k - 1, by omega⟩
    obtain ⟨k', rfl⟩ : ∃ q, k' = q + 1 := ⟨k' - 1, by omega⟩
    obtain ⟨g1, g2, g3, g4, g5, g6, g7⟩ := id h4
    have hp : p < t := by omega
    obtain ⟨v1, v2⟩ := kd_val hs (show p < 129 by omega)
    rw [f_X3_firstFault_L12, f_X6_reads_L14, if_neg (nI_ge hp (by omega)), if_neg (nI_ge hp (by omega)), pr_b1 (pk_signAt ht hp), pr_rd (by omega) (by omega), htp p (by omega)]
    have hy0 : y = 0 → p = x := fun e => by
      rw [e, Nat.mul_zero, Nat.zero_add] at g3
      exact g3
    have yle : y = 0 → nI y ≤ (0 : Int32) := fun e => by
      rw [e]
      exact Int32.le_refl _
    have ynle : ¬ y = 0 → ¬ nI y ≤ (0 : Int32) := fun e => nI_nle (by omega) (by omega)
    by_cases c47 : signs p = 47
    · have kp := v2 c47
      rw [if_pos c47, if_pos c47]
      by_cases cx : x = 0
      · subst cx
        rw [if_pos (show nI 0 = (0 : Int32) from rfl), if_pos (show nI 0 = (0 : Int32) from rfl)]
        exact Or.inl ⟨p, x4, g, by omega, rfl, rfl⟩
      · rw [if_neg (nI_z' (by omega) cx), if_neg (nI_z' (by omega) cx)]
        by_cases cw : x < W
        · have cy : ¬ y = 0 := fun e => by
            have := hy0 e
            exact hWl p (by omega) kp
          obtain ⟨g51, g52⟩ := g5 (by omega)
          rw [if_pos (nI_lt cw (by omega)), if_neg (ynle cy), g51, if_pos (nI_lt cw (by omega))]
          exact Or.inl ⟨p, _, g, by omega, rfl, rfl⟩
        · have exW : x = W := by omega
          subst exW
          rw [if_neg (nI_nlt (Nat.le_refl _) (by omega)), nI_1]
          have hnext : y < 9 → RI x (KD signs) (p + 1) 0 (y + 1) (nI x) g := fun hy9 => by
            have em : (x + 1) * (y + 1) = (x + 1) * y + (x + 1) := Nat.mul_succ _ _
            refine ⟨by omega, by omega, by omega, fun e => by omega, fun _ => ⟨rfl, by omega⟩, fun y' x' hq => ?_, fun y' hy' => ?_⟩
            · rcases hq with ⟨q1, q2⟩ | ⟨q1, q2⟩
              · by_cases e : y' = y
                · exact g6 y' x' (Or.inr ⟨e, q2⟩)
                · exact g6 y' x' (Or.inl ⟨by omega, q2⟩)
              · omega
            · by_cases e : y' = y
              · subst e
                rw [← g3]
                exact kp
              · exact g7 y' (by omega)
          by_cases cy : y = 0
          · have hi := ih (p + 1) 0 (y + 1) k k' (nI x) g (by omega) (by omega) (by omega) (hnext (by omega))
            rw [if_pos (show nI (y + 1) < (10 : Int32) from nI_lt (b := 10) (by omega) (by omega)), pr_lt, pr_lt, nI_1, if_pos (yle cy), if_neg (show ¬ nI y = (9 : Int32) from fun q => by
              have := (nI_eq (b := 9) (by omega) (by omega)).mp q
              omega), pr_lt, pr_lt]
            exact hi
          · obtain ⟨g51, g52⟩ := g5 (by omega)
            rw [if_neg (ynle cy), g51, if_neg (nI_nlt (Nat.le_refl _) (by omega))]
            by_cases c9 : y = 9
            · rw [if_neg (show ¬ nI (y + 1) < (10 : Int32) from nI_nlt (b := 10) (by omega) (by omega)), if_pos (show nI y = (9 : Int32) by rw [c9]; rfl)]
              exact Or.inl ⟨p, _, g, by omega, rfl, rfl⟩
            · have hi := ih (p + 1) 0 (y + 1) k k' (nI x) g (by omega) (by omega) (by omega) (hnext (by omega))
              rw [if_pos (show nI (y + 1) < (10 : Int32) from nI_lt (b := 10) (by omega) (by omega)), pr_lt, pr_lt, nI_1, if_neg (show ¬ nI y = (9 : Int32) from fun q => by
                have := (nI_eq (b := 9) (by omega) (by omega)).mp q
                omega), pr_lt, pr_lt]
              exact hi
    · rw [if_neg c47, if_neg c47, pr_b1 (pk_kindT hs ht hp)]
      have ekm : f_X6_kindOf n (signs p) = some (KD signs p) := pm_kindOf _
      have e12 : (nI x = (12 : Int32)) ↔ x = 12 := nI_eq (b := 12) (by omega) (by omega)
      by_cases cw : W ≤ x
      · have exW : x = W := by omega
        subst exW
        rw [if_pos (nI_le cw (by omega))]
        by_cases c12 : x = 12
        · rw [if_pos (e12.mpr c12)]
          exact Or.inl ⟨p, _, g, by omega, rfl, rfl⟩
        · rw [if_neg (fun q => c12 (e12.mp q))]
          by_cases cy : y = 0
          · have := hy0 cy
            have kp : KD signs p = -1 := by
              rcases hWe with q | q | q
              · omega
              · omega
              · rw [this]
                exact q
            rw [if_pos (yle cy), pr_b1 ekm, kp, if_neg (by decide)]
            exact Or.inl ⟨p, _, g, by omega, rfl, rfl⟩
          · obtain ⟨g51, g52⟩ := g5 (by omega)
            rw [if_neg (ynle cy), g51, if_pos rfl]
            exact Or.inl ⟨p, _, g, by omega, rfl, rfl⟩
      · rw [if_neg (show ¬ nI W ≤ nI x from nI_ge (by omega) (by omega)), if_neg (show ¬ nI x = (12 : Int32) from fun q => by have := e12.mp q; omega)]
        have hib : W * y + x < 120 := pr_c120 w12 (Nat.le_refl 10) (show x < W by omega) (show y < 10 by omega)
        have e31 : (if nI y = (0 : Int32) then (0 : Int32) else nI y * x4) = nI (W * y) := by
          by_cases cy : y = 0
          · rw [if_pos (by rw [cy]; rfl), cy, Nat.mul_zero]
            rfl
          · obtain ⟨g51, g52⟩ := g5 (by omega)
            rw [if_neg (nI_z' (by omega) cy), g51, pk_mul, Nat.mul_comm]
        rcases v1 with kp | ⟨b, hb, kp⟩
        · rw [kp, if_neg (show ¬ (0 : Int32) ≤ -1 by decide)]
          by_cases cy : y = 0
          · rw [if_pos (yle cy), pr_b1 ekm, kp, if_neg (show ¬ (0 : Int32) ≤ -1 by decide)]
            exact Or.inl ⟨p, _, g, by omega, rfl, rfl⟩
          · obtain ⟨g51, g52⟩ := g5 (by omega)
            rw [if_neg (ynle cy), if_neg (fun q => by
              rw [g51] at q
              have := (nI_eq (by omega) (by omega)).mp q
              omega), pr_b1 ekm, kp, if_neg (show ¬ (0 : Int32) ≤ -1 by decide)]
            exact Or.inl ⟨p, _, g, by omega, rfl, rfl⟩
        · have hi := ih (p + 1) (x + 1) y k k' x4 (upd g (W * y + x) (KD signs p)) (by omega) (by omega) (by omega) ⟨g1, by omega, by omega, g4, g5, fun y' x' hq => by
            by_cases e : y' = y ∧ x' = x
            · obtain ⟨e1, e2⟩ := e
              subst e1 e2
              rw [pk_us, ← g3]
              refine ⟨rfl, ?_⟩
              rw [kp]
              exact nI_m1 (by omega)
            · have hlt : x' < W := by
                rcases hq with ⟨q1, q2⟩ | ⟨q1, q2⟩
                · exact q2
                · omega
              rw [pk_un (fun q => e (pr_inj hlt (show x < W by omega) q))]
              refine g6 y' x' ?_
              rcases hq with ⟨q1, q2⟩ | ⟨q1, q2⟩
              · exact Or.inl ⟨q1, q2⟩
              · exact Or.inr ⟨q1, by
                  have : ¬ x' = x := fun r => e ⟨q1, r⟩
                  omega⟩, g7⟩
          have k0 : (0 : Int32) ≤ KD signs p := by
            rw [kp]
            exact nI_pos' (by omega)
          rw [if_pos k0, pr_lt, pr_lt, nI_1, nI_1]
          by_cases cy : y = 0
          · rw [if_pos (yle cy), pr_b1 ekm, if_pos k0, pr_lt, e31, pr_b1 ekm, nI_add, pr_wr hib (by omega), pr_lt, pr_lt]
            exact hi
          · obtain ⟨g51, g52⟩ := g5 (by omega)
            rw [if_neg (ynle cy), if_neg (fun q => by
              rw [g51] at q
              have := (nI_eq (by omega) (by omega)).mp q
              omega), pr_b1 ekm, if_pos k0, pr_lt, e31, pr_b1 ekm, nI_add, pr_wr hib (by omega), pr_lt, pr_lt]
            exact hi
/-- the whole text of a sea -/
def Tex (t W Y : Nat) (K : Nat → Int32) : Prop :=
  1 ≤ W ∧ W ≤ 12 ∧ Y ≤ 9 ∧ t = (W + 1) * Y + W ∧ (∀ y x : Nat, y ≤ Y → x < W → ∃ b : Nat, b ≤ 7 ∧ K ((W + 1) * y + x) = nI b) ∧ ∀ y : Nat, y < Y → K ((W + 1) * y + W) = -1
theorem reads_both {tape rd : Nat → Int32} (hn : 200 ≤ n) (hs : Tap signs) (ht : t ≤ 129) (htp : ∀ j : Nat, j < 129 → tape j = signs j) (ps rw0 rh : Int32) : (∃ (q : Nat) (x4' : Int32) (g' : Nat → Int32), q ≤ t ∧ f_X3_firstFault n (nI t) signs = some (nI q) ∧ f_X6_reads n (nI t) ps rw0 rh tape rd = some (0, nI q, x4', rh, g')) ∨ (∃ (W Y : Nat) (g' : Nat → Int32), Tex t W Y (KD signs) ∧ f_X3_firstFault n (nI t) signs = some (-1) ∧ f_X6_reads n (nI t) ps rw0 rh tape rd = some (1, nI t, nI W, nI (Y + 1), g') ∧ ∀ y x : Nat, y ≤ Y → x < W → g' (W * y + x) = KD signs ((W + 1) * y + x)) := by
  obtain ⟨W, e1, w12, hWt, hWl, hWe⟩ := first_both hn hs ht
  unfold f_X3_firstFault f_X6_reads
  rw [pr_b1 e1]
  rcases reads_L (n := n) (rh := rh) hs ht htp w12 hWt hWl hWe t 0 0 0 n n 0 rd (by omega) (by omega) (by omega) ⟨by omega, by omega, by omega, fun _ => rfl, fun q => by omega, fun y' x' q => by omega, fun y' q => by omega⟩ with ⟨q, x4', g', hq, f1, f2⟩ | ⟨x, y, x4, g, hI, f1, f2⟩
  · have f1' : f_X3_firstFault_L12 n (nI t) signs (nI W) n (0 : Int32) (0 : Int32) (0 : Int32) = _ := f1
    have f2' : f_X6_reads_L14 n (nI t) rh tape n (0 : Int32) (0 : Int32) (0 : Int32) (0 : Int32) rd = _ := f2
    rw [pr_s3l f1', pr_s5l f2']
    exact Or.inl ⟨q, x4', g', hq, rfl, rfl⟩
  · have f1' : f_X3_firstFault_L12 n (nI t) signs (nI W) n (0 : Int32) (0 : Int32) (0 : Int32) = _ := f1
    have f2' : f_X6_reads_L14 n (nI t) rh tape n (0 : Int32) (0 : Int32) (0 : Int32) (0 : Int32) rd = _ := f2
    obtain ⟨g1, g2, g3, g4, g5, g6, g7⟩ := id hI
    rw [pr_s3r f1', pr_s5r f2']
    by_cases cx : x = 0
    · rw [if_pos (show nI x = (0 : Int32) by rw [cx]; rfl), if_pos (show nI x = (0 : Int32) by rw [cx]; rfl)]
      exact Or.inl ⟨t, x4, g, Nat.le_refl _, rfl, rfl⟩
    · rw [if_neg (nI_z' (by omega) cx), if_neg (nI_z' (by omega) cx)]
      have hgood : x = W → Tex t W y (KD signs) ∧ ∀ y' x' : Nat, y' ≤ y → x' < W → g (W * y' + x') = KD signs ((W + 1) * y' + x') := fun e => by
        have hcell : ∀ y' x' : Nat, y' ≤ y → x' < W → g (W * y' + x') = KD signs ((W + 1) * y' + x') ∧ ¬ KD signs ((W + 1) * y' + x') = -1 := fun y' x' hy' hx' => by
          by_cases ey : y' = y
          · exact g6 y' x' (Or.inr ⟨ey, by omega⟩)
          · exact g6 y' x' (Or.inl ⟨by omega, hx'⟩)
        refine ⟨⟨by omega, w12, g1, by omega, fun y' x' hy' hx' => ?_, g7⟩, fun y' x' hy' hx' => (hcell y' x' hy' hx').1⟩
        have hle : (W + 1) * y' ≤ (W + 1) * y := Nat.mul_le_mul_left _ hy'
        rcases (kd_val hs (show (W + 1) * y' + x' < 129 by omega)).1 with q | q
        · exact absurd q (hcell y' x' hy' hx').2
        · exact q
      by_cases cy : y = 0
      · have hx : x = W := by
          rw [cy, Nat.mul_zero, Nat.zero_add] at g3
          omega
        obtain ⟨t1, t2⟩ := hgood hx
        rw [if_pos (nI_le (show W ≤ x by omega) (by omega)), if_pos (show nI y ≤ (0 : Int32) by rw [cy]; exact Int32.le_refl _), pr_lt, nI_1, hx]
        exact Or.inr ⟨W, y, g, t1, rfl, rfl, t2⟩
      · obtain ⟨g51, g52⟩ := g5 (by omega)
        rw [if_neg (nI_nle (by omega) (by omega)), g51]
        by_cases cw : W ≤ x
        · have hx : x = W := by omega
          obtain ⟨t1, t2⟩ := hgood hx
          rw [if_pos (nI_le cw (by omega)), if_pos (nI_le cw (by omega)), pr_lt, nI_1, hx]
          exact Or.inr ⟨W, y, g, t1, rfl, rfl, t2⟩
        · rw [if_neg (nI_ge (by omega) (by omega)), if_neg (nI_ge (by omega) (by omega))]
          exact Or.inl ⟨t, _, g, Nat.le_refl _, rfl, rfl⟩
/-- the class pours the text -/
theorem pour_L {W Y : Nat} (hs : Tap signs) (ht : t ≤ 129) (hT : Tex t W Y (KD signs)) : ∀ (d p x y k : Nat) (g : Nat → Int32), p + d = t → d < k → p = (W + 1) * y + x → x ≤ W → y ≤ Y → (∀ y' x' : Nat, (y' < y ∧ x' < W) ∨ (y' = y ∧ x' < x) → g (12 * y' + x') = KD signs ((W + 1) * y' + x')) → (∀ y' x' : Nat, y' < 10 → x' < 12 → ¬ ((y' < y ∧ x' < W) ∨ (y' = y ∧ x' < x)) → g (12 * y' + x') = 8) → ∃ g', f_X3_pourInto_L11 n (nI t) signs k (nI x) (nI y) (nI p) g = some (nI W, nI Y, nI t, g') ∧ (∀ y' x' : Nat, y' ≤ Y → x' < W → g' (12 * y' + x') = KD signs ((W + 1) * y' + x')) ∧ (∀ y' x' : Nat, y' < 10 → x' < 12 → ¬ (y' ≤ Y ∧ x' < W) → g' (12 * y' + x') = 8) := by
  obtain ⟨T1, T2, T3, T4, T5, T6⟩ := hT
  intro d
  induction d with
  | zero =>
    intro p x y k g h1 h2 h3 h4 h5 h6 h7
    obtain ⟨k, rfl⟩ : ∃ q, k = q + 1 := ⟨k - 1, by omega⟩
    have e : p = t := by omega
    have e2 := pr_inj (w := W + 1) (show x < W + 1 by omega) (show W < W + 1 by omega) (show (W + 1) * y + x = (W + 1) * Y + W by omega)
    obtain ⟨e3, e4⟩ := e2
    subst e e3 e4
    refine ⟨g, ?_, fun y' x' hy' hx' => h6 y' x' (by omega), fun y' x' hy' hx' hno => h7 y' x' hy' hx' (by omega)⟩
    rw [f_X3_pourInto_L11]
    exact if_pos (Int32.le_refl _)
  | succ d ih =>
    intro p x y k g h1 h2 h3 h4 h5 h6 h7
    obtain ⟨k, rfl⟩ : ∃ q, k = q + 1 := ⟨k - 1, by omega⟩
    rw [f_X3_pourInto_L11, if_neg (nI_ge (by omega) (by omega)), pr_b1 (pk_kindT hs ht (by omega))]
    by_cases cx : x < W
    · obtain ⟨b, hb, kp⟩ := T5 y x h5 cx
      rw [← h3] at kp
      have k0 : (0 : Int32) ≤ KD signs p := by
        rw [kp]
        exact nI_pos' (by omega)
      have ei : nI y * (12 : Int32) + nI x = nI (12 * y + x) := by
        rw [show (12 : Int32) = nI 12 from rfl, pk_mul, nI_add, Nat.mul_comm]
      rw [if_pos k0, ei, pr_b1 (pk_setKind (by omega) _), pr_lt, pr_b3 rfl, pr_lt, nI_1, nI_1]
      refine ih (p + 1) (x + 1) y k _ (by omega) (by omega) (by omega) (by omega) h5 (fun y' x' hq => ?_) (fun y' x' hy' hx' hq => ?_)
      · by_cases e : y' = y ∧ x' = x
        · obtain ⟨e1, e2⟩ := e
          subst e1 e2
          rw [pk_us, ← h3]
        · have hlt : x' < 12 := by omega
          rw [pk_un (fun q => e (pr_inj hlt (show x < 12 by omega) q))]
          exact h6 y' x' (by omega)
      · have e : ¬ (y' = y ∧ x' = x) := fun q => hq (Or.inr ⟨q.1, by omega⟩)
        rw [pk_un (fun q => e (pr_inj hx' (show x < 12 by omega) q))]
        exact h7 y' x' hy' hx' (by omega)
    · have exW : x = W := by omega
      have cY : y < Y := by
        by_cases e : y = Y
        · subst e
          omega
        · omega
      have kp : KD signs p = -1 := by
        rw [h3, exW]
        exact T6 y cY
      have em : (W + 1) * (y + 1) = (W + 1) * y + (W + 1) := Nat.mul_succ _ _
      rw [kp, if_neg (by decide), pr_lt, pr_b3 rfl, pr_lt, nI_1, nI_1]
      exact ih (p + 1) 0 (y + 1) k g (by omega) (by omega) (by omega) (by omega) (by omega) (fun y' x' hq => h6 y' x' (by omega)) (fun y' x' hy' hx' hq => h7 y' x' hy' hx' (by omega))
theorem pour_both {W Y : Nat} (hn : 200 ≤ n) (hs : Tap signs) (ht : t ≤ 129) (hT : Tex t W Y (KD signs)) (z1 z2 z3 : Int32) (g : Nat → Int32) : ∃ g', f_X3_pourInto n (nI t) signs z1 z2 z3 g = some (nI W, nI (Y + 1), 0, g') ∧ (∀ y' x' : Nat, y' ≤ Y → x' < W → g' (12 * y' + x') = KD signs ((W + 1) * y' + x')) ∧ (∀ y' x' : Nat, y' < 10 → x' < 12 → ¬ (y' ≤ Y ∧ x' < W) → g' (12 * y' + x') = 8) := by
  obtain ⟨g', e1, e2⟩ := pour_L (n := n) hs ht hT t 0 0 0 n (fun j => if j < 120 then 8 else g j) (by omega) (by omega) (by omega) (by omega) (by omega) (fun y' x' q => by omega) (fun y' x' hy' hx' _ => if_pos (by omega))
  have e1' : f_X3_pourInto_L11 n (nI t) signs n (0 : Int32) (0 : Int32) (0 : Int32) (fun j => if j < 120 then 8 else g j) = _ := e1
  refine ⟨g', ?_, e2⟩
  have ec : f_X4_clear n z3 g = some (0, fun j => if j < 120 then 8 else g j) := by
    unfold f_X4_clear
    rw [pr_b1 (pf_fill (by omega) g 8)]
  unfold f_X3_pourInto
  rw [pr_b2 ec, pr_b4 e1', pr_lt, nI_1]
end REA
/-- the model takes over what it has read -/
theorem take_L {n w h : Nat} {rd : Nat → Int32} (hwh : w * h ≤ 120) (z : Int32) : ∀ (d i k : Nat) (g : Nat → Int32), i + d = w * h → d < k → g 0 = nI w → g 1 = nI h → ∃ g', f_X6_read_L52 n rd k (nI i) z g = some (nI (w * h), z, g') ∧ (∀ j : Nat, j < 7 + i → g' j = g j) ∧ ∀ c : Nat, i ≤ c → c < w * h → g' (7 + c) = rd c := by
  intro d
  induction d with
  | zero =>
    intro i k g h1 h2 h3 h4
    obtain ⟨k, rfl⟩ : ∃ q, k = q + 1 := ⟨k - 1, by omega⟩
    have : i = w * h := by omega
    subst this
    refine ⟨g, ?_, fun _ _ => rfl, fun c q1 q2 => by omega⟩
    rw [f_X6_read_L52, pr_b1 (pm_many h3 h4)]
    exact if_pos (Int32.le_refl _)
  | succ d ih =>
    intro i k g h1 h2 h3 h4
    obtain ⟨k, rfl⟩ : ∃ q, k = q + 1 := ⟨k - 1, by omega⟩
    rw [f_X6_read_L52, pr_b1 (pm_many h3 h4), if_neg (nI_ge (by omega) (by omega)), pr_rd (by omega) (by omega), nI_7, pr_wr (by omega) (by omega), pr_lt, nI_1]
    obtain ⟨g', e1, e2, e3⟩ := ih (i + 1) k (upd g (7 + i) (rd i)) (by omega) (by omega) (by rw [pk_un (by omega)]; exact h3) (by rw [pk_un (by omega)]; exact h4)
    refine ⟨g', e1, fun j hj => ?_, fun c q1 q2 => ?_⟩
    · rw [e2 j (by omega), pk_un (by omega)]
    · by_cases e : c = i
      · subst e
        rw [e2 _ (by omega), pk_us]
      · exact e3 c (by omega) q2
theorem st_read {n : Nat} (hn : 200 ≤ n) {v_x_tape_length : Int32} {f_x_tape_signs : (Nat → Int32)} {v_x_waters_wide : Int32} {v_x_waters_high : Int32} {v_x_waters_wells : Int32} {f_x_waters_kinds : (Nat → Int32)} {f_x_waters_wellPlaces : (Nat → Int32)} {f_x_waters_wellWorths : (Nat → Int32)} {v_x_waters_rules_mouth : Int32} {v_x_waters_rules_weight : Int32} {v_x_waters_rules_reach : Int32} {v_x_waters_rules_bend : Int32} {v_x_kept_wide : Int32} {v_x_kept_high : Int32} {v_x_kept_wells : Int32} {f_x_kept_kinds : (Nat → Int32)} {f_x_kept_wellPlaces : (Nat → Int32)} {f_x_kept_wellWorths : (Nat → Int32)} {v_x_kept_rules_mouth : Int32} {v_x_kept_rules_weight : Int32} {v_x_kept_rules_reach : Int32} {v_x_kept_rules_bend : Int32} {v_x_hasImage : Int32} {v_x_rowLength : Int32} {f_x_row : (Nat → Int32)} {f_x_refusals : (Nat → Int32)} {v_m_isImage : Int32} {v_m_taped : Int32} {v_m_rowed : Int32} {f_m_tape : (Nat → Int32)} {f_m_s : (Nat → Int32)} {f_m_image : (Nat → Int32)} {f_m_row : (Nat → Int32)} {f_m_refusals : (Nat → Int32)} (v_m_pos : Int32) (v_m_readWide : Int32) (v_m_readHigh : Int32) (f_m_read : (Nat → Int32)) (hR : Rel v_x_tape_length f_x_tape_signs v_x_waters_wide v_x_waters_high v_x_waters_wells f_x_waters_kinds f_x_waters_wellPlaces f_x_waters_wellWorths v_x_waters_rules_mouth v_x_waters_rules_weight v_x_waters_rules_reach v_x_waters_rules_bend v_x_kept_wide v_x_kept_high v_x_kept_wells f_x_kept_kinds f_x_kept_wellPlaces f_x_kept_wellWorths v_x_kept_rules_mouth v_x_kept_rules_weight v_x_kept_rules_reach v_x_kept_rules_bend v_x_hasImage v_x_rowLength f_x_row f_x_refusals v_m_isImage v_m_taped v_m_rowed f_m_tape f_m_s f_m_image f_m_row f_m_refusals) : ∃ (r : Int32) (r_v_x_tape_length : Int32) (r_v_x_waters_wide : Int32) (r_v_x_waters_high : Int32) (r_v_x_waters_wells : Int32) (r_f_x_waters_kinds : (Nat → Int32)) (r_v_m_taped : Int32) (r_v_m_pos : Int32) (r_v_m_readWide : Int32) (r_v_m_readHigh : Int32) (r_f_m_s : (Nat → Int32)) (r_f_m_read : (Nat → Int32)), f_X5_read n v_x_tape_length f_x_tape_signs v_x_waters_wide v_x_waters_high v_x_waters_wells f_x_waters_kinds = some (r, r_v_x_tape_length, r_v_x_waters_wide, r_v_x_waters_high, r_v_x_waters_wells, r_f_x_waters_kinds) ∧ f_X6_read n v_m_taped v_m_pos v_m_readWide v_m_readHigh f_m_s f_m_tape f_m_read = some (r, r_v_m_taped, r_v_m_pos, r_v_m_readWide, r_v_m_readHigh, r_f_m_s, r_f_m_read) ∧ Rel r_v_x_tape_length f_x_tape_signs r_v_x_waters_wide r_v_x_waters_high r_v_x_waters_wells r_f_x_waters_kinds f_x_waters_wellPlaces f_x_waters_wellWorths v_x_waters_rules_mouth v_x_waters_rules_weight v_x_waters_rules_reach v_x_waters_rules_bend v_x_kept_wide v_x_kept_high v_x_kept_wells f_x_kept_kinds f_x_kept_wellPlaces f_x_kept_wellWorths v_x_kept_rules_mouth v_x_kept_rules_weight v_x_kept_rules_reach v_x_kept_rules_bend v_x_hasImage v_x_rowLength f_x_row f_x_refusals v_m_isImage r_v_m_taped v_m_rowed f_m_tape r_f_m_s f_m_image f_m_row f_m_refusals := by
  obtain ⟨R1, R2, R3, R4, R5, R6, R7, R8, R9, R10⟩ := id hR
  obtain ⟨t, ht, et⟩ := R2
  subst R1 et
  have hs : Tap f_x_tape_signs := fun j hj => (R3 j hj).2
  have htp : ∀ j : Nat, j < 129 → f_m_tape j = f_x_tape_signs j := fun j hj => (R3 j hj).1
  unfold f_X5_read f_X6_read
  rcases reads_both (n := n) (rd := f_m_read) hn hs ht htp v_m_pos v_m_readWide v_m_readHigh with ⟨q, x4, g', hq, e1, e2⟩ | ⟨W, Y, g', hT, e1, e2, e3⟩
  · have h0 : (0 : Int32) ≤ nI q := nI_pos' (by omega)
    rw [pr_b1 e1, if_pos h0, pr_b4 rfl, if_pos h0, pr_b5 e2, if_pos rfl]
    exact ⟨_, _, _, _, _, _, _, _, _, _, _, _, rfl, rfl, rfl, ⟨0, by omega, rfl⟩, R3, R4, R5, R6, R7, R8, R9, R10⟩
  · obtain ⟨k', p1, p2, p3⟩ := pour_both hn hs ht hT v_x_waters_wide v_x_waters_high v_x_waters_wells f_x_waters_kinds
    obtain ⟨T1, T2, T3, T4, T5, T6⟩ := id hT
    obtain ⟨w, h, nw, HS⟩ := id R4
    obtain ⟨a1, a2, a3, a4, a5, ew, eh, en, s0, s1, s2, s3, s4, s5, s6, hm, hwt, hre, hbd, hin, ho, hwl⟩ := HS
    have hwh : W * (Y + 1) ≤ 120 := pr_wh T2 (by omega)
    obtain ⟨s', u1, u2, u3⟩ := take_L (n := n) (rd := g') hwh 0 (W * (Y + 1)) 0 n (upd (upd (upd f_m_s 0 (nI W)) 1 (nI (Y + 1))) 6 0) (by omega) (by omega) (by rw [pk_un (by omega), pk_un (by omega), pk_us]) (by rw [pk_un (by omega), pk_us])
    have u1' : f_X6_read_L52 n g' n (0 : Int32) (0 : Int32) (upd (upd (upd f_m_s 0 (nI W)) 1 (nI (Y + 1))) 6 0) = _ := u1
    have v0 : s' 0 = nI W := by rw [u2 0 (by omega), pk_un (by omega), pk_un (by omega), pk_us]
    have v1 : s' 1 = nI (Y + 1) := by rw [u2 1 (by omega), pk_un (by omega), pk_us]
    have vo : ∀ j : Nat, 2 ≤ j → j < 6 → s' j = f_m_s j := fun j q1 q2 => by rw [u2 j (by omega), pk_un (by omega), pk_un (by omega), pk_un (by omega)]
    have v6 : s' 6 = 0 := by rw [u2 6 (by omega), pk_us]
    have w0 : ∀ {β : Type} (f : Nat → Int32) (x : Int32) (K : (Nat → Int32) → Option β), cz_wr f 151 (0 : Int32) x K = K (upd f 0 x) := fun f x K => pr_wr (i := 0) (by omega) (by omega)
    have w1 : ∀ {β : Type} (f : Nat → Int32) (x : Int32) (K : (Nat → Int32) → Option β), cz_wr f 151 (1 : Int32) x K = K (upd f 1 x) := fun f x K => pr_wr (i := 1) (by omega) (by omega)
    have w6 : ∀ {β : Type} (f : Nat → Int32) (x : Int32) (K : (Nat → Int32) → Option β), cz_wr f 151 (6 : Int32) x K = K (upd f 6 x) := fun f x K => pr_wr (i := 6) (by omega) (by omega)
    have esz : f_X4_size n (nI W) (nI (Y + 1)) = some (nI (W * (Y + 1))) := by
      unfold f_X4_size
      rw [pk_mul]
    rw [pr_b1 e1, if_neg (by decide), pr_b4 p1, pr_b4 rfl, if_neg (by decide), pr_b1 esz, pr_b5 e2, if_neg (by decide), w0, w1, w6, pr_b3 u1', pr_b1 (pm_many v0 v1)]
    refine ⟨_, _, _, _, _, _, _, _, _, _, _, _, rfl, rfl, rfl, ⟨0, by omega, rfl⟩, R3, ⟨W, Y + 1, 0, T1, T2, by omega, by omega, by omega, rfl, rfl, rfl, v0, v1, (vo 2 (by omega) (by omega)).trans s2, (vo 3 (by omega) (by omega)).trans s3, (vo 4 (by omega) (by omega)).trans s4, (vo 5 (by omega) (by omega)).trans s5, v6, hm, hwt, hre, hbd, fun y x hy hx => ?_, fun y x hy hx hno => ?_, fun k hk => by omega⟩, R5, R6, R7, R8, R9, R10⟩
    · obtain ⟨b, hb, kb⟩ := T5 y x (by omega) hx
      rw [p2 y x (by omega) hx]
      refine ⟨⟨b, hb, kb⟩, ?_⟩
      rw [u3 _ (by omega) (pr_wy hx hy), e3 y x (by omega) hx]
    · exact p3 y x hy hx (by omega)
