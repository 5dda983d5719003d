/-! the pure side, 12: bays, as the model closes them -/
theorem KK_m {w h : Nat} {kinds s : Nat → Int32} (H : Cel w h kinds s) {y x : Nat} (hy : y < h) (hx : x < w) : s (7 + (w * y + x)) = KK kinds y x := by
  obtain ⟨a1, a2, a3, a4, s0, s1, hin, ho⟩ := H
  rw [KK_in (by omega) (by omega)]
  exact (hin y x hy hx).2
theorem KK_out {w h : Nat} {kinds s : Nat → Int32} (H : Cel w h kinds s) {y x : Nat} (hyx : ¬ (y < h ∧ x < w)) : KK kinds y x = 8 := by
  obtain ⟨a1, a2, a3, a4, s0, s1, hin, ho⟩ := H
  unfold KK
  by_cases c : x < 12 ∧ y < 10
  · rw [if_pos c]
    exact ho y x c.2 c.1 hyx
  · rw [if_neg c]
theorem Cel_kin {w h : Nat} {kinds s : Nat → Int32} (H : Cel w h kinds s) : Kin kinds := fun i hi => by
  obtain ⟨a1, a2, a3, a4, s0, s1, hin, ho⟩ := H
  have e : 12 * (i / 12) + i % 12 = i := by omega
  by_cases c : i / 12 < h ∧ i % 12 < w
  · obtain ⟨⟨a, ha, ea⟩, _⟩ := hin (i / 12) (i % 12) c.1 c.2
    rw [e] at ea
    exact ⟨a, by omega, ea⟩
  · have := ho (i / 12) (i % 12) (by omega) (by omega) c
    rw [e] at this
    exact ⟨8, by omega, this⟩
/-- a ray on a line -/
def lray (g : Nat → Int32) (M l x0 j : Nat) : Prop := ∃ c : Nat, j ≤ c ∧ c ≤ M ∧ g x0 = nI (l + 1) ∧ g (x0 + (c + 1)) = nI (l + 1) ∧ ∀ i : Nat, 1 ≤ i → i ≤ c → g (x0 + i) = 0
theorem nI_z {l : Nat} (hl : l < 2 ^ 30) : ¬ nI (l + 1) = 0 := fun e => by
  have := (nI_eq (a := l + 1) (b := 0) (by omega) (by omega)).mp e
  omega
theorem line_closed {g : Nat → Int32} {M l x a b : Nat} (hl : l < 3) (hx : g x = 0) (ha : a < x) (ga : ¬ g a = 0) (za : ∀ i : Nat, a < i → i < x → g i = 0) (hb : x < b) (gb : ¬ g b = 0) (zb : ∀ i : Nat, x < i → i < b → g i = 0) : (∃ x0 j : Nat, 1 ≤ j ∧ x = x0 + j ∧ lray g M l x0 j) ↔ (g a = nI (l + 1) ∧ g b = nI (l + 1) ∧ b - a - 1 ≤ M) := by
  have hz : ¬ nI (l + 1) = 0 := nI_z (by omega)
  refine ⟨fun ⟨x0, j, h1, h2, c, r1, r2, r3, r4, r5⟩ => ?_, fun ⟨h1, h2, h3⟩ => ?_⟩
  · have e1 : x0 = a := by
      rcases Nat.lt_trichotomy x0 a with q | q | q
      · have := r5 (a - x0) (by omega) (by omega)
        rw [show x0 + (a - x0) = a by omega] at this
        exact absurd this ga
      · exact q
      · exact absurd (r3.symm.trans (za x0 q (by omega))) hz
    have e2 : x0 + (c + 1) = b := by
      rcases Nat.lt_trichotomy (x0 + (c + 1)) b with q | q | q
      · exact absurd (r4.symm.trans (zb _ (by omega) q)) hz
      · exact q
      · have := r5 (b - x0) (by omega) (by omega)
        rw [show x0 + (b - x0) = b by omega] at this
        exact absurd this gb
    rw [e2] at r4
    rw [e1] at r3
    exact ⟨r3, r4, by omega⟩
  · refine ⟨a, x - a, by omega, by omega, b - a - 1, by omega, h3, h1, ?_, fun i h4 h5 => ?_⟩
    · rw [show a + (b - a - 1 + 1) = b by omega]
      exact h2
    · rcases Nat.lt_trichotomy (a + i) x with q | q | q
      · exact za _ (by omega) q
      · rw [q]
        exact hx
      · exact zb _ q (by omega)
theorem line_open {g : Nat → Int32} {M l x : Nat} (hl : l < 3) (za : ∀ i : Nat, i < x → g i = 0) : ¬ ∃ x0 j : Nat, 1 ≤ j ∧ x = x0 + j ∧ lray g M l x0 j := by
  intro ⟨x0, j, h1, h2, c, r1, r2, r3, r4, r5⟩
  exact nI_z (l := l) (by omega) (r3.symm.trans (za x0 (by omega)))
section INM
variable {n w h M : Nat} {kinds s : Nat → Int32}
theorem pm_fwd_in (h0 : s 0 = nI w) (h1 : s 1 = nI h) (hw : w ≤ 12) (hh : h ≤ 10) {X Y : Nat} (hX : X < w) (hY : Y < h) {w2 w3 : Int32} {k : Nat} : f_X6_shoreFrom_L24 n s w2 w3 (k + 1) (nI X) (nI Y) = if s (7 + (w * Y + X)) = 0 then f_X6_shoreFrom_L24 n s w2 w3 k (nI X + w2) (nI Y + w3) else some (Sum.inl (nI (w * Y + X))) := by
  have hc := pr_c120 hw hh hX hY
  have t : nI Y * nI w + nI X = nI (w * Y + X) := by rw [pk_mul, nI_add, Nat.mul_comm Y w]
  rw [f_X6_shoreFrom_L24]
  rw [if_neg (nI_pos (by omega)), pr_rd0 (by omega) (by omega), h0, if_neg (nI_ge hX (by omega)), if_neg (nI_pos (by omega)), pr_rd1 (by omega) (by omega), h1, if_neg (nI_ge hY (by omega)), pr_rd0 (by omega) (by omega), h0, t, pr_lt, pr_b1 (pm_at (by omega))]
  rfl
theorem pm_fwd_out (h0 : s 0 = nI w) (h1 : s 1 = nI h) {X Y : Int32} (hx : X < 0 ∨ nI w ≤ X ∨ Y < 0 ∨ nI h ≤ Y) {w2 w3 : Int32} {k : Nat} : ∃ p, f_X6_shoreFrom_L24 n s w2 w3 (k + 1) X Y = some (Sum.inr p) := by
  rw [f_X6_shoreFrom_L24]
  by_cases c1 : X < 0
  · rw [if_pos c1]
    exact ⟨_, rfl⟩
  · rw [if_neg c1, pr_rd0 (by omega) (by omega), h0]
    by_cases c2 : nI w ≤ X
    · rw [if_pos c2]
      exact ⟨_, rfl⟩
    · rw [if_neg c2]
      by_cases c3 : Y < 0
      · rw [if_pos c3]
        exact ⟨_, rfl⟩
      · rw [if_neg c3, pr_rd1 (by omega) (by omega), h1, if_pos]
        · exact ⟨_, rfl⟩
        · rcases hx with h | h | h | h
          · exact absurd h c1
          · exact absurd h c2
          · exact absurd h c3
          · exact h
theorem pm_fwdH (H : Cel w h kinds s) {y x : Nat} (hy : y < h) (hx : x < w) : ∀ (d b k : Nat), b + d = w → d < k → x < b → (∀ i : Nat, x < i → i < b → KK kinds y i = 0) → ∃ b' : Nat, x < b' ∧ b' ≤ w ∧ ¬ KK kinds y b' = 0 ∧ (∀ i : Nat, x < i → i < b' → KK kinds y i = 0) ∧ ((b' < w ∧ f_X6_shoreFrom_L24 n s 1 0 k (nI b) (nI y) = some (Sum.inl (nI (w * y + b')))) ∨ (b' = w ∧ ∃ p, f_X6_shoreFrom_L24 n s 1 0 k (nI b) (nI y) = some (Sum.inr p))) := by
  obtain ⟨a1, a2, a3, a4, s0, s1, hin, ho⟩ := id H
  intro d
  induction d with
  | zero =>
    intro b k h1 h2 h3 h4
    obtain ⟨k, rfl⟩ : ∃ q, k = q + 1 := ⟨k - 1, by omega⟩
    have : b = w := by omega
    subst this
    refine ⟨b, h3, Nat.le_refl _, ?_, h4, Or.inr ⟨rfl, pm_fwd_out s0 s1 (Or.inr (Or.inl (Int32.le_refl _)))⟩⟩
    rw [KK_out H (by omega)]
    decide
  | succ d ih =>
    intro b k h1 h2 h3 h4
    obtain ⟨k, rfl⟩ : ∃ q, k = q + 1 := ⟨k - 1, by omega⟩
    rw [pm_fwd_in s0 s1 a2 a4 (X := b) (Y := y) (by omega) hy, KK_m H (y := y) (x := b) hy (by omega)]
    by_cases c : KK kinds y b = 0
    · rw [if_pos c]
      rw [nI_1, Int32.add_zero]
      refine ih (b + 1) k (by omega) (by omega) (by omega) fun i h5 h6 => ?_
      by_cases e : i = b
      · rw [e]
        exact c
      · exact h4 i h5 (by omega)
    · rw [if_neg c]
      exact ⟨b, h3, by omega, c, h4, Or.inl ⟨by omega, rfl⟩⟩
theorem pm_backH (H : Cel w h kinds s) {y x : Nat} (hy : y < h) (hx : x < w) : ∀ (a k : Nat), a + 1 < k → a < x → (∀ i : Nat, a < i → i < x → KK kinds y i = 0) → (∃ a' : Nat, a' < x ∧ ¬ KK kinds y a' = 0 ∧ (∀ i : Nat, a' < i → i < x → KK kinds y i = 0) ∧ f_X6_shoreFrom_L24 n s (-1) (-0) k (nI a) (nI y) = some (Sum.inl (nI (w * y + a')))) ∨ ((∀ i : Nat, i < x → KK kinds y i = 0) ∧ ∃ p, f_X6_shoreFrom_L24 n s (-1) (-0) k (nI a) (nI y) = some (Sum.inr p)) := by
  obtain ⟨a1, a2, a3, a4, s0, s1, hin, ho⟩ := id H
  intro a
  induction a with
  | zero =>
    intro k h2 h3 h4
    obtain ⟨k, rfl⟩ : ∃ q, k = q + 2 := ⟨k - 2, by omega⟩
    rw [pm_fwd_in s0 s1 a2 a4 (X := 0) (Y := y) (by omega) hy, KK_m H (y := y) (x := 0) hy (by omega)]
    by_cases c : KK kinds y 0 = 0
    · rw [if_pos c]
      refine Or.inr ⟨fun i hi => ?_, pm_fwd_out s0 s1 (Or.inl (show nI 0 + -(1 : Int32) < 0 by decide))⟩
      by_cases e : i = 0
      · rw [e]
        exact c
      · exact h4 i (by omega) hi
    · rw [if_neg c]
      exact Or.inl ⟨0, h3, c, h4, rfl⟩
  | succ a ih =>
    intro k h2 h3 h4
    obtain ⟨k, rfl⟩ : ∃ q, k = q + 1 := ⟨k - 1, by omega⟩
    rw [pm_fwd_in s0 s1 a2 a4 (X := (a + 1)) (Y := y) (by omega) hy, KK_m H (y := y) (x := (a + 1)) hy (by omega)]
    by_cases c : KK kinds y (a + 1) = 0
    · rw [if_pos c]
      have em : nI (a + 1) + -(1 : Int32) = nI a := by rw [← Int32.sub_eq_add_neg, nI_pred]
      have ez : ∀ q : Nat, nI q + -(0 : Int32) = nI q := fun q => by rw [show -(0 : Int32) = 0 by decide, Int32.add_zero]
      rw [em, ez]
      refine ih k (by omega) (by omega) fun i h5 h6 => ?_
      by_cases e : i = a + 1
      · rw [e]
        exact c
      · exact h4 i (by omega) h6
    · rw [if_neg c]
      exact Or.inl ⟨a + 1, h3, c, h4, rfl⟩
theorem pm_closedH (hn : 200 ≤ n) (H : Cel w h kinds s) (hM : M ≤ 9) (h2 : s 2 = nI M) {y x l : Nat} (hy : y < h) (hx : x < w) (hl : l < 3) (hz : KK kinds y x = 0) : ∃ z : Int32, f_X6_isClosed n s (nI (w * y + x)) 1 0 (nI l) = some z ∧ (¬ z = 0 ↔ ∃ x0 j : Nat, 1 ≤ j ∧ x = x0 + j ∧ lray (fun i => KK kinds y i) M l x0 j) := by
  obtain ⟨a1, a2, a3, a4, s0, s1, hin, ho⟩ := id H
  have hc := pr_c120 a2 a4 hx hy
  have hwz : ¬ nI w = 0 := fun e => by have := (nI_eq (b := 0) (by omega) (by omega)).mp e; omega
  have ez : ∀ q : Nat, nI q + -(0 : Int32) = nI q := fun q => by rw [show -(0 : Int32) = 0 by decide, Int32.add_zero]
  obtain ⟨b, fb1, fb2, fb3, fb4, fb5⟩ := pm_fwdH (n := n) H hy hx (w - (x + 1)) (x + 1) n (by omega) (by omega) (by omega) (fun i h5 h6 => by omega)
  have eF : f_X6_shoreFrom n s (nI (w * y + x)) 1 0 = cz_s2 (f_X6_shoreFrom_L24 n s 1 0 n (nI (x + 1)) (nI y)) some fun y13 y14 => some (-9 : Int32) := by
    unfold f_X6_shoreFrom
    rw [pr_rd0 (by omega) (by omega), s0, pr_nz hwz, pk_rem (by omega) (by omega) (by omega), pr_lt, pr_rd0 (by omega) (by omega), s0, pr_nz hwz, pk_div (by omega) (by omega) (by omega), pr_lt, (dmw hx).1, (dmw hx).2, nI_1, Int32.add_zero]
  have eB : f_X6_shoreFrom n s (nI (w * y + x)) (-1) (-0) = cz_s2 (f_X6_shoreFrom_L24 n s (-1) (-0) n (nI x + -1) (nI y)) some fun y13 y14 => some (-9 : Int32) := by
    unfold f_X6_shoreFrom
    rw [pr_rd0 (by omega) (by omega), s0, pr_nz hwz, pk_rem (by omega) (by omega) (by omega), pr_lt, pr_rd0 (by omega) (by omega), s0, pr_nz hwz, pk_div (by omega) (by omega) (by omega), pr_lt, (dmw hx).1, (dmw hx).2, ez]
  have eBack : (∃ a : Nat, a < x ∧ ¬ KK kinds y a = 0 ∧ (∀ i : Nat, a < i → i < x → KK kinds y i = 0) ∧ f_X6_shoreFrom n s (nI (w * y + x)) (-1) (-0) = some (nI (w * y + a))) ∨ ((∀ i : Nat, i < x → KK kinds y i = 0) ∧ f_X6_shoreFrom n s (nI (w * y + x)) (-1) (-0) = some (-9)) := by
    rw [eB]
    by_cases c0 : x = 0
    · refine Or.inr ⟨fun i hi => by omega, ?_⟩
      obtain ⟨k, rfl⟩ : ∃ q, n = q + 1 := ⟨n - 1, by omega⟩
      rw [c0]
      obtain ⟨p, ep⟩ := pm_fwd_out (n := k + 1) (k := k) s0 s1 (w2 := -1) (w3 := -0) (Or.inl (show nI 0 + -(1 : Int32) < 0 by decide))
      rw [ep]
      rfl
    · have em : nI x + -(1 : Int32) = nI (x - 1) := by
        rw [← Int32.sub_eq_add_neg]
        rw [show x = x - 1 + 1 by omega, nI_pred, show x - 1 + 1 - 1 = x - 1 by omega]
      rw [em]
      rcases pm_backH (n := n) H hy hx (x - 1) n (by omega) (by omega) (fun i h5 h6 => by omega) with ⟨a, b1, b2, b3, b4⟩ | ⟨b1, p, b4⟩
      · refine Or.inl ⟨a, b1, b2, b3, ?_⟩
        rw [b4]
        rfl
      · refine Or.inr ⟨b1, ?_⟩
        rw [b4]
        rfl
  have eFwd : (b < w ∧ f_X6_shoreFrom n s (nI (w * y + x)) 1 0 = some (nI (w * y + b))) ∨ (b = w ∧ f_X6_shoreFrom n s (nI (w * y + x)) 1 0 = some (-9)) := by
    rw [eF]
    rcases fb5 with ⟨f1, f2⟩ | ⟨f1, p, f2⟩
    · refine Or.inl ⟨f1, ?_⟩
      rw [f2]
      rfl
    · refine Or.inr ⟨f1, ?_⟩
      rw [f2]
      rfl
  unfold f_X6_isClosed
  rcases eBack with ⟨a, b1, b2, b3, b4⟩ | ⟨b1, b4⟩
  · rw [pr_b1 b4]
    rcases eFwd with ⟨f1, f2⟩ | ⟨f1, f2⟩
    · have ha := pr_c120 a2 a4 (x := a) (y := y) (by omega) hy
      have hb := pr_c120 a2 a4 (x := b) (y := y) (by omega) hy
      rw [pr_b1 f2, if_neg (nI_pos (by omega)), if_neg (nI_pos (by omega)), pr_b1 (pm_at (by omega)), KK_m H (y := y) (x := a) hy (by omega), nI_1]
      have key := line_closed (g := fun i => KK kinds y i) (M := M) hl hz b1 b2 b3 fb1 fb3 fb4
      by_cases c1 : KK kinds y a = nI (l + 1)
      · rw [if_pos c1, pr_b1 (pm_at (by omega)), KK_m H (y := y) (x := b) hy (by omega)]
        by_cases c2 : KK kinds y b = nI (l + 1)
        · rw [if_pos c2]
          have ed : (if (1 : Int32) = 1 then some (nI (w * y + b) - nI (w * y + a)) else cz_rd s 151 (0 : Int32) fun x21 => cz_nz x21 <| cz_lt ((nI (w * y + b) - nI (w * y + a)) / x21) fun x22 => some x22) = some (nI (b - a)) := by
            rw [if_pos rfl, pk_sub (by omega)]
            congr 2
            omega
          rw [pr_b1 ed, pr_rd2 (by omega) (by omega), h2, show b - a = b - a - 1 + 1 by omega, nI_pred]
          by_cases c3 : b - a - 1 ≤ M
          · rw [if_neg (nI_nlt c3 (by omega))]
            exact ⟨1, rfl, fun _ => key.mpr ⟨c1, c2, c3⟩, fun _ => by decide⟩
          · rw [if_pos (nI_lt (by omega) (by omega))]
            exact ⟨0, rfl, fun q => absurd rfl q, fun q => absurd (key.mp q).2.2 c3⟩
        · rw [if_neg c2]
          exact ⟨0, rfl, fun q => absurd rfl q, fun q => absurd (key.mp q).2.1 c2⟩
      · rw [if_neg c1]
        exact ⟨0, rfl, fun q => absurd rfl q, fun q => absurd (key.mp q).1 c1⟩
    · have hb8 : KK kinds y b = 8 := KK_out H (by omega)
      have key := line_closed (g := fun i => KK kinds y i) (M := M) hl hz b1 b2 b3 fb1 fb3 fb4
      have ha := pr_c120 a2 a4 (x := a) (y := y) (by omega) hy
      rw [pr_b1 f2, if_neg (nI_pos (by omega)), if_pos (by decide)]
      refine ⟨0, rfl, fun q => absurd rfl q, fun q => ?_⟩
      have := (nI_eq (a := 8) (b := l + 1) (by omega) (by omega)).mp (hb8.symm.trans (key.mp q).2.1)
      omega
  · rw [pr_b1 b4]
    rcases eFwd with ⟨f1, f2⟩ | ⟨f1, f2⟩
    · rw [pr_b1 f2, if_pos (by decide)]
      exact ⟨0, rfl, fun q => absurd rfl q, fun q => absurd q (line_open hl b1)⟩
    · rw [pr_b1 f2, if_pos (by decide)]
      exact ⟨0, rfl, fun q => absurd rfl q, fun q => absurd q (line_open hl b1)⟩
theorem pm_fwdV (H : Cel w h kinds s) {y x : Nat} (hy : y < h) (hx : x < w) : ∀ (d b k : Nat), b + d = h → d < k → y < b → (∀ i : Nat, y < i → i < b → KK kinds i x = 0) → ∃ b' : Nat, y < b' ∧ b' ≤ h ∧ ¬ KK kinds b' x = 0 ∧ (∀ i : Nat, y < i → i < b' → KK kinds i x = 0) ∧ ((b' < h ∧ f_X6_shoreFrom_L24 n s 0 1 k (nI x) (nI b) = some (Sum.inl (nI (w * b' + x)))) ∨ (b' = h ∧ ∃ p, f_X6_shoreFrom_L24 n s 0 1 k (nI x) (nI b) = some (Sum.inr p))) := by
  obtain ⟨a1, a2, a3, a4, s0, s1, hin, ho⟩ := id H
  intro d
  induction d with
  | zero =>
    intro b k h1 h2 h3 h4
    obtain ⟨k, rfl⟩ : ∃ q, k = q + 1 := ⟨k - 1, by omega⟩
    have : b = h := by omega
    subst this
    refine ⟨b, h3, Nat.le_refl _, ?_, h4, Or.inr ⟨rfl, pm_fwd_out s0 s1 (Or.inr (Or.inr (Or.inr (Int32.le_refl _))))⟩⟩
    rw [KK_out H (by omega)]
    decide
  | succ d ih =>
    intro b k h1 h2 h3 h4
    obtain ⟨k, rfl⟩ : ∃ q, k = q + 1 := ⟨k - 1, by omega⟩
    rw [pm_fwd_in s0 s1 a2 a4 (X := x) (Y := b) hx (by omega), KK_m H (y := b) (x := x) (by omega) hx]
    by_cases c : KK kinds b x = 0
    · rw [if_pos c]
      rw [nI_1, Int32.add_zero]
      refine ih (b + 1) k (by omega) (by omega) (by omega) fun i h5 h6 => ?_
      by_cases e : i = b
      · rw [e]
        exact c
      · exact h4 i h5 (by omega)
    · rw [if_neg c]
      exact ⟨b, h3, by omega, c, h4, Or.inl ⟨by omega, rfl⟩⟩
theorem pm_backV (H : Cel w h kinds s) {y x : Nat} (hy : y < h) (hx : x < w) : ∀ (a k : Nat), a + 1 < k → a < y → (∀ i : Nat, a < i → i < y → KK kinds i x = 0) → (∃ a' : Nat, a' < y ∧ ¬ KK kinds a' x = 0 ∧ (∀ i : Nat, a' < i → i < y → KK kinds i x = 0) ∧ f_X6_shoreFrom_L24 n s (-0) (-1) k (nI x) (nI a) = some (Sum.inl (nI (w * a' + x)))) ∨ ((∀ i : Nat, i < y → KK kinds i x = 0) ∧ ∃ p, f_X6_shoreFrom_L24 n s (-0) (-1) k (nI x) (nI a) = some (Sum.inr p)) := by
  obtain ⟨a1, a2, a3, a4, s0, s1, hin, ho⟩ := id H
  intro a
  induction a with
  | zero =>
    intro k h2 h3 h4
    obtain ⟨k, rfl⟩ : ∃ q, k = q + 2 := ⟨k - 2, by omega⟩
    rw [pm_fwd_in s0 s1 a2 a4 (X := x) (Y := 0) hx (by omega), KK_m H (y := 0) (x := x) (by omega) hx]
    by_cases c : KK kinds 0 x = 0
    · rw [if_pos c]
      refine Or.inr ⟨fun i hi => ?_, pm_fwd_out s0 s1 (Or.inr (Or.inr (Or.inl (show nI 0 + -(1 : Int32) < 0 by decide))))⟩
      by_cases e : i = 0
      · rw [e]
        exact c
      · exact h4 i (by omega) hi
    · rw [if_neg c]
      exact Or.inl ⟨0, h3, c, h4, rfl⟩
  | succ a ih =>
    intro k h2 h3 h4
    obtain ⟨k, rfl⟩ : ∃ q, k = q + 1 := ⟨k - 1, by omega⟩
    rw [pm_fwd_in s0 s1 a2 a4 (X := x) (Y := (a + 1)) hx (by omega), KK_m H (y := (a + 1)) (x := x) (by omega) hx]
    by_cases c : KK kinds (a + 1) x = 0
    · rw [if_pos c]
      have em : nI (a + 1) + -(1 : Int32) = nI a := by rw [← Int32.sub_eq_add_neg, nI_pred]
      have ez : ∀ q : Nat, nI q + -(0 : Int32) = nI q := fun q => by rw [show -(0 : Int32) = 0 by decide, Int32.add_zero]
      rw [em, ez]
      refine ih k (by omega) (by omega) fun i h5 h6 => ?_
      by_cases e : i = a + 1
      · rw [e]
        exact c
      · exact h4 i (by omega) h6
    · rw [if_neg c]
      exact Or.inl ⟨a + 1, h3, c, h4, rfl⟩
theorem pm_closedV (hn : 200 ≤ n) (H : Cel w h kinds s) (hM : M ≤ 9) (h2 : s 2 = nI M) {y x l : Nat} (hy : y < h) (hx : x < w) (hl : l < 3) (hz : KK kinds y x = 0) : ∃ z : Int32, f_X6_isClosed n s (nI (w * y + x)) 0 1 (nI l) = some z ∧ (¬ z = 0 ↔ ∃ x0 j : Nat, 1 ≤ j ∧ y = x0 + j ∧ lray (fun i => KK kinds i x) M l x0 j) := by
  obtain ⟨a1, a2, a3, a4, s0, s1, hin, ho⟩ := id H
  have hc := pr_c120 a2 a4 hx hy
  have hwz : ¬ nI w = 0 := fun e => by have := (nI_eq (b := 0) (by omega) (by omega)).mp e; omega
  have ez : ∀ q : Nat, nI q + -(0 : Int32) = nI q := fun q => by rw [show -(0 : Int32) = 0 by decide, Int32.add_zero]
  obtain ⟨b, fb1, fb2, fb3, fb4, fb5⟩ := pm_fwdV (n := n) H hy hx (h - (y + 1)) (y + 1) n (by omega) (by omega) (by omega) (fun i h5 h6 => by omega)
  have eF : f_X6_shoreFrom n s (nI (w * y + x)) 0 1 = cz_s2 (f_X6_shoreFrom_L24 n s 0 1 n (nI x) (nI (y + 1))) some fun y13 y14 => some (-9 : Int32) := by
    unfold f_X6_shoreFrom
    rw [pr_rd0 (by omega) (by omega), s0, pr_nz hwz, pk_rem (by omega) (by omega) (by omega), pr_lt, pr_rd0 (by omega) (by omega), s0, pr_nz hwz, pk_div (by omega) (by omega) (by omega), pr_lt, (dmw hx).1, (dmw hx).2, nI_1, Int32.add_zero]
  have eB : f_X6_shoreFrom n s (nI (w * y + x)) (-0) (-1) = cz_s2 (f_X6_shoreFrom_L24 n s (-0) (-1) n (nI x) (nI y + -1)) some fun y13 y14 => some (-9 : Int32) := by
    unfold f_X6_shoreFrom
    rw [pr_rd0 (by omega) (by omega), s0, pr_nz hwz, pk_rem (by omega) (by omega) (by omega), pr_lt, pr_rd0 (by omega) (by omega), s0, pr_nz hwz, pk_div (by omega) (by omega) (by omega), pr_lt, (dmw hx).1, (dmw hx).2, ez]
  have eBack : (∃ a : Nat, a < y ∧ ¬ KK kinds a x = 0 ∧ (∀ i : Nat, a < i → i < y → KK kinds i x = 0) ∧ f_X6_shoreFrom n s (nI (w * y + x)) (-0) (-1) = some (nI (w * a + x))) ∨ ((∀ i : Nat, i < y → KK kinds i x = 0) ∧ f_X6_shoreFrom n s (nI (w * y + x)) (-0) (-1) = some (-9)) := by
    rw [eB]
    by_cases c0 : y = 0
    · refine Or.inr ⟨fun i hi => by omega, ?_⟩
      obtain ⟨k, rfl⟩ : ∃ q, n = q + 1 := ⟨n - 1, by omega⟩
      rw [c0]
      obtain ⟨p, ep⟩ := pm_fwd_out (n := k + 1) (k := k) s0 s1 (w2 := -0) (w3 := -1) (Or.inr (Or.inr (Or.inl (show nI 0 + -(1 : Int32) < 0 by decide))))
      rw [ep]
      rfl
    · have em : nI y + -(1 : Int32) = nI (y - 1) := by
        rw [← Int32.sub_eq_add_neg]
        rw [show y = y - 1 + 1 by omega, nI_pred, show y - 1 + 1 - 1 = y - 1 by omega]
      rw [em]
      rcases pm_backV (n := n) H hy hx (y - 1) n (by omega) (by omega) (fun i h5 h6 => by omega) with ⟨a, b1, b2, b3, b4⟩ | ⟨b1, p, b4⟩
      · refine Or.inl ⟨a, b1, b2, b3, ?_⟩
        rw [b4]
        rfl
      · refine Or.inr ⟨b1, ?_⟩
        rw [b4]
        rfl
  have eFwd : (b < h ∧ f_X6_shoreFrom n s (nI (w * y + x)) 0 1 = some (nI (w * b + x))) ∨ (b = h ∧ f_X6_shoreFrom n s (nI (w * y + x)) 0 1 = some (-9)) := by
    rw [eF]
    rcases fb5 with ⟨f1, f2⟩ | ⟨f1, p, f2⟩
    · refine Or.inl ⟨f1, ?_⟩
      rw [f2]
      rfl
    · refine Or.inr ⟨f1, ?_⟩
      rw [f2]
      rfl
  unfold f_X6_isClosed
  rcases eBack with ⟨a, b1, b2, b3, b4⟩ | ⟨b1, b4⟩
  · rw [pr_b1 b4]
    rcases eFwd with ⟨f1, f2⟩ | ⟨f1, f2⟩
    · have ha := pr_c120 a2 a4 (x := x) (y := a) hx (by omega)
      have hb := pr_c120 a2 a4 (x := x) (y := b) hx (by omega)
      rw [pr_b1 f2, if_neg (nI_pos (by omega)), if_neg (nI_pos (by omega)), pr_b1 (pm_at (by omega)), KK_m H (y := a) (x := x) (by omega) hx, nI_1]
      have key := line_closed (g := fun i => KK kinds i x) (M := M) hl hz b1 b2 b3 fb1 fb3 fb4
      by_cases c1 : KK kinds a x = nI (l + 1)
      · rw [if_pos c1, pr_b1 (pm_at (by omega)), KK_m H (y := b) (x := x) (by omega) hx]
        by_cases c2 : KK kinds b x = nI (l + 1)
        · rw [if_pos c2]
          have ed : (if (0 : Int32) = 1 then some (nI (w * b + x) - nI (w * a + x)) else cz_rd s 151 (0 : Int32) fun x21 => cz_nz x21 <| cz_lt ((nI (w * b + x) - nI (w * a + x)) / x21) fun x22 => some x22) = some (nI (b - a)) := by
            have hab : w * b + x - (w * a + x) = w * (b - a) := by
              rw [Nat.mul_sub]
              omega
            have hle : w * a ≤ w * b := Nat.mul_le_mul_left w (by omega)
            rw [if_neg (by decide), pr_rd0 (by omega) (by omega), s0, pr_nz hwz, pk_sub (by omega), hab, pk_div (by omega) (by omega) (by omega), Nat.mul_div_cancel_left _ (by omega), pr_lt]
          rw [pr_b1 ed, pr_rd2 (by omega) (by omega), h2, show b - a = b - a - 1 + 1 by omega, nI_pred]
          by_cases c3 : b - a - 1 ≤ M
          · rw [if_neg (nI_nlt c3 (by omega))]
            exact ⟨1, rfl, fun _ => key.mpr ⟨c1, c2, c3⟩, fun _ => by decide⟩
          · rw [if_pos (nI_lt (by omega) (by omega))]
            exact ⟨0, rfl, fun q => absurd rfl q, fun q => absurd (key.mp q).2.2 c3⟩
        · rw [if_neg c2]
          exact ⟨0, rfl, fun q => absurd rfl q, fun q => absurd (key.mp q).2.1 c2⟩
      · rw [if_neg c1]
        exact ⟨0, rfl, fun q => absurd rfl q, fun q => absurd (key.mp q).1 c1⟩
    · have hb8 : KK kinds b x = 8 := KK_out H (by omega)
      have key := line_closed (g := fun i => KK kinds i x) (M := M) hl hz b1 b2 b3 fb1 fb3 fb4
      have ha := pr_c120 a2 a4 (x := x) (y := a) hx (by omega)
      rw [pr_b1 f2, if_neg (nI_pos (by omega)), if_pos (by decide)]
      refine ⟨0, rfl, fun q => absurd rfl q, fun q => ?_⟩
      have := (nI_eq (a := 8) (b := l + 1) (by omega) (by omega)).mp (hb8.symm.trans (key.mp q).2.1)
      omega
  · rw [pr_b1 b4]
    rcases eFwd with ⟨f1, f2⟩ | ⟨f1, f2⟩
    · rw [pr_b1 f2, if_pos (by decide)]
      exact ⟨0, rfl, fun q => absurd rfl q, fun q => absurd q (line_open hl b1)⟩
    · rw [pr_b1 f2, if_pos (by decide)]
      exact ⟨0, rfl, fun q => absurd rfl q, fun q => absurd q (line_open hl b1)⟩
end INM
