/-! the pure side, 15: the nearest base, in class and model -/
def sq (a b : Nat) : Nat := (a - b) * (a - b) + (b - a) * (b - a)
theorem nI_sq (a b : Nat) : (nI a - nI b) * (nI a - nI b) = nI (sq a b) := by
  unfold sq
  by_cases c : b ≤ a
  · rw [pk_sub c, pk_mul, Nat.sub_eq_zero_of_le c, Nat.mul_zero, Nat.add_zero]
  · have e : nI a - nI b = -(nI (b - a)) := by
      rw [← pk_sub (show a ≤ b by omega), Int32.neg_sub]
    rw [e, Int32.neg_mul_neg, pk_mul, Nat.sub_eq_zero_of_le (show a ≤ b by omega), Nat.mul_zero, Nat.zero_add]
theorem sq_le {a b m : Nat} (ha : a ≤ m) (hb : b ≤ m) : sq a b ≤ m * m := by
  unfold sq
  by_cases c : b ≤ a
  · rw [Nat.sub_eq_zero_of_le c, Nat.mul_zero, Nat.add_zero]
    exact Nat.mul_le_mul (by omega) (by omega)
  · rw [Nat.sub_eq_zero_of_le (show a ≤ b by omega), Nat.mul_zero, Nat.zero_add]
    exact Nat.mul_le_mul (by omega) (by omega)
/-- one more cell that may be a base: the nearest so far is kept with its square and its place -/
def stp (f y0 x0 y x : Nat) (t : Option (Nat × Nat × Nat)) : Option (Nat × Nat × Nat) :=
  if f = 0 then t else match t with
    | none => some (f * (sq x0 x + sq y0 y), y, x)
    | some (b, q) => if f * (sq x0 x + sq y0 y) < b then some (f * (sq x0 x + sq y0 y), y, x) else some (b, q)
def NR (c : Nat → Nat → Nat) (W y0 x0 l i : Nat) : Option (Nat × Nat × Nat) := it (fun j t => stp (c l j) y0 x0 (j / W) (j % W) t) none i
theorem NR_succ (c : Nat → Nat → Nat) (W y0 x0 l i : Nat) : NR c W y0 x0 l (i + 1) = stp (c l i) y0 x0 (i / W) (i % W) (NR c W y0 x0 l i) := rfl
/-- what is known of the nearest -/
def Nok (c : Nat → Nat → Nat) (W y0 x0 l i : Nat) (t : Option (Nat × Nat × Nat)) : Prop := ∀ v y x : Nat, t = some (v, y, x) → W * y + x < i ∧ x < W ∧ c l (W * y + x) ≠ 0 ∧ v = c l (W * y + x) * (sq x0 x + sq y0 y)
theorem NR_ok (c : Nat → Nat → Nat) {W : Nat} (hW : 0 < W) (y0 x0 l : Nat) (i : Nat) : Nok c W y0 x0 l i (NR c W y0 x0 l i) := by
  induction i with
  | zero =>
    intro v y x h
    exact absurd h (by intro q; cases q)
  | succ i ih =>
    intro v y x h
    rw [NR_succ] at h
    unfold stp at h
    by_cases c0 : c l i = 0
    · rw [if_pos c0] at h
      have := ih v y x h
      exact ⟨by omega, this.2⟩
    · rw [if_neg c0] at h
      have hnew : some (c l i * (sq x0 (i % W) + sq y0 (i / W)), i / W, i % W) = some (v, y, x) → W * y + x < i + 1 ∧ x < W ∧ c l (W * y + x) ≠ 0 ∧ v = c l (W * y + x) * (sq x0 x + sq y0 y) := fun q => by
        injection q with q
        injection q with q1 q
        injection q with q2 q3
        subst q2 q3
        rw [Nat.div_add_mod]
        exact ⟨by omega, Nat.mod_lt _ hW, c0, q1.symm⟩
      cases ht : NR c W y0 x0 l i with
      | none =>
        rw [ht] at h
        exact hnew h
      | some p =>
        obtain ⟨b, q⟩ := p
        rw [ht] at h
        by_cases cc : c l i * (sq x0 (i % W) + sq y0 (i / W)) < b
        · exact hnew ((if_pos cc).symm.trans h)
        · have h' := (if_neg cc).symm.trans h
          have := ih v y x (ht.trans h')
          exact ⟨by omega, this.2⟩
def bestOf (t : Option (Nat × Nat × Nat)) : Int32 := match t with
  | none => -9
  | some (v, _, _) => nI v
def fromIn (W : Nat) (t : Option (Nat × Nat × Nat)) : Int32 := match t with
  | none => -9
  | some (_, y, x) => nI (W * y + x)
section NEC
variable {n : Nat} {c : Nat → Nat → Nat} {bp bf bs : Nat → Int32} {y0 x0 l : Nat}
def baseOf (c : Nat → Nat → Nat) (l : Nat) (t : Option (Nat × Nat × Nat)) : Int32 := match t with
  | none => -1
  | some (_, y, x) => nI (BB c l + ct (pc c l) (12 * y + x))
def leastOf (t : Option (Nat × Nat × Nat)) : Int32 := match t with
  | none => 0
  | some (v, _, _) => nI v
theorem pk_squareTo {b j f : Nat} (hb : b < 120) (hj : j < 120) (hp : bp b = nI j) (hf : bf b = nI f) (hx : x0 < 12) (hy : y0 < 10) : f_X0_squareTo n bp bf (nI (12 * y0 + x0)) (nI b) = some (nI (f * (sq x0 (j % 12) + sq y0 (j / 12)))) := by
  unfold f_X0_squareTo
  have e12 : (12 : Int32) = nI 12 := rfl
  rw [if_neg (nI_pos (by omega)), if_pos (show nI b < (120 : Int32) from nI_lt (b := 120) hb (by omega)), pr_rd hb (by omega), hp, e12, pk_rem (by omega) (by omega) (by omega), pk_rem (by omega) (by omega) (by omega), pr_lt, pr_rd hb (by omega), hp, pk_div (by omega) (by omega) (by omega), pk_div (by omega) (by omega) (by omega), pr_lt, pr_rd hb (by omega), hf, (dm12 hx).1, (dm12 hx).2, nI_sq, nI_sq, nI_add, pk_mul, Nat.mul_comm]
theorem sq_small {f x y : Nat} (hf : f ≤ 4) (hx : x0 < 12) (hy : y0 < 10) (hx' : x < 12) (hy' : y < 10) : f * (sq x0 x + sq y0 y) ≤ 808 := by
  have h1 := sq_le (m := 11) (show x0 ≤ 11 by omega) (show x ≤ 11 by omega)
  have h2 := sq_le (m := 9) (show y0 ≤ 9 by omega) (show y ≤ 9 by omega)
  exact Nat.le_trans (Nat.mul_le_mul hf (show sq x0 x + sq y0 y ≤ 202 by omega)) (by omega)
theorem pk_nb_L (hL : Laid c bp bf bs) (hE : Excl c) (h4 : ∀ l j : Nat, c l j ≤ 4) (hl : l < 3) (hx : x0 < 12) (hy : y0 < 10) : ∀ (d i k : Nat), i + d = 120 → d < k → f_X0_nearestBase_L22 n bp bf bs (nI (12 * y0 + x0)) (nI l) k (baseOf c l (NR c 12 y0 x0 l i)) (leastOf (NR c 12 y0 x0 l i)) (nI (BB c l + ct (pc c l) i)) = some (baseOf c l (NR c 12 y0 x0 l 120), leastOf (NR c 12 y0 x0 l 120), nI (BB c (l + 1))) := by
  have hB := BB_3 hE
  have hB' : BB c (l + 1) ≤ BB c 3 := BB_mono hl
  intro d
  induction d with
  | zero =>
    intro i k h1 h2
    obtain ⟨k, rfl⟩ : ∃ q, k = q + 1 := ⟨k - 1, by omega⟩
    have : i = 120 := by omega
    subst this
    rw [f_X0_nearestBase_L22, nI_1, pr_rd (by omega) (by omega), hL.1 _ (by omega)]
    exact if_pos (Int32.le_refl _)
  | succ d ih =>
    intro i k h1 h2
    by_cases c0 : c l i = 0
    · have := ih (i + 1) k (by omega) (by omega)
      rw [NR_succ, ct_succ, if_neg (pc_f c0)] at this
      unfold stp at this
      rw [if_pos c0] at this
      exact this
    · obtain ⟨k, rfl⟩ : ∃ q, k = q + 1 := ⟨k - 1, by omega⟩
      have a1 := ct_lt (N := 120) (pc_t c0) (by omega)
      have a2 : BB c (l + 1) = BB c l + ct (pc c l) 120 := rfl
      obtain ⟨hp, hf⟩ := hL.2 l i hl (by omega) c0
      have hsm : c l i * (sq x0 (i % 12) + sq y0 (i / 12)) ≤ 808 := sq_small (h4 l i) hx hy (by omega) (by omega)
      have := ih (i + 1) k (by omega) (by omega)
      rw [NR_succ, ct_succ, if_pos (pc_t c0)] at this
      unfold stp at this
      rw [if_neg c0] at this
      rw [f_X0_nearestBase_L22, nI_1, pr_rd (by omega) (by omega), hL.1 _ (by omega), if_neg (nI_ge (by omega) (by omega)), pr_b1 (pk_squareTo (by omega) (by omega) hp hf hx hy)]
      cases ht : NR c 12 y0 x0 l i with
      | none =>
        rw [ht] at this
        show cz_l2 (if (-1 : Int32) < 0 then _ else _) _ = _
        rw [if_pos (by decide)]
        have e : (12 * (i / 12) + i % 12) = i := by omega
        have hb : baseOf c l (some (c l i * (sq x0 (i % 12) + sq y0 (i / 12)), i / 12, i % 12)) = nI (BB c l + ct (pc c l) i) := by
          show nI (BB c l + ct (pc c l) (12 * (i / 12) + i % 12)) = _
          rw [e]
        dsimp only at this
        rw [hb] at this
        show cz_lt _ _ = _
        rw [pr_lt, nI_1, Nat.add_assoc]
        exact this
      | some p =>
        obtain ⟨b, qy, qx⟩ := p
        rw [ht] at this
        have hok := NR_ok c (show 0 < 12 by omega) y0 x0 l i b qy qx ht
        have hbs : b ≤ 808 := by
          rw [hok.2.2.2]
          exact sq_small (h4 _ _) hx hy hok.2.1 (by omega)
        show cz_l2 (if nI (BB c l + ct (pc c l) (12 * qy + qx)) < 0 then _ else (if nI b ≤ _ then _ else _)) _ = _
        have a3 := ct_mono (pc c l) (show 12 * qy + qx ≤ 120 by omega)
        rw [if_neg (nI_pos (by omega))]
        by_cases cc : c l i * (sq x0 (i % 12) + sq y0 (i / 12)) < b
        · rw [if_neg (nI_ge cc (by omega))]
          dsimp only at this
          rw [if_pos cc] at this
          have e : (12 * (i / 12) + i % 12) = i := by omega
          have hb : baseOf c l (some (c l i * (sq x0 (i % 12) + sq y0 (i / 12)), i / 12, i % 12)) = nI (BB c l + ct (pc c l) i) := by
            show nI (BB c l + ct (pc c l) (12 * (i / 12) + i % 12)) = _
            rw [e]
          rw [hb] at this
          show cz_lt _ _ = _
          rw [pr_lt, nI_1, Nat.add_assoc]
          exact this
        · rw [if_pos (nI_le (by omega) (by omega))]
          dsimp only at this
          rw [if_neg cc] at this
          show cz_lt _ _ = _
          rw [pr_lt, nI_1, Nat.add_assoc]
          exact this
theorem pk_nearestBase (hn : 200 ≤ n) (hL : Laid c bp bf bs) (hE : Excl c) (h4 : ∀ l j : Nat, c l j ≤ 4) (hl : l < 3) (hx : x0 < 12) (hy : y0 < 10) : f_X0_nearestBase n bp bf bs (nI (12 * y0 + x0)) (nI l) = some (baseOf c l (NR c 12 y0 x0 l 120)) := by
  unfold f_X0_nearestBase
  rw [pr_b1 (pk_isLand hl), if_neg (by decide), pr_rd (by omega) (by omega), hL.1 l (by omega)]
  exact pr_b3 (pk_nb_L (n := n) hL hE h4 hl hx hy 120 0 n (by omega) (by omega))
/-- the base that was found: its square and its place -/
theorem pk_found (hL : Laid c bp bf bs) (hE : Excl c) (h4 : ∀ l j : Nat, c l j ≤ 4) (hl : l < 3) (hx : x0 < 12) (hy : y0 < 10) : (NR c 12 y0 x0 l 120 = none ∧ baseOf c l (NR c 12 y0 x0 l 120) = -1) ∨ ∃ v y x b : Nat, NR c 12 y0 x0 l 120 = some (v, y, x) ∧ y < 10 ∧ x < 12 ∧ v ≤ 808 ∧ b < 120 ∧ baseOf c l (NR c 12 y0 x0 l 120) = nI b ∧ f_X0_squareTo n bp bf (nI (12 * y0 + x0)) (nI b) = some (nI v) ∧ bp b = nI (12 * y + x) := by
  have hB := BB_3 hE
  have hB' : BB c (l + 1) ≤ BB c 3 := BB_mono hl
  have a2 : BB c (l + 1) = BB c l + ct (pc c l) 120 := rfl
  cases ht : NR c 12 y0 x0 l 120 with
  | none => exact Or.inl ⟨rfl, rfl⟩
  | some p =>
    obtain ⟨v, y, x⟩ := p
    obtain ⟨o1, o2, o3, o4⟩ := NR_ok c (show 0 < 12 by omega) y0 x0 l 120 v y x ht
    have a1 := ct_lt (N := 120) (pc_t o3) o1
    obtain ⟨hp, hf⟩ := hL.2 l (12 * y + x) hl o1 o3
    refine Or.inr ⟨v, y, x, BB c l + ct (pc c l) (12 * y + x), rfl, by omega, o2, ?_, by omega, rfl, ?_, hp⟩
    · rw [o4]
      exact sq_small (h4 _ _) hx hy o2 (by omega)
    · rw [pk_squareTo (by omega) o1 hp hf hx hy, (dm12 o2).1, (dm12 o2).2, o4]
/-- near, as the class reckons it -/
theorem pk_near (hn : 200 ≤ n) (hL : Laid c bp bf bs) (hE : Excl c) (h4 : ∀ l j : Nat, c l j ≤ 4) (hl : l < 3) (hx : x0 < 12) (hy : y0 < 10) : (if (0 : Int32) ≤ baseOf c l (NR c 12 y0 x0 l 120) then cz_b1 (f_X0_squareTo n bp bf (nI (12 * y0 + x0)) (baseOf c l (NR c 12 y0 x0 l 120))) fun x46 => some x46 else some (-9 : Int32)) = some (bestOf (NR c 12 y0 x0 l 120)) := by
  rcases pk_found (n := n) hL hE h4 hl hx hy with ⟨e1, e2⟩ | ⟨v, y, x, b, e1, _, _, _, hb, e2, e3, _⟩
  · rw [e2, if_neg (by decide), e1]
    rfl
  · rw [e2, if_pos (nI_pos' (by omega)), pr_b1 e3, e1]
    rfl
theorem pk_measure1 (hn : 200 ≤ n) (hL : Laid c bp bf bs) (hE : Excl c) (h4 : ∀ l j : Nat, c l j ≤ 4) (hx : x0 < 12) (hy : y0 < 10) : ∀ (d l k : Nat) (g : Nat → Int32), l + d = 3 → d < k → ∃ g', f_X0_measure_L29 n bp bf bs (nI (12 * y0 + x0)) k (nI l) g = some (nI 3, g') ∧ (∀ l' : Nat, l' < 3 → l ≤ l' → g' (3 * (12 * y0 + x0) + l') = bestOf (NR c 12 y0 x0 l' 120)) ∧ ∀ j : Nat, (∀ l' : Nat, l' < 3 → l ≤ l' → j ≠ 3 * (12 * y0 + x0) + l') → g' j = g j := by
  intro d
  induction d with
  | zero =>
    intro l k g h1 h2
    obtain ⟨k, rfl⟩ : ∃ q, k = q + 1 := ⟨k - 1, by omega⟩
    have : l = 3 := by omega
    subst this
    refine ⟨g, ?_, fun l' h3 h5 => by omega, fun j _ => rfl⟩
    rw [f_X0_measure_L29]
    exact if_pos (Int32.le_refl _)
  | succ d ih =>
    intro l k g h1 h2
    obtain ⟨k, rfl⟩ : ∃ q, k = q + 1 := ⟨k - 1, by omega⟩
    have ei : nI (12 * y0 + x0) * (3 : Int32) + nI l = nI (3 * (12 * y0 + x0) + l) := by
      rw [show (3 : Int32) = nI 3 from rfl, pk_mul, nI_add, Nat.mul_comm]
    obtain ⟨g', e1, e2, e3⟩ := ih (l + 1) k (upd g (3 * (12 * y0 + x0) + l) (bestOf (NR c 12 y0 x0 l 120))) (by omega) (by omega)
    refine ⟨g', ?_, fun l' h3 h5 => ?_, fun j hj => ?_⟩
    · rw [f_X0_measure_L29]
      rw [if_neg (show ¬ (3 : Int32) ≤ nI l from nI_ge (b := 3) (by omega) (by omega)), pr_b1 (pk_nearestBase hn hL hE h4 (by omega) hx hy), pr_b1 (pk_near hn hL hE h4 (by omega) hx hy), ei, pr_wr (by omega) (by omega), pr_lt, nI_1]
      exact e1
    · by_cases e : l' = l
      · subst e
        rw [e3 _ (fun l'' h6 h7 => by omega), pk_us]
      · exact e2 l' h3 (by omega)
    · rw [e3 j (fun l'' h6 h7 => hj l'' h6 (by omega)), pk_un (hj l (by omega) (by omega))]
variable {inner kinds : Nat → Int32}
theorem pk_measure_L (hn : 200 ≤ n) (hL : Laid c bp bf bs) (hE : Excl c) (h4 : ∀ l j : Nat, c l j ≤ 4) : ∀ (d i k : Nat) (g : Nat → Int32), i + d = 120 → d < k → (∀ y x l : Nat, y < 10 → x < 12 → l < 3 → 12 * y + x < i → kinds (12 * y + x) = 0 → inner (12 * y + x) = -9 → g (3 * (12 * y + x) + l) = bestOf (NR c 12 y x l 120)) → ∃ g', f_X0_measure_L2 n inner bp bf bs kinds k (nI i) g = some (nI 120, g') ∧ ∀ y x l : Nat, y < 10 → x < 12 → l < 3 → kinds (12 * y + x) = 0 → inner (12 * y + x) = -9 → g' (3 * (12 * y + x) + l) = bestOf (NR c 12 y x l 120) := by
  intro d
  induction d with
  | zero =>
    intro i k g h1 h2 h3
    obtain ⟨k, rfl⟩ : ∃ q, k = q + 1 := ⟨k - 1, by omega⟩
    have : i = 120 := by omega
    subst this
    refine ⟨g, ?_, fun y x l hy hx hl => h3 y x l hy hx hl (by omega)⟩
    rw [f_X0_measure_L2]
    exact if_pos (Int32.le_refl _)
  | succ d ih =>
    intro i k g h1 h2 h3
    obtain ⟨k, rfl⟩ : ∃ q, k = q + 1 := ⟨k - 1, by omega⟩
    have e : 12 * (i / 12) + i % 12 = i := by omega
    have hskip : ¬ (kinds i = 0 ∧ inner i = -9) → ∃ g', f_X0_measure_L2 n inner bp bf bs kinds k (nI i + 1) g = some (nI 120, g') ∧ ∀ y x l : Nat, y < 10 → x < 12 → l < 3 → kinds (12 * y + x) = 0 → inner (12 * y + x) = -9 → g' (3 * (12 * y + x) + l) = bestOf (NR c 12 y x l 120) := fun hno => by
      rw [nI_1]
      refine ih (i + 1) k g (by omega) (by omega) fun y x l hy hx hl hlt q1 q2 => ?_
      by_cases c : 12 * y + x = i
      · rw [c] at q1 q2
        exact absurd ⟨q1, q2⟩ hno
      · exact h3 y x l hy hx hl (by omega) q1 q2
    rw [f_X0_measure_L2]
    rw [if_neg (show ¬ (120 : Int32) ≤ nI i from nI_ge (b := 120) (by omega) (by omega)), pr_b1 (pk_kindOf (by omega))]
    by_cases c1 : kinds i = 0
    · rw [if_pos c1, pr_rd (by omega) (by omega)]
      by_cases c2 : inner i = -9
      · obtain ⟨g', e1, e2, e3⟩ := pk_measure1 (n := n) (x0 := i % 12) (y0 := i / 12) hn hL hE h4 (by omega) (by omega) 3 0 n g (by omega) (by omega)
        rw [e] at e1 e2 e3
        have e1' : f_X0_measure_L29 n bp bf bs (nI i) n 0 g = some (nI 3, g') := e1
        rw [if_pos c2, pr_b1 ((pr_b2 e1').trans rfl), pr_lt, nI_1]
        refine ih (i + 1) k g' (by omega) (by omega) fun y x l hy hx hl hlt q1 q2 => ?_
        by_cases c : 12 * y + x = i
        · have d1 : i / 12 = y := by omega
          have d2 : i % 12 = x := by omega
          have := e2 l hl (by omega)
          rw [d1, d2] at this
          rw [c]
          exact this
        · rw [e3 _ (fun l' h6 h7 => by omega)]
          exact h3 y x l hy hx hl (by omega) q1 q2
      · rw [if_neg c2, pr_b1 rfl, pr_lt]
        exact hskip fun q => c2 q.2
    · rw [if_neg c1, pr_b1 rfl, pr_lt]
      exact hskip fun q => c1 q.1
theorem pk_measure (hn : 200 ≤ n) (hL : Laid c bp bf bs) (hE : Excl c) (h4 : ∀ l j : Nat, c l j ≤ 4) (g : Nat → Int32) : ∃ g', f_X0_measure n inner g bp bf bs kinds = some g' ∧ ∀ y x l : Nat, y < 10 → x < 12 → l < 3 → kinds (12 * y + x) = 0 → inner (12 * y + x) = -9 → g' (3 * (12 * y + x) + l) = bestOf (NR c 12 y x l 120) := by
  obtain ⟨g', e1, e2⟩ := pk_measure_L (n := n) (inner := inner) (kinds := kinds) hn hL hE h4 120 0 n g (by omega) (by omega) (fun y x l hy hx hl hlt => by omega)
  refine ⟨g', ?_, e2⟩
  unfold f_X0_measure
  exact pr_b2 e1
end NEC
