/-! the pure side, 17: whose a cell is -/
def pcent (l : Nat) (bend : Int32) : Int32 := if l = 0 then 100 - bend else if l = 1 then 100 + bend else 100
def nst (r2 pc l v : Int32) (t : Int32 × Int32 × Int32) : Int32 × Int32 × Int32 :=
  if v < 0 then t else if r2 < v then t else if t.1 = -3 then (l, v * pc, 1) else if t.2.1 ≤ v * pc then (if v * pc = t.2.1 then (-2, t.2.1, t.2.2 + 1) else t) else (l, v * pc, 1)
def mst (r2 pc l v : Int32) (t : Int32 × Int32 × Int32) : Int32 × Int32 × Int32 :=
  if v < 0 then t else if v ≤ r2 then (if t.1 = -3 then (l, v * pc, 1) else if v * pc ≤ t.2.1 then (l, v * pc, if v * pc = t.2.1 then t.2.2 + 1 else 1) else t) else t
def NT (r2 bend : Int32) (v : Nat → Int32) : Nat → Int32 × Int32 × Int32
  | 0 => (-3, 0, 0)
  | l + 1 => nst r2 (pcent l bend) (nI l) (v l) (NT r2 bend v l)
def MT (r2 bend : Int32) (v : Nat → Int32) : Nat → Int32 × Int32 × Int32
  | 0 => (-3, 0, 0)
  | l + 1 => mst r2 (pcent l bend) (nI l) (v l) (MT r2 bend v l)
def RelT (l : Nat) (t m : Int32 × Int32 × Int32) : Prop := t.2.1 = m.2.1 ∧ t.2.2 = m.2.2 ∧ ∃ k : Nat, k ≤ l ∧ m.2.2 = nI k ∧ ((k = 0 ∧ t.1 = -3 ∧ m.1 = -3) ∨ (1 ≤ k ∧ ¬ t.1 = -3 ∧ ¬ m.1 = -3 ∧ (k = 1 → t.1 = m.1) ∧ (2 ≤ k → t.1 = -2)))
theorem nI_m3 {a : Nat} (h : a < 2 ^ 31) : ¬ nI a = (-3 : Int32) := fun e => by
  have h1 := congrArg Int32.toInt e
  rw [nI_toInt h] at h1
  have h2 : (-3 : Int32).toInt = -3 := by decide
  omega
theorem relT_step {l : Nat} (hl : l < 3) {t m : Int32 × Int32 × Int32} (r2 pc v : Int32) (h : RelT l t m) : RelT (l + 1) (nst r2 pc (nI l) v t) (mst r2 pc (nI l) v m) := by
  obtain ⟨h1, h2, k, hk, e, h3⟩ := id h
  have hsame : RelT (l + 1) t m := ⟨h1, h2, k, by omega, e, h3⟩
  have hnew : RelT (l + 1) (nI l, v * pc, 1) (nI l, v * pc, 1) := ⟨rfl, rfl, 1, by omega, rfl, Or.inr ⟨by omega, nI_m3 (by omega), nI_m3 (by omega), fun _ => rfl, fun q => by omega⟩⟩
  unfold nst mst
  by_cases c1 : v < 0
  · rw [if_pos c1, if_pos c1]
    exact hsame
  rw [if_neg c1, if_neg c1]
  by_cases c2 : r2 < v
  · rw [if_pos c2, if_neg (Int32.not_le.mpr c2)]
    exact hsame
  rw [if_neg c2, if_pos (Int32.not_lt.mp c2)]
  rcases h3 with ⟨k0, t0, m0⟩ | ⟨k0, t0, m0, k1, k2⟩
  · rw [if_pos t0, if_pos m0]
    exact hnew
  · rw [if_neg t0, if_neg m0, h1]
    by_cases c3 : m.2.1 ≤ v * pc
    · rw [if_pos c3]
      by_cases c4 : v * pc = m.2.1
      · rw [if_pos c4, if_pos (by rw [c4]; exact Int32.le_refl _), if_pos c4]
        refine ⟨c4.symm, ?_, k + 1, by omega, ?_, Or.inr ⟨by omega, show ¬ (-2 : Int32) = -3 by decide, nI_m3 (by omega), fun q => by omega, fun _ => rfl⟩⟩
        · show t.2.2 + 1 = m.2.2 + 1
          rw [h2]
        · show m.2.2 + 1 = nI (k + 1)
          rw [e, nI_1]
      · have c5 : ¬ v * pc ≤ m.2.1 := fun q => c4 (Int32.le_antisymm q c3)
        rw [if_neg c4, if_neg c5]
        exact hsame
    · have c5 : ¬ v * pc = m.2.1 := fun q => c3 (by rw [q]; exact Int32.le_refl _)
      rw [if_neg c3, if_pos (Int32.le_of_lt (Int32.not_le.mp c3)), if_neg c5]
      exact hnew
theorem relT (r2 bend : Int32) (v : Nat → Int32) : ∀ l : Nat, l ≤ 3 → RelT l (NT r2 bend v l) (MT r2 bend v l) := fun l => by
  induction l with
  | zero =>
    intro _
    exact ⟨rfl, rfl, 0, by omega, rfl, Or.inl ⟨rfl, rfl, rfl⟩⟩
  | succ l ih =>
    intro hl
    exact relT_step (by omega) r2 _ _ (ih (by omega))
/-- what the model makes of it -/
theorem relT_end (r2 bend : Int32) (v : Nat → Int32) : (MT r2 bend v 3).2.2 = (NT r2 bend v 3).2.2 ∧ (NT r2 bend v 3).1 = if (MT r2 bend v 3).2.2 ≤ 1 then (MT r2 bend v 3).1 else -2 := by
  obtain ⟨h1, h2, k, hk, e, h3⟩ := relT r2 bend v 3 (Nat.le_refl _)
  refine ⟨h2.symm, ?_⟩
  rw [e]
  rcases h3 with ⟨k0, t0, m0⟩ | ⟨k0, t0, m0, k1, k2⟩
  · rw [if_pos (show nI k ≤ (1 : Int32) from nI_le (b := 1) (by omega) (by omega)), t0, m0]
  · by_cases c : k = 1
    · rw [if_pos (show nI k ≤ (1 : Int32) from nI_le (b := 1) (by omega) (by omega)), k1 c]
    · rw [if_neg (show ¬ nI k ≤ (1 : Int32) from nI_ge (a := 1) (by omega) (by omega)), k2 (by omega)]
section WHC
variable {n : Nat} {nears inner kinds : Nat → Int32}
theorem pk_percent {l : Nat} (hl : l < 3) (bend : Int32) : f_X0_percent n (nI l) bend = some (pcent l bend) := by
  unfold f_X0_percent pcent
  by_cases c0 : l = 0
  · rw [if_pos c0, c0, if_pos (show nI 0 = (0 : Int32) from rfl)]
  · rw [if_neg c0, if_neg (nI_z' (by omega) c0)]
    by_cases c1 : l = 1
    · rw [if_pos c1, c1, if_pos (show nI 1 = (1 : Int32) from rfl)]
    · rw [if_neg c1, if_neg (show ¬ nI l = (1 : Int32) from fun q => c1 ((nI_eq (b := 1) (by omega) (by omega)).mp q))]
theorem pk_nearOf {j l : Nat} (hj : j < 120) (hl : l < 3) : f_X0_nearOf n nears (nI j) (nI l) = some (nears (3 * j + l)) := by
  unfold f_X0_nearOf
  rw [show (3 : Int32) = nI 3 from rfl, pk_mul, nI_add, pr_lt, if_neg (nI_pos (by omega)), if_neg (show ¬ (360 : Int32) ≤ nI (j * 3 + l) from nI_ge (b := 360) (by omega) (by omega)), pr_rd (by omega) (by omega), Nat.mul_comm j 3]
theorem pk_land_L {j : Nat} (hj : j < 120) (r2 bend : Int32) : ∀ (d l k : Nat), l + d = 3 → d < k → f_X0_nearestLand_L13 n nears (nI j) r2 bend k (NT r2 bend (fun l => nears (3 * j + l)) l).1 (NT r2 bend (fun l => nears (3 * j + l)) l).2.1 (NT r2 bend (fun l => nears (3 * j + l)) l).2.2 (nI l) = some ((NT r2 bend (fun l => nears (3 * j + l)) 3).1, (NT r2 bend (fun l => nears (3 * j + l)) 3).2.1, (NT r2 bend (fun l => nears (3 * j + l)) 3).2.2, nI 3) := by
  intro d
  induction d with
  | zero =>
    intro l k h1 h2
    obtain ⟨k, rfl⟩ : ∃ q, k = q + 1 := ⟨k - 1, by omega⟩
    have : l = 3 := by omega
    subst this
    rw [f_X0_nearestLand_L13]
    exact if_pos (Int32.le_refl _)
  | succ d ih =>
    intro l k h1 h2
    obtain ⟨k, rfl⟩ : ∃ q, k = q + 1 := ⟨k - 1, by omega⟩
    have := ih (l + 1) k (by omega) (by omega)
    rw [NT] at this
    rw [f_X0_nearestLand_L13]
    rw [if_neg (show ¬ (3 : Int32) ≤ nI l from nI_ge (b := 3) (by omega) (by omega)), pr_b1 (pk_nearOf hj (by omega)), pr_b1 (pk_percent (by omega) bend)]
    generalize hT : NT r2 bend (fun l => nears (3 * j + l)) l = T at this ⊢
    unfold nst at this
    by_cases c1 : nears (3 * j + l) < 0
    · rw [if_pos c1] at this
      rw [if_pos c1, pr_b3 rfl, pr_lt, nI_1]
      exact this
    rw [if_neg c1] at this
    rw [if_neg c1]
    by_cases c2 : r2 < nears (3 * j + l)
    · rw [if_pos c2] at this
      rw [if_pos c2, pr_b3 rfl, pr_lt, nI_1]
      exact this
    rw [if_neg c2] at this
    rw [if_neg c2, pr_lt]
    by_cases c3 : T.1 = -3
    · rw [if_pos c3] at this
      rw [if_pos c3, pr_b3 rfl, pr_lt, nI_1]
      exact this
    rw [if_neg c3] at this
    rw [if_neg c3]
    by_cases c4 : T.2.1 ≤ nears (3 * j + l) * pcent l bend
    · rw [if_pos c4] at this
      rw [if_pos c4]
      by_cases c5 : nears (3 * j + l) * pcent l bend = T.2.1
      · rw [if_pos c5] at this
        rw [if_pos c5, pr_lt, pr_b3 rfl, pr_lt, nI_1]
        exact this
      · rw [if_neg c5] at this
        rw [if_neg c5, pr_b3 rfl, pr_lt, nI_1]
        exact this
    · rw [if_neg c4] at this
      rw [if_neg c4, pr_b3 rfl, pr_lt, nI_1]
      exact this
theorem pk_nearestLand (hn : 200 ≤ n) {j : Nat} (hj : j < 120) (z r2 bend : Int32) : f_X0_nearestLand n z nears (nI j) r2 bend = some ((NT r2 bend (fun l => nears (3 * j + l)) 3).1, if (NT r2 bend (fun l => nears (3 * j + l)) 3).2.2 = 3 then z + 1 else z) := by
  unfold f_X0_nearestLand
  have e : f_X0_nearestLand_L13 n nears (nI j) r2 bend n (-3) 0 0 0 = _ := pk_land_L (n := n) (nears := nears) hj r2 bend 3 0 n (by omega) (by omega)
  rw [pr_b4 e]
  by_cases c : (NT r2 bend (fun l => nears (3 * j + l)) 3).2.2 = 3
  · rw [if_pos c, if_pos c, pr_lt]
  · rw [if_neg c, if_neg c]
/-- whose, and whether three are even there -/
def OW (kinds inner nears : Nat → Int32) (reach bend : Int32) (j : Nat) : Int32 := if kinds j = 0 then (if inner j = -9 then (NT (reach * reach) bend (fun l => nears (3 * j + l)) 3).1 else inner j) else -9
def TP (kinds inner nears : Nat → Int32) (reach bend : Int32) (j : Nat) : Bool := decide (kinds j = 0) && (decide (inner j = -9) && decide ((NT (reach * reach) bend (fun l => nears (3 * j + l)) 3).2.2 = 3))
theorem TP_iff {reach bend : Int32} {j : Nat} : TP kinds inner nears reach bend j = true ↔ kinds j = 0 ∧ inner j = -9 ∧ (NT (reach * reach) bend (fun l => nears (3 * j + l)) 3).2.2 = 3 := by
  unfold TP
  rw [Bool.and_eq_true, Bool.and_eq_true, decide_eq_true_iff, decide_eq_true_iff, decide_eq_true_iff]
theorem pk_share_L (hn : 200 ≤ n) (reach bend : Int32) : ∀ (d i k : Nat) (g : Nat → Int32), i + d = 120 → d < k → (∀ j : Nat, j < i → g j = OW kinds inner nears reach bend j) → ∃ g', f_X0_shareOut_L8 n inner nears kinds reach bend k (nI i) (nI (ct (TP kinds inner nears reach bend) i)) g = some (nI 120, nI (ct (TP kinds inner nears reach bend) 120), g') ∧ ∀ j : Nat, j < 120 → g' j = OW kinds inner nears reach bend j := by
  intro d
  induction d with
  | zero =>
    intro i k g h1 h2 h3
    obtain ⟨k, rfl⟩ : ∃ q, k = q + 1 := ⟨k - 1, by omega⟩
    have : i = 120 := by omega
    subst this
    refine ⟨g, ?_, h3⟩
    rw [f_X0_shareOut_L8]
    exact if_pos (Int32.le_refl _)
  | succ d ih =>
    intro i k g h1 h2 h3
    obtain ⟨k, rfl⟩ : ∃ q, k = q + 1 := ⟨k - 1, by omega⟩
    have hnext : ∀ v : Int32, v = OW kinds inner nears reach bend i → ∃ g', f_X0_shareOut_L8 n inner nears kinds reach bend k (nI (i + 1)) (nI (ct (TP kinds inner nears reach bend) (i + 1))) (upd g i v) = some (nI 120, nI (ct (TP kinds inner nears reach bend) 120), g') ∧ ∀ j : Nat, j < 120 → g' j = OW kinds inner nears reach bend j := fun v hv => by
      refine ih (i + 1) k (upd g i v) (by omega) (by omega) fun j hj => ?_
      by_cases e : j = i
      · subst e
        rw [pk_us]
        exact hv
      · rw [pk_un e]
        exact h3 j (by omega)
    rw [ct_succ] at hnext
    rw [f_X0_shareOut_L8]
    rw [if_neg (show ¬ (120 : Int32) ≤ nI i from nI_ge (b := 120) (by omega) (by omega)), pr_b1 (pk_kindOf (by omega))]
    by_cases c1 : kinds i = 0
    · rw [if_pos c1, pr_rd (by omega) (by omega)]
      by_cases c2 : inner i = -9
      · rw [if_pos c2, pr_b2 ((pr_b2 (pk_nearestLand hn (by omega) _ _ _)).trans (pr_wr (by omega) (by omega))), pr_lt, nI_1]
        have ho : OW kinds inner nears reach bend i = (NT (reach * reach) bend (fun l => nears (3 * i + l)) 3).1 := by
          unfold OW
          rw [if_pos c1, if_pos c2]
        have := hnext _ ho.symm
        by_cases c3 : (NT (reach * reach) bend (fun l => nears (3 * i + l)) 3).2.2 = 3
        · rw [if_pos (TP_iff.mpr ⟨c1, c2, c3⟩)] at this
          rw [if_pos c3, nI_1]
          exact this
        · rw [if_neg (fun q => c3 (TP_iff.mp q).2.2)] at this
          rw [if_neg c3]
          exact this
      · rw [if_neg c2, pr_rd (by omega) (by omega), pr_wr (by omega) (by omega), pr_b2 rfl, pr_lt, nI_1]
        have ho : OW kinds inner nears reach bend i = inner i := by
          unfold OW
          rw [if_pos c1, if_neg c2]
        have := hnext _ ho.symm
        rw [if_neg (fun q => c2 (TP_iff.mp q).2.1)] at this
        exact this
    · rw [if_neg c1, pr_wr (by omega) (by omega), pr_b2 rfl, pr_lt, nI_1]
      have ho : OW kinds inner nears reach bend i = -9 := by
        unfold OW
        rw [if_neg c1]
      have := hnext _ ho.symm
      rw [if_neg (fun q => c1 (TP_iff.mp q).1)] at this
      exact this
theorem pk_shareOut (hn : 200 ≤ n) (reach bend z : Int32) (g : Nat → Int32) : ∃ g', f_X0_shareOut n z inner g nears kinds reach bend = some (nI (ct (TP kinds inner nears reach bend) 120), g') ∧ ∀ j : Nat, j < 120 → g' j = OW kinds inner nears reach bend j := by
  obtain ⟨g', e1, e2⟩ := pk_share_L (n := n) (kinds := kinds) (inner := inner) (nears := nears) hn reach bend 120 0 n g (by omega) (by omega) (fun j hj => by omega)
  refine ⟨g', ?_, e2⟩
  unfold f_X0_shareOut
  exact pr_b3 e1
end WHC
section WHM
variable {n w h : Nat} {s nearOf innerOf : Nat → Int32} {reach bend : Int32}
theorem pm_land_L (h4 : s 4 = reach) (h5 : s 5 = bend) {c : Nat} (hc : c < 120) {v : Nat → Int32} (hv : ∀ l : Nat, l < 3 → nearOf (120 * l + c) = v l) : ∀ (d l k : Nat), l + d = 3 → d < k → f_X6_whoseBy_L38 n s nearOf (nI c) k (MT (reach * reach) bend v l).1 (MT (reach * reach) bend v l).2.1 (MT (reach * reach) bend v l).2.2 (nI l) = some ((MT (reach * reach) bend v 3).1, (MT (reach * reach) bend v 3).2.1, (MT (reach * reach) bend v 3).2.2, nI 3) := by
  intro d
  induction d with
  | zero =>
    intro l k h1 h2
    obtain ⟨k, rfl⟩ : ∃ q, k = q + 1 := ⟨k - 1, by omega⟩
    have : l = 3 := by omega
    subst this
    rw [f_X6_whoseBy_L38]
    exact if_pos (Int32.le_refl _)
  | succ d ih =>
    intro l k h1 h2
    obtain ⟨k, rfl⟩ : ∃ q, k = q + 1 := ⟨k - 1, by omega⟩
    have := ih (l + 1) k (by omega) (by omega)
    rw [MT] at this
    have ei : (120 : Int32) * nI l + nI c = nI (120 * l + c) := by
      rw [show (120 : Int32) = nI 120 from rfl, pk_mul, nI_add]
    have ep : (if nI l = (0 : Int32) then cz_rd s 151 (5 : Int32) fun x68 => some ((100 : Int32) - x68) else (if nI l = (1 : Int32) then cz_rd s 151 (5 : Int32) fun x67 => some ((100 : Int32) + x67) else some (100 : Int32))) = some (pcent l bend) := by
      unfold pcent
      by_cases c0 : l = 0
      · rw [if_pos c0, c0, if_pos (show nI 0 = (0 : Int32) from rfl), pr_rd5 (by omega) (by omega), h5]
      · rw [if_neg c0, if_neg (nI_z' (by omega) c0)]
        by_cases c1 : l = 1
        · rw [if_pos c1, c1, if_pos (show nI 1 = (1 : Int32) from rfl), pr_rd5 (by omega) (by omega), h5]
        · rw [if_neg c1, if_neg (show ¬ nI l = (1 : Int32) from fun q => c1 ((nI_eq (b := 1) (by omega) (by omega)).mp q))]
    rw [f_X6_whoseBy_L38]
    rw [if_neg (show ¬ (3 : Int32) ≤ nI l from nI_ge (b := 3) (by omega) (by omega)), ei, pr_rd (by omega) (by omega), hv l (by omega)]
    generalize hT : MT (reach * reach) bend v l = T at this ⊢
    unfold mst at this
    by_cases c1 : v l < 0
    · rw [if_pos c1] at this
      rw [if_pos c1, pr_b3 rfl, pr_lt, nI_1]
      exact this
    rw [if_neg c1] at this
    rw [if_neg c1, pr_rd4 (by omega) (by omega), pr_rd4 (by omega) (by omega), h4]
    by_cases c2 : v l ≤ reach * reach
    · rw [if_pos c2] at this
      rw [if_pos c2, pr_b1 ep, pr_lt]
      by_cases c3 : T.1 = -3
      · rw [if_pos c3] at this
        rw [if_pos c3, if_pos c3, pr_lt, pr_b3 rfl, pr_lt, nI_1]
        exact this
      rw [if_neg c3] at this
      rw [if_neg c3]
      by_cases c4 : v l * pcent l bend ≤ T.2.1
      · rw [if_pos c4] at this
        rw [if_pos c4, if_neg c3, pr_lt, pr_b3 rfl, pr_lt, nI_1]
        exact this
      · rw [if_neg c4] at this
        rw [if_neg c4, pr_b3 rfl, pr_lt, nI_1]
        exact this
    · rw [if_neg c2] at this
      rw [if_neg c2, pr_b3 rfl, pr_lt, nI_1]
      exact this
theorem pm_whoseBy (hn : 200 ≤ n) (h4 : s 4 = reach) (h5 : s 5 = bend) {c j : Nat} (hc : c < 120) {kinds inner nears : Nat → Int32} (hk : s (7 + c) = kinds j) (hi : innerOf c = inner j) (hin : inner j = -9 ∨ ∃ l : Nat, l < 3 ∧ inner j = nI l) (hv : kinds j = 0 → inner j = -9 → ∀ l : Nat, l < 3 → nearOf (120 * l + c) = nears (3 * j + l)) (z : Int32) : f_X6_whoseBy n z s innerOf nearOf (nI c) = some (OW kinds inner nears reach bend j, z + (if TP kinds inner nears reach bend j = true then 1 else 0)) := by
  unfold f_X6_whoseBy
  rw [pr_b1 (pm_at (by omega)), hk]
  by_cases c1 : kinds j = 0
  · rw [if_pos c1, pr_rd hc (by omega), hi]
    by_cases c2 : inner j = -9
    · have ho : OW kinds inner nears reach bend j = (NT (reach * reach) bend (fun l => nears (3 * j + l)) 3).1 := by
        unfold OW
        rw [if_pos c1, if_pos c2]
      obtain ⟨r1, r2⟩ := relT_end (reach * reach) bend (fun l => nears (3 * j + l))
      have e : f_X6_whoseBy_L38 n s nearOf (nI c) n (-3) 0 0 0 = _ := pm_land_L (n := n) h4 h5 hc (v := fun l => nears (3 * j + l)) (fun l hl => hv c1 c2 l hl) 3 0 n (by omega) (by omega)
      rw [if_pos (by rw [c2]; decide), pr_b4 e, pr_lt, pr_lt, ho, r2]
      have ht : (if (MT (reach * reach) bend (fun l => nears (3 * j + l)) 3).2.2 = 3 then (1 : Int32) else 0) = if TP kinds inner nears reach bend j = true then 1 else 0 := by
        rw [r1]
        by_cases c3 : (NT (reach * reach) bend (fun l => nears (3 * j + l)) 3).2.2 = 3
        · rw [if_pos c3, if_pos (TP_iff.mpr ⟨c1, c2, c3⟩)]
        · rw [if_neg c3, if_neg (fun q => c3 (TP_iff.mp q).2.2)]
      rw [ht]
      by_cases c4 : (MT (reach * reach) bend (fun l => nears (3 * j + l)) 3).2.2 ≤ 1
      · rw [if_pos c4, if_pos c4]
      · rw [if_neg c4, if_neg c4]
    · obtain ⟨l, hl, el⟩ := hin.resolve_left c2
      have ho : OW kinds inner nears reach bend j = inner j := by
        unfold OW
        rw [if_pos c1, if_neg c2]
      rw [if_neg (by rw [el]; exact nI_pos (by omega)), pr_rd hc (by omega), hi, ho, if_neg (fun q => c2 (TP_iff.mp q).2.1), Int32.add_zero]
  · have ho : OW kinds inner nears reach bend j = -9 := by
      unfold OW
      rw [if_neg c1]
    rw [if_neg c1, ho, if_neg (fun q => c1 (TP_iff.mp q).1), Int32.add_zero]
theorem pm_whose_L (hn : 200 ≤ n) {kinds inner nears : Nat → Int32} (H : Cel w h kinds s) (h4 : s 4 = reach) (h5 : s 5 = bend) (hi : ∀ y x : Nat, y < h → x < w → innerOf (w * y + x) = inner (12 * y + x)) (hin : ∀ y x : Nat, y < h → x < w → inner (12 * y + x) = -9 ∨ ∃ l : Nat, l < 3 ∧ inner (12 * y + x) = nI l) (hv : ∀ y x : Nat, y < h → x < w → kinds (12 * y + x) = 0 → inner (12 * y + x) = -9 → ∀ l : Nat, l < 3 → nearOf (120 * l + (w * y + x)) = nears (3 * (12 * y + x) + l)) : ∀ (d i k : Nat) (g : Nat → Int32), i + d = w * h → d < k → (∀ y x : Nat, y < h → x < w → w * y + x < i → g (w * y + x) = OW kinds inner nears reach bend (12 * y + x)) → ∃ g', f_X6_find_L69 n s innerOf nearOf k (nI i) (nI (ct (fun j => TP kinds inner nears reach bend (12 * (j / w) + j % w)) i)) g = some (nI (w * h), nI (ct (fun j => TP kinds inner nears reach bend (12 * (j / w) + j % w)) (w * h)), g') ∧ ∀ y x : Nat, y < h → x < w → g' (w * y + x) = OW kinds inner nears reach bend (12 * y + x) := by
  obtain ⟨a1, a2, a3, a4, s0, s1, hcel, ho⟩ := id H
  have hwh := pr_wh a2 a4
  intro d
  induction d with
  | zero =>
    intro i k g h1 h2 h3
    obtain ⟨k, rfl⟩ : ∃ q, k = q + 1 := ⟨k - 1, by omega⟩
    have : i = w * h := by omega
    subst this
    refine ⟨g, ?_, fun y x hy hx => h3 y x hy hx (pr_wy hx hy)⟩
    rw [f_X6_find_L69, pr_b1 (pm_many s0 s1)]
    exact if_pos (Int32.le_refl _)
  | succ d ih =>
    intro i k g h1 h2 h3
    obtain ⟨k, rfl⟩ : ∃ q, k = q + 1 := ⟨k - 1, by omega⟩
    obtain ⟨_, hxi, hyi, hci⟩ := dmi (w := w) (h := h) (i := i) (by omega)
    have e1 := pm_whoseBy (n := n) (s := s) (nearOf := nearOf) (innerOf := innerOf) hn h4 h5 (show w * (i / w) + i % w < 120 by omega) (hcel _ _ hyi hxi).2 (hi _ _ hyi hxi) (hin _ _ hyi hxi) (hv _ _ hyi hxi) (nI (ct (fun j => TP kinds inner nears reach bend (12 * (j / w) + j % w)) i))
    rw [hci] at e1
    have := ih (i + 1) k (upd g i (OW kinds inner nears reach bend (12 * (i / w) + i % w))) (by omega) (by omega) (fun y x hy hx hlt => by
      by_cases c : w * y + x = i
      · have d := pr_inj hx hxi (c.trans hci.symm)
        rw [c, pk_us, d.1, d.2]
      · rw [pk_un c]
        exact h3 y x hy hx (by omega))
    rw [ct_succ] at this
    rw [f_X6_find_L69, pr_b1 (pm_many s0 s1), if_neg (nI_ge (by omega) (by omega)), pr_b2 e1, pr_wr (by omega) (by omega), pr_lt, nI_1]
    by_cases c : TP kinds inner nears reach bend (12 * (i / w) + i % w) = true
    · rw [if_pos c] at this
      rw [if_pos c, nI_1]
      exact this
    · rw [if_neg c] at this
      rw [if_neg c, Int32.add_zero]
      exact this
end WHM
