/-! the pure side, 14: bases, as the class lays them -/
/-- what a cell counts as a base of a land -/
def cn (kind inner weight : Int32) (l : Nat) : Nat := if kind = nI (l + 1) ∨ inner = nI l then 1 else if kind = nI (4 + l) then (if weight = 0 then 0 else if weight = 1 then 4 else 1) else 0
theorem cn_le (kind inner weight : Int32) (l : Nat) : cn kind inner weight l ≤ 4 := by
  unfold cn
  split
  · omega
  · split
    · split
      · omega
      · split <;> omega
    · omega
theorem ct_mono (p : Nat → Bool) {a b : Nat} (h : a ≤ b) : ct p a ≤ ct p b := by
  induction b with
  | zero =>
    have : a = 0 := by omega
    subst this
    exact Nat.le_refl _
  | succ b ih =>
    by_cases e : a = b + 1
    · subst e
      exact Nat.le_refl _
    · rw [ct_succ]
      have := ih (by omega)
      split <;> omega
theorem ct_lt {p : Nat → Bool} {j N : Nat} (hp : p j = true) (h : j < N) : ct p j < ct p N := by
  have h1 := ct_mono p (show j + 1 ≤ N from h)
  rw [ct_succ, if_pos hp] at h1
  omega
section LAY
variable {n : Nat} {c : Nat → Nat → Nat}
def pc (c : Nat → Nat → Nat) (l j : Nat) : Bool := decide (c l j ≠ 0)
theorem pc_t {l j : Nat} (h : c l j ≠ 0) : pc c l j = true := decide_eq_true h
theorem pc_f {l j : Nat} (h : c l j = 0) : ¬ pc c l j = true := fun q => (of_decide_eq_true q) h
/-- where the bases of a land start -/
def BB (c : Nat → Nat → Nat) : Nat → Nat
  | 0 => 0
  | l + 1 => BB c l + ct (pc c l) 120
def Excl (c : Nat → Nat → Nat) : Prop := ∀ l l' j : Nat, l < 3 → l' < 3 → l ≠ l' → j < 120 → c l j ≠ 0 → c l' j = 0
theorem BB_3 (hE : Excl c) : BB c 3 ≤ 120 := by
  have key : ∀ N : Nat, N ≤ 120 → ct (pc c 0) N + ct (pc c 1) N + ct (pc c 2) N ≤ N := fun N => by
    induction N with
    | zero => intro _; exact Nat.le_refl _
    | succ N ih =>
      intro hN
      have h0 := ih (by omega)
      rw [ct_succ, ct_succ, ct_succ]
      by_cases c0 : c 0 N = 0
      · rw [if_neg (pc_f c0)]
        by_cases c1 : c 1 N = 0
        · rw [if_neg (pc_f c1)]
          split <;> omega
        · rw [if_pos (pc_t c1), if_neg (pc_f (hE 1 2 N (by omega) (by omega) (by omega) (by omega) c1))]
          omega
      · rw [if_pos (pc_t c0), if_neg (pc_f (hE 0 1 N (by omega) (by omega) (by omega) (by omega) c0)), if_neg (pc_f (hE 0 2 N (by omega) (by omega) (by omega) (by omega) c0))]
        omega
  have := key 120 (Nat.le_refl _)
  show 0 + ct (pc c 0) 120 + ct (pc c 1) 120 + ct (pc c 2) 120 ≤ 120
  omega
theorem BB_mono {a b : Nat} (h : a ≤ b) : BB c a ≤ BB c b := by
  induction b with
  | zero =>
    have : a = 0 := by omega
    subst this
    exact Nat.le_refl _
  | succ b ih =>
    by_cases e : a = b + 1
    · subst e
      exact Nat.le_refl _
    · have := ih (by omega)
      show BB c a ≤ BB c b + ct (pc c b) 120
      omega
/-- bases are laid for the lands ahead of l, and for l ahead of i -/
def LB (c : Nat → Nat → Nat) (l i : Nat) (bp bf : Nat → Int32) : Prop := ∀ l' j : Nat, (l' < l ∧ j < 120 ∨ l' = l ∧ j < i) → c l' j ≠ 0 → bp (BB c l' + ct (pc c l') j) = nI j ∧ bf (BB c l' + ct (pc c l') j) = nI (c l' j)
theorem LB_step {l i : Nat} {bp bf : Nat → Int32} (hi : i < 120) (h : LB c l i bp bf) : LB c l (i + 1) (upd bp (BB c l + ct (pc c l) i) (nI i)) (upd bf (BB c l + ct (pc c l) i) (nI (c l i))) := by
  intro l' j hj hc
  by_cases e : l' = l ∧ j = i
  · obtain ⟨rfl, rfl⟩ := e
    rw [pk_us, pk_us]
    exact ⟨rfl, rfl⟩
  · have hne : BB c l' + ct (pc c l') j ≠ BB c l + ct (pc c l) i := by
      rcases hj with ⟨h1, h2⟩ | ⟨h1, h2⟩
      · have a1 := ct_lt (pc_t hc) h2
        have a2 : BB c l' + ct (pc c l') 120 ≤ BB c l := BB_mono (a := l' + 1) h1
        omega
      · subst h1
        have a1 := ct_lt (N := i) (pc_t hc) (by omega)
        omega
    rw [pk_un hne, pk_un hne]
    exact h l' j (by omega) hc
theorem LB_skip {l i : Nat} {bp bf : Nat → Int32} (h0 : c l i = 0) (h : LB c l i bp bf) : LB c l (i + 1) bp bf := by
  intro l' j hj hc
  by_cases e : l' = l ∧ j = i
  · obtain ⟨rfl, rfl⟩ := e
    exact absurd h0 hc
  · exact h l' j (by omega) hc
theorem pk_addBase {b : Nat} (hb : b < 120) (bp bf : Nat → Int32) (p f : Int32) : f_X0_addBase n (nI b) bp bf p f = some (nI (b + 1), upd bp b p, upd bf b f) := by
  unfold f_X0_addBase
  rw [if_neg (nI_pos (by omega)), if_neg (show ¬ (120 : Int32) ≤ nI b from nI_ge (b := 120) (by omega) (by omega)), pr_wr (by omega) (by omega), pr_wr (by omega) (by omega), pr_lt, nI_1]
variable {inner kinds : Nat → Int32} {weight : Int32}
theorem pk_lay_L (hc : ∀ l j : Nat, c l j = cn (kinds j) (inner j) weight l) (hE : Excl c) (hW : ∃ a : Nat, a ≤ 2 ∧ weight = nI a) {l : Nat} (hl : l < 3) : ∀ (d i k : Nat) (bp bf : Nat → Int32), i + d = 120 → d < k → LB c l i bp bf → ∃ bp' bf', f_X0_layBases_L25 n inner kinds weight (nI l) k (nI i) (nI (BB c l + ct (pc c l) i)) bp bf = some (nI 120, nI (BB c (l + 1)), bp', bf') ∧ LB c l 120 bp' bf' := by
  have hB := BB_3 hE
  intro d
  induction d with
  | zero =>
    intro i k bp bf h1 h2 h3
    obtain ⟨k, rfl⟩ : ∃ q, k = q + 1 := ⟨k - 1, by omega⟩
    have : i = 120 := by omega
    subst this
    refine ⟨bp, bf, ?_, h3⟩
    rw [f_X0_layBases_L25]
    exact if_pos (Int32.le_refl _)
  | succ d ih =>
    intro i k bp bf h1 h2 h3
    obtain ⟨k, rfl⟩ : ∃ q, k = q + 1 := ⟨k - 1, by omega⟩
    have e1 : (1 : Int32) + nI l = nI (l + 1) := by
      rw [Int32.add_comm, nI_1]
    have e4 : (4 : Int32) + nI l = nI (4 + l) := nI_add 4 l
    have hcc := hc l i
    unfold cn at hcc
    have hroom : c l i ≠ 0 → BB c l + ct (pc c l) i < 120 := fun h => by
      have a1 := ct_lt (N := 120) (pc_t h) (by omega)
      have a2 : BB c l + ct (pc c l) 120 ≤ BB c 3 := BB_mono (a := l + 1) hl
      omega
    have hstep : ∀ f : Int32, f = nI (c l i) → c l i ≠ 0 → ∃ bp' bf', f_X0_layBases_L25 n inner kinds weight (nI l) k (nI i + 1) (nI (BB c l + ct (pc c l) i + 1)) (upd bp (BB c l + ct (pc c l) i) (nI i)) (upd bf (BB c l + ct (pc c l) i) f) = some (nI 120, nI (BB c (l + 1)), bp', bf') ∧ LB c l 120 bp' bf' := fun f hf h => by
      have := ih (i + 1) k _ _ (by omega) (by omega) (LB_step (by omega) h3)
      rw [ct_succ, if_pos (pc_t h), ← Nat.add_assoc] at this
      rw [hf, nI_1]
      exact this
    have hskip : c l i = 0 → ∃ bp' bf', f_X0_layBases_L25 n inner kinds weight (nI l) k (nI i + 1) (nI (BB c l + ct (pc c l) i)) bp bf = some (nI 120, nI (BB c (l + 1)), bp', bf') ∧ LB c l 120 bp' bf' := fun h => by
      have := ih (i + 1) k _ _ (by omega) (by omega) (LB_skip h h3)
      rw [ct_succ, if_neg (pc_f h)] at this
      rw [nI_1]
      exact this
    rw [f_X0_layBases_L25]
    rw [if_neg (show ¬ (120 : Int32) ≤ nI i from nI_ge (b := 120) (by omega) (by omega)), pr_b1 (pk_kindOf (by omega)), e1, e4]
    by_cases c1 : kinds i = nI (l + 1)
    · rw [if_pos (Or.inl c1)] at hcc
      rw [if_pos c1, pr_b3 ((pr_b3 (pk_addBase (hroom (by omega)) bp bf _ _)).trans rfl), pr_lt]
      exact hstep 1 (by rw [hcc]; rfl) (by omega)
    · rw [if_neg c1, pr_rd (by omega) (by omega)]
      by_cases c2 : inner i = nI l
      · rw [if_pos (Or.inr c2)] at hcc
        rw [if_pos c2, pr_b3 ((pr_b3 (pk_addBase (hroom (by omega)) bp bf _ _)).trans rfl), pr_lt]
        exact hstep 1 (by rw [hcc]; rfl) (by omega)
      · rw [if_neg (fun q => q.elim c1 c2)] at hcc
        rw [if_neg c2]
        by_cases c3 : kinds i = nI (4 + l)
        · rw [if_pos c3] at hcc
          rw [if_pos c3]
          obtain ⟨a, ha, ea⟩ := hW
          by_cases c4 : weight = 0
          · rw [if_pos c4] at hcc
            rw [if_pos (by rw [c4]; exact Int32.le_refl _), pr_b3 rfl, pr_lt]
            exact hskip hcc
          · rw [if_neg c4] at hcc
            have c4' : ¬ weight ≤ 0 := fun q => by
              rw [ea] at q c4
              refine nI_ge (a := 0) (b := a) ?_ (by omega) q
              refine Nat.pos_of_ne_zero fun e => c4 ?_
              rw [e]
              rfl
            rw [if_neg c4', pr_lt]
            by_cases c5 : weight = 1
            · rw [if_pos c5] at hcc
              rw [if_pos c5, pr_b3 ((pr_b3 (pk_addBase (hroom (by omega)) bp bf _ _)).trans rfl), pr_lt]
              exact hstep 4 (by rw [hcc]; rfl) (by omega)
            · rw [if_neg c5] at hcc
              rw [if_neg c5, pr_b3 ((pr_b3 (pk_addBase (hroom (by omega)) bp bf _ _)).trans rfl), pr_lt]
              exact hstep 1 (by rw [hcc]; rfl) (by omega)
        · rw [if_neg c3] at hcc
          rw [if_neg c3, pr_b3 rfl, pr_lt]
          exact hskip hcc
theorem pk_lay_LL (hn : 200 ≤ n) (hc : ∀ l j : Nat, c l j = cn (kinds j) (inner j) weight l) (hE : Excl c) (hW : ∃ a : Nat, a ≤ 2 ∧ weight = nI a) : ∀ (d l k : Nat) (bp bf bs : Nat → Int32), l + d = 3 → d < k → LB c l 0 bp bf → (∀ l' : Nat, l' < l → bs l' = nI (BB c l')) → ∃ bp' bf' bs', f_X0_layBases_L7 n inner kinds weight k (nI l) (nI (BB c l)) bp bf bs = some (nI 3, nI (BB c 3), bp', bf', bs') ∧ LB c 3 0 bp' bf' ∧ ∀ l' : Nat, l' < 3 → bs' l' = nI (BB c l') := by
  intro d
  induction d with
  | zero =>
    intro l k bp bf bs h1 h2 h3 h4
    obtain ⟨k, rfl⟩ : ∃ q, k = q + 1 := ⟨k - 1, by omega⟩
    have : l = 3 := by omega
    subst this
    refine ⟨bp, bf, bs, ?_, h3, h4⟩
    rw [f_X0_layBases_L7]
    exact if_pos (Int32.le_refl _)
  | succ d ih =>
    intro l k bp bf bs h1 h2 h3 h4
    obtain ⟨k, rfl⟩ : ∃ q, k = q + 1 := ⟨k - 1, by omega⟩
    obtain ⟨bp', bf', e1, e2⟩ := pk_lay_L (n := n) hc hE hW (show l < 3 by omega) 120 0 n bp bf (by omega) (by omega) h3
    have e1' : f_X0_layBases_L25 n inner kinds weight (nI l) n 0 (nI (BB c l)) bp bf = some (nI 120, nI (BB c (l + 1)), bp', bf') := e1
    rw [f_X0_layBases_L7]
    rw [if_neg (show ¬ (3 : Int32) ≤ nI l from nI_ge (b := 3) (by omega) (by omega)), pr_wr (by omega) (by omega), pr_b4 e1', pr_lt, nI_1]
    refine ih (l + 1) k bp' bf' _ (by omega) (by omega) (fun l' j hj hcj => ?_) (fun l' hl' => ?_)
    · refine e2 l' j ?_ hcj
      omega
    · by_cases e : l' = l
      · subst e
        rw [pk_us]
      · rw [pk_un e]
        exact h4 l' (by omega)
/-- the bases are laid -/
def Laid (c : Nat → Nat → Nat) (bp bf bs : Nat → Int32) : Prop := (∀ l : Nat, l ≤ 3 → bs l = nI (BB c l)) ∧ ∀ l j : Nat, l < 3 → j < 120 → c l j ≠ 0 → bp (BB c l + ct (pc c l) j) = nI j ∧ bf (BB c l + ct (pc c l) j) = nI (c l j)
theorem pk_layBases (hn : 200 ≤ n) (hc : ∀ l j : Nat, c l j = cn (kinds j) (inner j) weight l) (hE : Excl c) (hW : ∃ a : Nat, a ≤ 2 ∧ weight = nI a) (z : Int32) (bp bf bs : Nat → Int32) : ∃ bp' bf' bs', f_X0_layBases n z inner bp bf bs kinds weight = some (nI (BB c 3), bp', bf', bs') ∧ Laid c bp' bf' bs' := by
  obtain ⟨bp', bf', bs', e1, e2, e3⟩ := pk_lay_LL hn hc hE hW 3 0 n bp bf bs (by omega) (by omega) (fun l' j hj => by omega) (fun l' hl' => by omega)
  refine ⟨bp', bf', upd bs' 3 (nI (BB c 3)), ?_, fun l hl => ?_, fun l j hl hj hcj => e2 l j (Or.inl ⟨hl, hj⟩) hcj⟩
  · unfold f_X0_layBases
    have e1' : f_X0_layBases_L7 n inner kinds weight n 0 0 bp bf bs = some (nI 3, nI (BB c 3), bp', bf', bs') := e1
    rw [pr_b5 e1']
    exact (pr_wr (i := 3) (by omega) (by omega)).trans rfl
  · by_cases e : l = 3
    · subst e
      rw [pk_us]
    · rw [pk_un e]
      exact e3 l (by omega)
end LAY
theorem cn_excl {kinds inner : Nat → Int32} {weight : Int32} {M : Nat} (hI : Inn (BayTo kinds M 120) inner) : Excl (fun l j => cn (kinds j) (inner j) weight l) := by
  intro l l' j hl hl' hne hj h
  have e : 12 * (j / 12) + j % 12 = j := by omega
  have hin : ∀ l : Nat, l < 3 → inner j = nI l → kinds j = 0 := fun l hl q => by
    have := hI (j / 12) (j % 12) (by omega) (by omega)
    rw [e, q] at this
    rcases this with ⟨t, _⟩ | ⟨l0, h0, t, b, _⟩
    · exact absurd t (nI_m9 (by omega))
    · have := bay_sea h0 b
      rw [KK_in (by omega) (by omega), e] at this
      exact this
  have n1 : ∀ a b : Nat, a < 10 → b < 10 → nI a = nI b → a = b := fun a b ha hb q => (nI_eq (by omega) (by omega)).mp q
  have hk : kinds j = nI (l + 1) ∨ inner j = nI l ∨ kinds j = nI (4 + l) := by
    refine Decidable.of_not_not fun q => h ?_
    show cn (kinds j) (inner j) weight l = 0
    unfold cn
    rw [if_neg (fun t => q (t.elim Or.inl (fun t => Or.inr (Or.inl t)))), if_neg (fun t => q (Or.inr (Or.inr t)))]
  have hk' : ¬ (kinds j = nI (l' + 1) ∨ inner j = nI l') ∧ ¬ kinds j = nI (4 + l') := by
    rcases hk with q | q | q
    · refine ⟨fun t => ?_, fun t => ?_⟩
      · rcases t with t | t
        · have := n1 _ _ (by omega) (by omega) (q.symm.trans t)
          omega
        · have := n1 _ 0 (by omega) (by omega) (q.symm.trans (hin l' hl' t))
          omega
      · have := n1 _ _ (by omega) (by omega) (q.symm.trans t)
        omega
    · have q0 := hin l hl q
      refine ⟨fun t => ?_, fun t => ?_⟩
      · rcases t with t | t
        · have := n1 0 _ (by omega) (by omega) (q0.symm.trans t)
          omega
        · have := n1 _ _ (by omega) (by omega) (q.symm.trans t)
          omega
      · have := n1 0 _ (by omega) (by omega) (q0.symm.trans t)
        omega
    · refine ⟨fun t => ?_, fun t => ?_⟩
      · rcases t with t | t
        · have := n1 _ _ (by omega) (by omega) (q.symm.trans t)
          omega
        · have := n1 _ 0 (by omega) (by omega) (q.symm.trans (hin l' hl' t))
          omega
      · have := n1 _ _ (by omega) (by omega) (q.symm.trans t)
        omega
  show cn (kinds j) (inner j) weight l' = 0
  unfold cn
  rw [if_neg hk'.1, if_neg hk'.2]
