/-! the pure side, 26: pieces -/
/-- how many of the first N are marked -/
def CT (N : Nat) (g : Nat → Int32) : Nat := ct (fun j => decide (¬ g j = 0)) N
theorem CT_le (N : Nat) (g : Nat → Int32) : CT N g ≤ N := ct_le _ _
theorem CT_succ (N : Nat) (g : Nat → Int32) : CT (N + 1) g = if g N = 0 then CT N g else CT N g + 1 := by
  unfold CT
  rw [ct_succ]
  by_cases c : g N = 0
  · rw [if_pos c, if_neg (show ¬ decide (¬ g N = 0) = true from fun q => absurd c (of_decide_eq_true q))]
  · rw [if_neg c, if_pos (show decide (¬ g N = 0) = true from decide_eq_true c)]
theorem CT_congr {N : Nat} {g g' : Nat → Int32} (h : ∀ j : Nat, j < N → g j = g' j) : CT N g = CT N g' := ct_congr (fun j hj => by
  show decide (¬ g j = 0) = decide (¬ g' j = 0)
  rw [h j hj])
theorem CT_upd {g : Nat → Int32} {j : Nat} {v : Int32} (h0 : g j = 0) (hv : ¬ v = 0) : ∀ N : Nat, j < N → CT N (upd g j v) = CT N g + 1 := by
  intro N
  induction N with
  | zero =>
    intro h
    omega
  | succ N ih =>
    intro h
    rw [CT_succ, CT_succ]
    by_cases e : N = j
    · subst e
      have : CT N (upd g N v) = CT N g := CT_congr (fun i hi => pk_un (by omega))
      rw [pk_us, if_neg hv, if_pos h0, this]
    · rw [pk_un e, ih (by omega)]
      by_cases c : g N = 0
      · rw [if_pos c, if_pos c]
      · rw [if_neg c, if_neg c]
theorem CT_room {N : Nat} {g : Nat → Int32} {j : Nat} (hj : j < N) (h0 : g j = 0) : CT N g < N := by
  have h1 := CT_upd (v := 1) h0 (by decide) N hj
  have h2 := CT_le N (upd g j 1)
  omega
def Adj (y x y' x' : Nat) : Prop := y ≤ y' + 1 ∧ y' ≤ y + 1 ∧ x ≤ x' + 1 ∧ x' ≤ x + 1
/-- with a cell all even ones beside it -/
def Cls (owners : Nat → Int32) (N : Nat → Nat → Prop) : Prop := ∀ y x y' x' : Nat, N y x → EV owners y' x' → Adj y x y' x' → N y' x'
/-- from m to m' by walking from T, as far as even cells hang together -/
def Vis (owners : Nat → Int32) (m m' T : Nat → Nat → Prop) : Prop :=
  (∀ y x : Nat, m y x → m' y x) ∧ (∀ y x y' x' : Nat, m' y x → ¬ m y x → EV owners y' x' → Adj y x y' x' → m' y' x') ∧ (∀ y x : Nat, T y x → EV owners y x → m' y x) ∧ ∀ N : Nat → Nat → Prop, Cls owners N → (∀ y x : Nat, m y x → N y x) → (∀ y x : Nat, T y x → EV owners y x → N y x) → ∀ y x : Nat, m' y x → N y x
section VIS
variable {owners : Nat → Int32} {m m' m1 m2 T T1 T2 : Nat → Nat → Prop}
theorem vis_cls (hm : Cls owners m) (hv : Vis owners m m' T) : Cls owners m' := fun y x y' x' h1 h2 h3 => by
  by_cases c : m y x
  · exact hv.1 _ _ (hm y x y' x' c h2 h3)
  · exact hv.2.1 y x y' x' h1 c h2 h3
theorem vis_uniq (hm : Cls owners m) (h1 : Vis owners m m1 T) (h2 : Vis owners m m2 T) (y x : Nat) : m1 y x ↔ m2 y x := ⟨fun q => h1.2.2.2 m2 (vis_cls hm h2) h2.1 h2.2.2.1 y x q, fun q => h2.2.2.2 m1 (vis_cls hm h1) h1.1 h1.2.2.1 y x q⟩
theorem vis_trans (h1 : Vis owners m m1 T1) (h2 : Vis owners m1 m2 T2) : Vis owners m m2 (fun y x => T1 y x ∨ T2 y x) := by
  refine ⟨fun y x q => h2.1 y x (h1.1 y x q), fun y x y' x' q1 q2 q3 q4 => ?_, fun y x q1 q2 => ?_, fun N hN q1 q2 => ?_⟩
  · by_cases c : m1 y x
    · exact h2.1 _ _ (h1.2.1 y x y' x' c q2 q3 q4)
    · exact h2.2.1 y x y' x' q1 c q3 q4
  · rcases q1 with q1 | q1
    · exact h2.1 _ _ (h1.2.2.1 y x q1 q2)
    · exact h2.2.2.1 y x q1 q2
  · exact h2.2.2.2 N hN (h1.2.2.2 N hN q1 (fun y x r1 r2 => q2 y x (Or.inl r1) r2)) (fun y x r1 r2 => q2 y x (Or.inr r1) r2)
theorem vis_refl (hT : ∀ y x : Nat, T y x → EV owners y x → m y x) : Vis owners m m T := ⟨fun _ _ q => q, fun _ _ _ _ q1 q2 _ _ => absurd q1 q2, hT, fun _ _ q _ => q⟩
theorem vis_left (e : ∀ y x : Nat, m y x ↔ m1 y x) (h1 : Vis owners m m' T) : Vis owners m1 m' T := by
  refine ⟨fun y x q => h1.1 y x ((e y x).mpr q), fun y x y' x' q1 q2 => h1.2.1 y x y' x' q1 (fun r => q2 ((e y x).mp r)), h1.2.2.1, fun N hN q1 => h1.2.2.2 N hN (fun y x r => q1 y x ((e y x).mp r))⟩
end VIS
def At (X Y : Int32) (y x : Nat) : Prop := X = nI x ∧ Y = nI y
def Ok (X : Int32) : Prop := X < 0 ∨ ∃ x : Nat, x < 2 ^ 20 ∧ X = nI x
theorem sub1 (X : Int32) : X + (-1) = X - 1 := (Int32.sub_eq_add_neg X 1).symm
theorem ok_m {x : Nat} (hx : x < 1000) : Ok (nI x + (-1)) := by
  rw [sub1]
  rcases nI_m x with ⟨q, _⟩ | ⟨z, e, q⟩
  · exact Or.inl q
  · exact Or.inr ⟨z, by omega, q⟩
theorem ok_0 {x : Nat} (hx : x < 1000) : Ok (nI x + 0) := by
  rw [Int32.add_zero]
  exact Or.inr ⟨x, by omega, rfl⟩
theorem ok_1 {x : Nat} (hx : x < 1000) : Ok (nI x + 1) := by
  rw [nI_1]
  exact Or.inr ⟨x + 1, by omega, rfl⟩
theorem nb : ∀ x : Nat, x < 12 → ∀ x' : Nat, x' < 12 → ((nI x + (-1) = nI x' ↔ x = x' + 1) ∧ (nI x + 0 = nI x' ↔ x = x') ∧ (nI x + 1 = nI x' ↔ x + 1 = x')) := by decide +kernel
/-- the nine places of the model's walk -/
def T3 (X Y a : Int32) (y x : Nat) : Prop := (At (X + a) (Y + (-1)) y x ∨ At (X + a) (Y + 0) y x) ∨ At (X + a) (Y + 1) y x
def T9 (X Y : Int32) (y x : Nat) : Prop := (T3 X Y (-1) y x ∨ T3 X Y 0 y x) ∨ T3 X Y 1 y x
/-- the nine places of the class's walk -/
def U3 (X Y b : Int32) (y x : Nat) : Prop := (At (X + (-1)) (Y + b) y x ∨ At (X + 0) (Y + b) y x) ∨ At (X + 1) (Y + b) y x
def U9 (X Y : Int32) (y x : Nat) : Prop := (U3 X Y (-1) y x ∨ U3 X Y 0 y x) ∨ U3 X Y 1 y x
theorem t9_iff {x y x' y' : Nat} (hx : x < 12) (hy : y < 10) (hx' : x' < 12) (hy' : y' < 10) : T9 (nI x) (nI y) y' x' ↔ Adj y x y' x' := by
  obtain ⟨a1, a2, a3⟩ := nb x hx x' hx'
  obtain ⟨b1, b2, b3⟩ := nb y (by omega) y' (by omega)
  unfold T9 T3 At Adj
  rw [a1, a2, a3, b1, b2, b3]
  omega
theorem u9_iff {x y x' y' : Nat} (hx : x < 12) (hy : y < 10) (hx' : x' < 12) (hy' : y' < 10) : U9 (nI x) (nI y) y' x' ↔ Adj y x y' x' := by
  obtain ⟨a1, a2, a3⟩ := nb x hx x' hx'
  obtain ⟨b1, b2, b3⟩ := nb y (by omega) y' (by omega)
  unfold U9 U3 At Adj
  rw [a1, a2, a3, b1, b2, b3]
  omega
/-- what the model has marked -/
def mm (w h : Nat) (g : Nat → Int32) (y x : Nat) : Prop := y < h ∧ x < w ∧ ¬ g (w * y + x) = 0
section SPR
variable {n w h k : Nat} {s whoseOf owners : Nat → Int32} {v : Int32}
theorem sp56 {R : (Nat → Int32) → (Nat → Int32) → (Nat → Int32) → Int32 → Int32 → Int32 → Option (Nat → Int32)} (hrec : ∀ (g : Nat → Int32) (X Y : Int32), 121 ≤ k + CT (w * h) g → Ok X → Ok Y → ∃ g', R s whoseOf g X Y v = some g' ∧ Vis owners (mm w h g) (mm w h g') (At X Y) ∧ CT (w * h) g ≤ CT (w * h) g') {X Y a : Int32} (g : Nat → Int32) (hk : 121 ≤ k + CT (w * h) g) (hX : Ok (X + a)) (h1 : Ok (Y + (-1))) (h2 : Ok (Y + 0)) (h3 : Ok (Y + 1)) (j : Nat) : ∃ g', f_X6_spreads_L56 n R s whoseOf X Y v a (j + 4) (-1) g = some (2, g') ∧ Vis owners (mm w h g) (mm w h g') (T3 X Y a) ∧ CT (w * h) g ≤ CT (w * h) g' := by
  obtain ⟨g1, e1, v1, c1⟩ := hrec g (X + a) (Y + (-1)) hk hX h1
  obtain ⟨g2, e2, v2, c2⟩ := hrec g1 (X + a) (Y + 0) (by omega) hX h2
  obtain ⟨g3, e3, v3, c3⟩ := hrec g2 (X + a) (Y + 1) (by omega) hX h3
  refine ⟨g3, ?_, vis_trans (vis_trans v1 v2) v3, by omega⟩
  rw [f_X6_spreads_L56, if_neg (by decide), pr_b1 e1, pr_lt, show (-1 : Int32) + 1 = 0 by decide, f_X6_spreads_L56, if_neg (by decide), pr_b1 e2, pr_lt, show (0 : Int32) + 1 = 1 by decide, f_X6_spreads_L56, if_neg (by decide), pr_b1 e3, pr_lt, show (1 : Int32) + 1 = 2 by decide, f_X6_spreads_L56, if_pos (Int32.le_refl _)]
theorem sp47 {R : (Nat → Int32) → (Nat → Int32) → (Nat → Int32) → Int32 → Int32 → Int32 → Option (Nat → Int32)} (hn : 200 ≤ n) (hrec : ∀ (g : Nat → Int32) (X Y : Int32), 121 ≤ k + CT (w * h) g → Ok X → Ok Y → ∃ g', R s whoseOf g X Y v = some g' ∧ Vis owners (mm w h g) (mm w h g') (At X Y) ∧ CT (w * h) g ≤ CT (w * h) g') {x y : Nat} (hx : x < 1000) (hy : y < 1000) (g : Nat → Int32) (hk : 121 ≤ k + CT (w * h) g) : ∃ g', f_X6_spreads_L47 n R s whoseOf (nI x) (nI y) v n (-1) g = some (2, g') ∧ Vis owners (mm w h g) (mm w h g') (T9 (nI x) (nI y)) ∧ CT (w * h) g ≤ CT (w * h) g' := by
  have hn' : n - 4 + 4 = n := by omega
  obtain ⟨g1, e1, v1, c1⟩ := sp56 (n := n) (a := -1) hrec g hk (ok_m hx) (ok_m hy) (ok_0 hy) (ok_1 hy) (n - 4)
  obtain ⟨g2, e2, v2, c2⟩ := sp56 (n := n) (a := 0) hrec g1 (by omega) (ok_0 hx) (ok_m hy) (ok_0 hy) (ok_1 hy) (n - 4)
  obtain ⟨g3, e3, v3, c3⟩ := sp56 (n := n) (a := 1) hrec g2 (by omega) (ok_1 hx) (ok_m hy) (ok_0 hy) (ok_1 hy) (n - 4)
  rw [hn'] at e1 e2 e3
  refine ⟨g3, ?_, vis_trans (vis_trans v1 v2) v3, by omega⟩
  have hl : ∀ j : Nat, f_X6_spreads_L47 n R s whoseOf (nI x) (nI y) v (j + 4) (-1) g = some (2, g3) := fun j => by
    rw [f_X6_spreads_L47, if_neg (by decide), pr_b2 e1, pr_lt, show (-1 : Int32) + 1 = 0 by decide, f_X6_spreads_L47, if_neg (by decide), pr_b2 e2, pr_lt, show (0 : Int32) + 1 = 1 by decide, f_X6_spreads_L47, if_neg (by decide), pr_b2 e3, pr_lt, show (1 : Int32) + 1 = 2 by decide, f_X6_spreads_L47, if_pos (Int32.le_refl _)]
  have := hl (n - 4)
  rw [hn'] at this
  exact this
theorem ev_in (hS : SameO w h owners whoseOf) {y x : Nat} (c : EV owners y x) : y < h ∧ x < w := by
  by_cases q : y < h ∧ x < w
  · exact q
  · exact absurd ((hS.2 y x c.2.1 c.1 q).symm.trans c.2.2) (by decide)
theorem spread_R (hn : 200 ≤ n) (s0 : s 0 = nI w) (s1 : s 1 = nI h) (a2 : w ≤ 12) (a4 : h ≤ 10) (hS : SameO w h owners whoseOf) (hv : ¬ v = 0) : ∀ (k : Nat) (g : Nat → Int32) (X Y : Int32), 121 ≤ k + CT (w * h) g → Ok X → Ok Y → ∃ g', f_X6_spreads_R n k s whoseOf g X Y v = some g' ∧ Vis owners (mm w h g) (mm w h g') (At X Y) ∧ CT (w * h) g ≤ CT (w * h) g' := by
  have hwh := pr_wh a2 a4
  intro k
  induction k with
  | zero =>
    intro g X Y hk
    have := CT_le (w * h) g
    omega
  | succ k ih =>
    intro g X Y hk hX hY
    rw [f_X6_spreads_R]
    by_cases hneg : X < 0 ∨ Y < 0
    · rw [pr_b1 (pm_evenN s0 hneg), if_pos rfl]
      refine ⟨g, rfl, vis_refl (fun y x hT he => ?_), Nat.le_refl _⟩
      obtain ⟨t1, t2⟩ := hT
      obtain ⟨p1, p2, _⟩ := he
      exfalso
      rcases hneg with q | q
      · rw [t1] at q
        exact nI_pos (by omega) q
      · rw [t2] at q
        exact nI_pos (by omega) q
    · obtain ⟨x, hx, rfl⟩ := hX.resolve_left (fun q => hneg (Or.inl q))
      obtain ⟨y, hy, rfl⟩ := hY.resolve_left (fun q => hneg (Or.inr q))
      rw [pr_b1 (pm_even s0 s1 a2 a4 hS hx hy)]
      by_cases c : EV owners y x
      · obtain ⟨hyh, hxw⟩ := ev_in hS c
        have hc := pr_c120 a2 a4 hxw hyh
        have hcw := pr_wy hxw hyh
        have ei : nI y * nI w + nI x = nI (w * y + x) := by rw [pk_mul, nI_add, Nat.mul_comm]
        rw [if_pos c, if_neg (by decide), pr_rd0 (by omega) (by omega), s0, ei, pr_rd hc (by omega)]
        have hat : ∀ y' x' : Nat, At (nI x) (nI y) y' x' → EV owners y' x' → y' = y ∧ x' = x := fun y' x' t e => by
          obtain ⟨p1, p2, _⟩ := e
          have q1 := (nI_eq (by omega) (by omega)).mp t.1
          have q2 := (nI_eq (by omega) (by omega)).mp t.2
          exact ⟨q2.symm, q1.symm⟩
        by_cases c2 : g (w * y + x) = 0
        · have e1 := CT_upd c2 hv (w * h) hcw
          obtain ⟨g', r1, r2, r3⟩ := sp47 hn ih (x := x) (y := y) (by omega) (by omega) (upd g (w * y + x) v) (by omega)
          rw [if_pos c2, pr_rd0 (by omega) (by omega), s0, ei, pr_wr hc (by omega), pr_b2 r1]
          have hm1 : ∀ y' x' : Nat, mm w h (upd g (w * y + x) v) y' x' ↔ mm w h g y' x' ∨ (y' = y ∧ x' = x) := fun y' x' => by
            unfold mm
            by_cases e : y' = y ∧ x' = x
            · obtain ⟨e1, e2⟩ := e
              subst e1 e2
              rw [pk_us]
              exact ⟨fun _ => Or.inr ⟨rfl, rfl⟩, fun _ => ⟨hyh, hxw, hv⟩⟩
            · constructor
              · intro q
                rw [pk_un (fun r => e (pr_inj q.2.1 hxw r))] at q
                exact Or.inl q
              · intro q
                rcases q with q | q
                · rw [pk_un (fun r => e (pr_inj q.2.1 hxw r))]
                  exact q
                · exact absurd q e
          refine ⟨g', rfl, ⟨fun y' x' q => r2.1 y' x' ((hm1 y' x').mpr (Or.inl q)), fun ya xa yb xb q1 q2 q3 q4 => ?_, fun y' x' q1 q2 => ?_, fun N hN q1 q2 => ?_⟩, by omega⟩
          · by_cases e : ya = y ∧ xa = x
            · obtain ⟨e1, e2⟩ := e
              subst e1 e2
              exact r2.2.2.1 yb xb ((t9_iff (by omega) (by omega) q3.1 q3.2.1).mpr q4) q3
            · exact r2.2.1 ya xa yb xb q1 (fun r => ((hm1 ya xa).mp r).elim q2 e) q3 q4
          · exact r2.1 y' x' ((hm1 y' x').mpr (Or.inr (hat y' x' q1 q2)))
          · have hN0 : N y x := q2 y x ⟨rfl, rfl⟩ c
            refine r2.2.2.2 N hN (fun y' x' r => ?_) (fun y' x' r1 r2 => ?_)
            · rcases (hm1 y' x').mp r with r | ⟨r3, r4⟩
              · exact q1 y' x' r
              · subst r3 r4
                exact hN0
            · exact hN y x y' x' hN0 r2 ((t9_iff (by omega) (by omega) r2.1 r2.2.1).mp r1)
        · rw [if_neg c2]
          refine ⟨g, rfl, vis_refl (fun y' x' t e => ?_), Nat.le_refl _⟩
          obtain ⟨q1, q2⟩ := hat y' x' t e
          subst q1 q2
          exact ⟨hyh, hxw, c2⟩
      · rw [if_neg c, if_pos rfl]
        refine ⟨g, rfl, vis_refl (fun y' x' t e => ?_), Nat.le_refl _⟩
        obtain ⟨p1, p2, p3⟩ := id e
        have q1 := (nI_eq (by omega) (by omega)).mp t.1
        have q2 := (nI_eq (by omega) (by omega)).mp t.2
        subst q1 q2
        exact absurd e c
end SPR
/-- what the class has marked -/
def cm (g : Nat → Int32) (y x : Nat) : Prop := y < 10 ∧ x < 12 ∧ ¬ g (12 * y + x) = 0
def Que (M0 : Nat → Nat → Prop) (m : Nat) (g q : Nat → Int32) : Prop :=
  m ≤ CT 120 g ∧ (∀ j : Nat, j < m → ∃ y x : Nat, cm g y x ∧ q j = nI (12 * y + x)) ∧ ∀ y x : Nat, cm g y x → M0 y x ∨ ∃ j : Nat, j < m ∧ q j = nI (12 * y + x)
def StQ (owners : Nat → Int32) (m m' : Nat) (g q g' q' : Nat → Int32) (T : Nat → Nat → Prop) : Prop :=
  m ≤ m' ∧ (∀ j : Nat, j < m → q' j = q j) ∧ (∀ y x : Nat, cm g y x → cm g' y x) ∧ (∀ y x : Nat, T y x → EV owners y x → cm g' y x) ∧ ∀ y x : Nat, cm g' y x → cm g y x ∨ (EV owners y x ∧ T y x)
section QUE
variable {n m : Nat} {owners g q : Nat → Int32} {v : Int32} {M0 : Nat → Nat → Prop}
theorem stp_trans {m1 m2 m3 : Nat} {g1 q1 g2 q2 g3 q3 : Nat → Int32} {T1 T2 : Nat → Nat → Prop} (h1 : StQ owners m1 m2 g1 q1 g2 q2 T1) (h2 : StQ owners m2 m3 g2 q2 g3 q3 T2) : StQ owners m1 m3 g1 q1 g3 q3 (fun y x => T1 y x ∨ T2 y x) := by
  obtain ⟨a1, a2, a3, a4, a5⟩ := h1
  obtain ⟨b1, b2, b3, b4, b5⟩ := h2
  refine ⟨by omega, fun j hj => (b2 j (by omega)).trans (a2 j hj), fun y x r => b3 y x (a3 y x r), fun y x r1 r2 => ?_, fun y x r => ?_⟩
  · rcases r1 with r1 | r1
    · exact b3 y x (a4 y x r1 r2)
    · exact b4 y x r1 r2
  · rcases b5 y x r with r | ⟨r1, r2⟩
    · rcases a5 y x r with r | ⟨r1, r2⟩
      · exact Or.inl r
      · exact Or.inr ⟨r1, Or.inl r2⟩
    · exact Or.inr ⟨r1, Or.inr r2⟩
theorem enq_in (hv : ¬ v = 0) (hQ : Que M0 m g q) {x y : Nat} (hx : x < 12) (hy : y < 10) : ∃ (m' : Nat) (g' q' : Nat → Int32), f_X1_enqueue n (nI m) g q owners (nI (12 * y + x)) v = some (nI m', g', q') ∧ Que M0 m' g' q' ∧ StQ owners m m' g q g' q' (At (nI x) (nI y)) := by
  obtain ⟨Q1, Q2, Q3⟩ := id hQ
  have hCT := CT_le 120 g
  have hj : 12 * y + x < 120 := by omega
  have hat : ∀ y' x' : Nat, At (nI x) (nI y) y' x' → EV owners y' x' → y' = y ∧ x' = x := fun y' x' t e => by
    obtain ⟨p1, p2, _⟩ := e
    have q1 := (nI_eq (by omega) (by omega)).mp t.1
    have q2 := (nI_eq (by omega) (by omega)).mp t.2
    exact ⟨q2.symm, q1.symm⟩
  have hsame : (EV owners y x → cm g y x) → StQ owners m m g q g q (At (nI x) (nI y)) := fun hc => by
    refine ⟨Nat.le_refl _, fun _ _ => rfl, fun _ _ r => r, fun y' x' r1 r2 => ?_, fun _ _ r => Or.inl r⟩
    obtain ⟨e1, e2⟩ := hat y' x' r1 r2
    subst e1 e2
    exact hc r2
  unfold f_X1_enqueue
  rw [if_neg (nI_pos (by omega)), if_neg (show ¬ (120 : Int32) ≤ nI (12 * y + x) from nI_ge (b := 120) (by omega) (by omega)), if_neg (nI_pos (by omega))]
  by_cases c1 : g (12 * y + x) = 0
  · have hroom := CT_room hj c1
    rw [if_neg (show ¬ (120 : Int32) ≤ nI m from nI_ge (b := 120) (by omega) (by omega)), pr_rd hj (by omega), if_pos c1, pr_b1 (pk_ownerOf hj)]
    by_cases c2 : owners (12 * y + x) = -2
    · have eC := CT_upd c1 hv 120 hj
      rw [if_pos c2, pr_wr hj (by omega), pr_wr (by omega) (by omega), pr_lt, nI_1]
      have hev : EV owners y x := ⟨hx, hy, c2⟩
      have hm1 : ∀ y' x' : Nat, cm (upd g (12 * y + x) v) y' x' ↔ cm g y' x' ∨ (y' = y ∧ x' = x) := fun y' x' => by
        unfold cm
        by_cases e : y' = y ∧ x' = x
        · obtain ⟨e1, e2⟩ := e
          subst e1 e2
          rw [pk_us]
          exact ⟨fun _ => Or.inr ⟨rfl, rfl⟩, fun _ => ⟨hy, hx, hv⟩⟩
        · constructor
          · intro r
            rw [pk_un (fun t => e (pr_inj r.2.1 hx t))] at r
            exact Or.inl r
          · intro r
            rcases r with r | r
            · rw [pk_un (fun t => e (pr_inj r.2.1 hx t))]
              exact r
            · exact absurd r e
      refine ⟨m + 1, _, _, rfl, ⟨by omega, fun j hj' => ?_, fun y' x' r => ?_⟩, by omega, fun j hj' => pk_un (by omega), fun y' x' r => (hm1 y' x').mpr (Or.inl r), fun y' x' r1 r2 => (hm1 y' x').mpr (Or.inr (hat y' x' r1 r2)), fun y' x' r => ?_⟩
      · by_cases e : j = m
        · subst e
          exact ⟨y, x, (hm1 y x).mpr (Or.inr ⟨rfl, rfl⟩), pk_us⟩
        · obtain ⟨y', x', r1, r2⟩ := Q2 j (by omega)
          exact ⟨y', x', (hm1 y' x').mpr (Or.inl r1), (pk_un e).trans r2⟩
      · rcases (hm1 y' x').mp r with r | ⟨e1, e2⟩
        · rcases Q3 y' x' r with r | ⟨j, r1, r2⟩
          · exact Or.inl r
          · exact Or.inr ⟨j, by omega, (pk_un (by omega)).trans r2⟩
        · subst e1 e2
          exact Or.inr ⟨m, by omega, pk_us⟩
      · rcases (hm1 y' x').mp r with r | ⟨e1, e2⟩
        · exact Or.inl r
        · subst e1 e2
          exact Or.inr ⟨hev, rfl, rfl⟩
    · rw [if_neg c2]
      exact ⟨m, g, q, rfl, hQ, hsame (fun e => absurd e.2.2 c2)⟩
  · have hs := hsame (fun _ => ⟨hy, hx, c1⟩)
    by_cases c3 : m = 120
    · rw [if_pos (show (120 : Int32) ≤ nI m from nI_le (a := 120) (by omega) (by omega))]
      exact ⟨m, g, q, rfl, hQ, hs⟩
    · rw [if_neg (show ¬ (120 : Int32) ≤ nI m from nI_ge (b := 120) (by omega) (by omega)), pr_rd hj (by omega), if_neg c1]
      exact ⟨m, g, q, rfl, hQ, hs⟩
theorem enq_at (hv : ¬ v = 0) (hQ : Que M0 m g q) {X Y : Int32} (hX : Ok X) (hY : Ok Y) : ∃ (P : Int32) (m' : Nat) (g' q' : Nat → Int32), f_X4_placeAt n X Y = some P ∧ f_X1_enqueue n (nI m) g q owners P v = some (nI m', g', q') ∧ Que M0 m' g' q' ∧ StQ owners m m' g q g' q' (At X Y) := by
  have hout : f_X4_placeAt n X Y = some (-1) → (∀ y x : Nat, At X Y y x → ¬ EV owners y x) → ∃ (P : Int32) (m' : Nat) (g' q' : Nat → Int32), f_X4_placeAt n X Y = some P ∧ f_X1_enqueue n (nI m) g q owners P v = some (nI m', g', q') ∧ Que M0 m' g' q' ∧ StQ owners m m' g q g' q' (At X Y) := fun e1 e2 => by
    refine ⟨-1, m, g, q, e1, ?_, hQ, Nat.le_refl _, fun _ _ => rfl, fun _ _ r => r, fun y x r1 r2 => absurd r2 (e2 y x r1), fun _ _ r => Or.inl r⟩
    unfold f_X1_enqueue
    rw [if_pos (by decide)]
  rcases hX with hX | ⟨x, hx, rfl⟩
  · refine hout ?_ (fun y x r1 r2 => ?_)
    · unfold f_X4_placeAt
      rw [if_pos hX]
    · obtain ⟨p1, p2, _⟩ := r2
      rw [r1.1] at hX
      exact nI_pos (by omega) hX
  · by_cases c1 : 12 ≤ x
    · refine hout ?_ (fun y' x' r1 r2 => ?_)
      · unfold f_X4_placeAt
        rw [if_neg (nI_pos (by omega)), if_pos (show (12 : Int32) ≤ nI x from nI_le (a := 12) c1 (by omega))]
      · obtain ⟨p1, p2, _⟩ := r2
        have := (nI_eq (by omega) (by omega)).mp r1.1
        omega
    · rcases hY with hY | ⟨y, hy, rfl⟩
      · refine hout ?_ (fun y' x' r1 r2 => ?_)
        · unfold f_X4_placeAt
          rw [if_neg (nI_pos (by omega)), if_neg (show ¬ (12 : Int32) ≤ nI x from nI_ge (b := 12) (by omega) (by omega)), if_pos hY]
        · obtain ⟨p1, p2, _⟩ := r2
          rw [r1.2] at hY
          exact nI_pos (by omega) hY
      · by_cases c2 : 10 ≤ y
        · refine hout ?_ (fun y' x' r1 r2 => ?_)
          · unfold f_X4_placeAt
            rw [if_neg (nI_pos (by omega)), if_neg (show ¬ (12 : Int32) ≤ nI x from nI_ge (b := 12) (by omega) (by omega)), if_neg (nI_pos (by omega)), if_neg (show ¬ nI y < (10 : Int32) from nI_nlt (b := 10) (by omega) (by omega))]
          · obtain ⟨p1, p2, _⟩ := r2
            have := (nI_eq (by omega) (by omega)).mp r1.2
            omega
        · obtain ⟨m', g', q', r1, r2⟩ := enq_in (n := n) (owners := owners) hv hQ (show x < 12 by omega) (show y < 10 by omega)
          exact ⟨nI (12 * y + x), m', g', q', pk_placeAt (by omega) (by omega), r1, r2⟩
theorem f67 (hv : ¬ v = 0) (hQ : Que M0 m g q) {X Y b : Int32} (hY : Ok (Y + b)) (h1 : Ok (X + (-1))) (h2 : Ok (X + 0)) (h3 : Ok (X + 1)) (j : Nat) : ∃ (m' : Nat) (g' q' : Nat → Int32), f_X1_followPart_L67 n owners v X Y b (j + 4) (-1) (nI m) g q = some (2, nI m', g', q') ∧ Que M0 m' g' q' ∧ StQ owners m m' g q g' q' (U3 X Y b) := by
  obtain ⟨P1, m1, g1, q1, a1, a2, a3, a4⟩ := enq_at (n := n) (owners := owners) hv hQ h1 hY
  obtain ⟨P2, m2, g2, q2, b1, b2, b3, b4⟩ := enq_at (n := n) (owners := owners) hv a3 h2 hY
  obtain ⟨P3, m3, g3, q3, d1, d2, d3, d4⟩ := enq_at (n := n) (owners := owners) hv b3 h3 hY
  refine ⟨m3, g3, q3, ?_, d3, stp_trans (stp_trans a4 b4) d4⟩
  rw [f_X1_followPart_L67, if_neg (by decide), pr_b1 a1, pr_b3 a2, pr_lt, show (-1 : Int32) + 1 = 0 by decide, f_X1_followPart_L67, if_neg (by decide), pr_b1 b1, pr_b3 b2, pr_lt, show (0 : Int32) + 1 = 1 by decide, f_X1_followPart_L67, if_neg (by decide), pr_b1 d1, pr_b3 d2, pr_lt, show (1 : Int32) + 1 = 2 by decide, f_X1_followPart_L67, if_pos (by decide)]
theorem f58 (hn : 200 ≤ n) (hv : ¬ v = 0) (hQ : Que M0 m g q) {x y : Nat} (hx : x < 1000) (hy : y < 1000) : ∃ (m' : Nat) (g' q' : Nat → Int32), f_X1_followPart_L58 n owners v (nI x) (nI y) n (-1) (nI m) g q = some (2, nI m', g', q') ∧ Que M0 m' g' q' ∧ StQ owners m m' g q g' q' (U9 (nI x) (nI y)) := by
  have hn' : n - 4 + 4 = n := by omega
  obtain ⟨m1, g1, q1, a2, a3, a4⟩ := f67 (n := n) (owners := owners) hv hQ (b := -1) (ok_m hy) (ok_m hx) (ok_0 hx) (ok_1 hx) (n - 4)
  obtain ⟨m2, g2, q2, b2, b3, b4⟩ := f67 (n := n) (owners := owners) hv a3 (b := 0) (ok_0 hy) (ok_m hx) (ok_0 hx) (ok_1 hx) (n - 4)
  obtain ⟨m3, g3, q3, d2, d3, d4⟩ := f67 (n := n) (owners := owners) hv b3 (b := 1) (ok_1 hy) (ok_m hx) (ok_0 hx) (ok_1 hx) (n - 4)
  rw [hn'] at a2 b2 d2
  refine ⟨m3, g3, q3, ?_, d3, stp_trans (stp_trans a4 b4) d4⟩
  have hl : ∀ j : Nat, f_X1_followPart_L58 n owners v (nI x) (nI y) (j + 4) (-1) (nI m) g q = some (2, nI m3, g3, q3) := fun j => by
    rw [f_X1_followPart_L58, if_neg (by decide), pr_b4 a2, pr_lt, show (-1 : Int32) + 1 = 0 by decide, f_X1_followPart_L58, if_neg (by decide), pr_b4 b2, pr_lt, show (0 : Int32) + 1 = 1 by decide, f_X1_followPart_L58, if_neg (by decide), pr_b4 d2, pr_lt, show (1 : Int32) + 1 = 2 by decide, f_X1_followPart_L58, if_pos (by decide)]
  have := hl (n - 4)
  rw [hn'] at this
  exact this
theorem cell_uniq {y x y' x' : Nat} (hy : y < 10) (hx : x < 12) (hy' : y' < 10) (hx' : x' < 12) (e : nI (12 * y + x) = nI (12 * y' + x')) : y = y' ∧ x = x' := pr_inj hx hx' ((nI_eq (by omega) (by omega)).mp e)
theorem f15 {T : Nat → Nat → Prop} (hn : 200 ≤ n) (hv : ¬ v = 0) : ∀ (d i k m : Nat) (g q : Nat → Int32), i + d = 120 → d < k → Que M0 m g q → (∀ y x : Nat, M0 y x → cm g y x) → (∀ j y x : Nat, j < i → j < m → cm g y x → q j = nI (12 * y + x) → ∀ y' x' : Nat, EV owners y' x' → Adj y x y' x' → cm g y' x') → (∀ N : Nat → Nat → Prop, Cls owners N → (∀ y x : Nat, M0 y x → N y x) → (∀ y x : Nat, T y x → EV owners y x → N y x) → ∀ y x : Nat, cm g y x → N y x) → ∃ (i' : Int32) (m' : Nat) (g' q' : Nat → Int32), f_X1_followPart_L15 n owners v k (nI i) (nI m) g q = some (i', nI m', g', q') ∧ (∀ y x : Nat, cm g y x → cm g' y x) ∧ (∀ y x y' x' : Nat, cm g' y x → ¬ M0 y x → EV owners y' x' → Adj y x y' x' → cm g' y' x') ∧ (∀ N : Nat → Nat → Prop, Cls owners N → (∀ y x : Nat, M0 y x → N y x) → (∀ y x : Nat, T y x → EV owners y x → N y x) → ∀ y x : Nat, cm g' y x → N y x) := by
  intro d
  induction d with
  | zero =>
    intro i k m g q h1 h2 hQ h3 h4 h5
    obtain ⟨k, rfl⟩ : ∃ r, k = r + 1 := ⟨k - 1, by omega⟩
    have hm := hQ.1
    have hCT := CT_le 120 g
    refine ⟨nI i, m, g, q, ?_, fun _ _ r => r, fun y x y' x' r1 r2 r3 r4 => ?_, h5⟩
    · rw [f_X1_followPart_L15]
      exact if_pos (nI_le (by omega) (by omega))
    · rcases hQ.2.2 y x r1 with r | ⟨j, r5, r6⟩
      · exact absurd r r2
      · exact h4 j y x (by omega) r5 r1 r6 y' x' r3 r4
  | succ d ih =>
    intro i k m g q h1 h2 hQ h3 h4 h5
    obtain ⟨k, rfl⟩ : ∃ r, k = r + 1 := ⟨k - 1, by omega⟩
    have hm := hQ.1
    have hCT := CT_le 120 g
    by_cases c : m ≤ i
    · refine ⟨nI i, m, g, q, ?_, fun _ _ r => r, fun y x y' x' r1 r2 r3 r4 => ?_, h5⟩
      · rw [f_X1_followPart_L15]
        exact if_pos (nI_le (by omega) (by omega))
      · rcases hQ.2.2 y x r1 with r | ⟨j, r5, r6⟩
        · exact absurd r r2
        · exact h4 j y x (by omega) r5 r1 r6 y' x' r3 r4
    · obtain ⟨y0, x0, hc0, hq0⟩ := hQ.2.1 i (by omega)
      have hy0 := hc0.1
      have hx0 := hc0.2.1
      have e1 : nI (12 * y0 + x0) - nI (12 * y0 + x0) / (12 : Int32) * (12 : Int32) = nI x0 := by
        have := pk_rem (a := 12 * y0 + x0) (d := 12) (by omega) (by omega) (by omega)
        rw [show (12 * y0 + x0) % 12 = x0 by omega] at this
        exact this
      have e2 : nI (12 * y0 + x0) / (12 : Int32) = nI y0 := by
        have := pk_div (a := 12 * y0 + x0) (d := 12) (by omega) (by omega) (by omega)
        rw [show (12 * y0 + x0) / 12 = y0 by omega] at this
        exact this
      obtain ⟨m1, g1, q1, r1, r2, r3⟩ := f58 (n := n) (owners := owners) hn hv hQ (x := x0) (y := y0) (by omega) (by omega)
      obtain ⟨S1, S2, S3, S4, S5⟩ := r3
      obtain ⟨i', m', g', q', t1, t2, t3, t4⟩ := ih (i + 1) k m1 g1 q1 (by omega) (by omega) r2 (fun y x r => S3 y x (h3 y x r)) (fun j y x hj hjm hcm hqj y' x' he ha => by
        by_cases ej : j = i
        · subst ej
          rw [S2 j (by omega), hq0] at hqj
          obtain ⟨u1, u2⟩ := cell_uniq hy0 hx0 hcm.1 hcm.2.1 hqj
          subst u1 u2
          exact S4 y' x' ((u9_iff hx0 hy0 he.1 he.2.1).mpr ha) he
        · obtain ⟨y2, x2, hc2, hq2⟩ := hQ.2.1 j (by omega)
          rw [S2 j (by omega)] at hqj
          rw [hq2] at hqj
          obtain ⟨u1, u2⟩ := cell_uniq hc2.1 hc2.2.1 hcm.1 hcm.2.1 hqj
          subst u1 u2
          exact S3 y' x' (h4 j y2 x2 (by omega) (by omega) hc2 hq2 y' x' he ha)) (fun N hN u1 u2 y x u3 => by
        rcases S5 y x u3 with u4 | ⟨u4, u5⟩
        · exact h5 N hN u1 u2 y x u4
        · exact hN y0 x0 y x (h5 N hN u1 u2 y0 x0 hc0) u4 ((u9_iff hx0 hy0 u4.1 u4.2.1).mp u5))
      refine ⟨i', m', g', q', ?_, fun y x r => t2 y x (S3 y x r), t3, t4⟩
      rw [f_X1_followPart_L15, if_neg (nI_ge (by omega) (by omega)), if_neg (show ¬ (120 : Int32) ≤ nI i from nI_ge (b := 120) (by omega) (by omega)), pr_rd (by omega) (by omega), pr_lt, pr_rd (by omega) (by omega), pr_lt, hq0, e1, e2, pr_b4 r1, pr_lt, nI_1]
      exact t1
theorem follow {n : Nat} {owners g q : Nat → Int32} {v : Int32} (hn : 200 ≤ n) (hv : ¬ v = 0) {x y : Nat} (hx : x < 12) (hy : y < 10) (z : Int32) : ∃ (m' : Int32) (g' q' : Nat → Int32), f_X1_followPart n z g q owners (nI (12 * y + x)) v = some (m', g', q') ∧ Vis owners (cm g) (cm g') (At (nI x) (nI y)) := by
  have hQ : Que (cm g) 0 g q := ⟨by omega, fun j hj => by omega, fun y x r => Or.inl r⟩
  obtain ⟨m1, g1, q1, a1, a2, a3⟩ := enq_in (n := n) (owners := owners) hv hQ hx hy
  obtain ⟨S1, S2, S3, S4, S5⟩ := a3
  have a1' : f_X1_enqueue n (0 : Int32) g q owners (nI (12 * y + x)) v = _ := a1
  obtain ⟨i', m', g', q', t1, t2, t3, t4⟩ := f15 (n := n) (owners := owners) (T := At (nI x) (nI y)) hn hv 120 0 n m1 g1 q1 (by omega) (by omega) a2 S3 (fun j y x hj => by omega) (fun N hN u1 u2 y' x' u3 => by
    rcases S5 y' x' u3 with u4 | ⟨u4, u5⟩
    · exact u1 y' x' u4
    · exact u2 y' x' u5 u4)
  have t1' : f_X1_followPart_L15 n owners v n (0 : Int32) (nI m1) g1 q1 = _ := t1
  refine ⟨nI m', g', q', ?_, fun y' x' r => t2 y' x' (S3 y' x' r), t3, fun y' x' r1 r2 => t2 y' x' (S4 y' x' r1 r2), t4⟩
  unfold f_X1_followPart
  rw [pr_b3 a1', pr_b4 t1']
end QUE
section PIE
variable {n w h : Nat} {s whoseOf owners kinds : Nat → Int32}
theorem zero_L (h0 : s 0 = nI w) (h1' : s 1 = nI h) (hwh : w * h ≤ 120) : ∀ (d i k : Nat) (g : Nat → Int32), i + d = w * h → d < k → (∀ j : Nat, j < i → g j = 0) → ∃ g', f_X6_pieces_L6 n s k (nI i) g = some (nI (w * h), g') ∧ ∀ j : Nat, j < w * h → g' j = 0 := by
  intro d
  induction d with
  | zero =>
    intro i k g h1 h2 h3
    obtain ⟨k, rfl⟩ : ∃ q, k = q + 1 := ⟨k - 1, by omega⟩
    have : i = w * h := by omega
    subst this
    refine ⟨g, ?_, h3⟩
    rw [f_X6_pieces_L6, pr_b1 (pm_many h0 h1')]
    exact if_pos (Int32.le_refl _)
  | succ d ih =>
    intro i k g h1 h2 h3
    obtain ⟨k, rfl⟩ : ∃ q, k = q + 1 := ⟨k - 1, by omega⟩
    rw [f_X6_pieces_L6, pr_b1 (pm_many h0 h1'), if_neg (nI_ge (by omega) (by omega)), pr_wr (by omega) (by omega), pr_lt, nI_1]
    refine ih (i + 1) k _ (by omega) (by omega) fun j hj => ?_
    by_cases e : j = i
    · subst e
      exact pk_us
    · rw [pk_un e]
      exact h3 j (by omega)
theorem parts_L (hn : 200 ≤ n) (H : Cel w h kinds s) (hS : SameO w h owners whoseOf) : ∀ (d i k k' a : Nat) (m : Int32) (g q gm : Nat → Int32), i + d = 120 → d < k → d < k' → a ≤ i → (∀ y x : Nat, cm g y x ↔ mm w h gm y x) → Cls owners (cm g) → ∃ (r m' : Int32) (g' q' gm' : Nat → Int32), f_X1_countParts_L12 n owners k (nI a) (nI i) m g q = some (r, nI 120, m', g', q') ∧ f_X6_pieces_L31 n s whoseOf k' (nI a) (nI (PC w h i)) gm = some (r, nI (w * h), gm') := by
  obtain ⟨a1, a2, a3, a4, s0, s1, hin, ho⟩ := id H
  have hwh := pr_wh a2 a4
  have hwz : ¬ nI w = 0 := nI_z' (by omega) (by omega)
  intro d
  induction d with
  | zero =>
    intro i k k' a m g q gm h1 h2 h3 h4 h5 h6
    obtain ⟨k, rfl⟩ : ∃ q, k = q + 1 := ⟨k - 1, by omega⟩
    obtain ⟨k', rfl⟩ : ∃ q, k' = q + 1 := ⟨k' - 1, by omega⟩
    have : i = 120 := by omega
    subst this
    refine ⟨nI a, m, g, q, gm, ?_, ?_⟩
    · rw [f_X1_countParts_L12]
      exact if_pos (Int32.le_refl _)
    · rw [f_X6_pieces_L31, pr_b1 (pm_many s0 s1), PC_120 a2 a4]
      exact if_pos (Int32.le_refl _)
  | succ d ih =>
    intro i k k' a m g q gm h1 h2 h3 h4 h5 h6
    obtain ⟨k, rfl⟩ : ∃ q, k = q + 1 := ⟨k - 1, by omega⟩
    have e : 12 * (i / 12) + i % 12 = i := by omega
    have b120 : ¬ (120 : Int32) ≤ nI i := nI_ge (b := 120) (by omega) (by omega)
    by_cases c : i / 12 < h ∧ i % 12 < w
    · obtain ⟨k', rfl⟩ : ∃ q, k' = q + 1 := ⟨k' - 1, by omega⟩
      obtain ⟨hy, hx⟩ := id c
      have p := PC_in a2 hy hx
      have p' : PC w h (i + 1) = w * (i / 12) + i % 12 + 1 := by rw [PC_succ, if_pos c, p]
      have hlt := pr_wy hx hy
      have hwo : whoseOf (w * (i / 12) + i % 12) = owners i := by
        rw [hS.1 _ _ hy hx, e]
      rw [f_X1_countParts_L12, f_X6_pieces_L31, pr_b1 (pm_many s0 s1), if_neg b120, p, if_neg (show ¬ nI (w * h) ≤ nI (w * (i / 12) + i % 12) from nI_ge (by omega) (by omega)), pr_b1 (pk_ownerOf (by omega)), pr_rd (show w * (i / 12) + i % 12 < 120 by omega) (by omega), hwo]
      by_cases c2 : owners i = -2
      · have hmark : g i = 0 ↔ gm (w * (i / 12) + i % 12) = 0 := by
          have := h5 (i / 12) (i % 12)
          unfold cm mm at this
          rw [e] at this
          constructor
          · intro r
            by_cases t : gm (w * (i / 12) + i % 12) = 0
            · exact t
            · exact absurd r (this.mpr ⟨hy, hx, t⟩).2.2
          · intro r
            by_cases t : g i = 0
            · exact t
            · exact absurd r (this.mp ⟨by omega, by omega, t⟩).2.2
        rw [if_pos c2, if_pos c2, pr_rd (by omega) (by omega), pr_rd (by omega) (by omega)]
        by_cases c3 : g i = 0
        · have hv : ¬ nI (a + 1) = 0 := nI_z' (by omega) (by omega)
          obtain ⟨m1, g1, q1, r1, r2⟩ := follow (n := n) (owners := owners) (g := g) (q := q) hn hv (show i % 12 < 12 by omega) (show i / 12 < 10 by omega) m
          rw [e] at r1
          obtain ⟨gm1, t1, t2, t3⟩ := spread_R (n := n) hn s0 s1 a2 a4 hS hv 130 gm (nI (i % 12)) (nI (i / 12)) (by omega) (Or.inr ⟨_, by omega, rfl⟩) (Or.inr ⟨_, by omega, rfl⟩)
          have t1' : f_X6_spreads n s whoseOf gm (nI (i % 12)) (nI (i / 12)) (nI (a + 1)) = some gm1 := t1
          have t2' := vis_left (fun y x => (h5 y x).symm) t2
          have er : nI (w * (i / 12) + i % 12) - nI (w * (i / 12) + i % 12) / nI w * nI w = nI (i % 12) := by rw [pk_rem (by omega) (by omega) (by omega), (dmw hx).2]
          have ed : nI (w * (i / 12) + i % 12) / nI w = nI (i / 12) := by rw [pk_div (by omega) (by omega) (by omega), (dmw hx).1]
          have hi := ih (i + 1) k k' (a + 1) m1 g1 q1 gm1 (by omega) (by omega) (by omega) (by omega) (vis_uniq h6 r2 t2') (vis_cls h6 r2)
          rw [p'] at hi
          rw [if_pos c3, if_pos (hmark.mp c3), pr_lt, pr_lt, nI_1, pr_b3 r1, pr_b4 rfl, pr_lt, nI_1, pr_rd0 (by omega) (by omega), s0, pr_nz hwz, pr_rd0 (by omega) (by omega), s0, pr_nz hwz, er, ed, pr_b1 t1', pr_b2 rfl, pr_lt, nI_1]
          exact hi
        · have hi := ih (i + 1) k k' a m g q gm (by omega) (by omega) (by omega) (by omega) h5 h6
          rw [p'] at hi
          rw [if_neg c3, if_neg (fun r => c3 (hmark.mpr r)), pr_b4 rfl, pr_lt, nI_1, pr_b2 rfl, pr_lt, nI_1]
          exact hi
      · have hi := ih (i + 1) k k' a m g q gm (by omega) (by omega) (by omega) (by omega) h5 h6
        rw [p'] at hi
        rw [if_neg c2, if_neg c2, pr_b4 rfl, pr_lt, nI_1, pr_b2 rfl, pr_lt, nI_1]
        exact hi
    · have p' : PC w h (i + 1) = PC w h i := by rw [PC_succ, if_neg c]
      have hwo : owners i = -9 := by
        have := hS.2 (i / 12) (i % 12) (by omega) (by omega) c
        rw [e] at this
        exact this
      have hi := ih (i + 1) k k' a m g q gm (by omega) (by omega) (by omega) (by omega) h5 h6
      rw [p'] at hi
      rw [f_X1_countParts_L12, if_neg b120, pr_b1 (pk_ownerOf (by omega)), hwo, if_neg (by decide), pr_b4 rfl, pr_lt, nI_1]
      exact hi
end PIE
theorem st_pieces {n : Nat} (hn : 200 ≤ n) {v_x_tape_length : Int32} {f_x_tape_signs : (Nat → Int32)} {v_x_waters_wide : Int32} {v_x_waters_high : Int32} {v_x_waters_wells : Int32} {f_x_waters_kinds : (Nat → Int32)} {f_x_waters_wellPlaces : (Nat → Int32)} {f_x_waters_wellWorths : (Nat → Int32)} {v_x_waters_rules_mouth : Int32} {v_x_waters_rules_weight : Int32} {v_x_waters_rules_reach : Int32} {v_x_waters_rules_bend : Int32} {v_x_kept_wide : Int32} {v_x_kept_high : Int32} {v_x_kept_wells : Int32} {f_x_kept_kinds : (Nat → Int32)} {f_x_kept_wellPlaces : (Nat → Int32)} {f_x_kept_wellWorths : (Nat → Int32)} {v_x_kept_rules_mouth : Int32} {v_x_kept_rules_weight : Int32} {v_x_kept_rules_reach : Int32} {v_x_kept_rules_bend : Int32} {v_x_hasImage : Int32} {v_x_rowLength : Int32} {f_x_row : (Nat → Int32)} {f_x_refusals : (Nat → Int32)} {v_m_isImage : Int32} {v_m_taped : Int32} {v_m_rowed : Int32} {f_m_tape : (Nat → Int32)} {f_m_s : (Nat → Int32)} {f_m_image : (Nat → Int32)} {f_m_row : (Nat → Int32)} {f_m_refusals : (Nat → Int32)} (v_x_chart_bases : Int32) (v_x_chart_thirds : Int32) (f_x_chart_inner : (Nat → Int32)) (f_x_chart_owners : (Nat → Int32)) (f_x_chart_nears : (Nat → Int32)) (f_x_chart_basePlaces : (Nat → Int32)) (f_x_chart_baseFactors : (Nat → Int32)) (f_x_chart_baseStarts : (Nat → Int32)) (v_x_evenCells_queued : Int32) (f_x_evenCells_partOf : (Nat → Int32)) (f_x_evenCells_queue : (Nat → Int32)) (v_m_thirds : Int32) (f_m_innerOf : (Nat → Int32)) (f_m_whoseOf : (Nat → Int32)) (f_m_nearOf : (Nat → Int32)) (f_m_fromOf : (Nat → Int32)) (f_m_pieceOf : (Nat → Int32)) (hR : Rel v_x_tape_length f_x_tape_signs v_x_waters_wide v_x_waters_high v_x_waters_wells f_x_waters_kinds f_x_waters_wellPlaces f_x_waters_wellWorths v_x_waters_rules_mouth v_x_waters_rules_weight v_x_waters_rules_reach v_x_waters_rules_bend v_x_kept_wide v_x_kept_high v_x_kept_wells f_x_kept_kinds f_x_kept_wellPlaces f_x_kept_wellWorths v_x_kept_rules_mouth v_x_kept_rules_weight v_x_kept_rules_reach v_x_kept_rules_bend v_x_hasImage v_x_rowLength f_x_row f_x_refusals v_m_isImage v_m_taped v_m_rowed f_m_tape f_m_s f_m_image f_m_row f_m_refusals) : ∃ (r : Int32) (r_v_x_chart_bases : Int32) (r_v_x_chart_thirds : Int32) (r_f_x_chart_inner : (Nat → Int32)) (r_f_x_chart_owners : (Nat → Int32)) (r_f_x_chart_nears : (Nat → Int32)) (r_f_x_chart_basePlaces : (Nat → Int32)) (r_f_x_chart_baseFactors : (Nat → Int32)) (r_f_x_chart_baseStarts : (Nat → Int32)) (r_v_x_evenCells_queued : Int32) (r_f_x_evenCells_partOf : (Nat → Int32)) (r_f_x_evenCells_queue : (Nat → Int32)) (r_v_m_thirds : Int32) (r_f_m_innerOf : (Nat → Int32)) (r_f_m_whoseOf : (Nat → Int32)) (r_f_m_nearOf : (Nat → Int32)) (r_f_m_fromOf : (Nat → Int32)) (r_f_m_pieceOf : (Nat → Int32)), f_X5_pieces n f_x_waters_kinds v_x_waters_rules_mouth v_x_waters_rules_weight v_x_waters_rules_reach v_x_waters_rules_bend v_x_chart_bases v_x_chart_thirds f_x_chart_inner f_x_chart_owners f_x_chart_nears f_x_chart_basePlaces f_x_chart_baseFactors f_x_chart_baseStarts v_x_evenCells_queued f_x_evenCells_partOf f_x_evenCells_queue = some (r, r_v_x_chart_bases, r_v_x_chart_thirds, r_f_x_chart_inner, r_f_x_chart_owners, r_f_x_chart_nears, r_f_x_chart_basePlaces, r_f_x_chart_baseFactors, r_f_x_chart_baseStarts, r_v_x_evenCells_queued, r_f_x_evenCells_partOf, r_f_x_evenCells_queue) ∧ f_X6_pieces n v_m_thirds f_m_s f_m_innerOf f_m_whoseOf f_m_nearOf f_m_fromOf f_m_pieceOf = some (r, r_v_m_thirds, r_f_m_innerOf, r_f_m_whoseOf, r_f_m_nearOf, r_f_m_fromOf, r_f_m_pieceOf) ∧ Rel v_x_tape_length f_x_tape_signs v_x_waters_wide v_x_waters_high v_x_waters_wells f_x_waters_kinds f_x_waters_wellPlaces f_x_waters_wellWorths v_x_waters_rules_mouth v_x_waters_rules_weight v_x_waters_rules_reach v_x_waters_rules_bend v_x_kept_wide v_x_kept_high v_x_kept_wells f_x_kept_kinds f_x_kept_wellPlaces f_x_kept_wellWorths v_x_kept_rules_mouth v_x_kept_rules_weight v_x_kept_rules_reach v_x_kept_rules_bend v_x_hasImage v_x_rowLength f_x_row f_x_refusals v_m_isImage v_m_taped v_m_rowed f_m_tape f_m_s f_m_image f_m_row f_m_refusals := by
  obtain ⟨R1, R2, R3, R4, R5, R6, R7, R8, R9, R10⟩ := id hR
  obtain ⟨w, h, nw, HS⟩ := id R4
  obtain ⟨M, hM, eM, s2, hW, s3, s4, s5, H⟩ := sea_all HS
  obtain ⟨a1, a2, a3, a4, s0, s1, hin, ho⟩ := id H
  have hwh := pr_wh a2 a4
  subst eM
  obtain ⟨b, th, inner, owners, nears, bp, bf, bs, e1, e2, e3⟩ := both hn H hM s2 hW s3 s4 s5 v_x_chart_bases v_x_chart_thirds f_x_chart_inner f_x_chart_owners f_x_chart_nears f_x_chart_basePlaces f_x_chart_baseFactors f_x_chart_baseStarts
  obtain ⟨innerOf, whoseOf, nearOf, fromOf, f1, f2⟩ := e3 v_m_thirds f_m_innerOf f_m_whoseOf f_m_nearOf f_m_fromOf
  have ed : f_X5_drawAsItIs n f_x_waters_kinds (nI M) v_x_waters_rules_weight v_x_waters_rules_reach v_x_waters_rules_bend v_x_chart_bases v_x_chart_thirds f_x_chart_inner f_x_chart_owners f_x_chart_nears f_x_chart_basePlaces f_x_chart_baseFactors f_x_chart_baseStarts = some (b, nI th, inner, owners, nears, bp, bf, bs) := by
    unfold f_X5_drawAsItIs
    rw [pr_b8 e1]
  obtain ⟨gz, z1, z2⟩ := zero_L (n := n) (s := f_m_s) s0 s1 hwh (w * h) 0 n f_m_pieceOf (by omega) (by omega) (fun j hj => by omega)
  have z1' : f_X6_pieces_L6 n f_m_s n (0 : Int32) f_m_pieceOf = _ := z1
  have hnone : ∀ y x : Nat, ¬ cm (fun j => if j < 120 then (0 : Int32) else f_x_evenCells_partOf j) y x := fun y x r => r.2.2 (if_pos (by
    have := r.1
    have := r.2.1
    omega))
  have hnone' : ∀ y x : Nat, ¬ mm w h gz y x := fun y x r => r.2.2 (z2 _ (pr_wy r.2.1 r.1))
  obtain ⟨r, m', g', q', gm', p1, p2⟩ := parts_L (n := n) hn H f2 120 0 n n 0 v_x_evenCells_queued (fun j => if j < 120 then (0 : Int32) else f_x_evenCells_partOf j) f_x_evenCells_queue gz (by omega) (by omega) (by omega) (by omega) (fun y x => ⟨fun t => absurd t (hnone y x), fun t => absurd t (hnone' y x)⟩) (fun y x _ _ t => absurd t (hnone y x))
  have p1' : f_X1_countParts_L12 n owners n (0 : Int32) (0 : Int32) v_x_evenCells_queued (fun j => if j < 120 then (0 : Int32) else f_x_evenCells_partOf j) f_x_evenCells_queue = _ := p1
  have p2' : f_X6_pieces_L31 n f_m_s whoseOf n (0 : Int32) (0 : Int32) gz = _ := p2
  have ec : f_X1_countParts n v_x_evenCells_queued f_x_evenCells_partOf f_x_evenCells_queue owners = some (r, m', g', q') := by
    unfold f_X1_countParts
    rw [pr_b1 (pf_fill (by omega) f_x_evenCells_partOf 0), pr_b5 p1']
  unfold f_X5_pieces f_X6_pieces
  rw [pr_b8 ed, pr_b4 ec, pr_b5 f1, pr_b2 z1', pr_b3 p2']
  exact ⟨_, _, _, _, _, _, _, _, _, _, _, _, _, _, _, _, _, _, rfl, rfl, hR⟩
