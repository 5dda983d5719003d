/-! the pure side, 23: chosen, claims, claimed, meet -/
def CO (k : Nat) : Int32 := nI (100 * (k / 4) + 10 * (k / 2 % 2) + k % 2)
def oM (M k : Nat) : Nat := if k / 2 % 2 = 1 then M else 0
def oR (reach : Int32) (k : Nat) : Int32 := if k % 2 = 1 then reach / (2 : Int32) else reach
theorem opt_num : ∀ k : Nat, k < 12 → (nI k / (4 : Int32) = nI (k / 4) ∧ nI k / (2 : Int32) - nI k / (2 : Int32) / (2 : Int32) * (2 : Int32) = nI (k / 2 % 2) ∧ nI k - nI k / (2 : Int32) * (2 : Int32) = nI (k % 2)) := by decide
theorem opt_code : ∀ k : Nat, k < 12 → (CO k / (10 : Int32) - CO k / (10 : Int32) / (10 : Int32) * (10 : Int32) = nI (k / 2 % 2) ∧ CO k / (100 : Int32) = nI (k / 4) ∧ CO k - CO k / (10 : Int32) * (10 : Int32) = nI (k % 2) ∧ ¬ CO k < 0 ∧ (100 : Int32) * nI (k / 4) + (10 : Int32) * nI (k / 2 % 2) + nI (k % 2) = CO k) := by decide
theorem one_if {α : Type} {j : Nat} (hj : j < 2) (a b : α) : (if nI j = (1 : Int32) then a else b) = if j = 1 then a else b := by
  by_cases c : j = 1
  · subst c
    rw [if_pos (show nI 1 = (1 : Int32) from rfl), if_pos (show 1 = 1 from rfl)]
  · have c0 : j = 0 := by omega
    subst c0
    rw [if_neg (show ¬ nI 0 = (1 : Int32) by decide), if_neg (by omega)]
theorem oM_if (M k : Nat) : (if k / 2 % 2 = 1 then nI M else (0 : Int32)) = nI (oM M k) := by
  unfold oM
  by_cases c : k / 2 % 2 = 1
  · rw [if_pos c, if_pos c]
  · rw [if_neg c, if_neg c]
    rfl
theorem pk_become {n k M : Nat} (hk : k < 12) (a b c d reach bend : Int32) : f_X2_becomeOption n a b c d (nI M) reach bend (nI k) = some (nI (oM M k), nI (k / 4), oR reach k, bend) := by
  obtain ⟨h1, h2, h3⟩ := opt_num k hk
  unfold f_X2_becomeOption
  rw [pr_lt, pr_lt, pr_lt, pr_lt, h1, h2, h3, one_if (by omega), one_if (by omega), oM_if]
  rfl
theorem pk_optNum {n k : Nat} (hk : k < 12) : f_X2_optionNumber n (nI k) = some (CO k) := by
  obtain ⟨h1, h2, h3⟩ := opt_num k hk
  obtain ⟨c1, c2, c3, c4, c5⟩ := opt_code k hk
  unfold f_X2_optionNumber
  rw [pr_lt, h1, h2, h3, c5]
theorem pm_code {n k : Nat} (hk : k < 12) : f_X6_codeOf n (nI k) = some (CO k) := by
  obtain ⟨h1, h2, h3⟩ := opt_num k hk
  obtain ⟨c1, c2, c3, c4, c5⟩ := opt_code k hk
  unfold f_X6_codeOf
  rw [pr_lt, h1, h2, h3, c5]
theorem pr_wq2 {β : Type} {f : Nat → Int32} {N : Nat} {x : Int32} {K : (Nat → Int32) → Option β} (h : 2 < N) (hN : N < 2 ^ 31) : cz_wr f N (2 : Int32) x K = K (upd f 2 x) := pr_wr (i := 2) h hN
theorem pr_wq3 {β : Type} {f : Nat → Int32} {N : Nat} {x : Int32} {K : (Nat → Int32) → Option β} (h : 3 < N) (hN : N < 2 ^ 31) : cz_wr f N (3 : Int32) x K = K (upd f 3 x) := pr_wr (i := 3) h hN
theorem pr_wq4 {β : Type} {f : Nat → Int32} {N : Nat} {x : Int32} {K : (Nat → Int32) → Option β} (h : 4 < N) (hN : N < 2 ^ 31) : cz_wr f N (4 : Int32) x K = K (upd f 4 x) := pr_wr (i := 4) h hN
theorem s_back (s : Nat → Int32) (a b c : Int32) : upd (upd (upd (upd (upd (upd s 2 a) 3 b) 4 c) 2 (s 2)) 3 (s 3)) 4 (s 4) = s := by
  funext j
  by_cases e4 : j = 4
  · subst e4
    exact pk_us
  · rw [pk_un e4]
    by_cases e3 : j = 3
    · subst e3
      exact pk_us
    · rw [pk_un e3]
      by_cases e2 : j = 2
      · subst e2
        exact pk_us
      · rw [pk_un e2, pk_un e4, pk_un e3, pk_un e2]
theorem opt_both {n w h M k : Nat} {kinds s : Nat → Int32} {reach bend : Int32} (hn : 200 ≤ n) (H : Cel w h kinds s) (hM : M ≤ 9) (s2 : s 2 = nI M) (s4 : s 4 = reach) (s5 : s 5 = bend) (hk : k < 12) (z t : Int32) (i0 o0 n0 p0 q0 st0 : Nat → Int32) : ∃ (b th : Int32) (inner owners nears bp bf bs : Nat → Int32), f_X0_draw n z t i0 o0 n0 p0 q0 st0 kinds (nI (oM M k)) (nI (k / 4)) (oR reach k) bend = some (b, th, inner, owners, nears, bp, bf, bs) ∧ ∀ (z' : Int32) (i1 w1 n1 f1 : Nat → Int32), ∃ th' innerOf whoseOf nearOf fromOf, f_X6_findBy n z' s i1 w1 n1 f1 (CO k) = some (th', s, innerOf, whoseOf, nearOf, fromOf) ∧ SameO w h owners whoseOf := by
  obtain ⟨c1, c2, c3, c4, c5⟩ := opt_code k hk
  have H' : Cel w h kinds (upd (upd (upd s 2 (nI (oM M k))) 3 (nI (k / 4))) 4 (oR reach k)) := cel_congr H (by rw [pk_un (by omega), pk_un (by omega), pk_un (by omega)]) (by rw [pk_un (by omega), pk_un (by omega), pk_un (by omega)]) (fun c hc => by rw [pk_un (by omega), pk_un (by omega), pk_un (by omega)])
  obtain ⟨b, th, inner, owners, nears, bp, bf, bs, e1, e2, e3⟩ := both (bend := bend) hn H' (show oM M k ≤ 9 by unfold oM; split <;> omega) (by rw [pk_un (by omega), pk_un (by omega), pk_us]) ⟨k / 4, by omega, rfl⟩ (by rw [pk_un (by omega), pk_us]) pk_us (by rw [pk_un (by omega), pk_un (by omega), pk_un (by omega)]; exact s5) z t i0 o0 n0 p0 q0 st0
  refine ⟨b, nI th, inner, owners, nears, bp, bf, bs, e1, fun z' i1 w1 n1 f1 => ?_⟩
  obtain ⟨innerOf, whoseOf, nearOf, fromOf, f1', f2⟩ := e3 z' i1 w1 n1 f1
  refine ⟨nI th, innerOf, whoseOf, nearOf, fromOf, ?_, f2⟩
  have q1 : (if nI (k / 2 % 2) = (1 : Int32) then s 2 else (0 : Int32)) = nI (oM M k) := by rw [one_if (by omega), s2, oM_if]
  have q3 : (if nI (k % 2) = (1 : Int32) then s 4 / (2 : Int32) else s 4) = oR reach k := by
    rw [one_if (by omega), s4]
    rfl
  unfold f_X6_findBy
  rw [pr_rd2 (by omega) (by omega), pr_rd3 (by omega) (by omega), pr_rd4 (by omega) (by omega), pr_lt, pr_lt, c1, q1, pr_wq2 (by omega) (by omega), pr_wq3 (by omega) (by omega), pr_lt, c3, q3, pr_wq4 (by omega) (by omega), c2, pr_b5 f1', pr_wq2 (by omega) (by omega), pr_wq3 (by omega) (by omega), pr_wq4 (by omega) (by omega), s_back]
/-- the best option so far: its number, its worth, its area -/
def bO (B : Option (Nat × Nat × Nat)) : Int32 := match B with
  | none => 0
  | some (k, _, _) => nI k
def wO (B : Option (Nat × Nat × Nat)) : Int32 := match B with
  | none => -1
  | some (_, W, _) => nI W
def aO (B : Option (Nat × Nat × Nat)) : Int32 := match B with
  | none => -1
  | some (_, _, A) => nI A
def bo (B : Option (Nat × Nat × Nat)) : Int32 := match B with
  | none => -9
  | some (k, _, _) => CO k
def wo (B : Option (Nat × Nat × Nat)) : Int32 := match B with
  | none => 0
  | some (_, W, _) => nI W
def ao (B : Option (Nat × Nat × Nat)) : Int32 := match B with
  | none => 0
  | some (_, _, A) => nI A
def Bok (B : Option (Nat × Nat × Nat)) : Prop := ∀ j W A : Nat, B = some (j, W, A) → j < 12 ∧ W ≤ 1188 ∧ A ≤ 120
theorem bok_some {i W A : Nat} (hi : i < 12) (hW : W ≤ 1188) (hA : A ≤ 120) : Bok (some (i, W, A)) := fun j V C q => by
  injection q with q
  injection q with q1 q
  injection q with q2 q3
  subst q1 q2 q3
  exact ⟨hi, hW, hA⟩
theorem pick {n i W A : Nat} (hi : i < 12) (hW : W ≤ 1188) (hA : A ≤ 120) (B : Option (Nat × Nat × Nat)) (hB : Bok B) : ∃ B2 : Option (Nat × Nat × Nat), Bok B2 ∧ (∃ q, B2 = some q) ∧ (if wO B < nI W then (nI i, nI W, nI A) else (if nI W = wO B then (if nI A ≤ aO B then (bO B, wO B, aO B) else (nI i, nI W, nI A)) else (bO B, wO B, aO B))) = (bO B2, wO B2, aO B2) ∧ (if bo B < (0 : Int32) then cz_b1 (f_X6_codeOf n (nI i)) fun x51 => some (x51, nI W, nI A) else (if nI W < wo B then some (bo B, wo B, ao B) else (if nI W = wo B then (if ao B < nI A then cz_b1 (f_X6_codeOf n (nI i)) fun x58 => some (x58, nI W, nI A) else some (bo B, wo B, ao B)) else cz_b1 (f_X6_codeOf n (nI i)) fun x55 => some (x55, nI W, nI A)))) = some (bo B2, wo B2, ao B2) := by
  cases B with
  | none =>
    refine ⟨some (i, W, A), bok_some hi hW hA, ⟨_, rfl⟩, ?_, ?_⟩
    · rw [show wO none = -1 from rfl, if_pos (show (-1 : Int32) < nI W from by
        refine Int32.lt_iff_toInt_lt.mpr ?_
        rw [nI_toInt (by omega), show (-1 : Int32).toInt = -1 by decide]
        omega)]
      rfl
    · rw [show bo none = -9 from rfl, if_pos (by decide), pr_b1 (pm_code hi)]
      rfl
  | some q =>
    obtain ⟨j, V, C⟩ := q
    obtain ⟨hj, hV, hC⟩ := hB j V C rfl
    have x1 : wO (some (j, V, C)) = nI V := rfl
    have x2 : aO (some (j, V, C)) = nI C := rfl
    have x3 : wo (some (j, V, C)) = nI V := rfl
    have x4 : ao (some (j, V, C)) = nI C := rfl
    have x5 : ¬ bo (some (j, V, C)) < (0 : Int32) := (opt_code j hj).2.2.2.1
    rw [x1, x2, x3, x4, if_neg x5]
    by_cases c1 : V < W
    · refine ⟨some (i, W, A), bok_some hi hW hA, ⟨_, rfl⟩, ?_, ?_⟩
      · rw [if_pos (nI_lt c1 (by omega))]
        rfl
      · rw [if_neg (nI_nlt (by omega) (by omega)), if_neg (fun q => by
          have := (nI_eq (by omega) (by omega)).mp q
          omega), pr_b1 (pm_code hi)]
        rfl
    · by_cases c2 : W = V
      · subst c2
        by_cases c3 : A ≤ C
        · refine ⟨some (j, W, C), hB, ⟨_, rfl⟩, ?_, ?_⟩
          · rw [if_neg (nI_nlt (by omega) (by omega)), if_pos rfl, if_pos (nI_le c3 (by omega))]
            rfl
          · rw [if_neg (nI_nlt (by omega) (by omega)), if_pos rfl, if_neg (nI_nlt (by omega) (by omega))]
            rfl
        · refine ⟨some (i, W, A), bok_some hi hW hA, ⟨_, rfl⟩, ?_, ?_⟩
          · rw [if_neg (nI_nlt (by omega) (by omega)), if_pos rfl, if_neg (nI_ge (by omega) (by omega))]
            rfl
          · rw [if_neg (nI_nlt (by omega) (by omega)), if_pos rfl, if_pos (nI_lt (by omega) (by omega)), pr_b1 (pm_code hi)]
            rfl
      · refine ⟨some (j, V, C), hB, ⟨_, rfl⟩, ?_, ?_⟩
        · rw [if_neg (nI_nlt (by omega) (by omega)), if_neg (fun q => c2 ((nI_eq (by omega) (by omega)).mp q))]
          rfl
        · rw [if_pos (nI_lt (by omega) (by omega))]
          rfl
theorem pr_l3 {A1 A2 A3 β : Type} {x : A1 × A2 × A3} {a : A1} {b : A2} {c : A3} {K : A1 → A2 → A3 → Option β} (h : x = (a, b, c)) : cz_l3 x K = K a b c := by
  subst h
  rfl
section OPT
variable {n w h nw M l : Nat} {wide high wells : Int32} {kinds wp ww : Nat → Int32} {weight reach bend : Int32} {s : Nat → Int32}
theorem best_L (hn : 200 ≤ n) (H : SeaAt w h nw wide high wells kinds wp ww (nI M) weight reach bend s) (hM : M ≤ 9) (hl : l < 3) : ∀ (d i k : Nat) (B : Option (Nat × Nat × Nat)) (x5 x6 x7 x8 z t : Int32) (i0 o0 n0 p0 q0 st0 : Nat → Int32), i + d = 12 → d < k → Bok B → ∃ (B' : Option (Nat × Nat × Nat)) (y5 y6 y7 y8 b th : Int32) (inner owners nears bp bf bs : Nat → Int32), f_X5_bestOption_L10 n wells kinds wp ww (nI M) reach bend (nI l) k (bO B) (wO B) (aO B) (nI i) x5 x6 x7 x8 z t i0 o0 n0 p0 q0 st0 = some (bO B', wO B', aO B', nI 12, y5, y6, y7, y8, b, th, inner, owners, nears, bp, bf, bs) ∧ Bok B' ∧ (1 ≤ d ∨ (∃ q, B = some q) → ∃ q, B' = some q) ∧ ∀ (k' : Nat) (z' : Int32) (i1 w1 n1 f1 : Nat → Int32), d < k' → ∃ th' innerOf whoseOf nearOf fromOf, f_X6_chosenOf_L11 n (nI l) k' (bo B) (wo B) (ao B) (nI i) z' s i1 w1 n1 f1 = some (bo B', wo B', ao B', nI 12, th', s, innerOf, whoseOf, nearOf, fromOf) := by
  obtain ⟨M', hM', eM', s2', hW, s3, s4, s5, HC⟩ := sea_all H
  have s2 : s 2 = nI M := s2'.trans eM'.symm
  obtain ⟨a1, a2, a3, a4, s0, s1, hin, ho⟩ := id HC
  intro d
  induction d with
  | zero =>
    intro i k B x5 x6 x7 x8 z t i0 o0 n0 p0 q0 st0 h1 h2 h3
    obtain ⟨k, rfl⟩ : ∃ q, k = q + 1 := ⟨k - 1, by omega⟩
    have : i = 12 := by omega
    subst this
    refine ⟨B, x5, x6, x7, x8, z, t, i0, o0, n0, p0, q0, st0, ?_, h3, fun q => ?_, fun k' z' i1 w1 n1 f1 hk' => ?_⟩
    · rw [f_X5_bestOption_L10]
      exact if_pos (Int32.le_refl _)
    · rcases q with q | q
      · omega
      · exact q
    · obtain ⟨k', rfl⟩ : ∃ q, k' = q + 1 := ⟨k' - 1, by omega⟩
      refine ⟨z', i1, w1, n1, f1, ?_⟩
      rw [f_X6_chosenOf_L11]
      exact if_pos (Int32.le_refl _)
  | succ d ih =>
    intro i k B x5 x6 x7 x8 z t i0 o0 n0 p0 q0 st0 h1 h2 h3
    obtain ⟨k, rfl⟩ : ∃ q, k = q + 1 := ⟨k - 1, by omega⟩
    obtain ⟨b, th, inner, owners, nears, bp, bf, bs, e1, e2⟩ := opt_both (k := i) hn HC hM s2 s4 s5 (by omega) z t i0 o0 n0 p0 q0 st0
    obtain ⟨W, hW1, q1, q2⟩ := worth_both hn H owners (nI l)
    obtain ⟨B2, g1, g2, g3, g4⟩ := pick (n := n) (i := i) (W := W) (A := AR owners (nI l)) (by omega) hW1 (AR_le _ _) B h3
    obtain ⟨B', y5, y6, y7, y8, b', th', inner', owners', nears', bp', bf', bs', r1, r2, r3, r4⟩ := ih (i + 1) k B2 (nI (oM M i)) (nI (i / 4)) (oR reach i) bend b th inner owners nears bp bf bs (by omega) (by omega) g1
    refine ⟨B', y5, y6, y7, y8, b', th', inner', owners', nears', bp', bf', bs', ?_, r2, fun _ => r3 (Or.inr g2), fun k' z' i1 w1 n1 f1 hk' => ?_⟩
    · rw [f_X5_bestOption_L10, if_neg (show ¬ (12 : Int32) ≤ nI i from nI_ge (b := 12) (by omega) (by omega)), pr_b4 (pk_become (by omega) _ _ _ _ _ _), pr_b8 e1, pr_b1 q1, pr_b1 (pk_areaOf hn), pr_l3 g3, pr_lt, nI_1]
      exact r1
    · obtain ⟨k', rfl⟩ : ∃ q, k' = q + 1 := ⟨k' - 1, by omega⟩
      obtain ⟨th2, innerOf, whoseOf, nearOf, fromOf, f1', f2⟩ := e2 z' i1 w1 n1 f1
      obtain ⟨t3, i3, w3, n3, f3, r5⟩ := r4 k' th2 innerOf whoseOf nearOf fromOf (by omega)
      refine ⟨t3, i3, w3, n3, f3, ?_⟩
      rw [f_X6_chosenOf_L11, if_neg (show ¬ (12 : Int32) ≤ nI i from nI_ge (b := 12) (by omega) (by omega)), pr_b1 (pm_code (by omega)), pr_b6 f1', pr_b1 (q2 whoseOf s f2 (fun _ _ => rfl)), pr_b1 (pm_areaOf hn a2 a4 s0 s1 f2 (nI_m9 (by omega))), pr_b3 g4, pr_lt, nI_1]
      exact r5
theorem best_both (hn : 200 ≤ n) (H : SeaAt w h nw wide high wells kinds wp ww (nI M) weight reach bend s) (hM : M ≤ 9) (hl : l < 3) (x5 x6 x7 x8 z t : Int32) (i0 o0 n0 p0 q0 st0 : Nat → Int32) : ∃ (q : Nat) (y5 y6 y7 y8 b th : Int32) (inner owners nears bp bf bs : Nat → Int32), q < 12 ∧ f_X5_bestOption n wells kinds wp ww (nI M) reach bend x5 x6 x7 x8 z t i0 o0 n0 p0 q0 st0 (nI l) = some (nI q, y5, y6, y7, y8, b, th, inner, owners, nears, bp, bf, bs) ∧ ∀ (z' : Int32) (i1 w1 n1 f1 : Nat → Int32), ∃ th' innerOf whoseOf nearOf fromOf, f_X6_chosenOf n z' s i1 w1 n1 f1 (nI l) = some (CO q, th', s, innerOf, whoseOf, nearOf, fromOf) := by
  obtain ⟨B', y5, y6, y7, y8, b, th, inner, owners, nears, bp, bf, bs, r1, r2, r3, r4⟩ := best_L (n := n) hn H hM hl 12 0 n none x5 x6 x7 x8 z t i0 o0 n0 p0 q0 st0 (by omega) (by omega) (fun _ _ _ q => by cases q)
  obtain ⟨⟨q, W, A⟩, eq⟩ := r3 (Or.inl (by omega))
  subst eq
  obtain ⟨hq, _, _⟩ := r2 q W A rfl
  refine ⟨q, y5, y6, y7, y8, b, th, inner, owners, nears, bp, bf, bs, hq, ?_, fun z' i1 w1 n1 f1 => ?_⟩
  · unfold f_X5_bestOption
    exact pr_b16 r1
  · obtain ⟨th', innerOf, whoseOf, nearOf, fromOf, r5⟩ := r4 n z' i1 w1 n1 f1 (by omega)
    refine ⟨th', innerOf, whoseOf, nearOf, fromOf, ?_⟩
    unfold f_X6_chosenOf
    exact pr_b10 r5
end OPT
theorem st_chosen {n : Nat} (hn : 200 ≤ n) {v_x_tape_length : Int32} {f_x_tape_signs : (Nat → Int32)} {v_x_waters_wide : Int32} {v_x_waters_high : Int32} {v_x_waters_wells : Int32} {f_x_waters_kinds : (Nat → Int32)} {f_x_waters_wellPlaces : (Nat → Int32)} {f_x_waters_wellWorths : (Nat → Int32)} {v_x_waters_rules_mouth : Int32} {v_x_waters_rules_weight : Int32} {v_x_waters_rules_reach : Int32} {v_x_waters_rules_bend : Int32} {v_x_kept_wide : Int32} {v_x_kept_high : Int32} {v_x_kept_wells : Int32} {f_x_kept_kinds : (Nat → Int32)} {f_x_kept_wellPlaces : (Nat → Int32)} {f_x_kept_wellWorths : (Nat → Int32)} {v_x_kept_rules_mouth : Int32} {v_x_kept_rules_weight : Int32} {v_x_kept_rules_reach : Int32} {v_x_kept_rules_bend : Int32} {v_x_hasImage : Int32} {v_x_rowLength : Int32} {f_x_row : (Nat → Int32)} {f_x_refusals : (Nat → Int32)} {v_m_isImage : Int32} {v_m_taped : Int32} {v_m_rowed : Int32} {f_m_tape : (Nat → Int32)} {f_m_s : (Nat → Int32)} {f_m_image : (Nat → Int32)} {f_m_row : (Nat → Int32)} {f_m_refusals : (Nat → Int32)} (v_x_option_mouth : Int32) (v_x_option_weight : Int32) (v_x_option_reach : Int32) (v_x_option_bend : Int32) (v_x_chart_bases : Int32) (v_x_chart_thirds : Int32) (f_x_chart_inner : (Nat → Int32)) (f_x_chart_owners : (Nat → Int32)) (f_x_chart_nears : (Nat → Int32)) (f_x_chart_basePlaces : (Nat → Int32)) (f_x_chart_baseFactors : (Nat → Int32)) (f_x_chart_baseStarts : (Nat → Int32)) (v_m_thirds : Int32) (f_m_innerOf : (Nat → Int32)) (f_m_whoseOf : (Nat → Int32)) (f_m_nearOf : (Nat → Int32)) (f_m_fromOf : (Nat → Int32)) (w1 : Int32) (hR : Rel v_x_tape_length f_x_tape_signs v_x_waters_wide v_x_waters_high v_x_waters_wells f_x_waters_kinds f_x_waters_wellPlaces f_x_waters_wellWorths v_x_waters_rules_mouth v_x_waters_rules_weight v_x_waters_rules_reach v_x_waters_rules_bend v_x_kept_wide v_x_kept_high v_x_kept_wells f_x_kept_kinds f_x_kept_wellPlaces f_x_kept_wellWorths v_x_kept_rules_mouth v_x_kept_rules_weight v_x_kept_rules_reach v_x_kept_rules_bend v_x_hasImage v_x_rowLength f_x_row f_x_refusals v_m_isImage v_m_taped v_m_rowed f_m_tape f_m_s f_m_image f_m_row f_m_refusals) : ∃ (r : Int32) (r_v_x_option_mouth : Int32) (r_v_x_option_weight : Int32) (r_v_x_option_reach : Int32) (r_v_x_option_bend : Int32) (r_v_x_chart_bases : Int32) (r_v_x_chart_thirds : Int32) (r_f_x_chart_inner : (Nat → Int32)) (r_f_x_chart_owners : (Nat → Int32)) (r_f_x_chart_nears : (Nat → Int32)) (r_f_x_chart_basePlaces : (Nat → Int32)) (r_f_x_chart_baseFactors : (Nat → Int32)) (r_f_x_chart_baseStarts : (Nat → Int32)) (r_f_x_refusals : (Nat → Int32)) (r_v_m_thirds : Int32) (r_f_m_refusals : (Nat → Int32)) (r_f_m_s : (Nat → Int32)) (r_f_m_innerOf : (Nat → Int32)) (r_f_m_whoseOf : (Nat → Int32)) (r_f_m_nearOf : (Nat → Int32)) (r_f_m_fromOf : (Nat → Int32)), f_X5_chosen n v_x_waters_wells f_x_waters_kinds f_x_waters_wellPlaces f_x_waters_wellWorths v_x_waters_rules_mouth v_x_waters_rules_reach v_x_waters_rules_bend v_x_option_mouth v_x_option_weight v_x_option_reach v_x_option_bend v_x_chart_bases v_x_chart_thirds f_x_chart_inner f_x_chart_owners f_x_chart_nears f_x_chart_basePlaces f_x_chart_baseFactors f_x_chart_baseStarts f_x_refusals w1 = some (r, r_v_x_option_mouth, r_v_x_option_weight, r_v_x_option_reach, r_v_x_option_bend, r_v_x_chart_bases, r_v_x_chart_thirds, r_f_x_chart_inner, r_f_x_chart_owners, r_f_x_chart_nears, r_f_x_chart_basePlaces, r_f_x_chart_baseFactors, r_f_x_chart_baseStarts, r_f_x_refusals) ∧ f_X6_chosen n v_m_thirds f_m_refusals f_m_s f_m_innerOf f_m_whoseOf f_m_nearOf f_m_fromOf w1 = some (r, r_v_m_thirds, r_f_m_refusals, r_f_m_s, r_f_m_innerOf, r_f_m_whoseOf, r_f_m_nearOf, r_f_m_fromOf) ∧ Rel v_x_tape_length f_x_tape_signs v_x_waters_wide v_x_waters_high v_x_waters_wells f_x_waters_kinds f_x_waters_wellPlaces f_x_waters_wellWorths v_x_waters_rules_mouth v_x_waters_rules_weight v_x_waters_rules_reach v_x_waters_rules_bend v_x_kept_wide v_x_kept_high v_x_kept_wells f_x_kept_kinds f_x_kept_wellPlaces f_x_kept_wellWorths v_x_kept_rules_mouth v_x_kept_rules_weight v_x_kept_rules_reach v_x_kept_rules_bend v_x_hasImage v_x_rowLength f_x_row r_f_x_refusals v_m_isImage v_m_taped v_m_rowed f_m_tape r_f_m_s f_m_image f_m_row r_f_m_refusals := by
  obtain ⟨R1, R2, R3, R4, R5, R6, R7, R8, R9, R10⟩ := id hR
  obtain ⟨w, h, nw, HS⟩ := id R4
  obtain ⟨M, hM, eM, s2, hW, s3, s4, s5, H⟩ := sea_all HS
  subst eM
  unfold f_X5_chosen f_X6_chosen
  rcases pr_land w1 with ⟨l, hl, rfl⟩ | hl
  · obtain ⟨q, y5, y6, y7, y8, b, th, inner, owners, nears, bp, bf, bs, hq, e1, e2⟩ := best_both hn HS hM hl v_x_option_mouth v_x_option_weight v_x_option_reach v_x_option_bend v_x_chart_bases v_x_chart_thirds f_x_chart_inner f_x_chart_owners f_x_chart_nears f_x_chart_basePlaces f_x_chart_baseFactors f_x_chart_baseStarts
    obtain ⟨th', innerOf, whoseOf, nearOf, fromOf, f1⟩ := e2 v_m_thirds f_m_innerOf f_m_whoseOf f_m_nearOf f_m_fromOf
    rw [pr_b1 (pk_isLand hl), pr_b1 (pm_isIn3 hl), if_neg (by decide), if_neg (by decide), pr_b13 e1, pr_b1 (pk_optNum hq), pr_b7 f1]
    exact ⟨_, _, _, _, _, _, _, _, _, _, _, _, _, _, _, _, _, _, _, _, _, rfl, rfl, hR⟩
  · obtain ⟨g, g', r1, r2, r3⟩ := pr_refuse (n := n) (v := -1) 1 (by omega) (by decide) R10
    rw [pr_b1 (pk_isLandN hl), pr_b1 (pm_isIn0 hl), if_pos rfl, if_pos rfl, pr_b2 r1, pr_b2 r2]
    exact ⟨_, _, _, _, _, _, _, _, _, _, _, _, _, _, _, _, _, _, _, _, _, rfl, rfl, R1, R2, R3, R4, R5, R6, R7, R8, R9, r3⟩
