/-! the pure side, 3: numbers -/
theorem pr_lit (k : Nat) : (OfNat.ofNat k : Int32) = nI k := rfl
theorem nI_m1 {a : Nat} (h : a < 2 ^ 31) : ¬ nI a = (-1 : Int32) := fun e => by
  have h1 := congrArg Int32.toInt e
  rw [nI_toInt h] at h1
  have h2 : (-1 : Int32).toInt = -1 := by decide
  omega
theorem nI_m9 {a : Nat} (h : a < 2 ^ 31) : ¬ nI a = (-9 : Int32) := fun e => by
  have h1 := congrArg Int32.toInt e
  rw [nI_toInt h] at h1
  have h2 : (-9 : Int32).toInt = -9 := by decide
  omega
theorem pr_cell_or (xy : Int32) (w h : Nat) : (∃ x y : Nat, x < w ∧ y < h ∧ xy = nI (100 * x + y)) ∨ ∀ x y : Nat, x < w → y < h → ¬ xy = nI (100 * x + y) := by
  by_cases hc : ∃ x y : Nat, x < w ∧ y < h ∧ xy = nI (100 * x + y)
  · exact Or.inl hc
  · exact Or.inr fun x y hx hy e => hc ⟨x, y, hx, hy, e⟩
/-- division of a told cell -/
theorem pr_told {x y : Nat} (hx : x < 1000) (hy : y < 100) : nI (100 * x + y) / nI 100 = nI x ∧ nI (100 * x + y) - nI (100 * x + y) / nI 100 * nI 100 = nI y := by
  refine ⟨?_, ?_⟩
  · rw [pk_div (by omega) (by omega) (by omega)]
    congr 1
    omega
  · rw [pk_rem (by omega) (by omega) (by omega)]
    congr 1
    omega
theorem pr_neg1 (x : Int32) : x < 0 ∨ ∃ k : Nat, k < 2 ^ 31 ∧ x = nI k := by
  by_cases h : x < 0
  · exact Or.inl h
  · exact Or.inr (nI_of h)
section PRM
variable {n w h : Nat} {s : Nat → Int32}
theorem pm_many (h0 : s 0 = nI w) (h1 : s 1 = nI h) : f_X6_many n s = some (nI (w * h)) := by
  unfold f_X6_many
  have e0 : (0 : Int32) = nI 0 := rfl
  have e1 : (1 : Int32) = nI 1 := rfl
  rw [e0, e1, pr_rd (by omega) (by omega), pr_rd (by omega) (by omega), h0, h1, pk_mul]
theorem pm_isCell (h0 : s 0 = nI w) (h1 : s 1 = nI h) (hw : w ≤ 12) (hh : h ≤ 10) {x y : Nat} (hx : x < w) (hy : y < h) : f_X6_isCell n s (nI (100 * x + y)) = some 1 := by
  unfold f_X6_isCell
  obtain ⟨q1, q2⟩ := pr_told (x := x) (y := y) (by omega) (by omega)
  have e0 : (0 : Int32) = nI 0 := rfl
  have e1 : (1 : Int32) = nI 1 := rfl
  have e2 : (100 : Int32) = nI 100 := rfl
  rw [e2, q2, q1, if_neg (nI_pos (by omega)), e0, e1, pr_rd (by omega) (by omega), h0, if_neg (nI_ge hx (by omega)), pr_rd (by omega) (by omega), h1, if_neg (nI_ge hy (by omega))]
theorem pm_isCellN (h0 : s 0 = nI w) (h1 : s 1 = nI h) (hw : w ≤ 12) (hh : h ≤ 10) {xy : Int32} (hn : ∀ x y : Nat, x < w → y < h → ¬ xy = nI (100 * x + y)) : f_X6_isCell n s xy = some 0 := by
  unfold f_X6_isCell
  rcases pr_neg1 xy with hneg | ⟨k, hk, rfl⟩
  · rw [if_pos hneg]
  · have e0 : (0 : Int32) = nI 0 := rfl
    have e1 : (1 : Int32) = nI 1 := rfl
    have e2 : (100 : Int32) = nI 100 := rfl
    rw [if_neg (nI_pos hk), e2, pk_rem hk (by omega) (by omega), pk_div hk (by omega) (by omega), e0, e1, pr_rd (by omega) (by omega), h0]
    by_cases c1 : w ≤ k / 100
    · rw [if_pos (nI_le c1 (by omega))]
    · rw [if_neg (nI_ge (by omega) (by omega)), pr_rd (by omega) (by omega), h1]
      by_cases c2 : h ≤ k % 100
      · rw [if_pos (nI_le c2 (by omega))]
      · exact absurd (by congr 1; omega) (hn (k / 100) (k % 100) (by omega) (by omega))
theorem pm_of (h0 : s 0 = nI w) (hw : w ≤ 12) {x y : Nat} (hx : x < w) (hy : y < 10) : f_X6_of n s (nI (100 * x + y)) = some (nI (w * y + x)) := by
  unfold f_X6_of
  obtain ⟨q1, q2⟩ := pr_told (x := x) (y := y) (by omega) (by omega)
  have e0 : (0 : Int32) = nI 0 := rfl
  have e2 : (100 : Int32) = nI 100 := rfl
  rw [e2, q2, q1, e0, pr_rd (by omega) (by omega), h0, pk_mul, nI_add, Nat.mul_comm y w]
theorem pm_at {c : Nat} (hc : c < 144) : f_X6_at n s (nI c) = some (s (7 + c)) := by
  unfold f_X6_at
  have e7 : (7 : Int32) = nI 7 := rfl
  rw [e7, nI_add, pr_rd (by omega) (by omega)]
theorem pr_wy {w h x y : Nat} (hx : x < w) (hy : y < h) : w * y + x < w * h := by
  have h1 : w * (y + 1) ≤ w * h := Nat.mul_le_mul_left w hy
  rw [Nat.mul_add, Nat.mul_one] at h1
  omega
theorem pr_wh {w h : Nat} (hw : w ≤ 12) (hh : h ≤ 10) : w * h ≤ 120 := Nat.mul_le_mul hw hh
end PRM
section PRK
variable {n w h : Nat} {kinds : Nat → Int32}
theorem pk_placeAt {x y : Nat} (hx : x < 12) (hy : y < 10) : f_X4_placeAt n (nI x) (nI y) = some (nI (12 * y + x)) := by
  unfold f_X4_placeAt
  have e12 : (12 : Int32) = nI 12 := rfl
  have e10 : (10 : Int32) = nI 10 := rfl
  rw [if_neg (nI_pos (by omega)), e12, if_neg (nI_ge hx (by omega)), if_neg (nI_pos (by omega)), e10, if_pos (nI_lt hy (by omega)), pk_mul, nI_add, Nat.mul_comm y 12]
theorem pk_kindOf {c : Nat} (hc : c < 120) : f_X4_kindOf n kinds (nI c) = some (kinds c) := by
  unfold f_X4_kindOf
  have e : (120 : Int32) = nI 120 := rfl
  rw [if_neg (nI_pos (by omega)), e, if_neg (nI_ge hc (by omega)), pr_rd (by omega) (by omega)]
theorem pk_kindOfN {c : Int32} (hc : c < 0) : f_X4_kindOf n kinds c = some 8 := by
  unfold f_X4_kindOf
  rw [if_pos hc]
theorem pk_placeOf (hw : w ≤ 12) (hh : h ≤ 10) {x y : Nat} (hx : x < w) (hy : y < h) (hk : ¬ kinds (12 * y + x) = 8) : f_X4_placeOf n kinds (nI (100 * x + y)) = some (nI (12 * y + x)) := by
  unfold f_X4_placeOf
  obtain ⟨q1, q2⟩ := pr_told (x := x) (y := y) (by omega) (by omega)
  have e2 : (100 : Int32) = nI 100 := rfl
  rw [if_pos (nI_pos' (by omega)), e2, q2, q1, pr_b1 (pr_b1 (pk_placeAt (by omega) (by omega))), pr_b1 (pk_kindOf (by omega)), if_neg hk]
theorem pk_placeOfN (hw : w ≤ 12) (hh : h ≤ 10) (ho : ∀ y x : Nat, y < 10 → x < 12 → ¬ (y < h ∧ x < w) → kinds (12 * y + x) = 8) {xy : Int32} (hn : ∀ x y : Nat, x < w → y < h → ¬ xy = nI (100 * x + y)) : f_X4_placeOf n kinds xy = some (-1) := by
  unfold f_X4_placeOf
  rcases pr_neg1 xy with hneg | ⟨k, hk, rfl⟩
  · rw [if_neg (Int32.not_le.mpr hneg), pr_b1 rfl, pr_b1 (pk_kindOfN (by decide)), if_pos rfl]
  · have e2 : (100 : Int32) = nI 100 := rfl
    rw [if_pos (nI_pos' hk), e2, pk_rem hk (by omega) (by omega), pk_div hk (by omega) (by omega)]
    by_cases c : k / 100 < 12 ∧ k % 100 < 10
    · rw [pr_b1 (pr_b1 (pk_placeAt c.1 c.2)), pr_b1 (pk_kindOf (by omega)), if_pos]
      refine ho _ _ c.2 c.1 fun hin => ?_
      exact hn (k / 100) (k % 100) hin.2 hin.1 (by congr 1; omega)
    · have hp : f_X4_placeAt n (nI (k / 100)) (nI (k % 100)) = some (-1) := by
        unfold f_X4_placeAt
        have e12 : (12 : Int32) = nI 12 := rfl
        have e10 : (10 : Int32) = nI 10 := rfl
        rw [if_neg (nI_pos (by omega)), e12]
        by_cases c1 : 12 ≤ k / 100
        · rw [if_pos (nI_le c1 (by omega))]
        · rw [if_neg (nI_ge (by omega) (by omega)), if_neg (nI_pos (by omega)), e10, if_neg (nI_nlt (by omega) (by omega))]
      rw [pr_b1 (pr_b1 hp), pr_b1 (pk_kindOfN (by decide)), if_pos rfl]
end PRK
/-- refusals: both count alike -/
theorem pr_refuse {n : Nat} {rf mf : Nat → Int32} (c : Nat) (hc : 1 ≤ c ∧ c ≤ 6) {v : Int32} (hv : -v = nI c) (h : ∀ j : Nat, j < 7 → mf j = rf j) : ∃ g g' : Nat → Int32, f_X5_refuse n rf v = some (v, g) ∧ f_X6_refuse n mf v = some (v, g') ∧ ∀ j : Nat, j < 7 → g' j = g j := by
  refine ⟨upd rf c (rf c + 1), upd mf c (mf c + 1), ?_, ?_, fun j hj => ?_⟩
  · unfold f_X5_refuse
    have e0 : (0 : Int32) = nI 0 := rfl
    have e7 : (7 : Int32) = nI 7 := rfl
    rw [hv, pr_lt, e0, if_neg (nI_ge (by omega) (by omega)), e7, if_neg (nI_ge (by omega) (by omega)), pr_rd (by omega) (by omega), pr_wr (by omega) (by omega)]
  · unfold f_X6_refuse
    rw [hv, pr_rd (by omega) (by omega), pr_wr (by omega) (by omega)]
  · by_cases e : j = c
    · subst e
      rw [pk_us, pk_us, h j hj]
    · rw [pk_un e, pk_un e, h j hj]
theorem pr_b4 {A1 A2 A3 A4 β : Type} {o : Option (A1 × A2 × A3 × A4)} {a1 : A1} {a2 : A2} {a3 : A3} {a4 : A4} {K : A1 → A2 → A3 → A4 → Option β} (h : o = some (a1, a2, a3, a4)) : cz_b4 o K = K a1 a2 a3 a4 := by subst h; rfl
theorem pr_b5 {A1 A2 A3 A4 A5 β : Type} {o : Option (A1 × A2 × A3 × A4 × A5)} {a1 : A1} {a2 : A2} {a3 : A3} {a4 : A4} {a5 : A5} {K : A1 → A2 → A3 → A4 → A5 → Option β} (h : o = some (a1, a2, a3, a4, a5)) : cz_b5 o K = K a1 a2 a3 a4 a5 := by subst h; rfl
theorem pr_b6 {A1 A2 A3 A4 A5 A6 β : Type} {o : Option (A1 × A2 × A3 × A4 × A5 × A6)} {a1 : A1} {a2 : A2} {a3 : A3} {a4 : A4} {a5 : A5} {a6 : A6} {K : A1 → A2 → A3 → A4 → A5 → A6 → Option β} (h : o = some (a1, a2, a3, a4, a5, a6)) : cz_b6 o K = K a1 a2 a3 a4 a5 a6 := by subst h; rfl
theorem pr_b7 {A1 A2 A3 A4 A5 A6 A7 β : Type} {o : Option (A1 × A2 × A3 × A4 × A5 × A6 × A7)} {a1 : A1} {a2 : A2} {a3 : A3} {a4 : A4} {a5 : A5} {a6 : A6} {a7 : A7} {K : A1 → A2 → A3 → A4 → A5 → A6 → A7 → Option β} (h : o = some (a1, a2, a3, a4, a5, a6, a7)) : cz_b7 o K = K a1 a2 a3 a4 a5 a6 a7 := by subst h; rfl
theorem pr_b8 {A1 A2 A3 A4 A5 A6 A7 A8 β : Type} {o : Option (A1 × A2 × A3 × A4 × A5 × A6 × A7 × A8)} {a1 : A1} {a2 : A2} {a3 : A3} {a4 : A4} {a5 : A5} {a6 : A6} {a7 : A7} {a8 : A8} {K : A1 → A2 → A3 → A4 → A5 → A6 → A7 → A8 → Option β} (h : o = some (a1, a2, a3, a4, a5, a6, a7, a8)) : cz_b8 o K = K a1 a2 a3 a4 a5 a6 a7 a8 := by subst h; rfl
theorem pr_b9 {A1 A2 A3 A4 A5 A6 A7 A8 A9 β : Type} {o : Option (A1 × A2 × A3 × A4 × A5 × A6 × A7 × A8 × A9)} {a1 : A1} {a2 : A2} {a3 : A3} {a4 : A4} {a5 : A5} {a6 : A6} {a7 : A7} {a8 : A8} {a9 : A9} {K : A1 → A2 → A3 → A4 → A5 → A6 → A7 → A8 → A9 → Option β} (h : o = some (a1, a2, a3, a4, a5, a6, a7, a8, a9)) : cz_b9 o K = K a1 a2 a3 a4 a5 a6 a7 a8 a9 := by subst h; rfl
theorem pr_b11 {A1 A2 A3 A4 A5 A6 A7 A8 A9 A10 A11 β : Type} {o : Option (A1 × A2 × A3 × A4 × A5 × A6 × A7 × A8 × A9 × A10 × A11)} {a1 : A1} {a2 : A2} {a3 : A3} {a4 : A4} {a5 : A5} {a6 : A6} {a7 : A7} {a8 : A8} {a9 : A9} {a10 : A10} {a11 : A11} {K : A1 → A2 → A3 → A4 → A5 → A6 → A7 → A8 → A9 → A10 → A11 → Option β} (h : o = some (a1, a2, a3, a4, a5, a6, a7, a8, a9, a10, a11)) : cz_b11 o K = K a1 a2 a3 a4 a5 a6 a7 a8 a9 a10 a11 := by subst h; rfl
theorem pr_b12 {A1 A2 A3 A4 A5 A6 A7 A8 A9 A10 A11 A12 β : Type} {o : Option (A1 × A2 × A3 × A4 × A5 × A6 × A7 × A8 × A9 × A10 × A11 × A12)} {a1 : A1} {a2 : A2} {a3 : A3} {a4 : A4} {a5 : A5} {a6 : A6} {a7 : A7} {a8 : A8} {a9 : A9} {a10 : A10} {a11 : A11} {a12 : A12} {K : A1 → A2 → A3 → A4 → A5 → A6 → A7 → A8 → A9 → A10 → A11 → A12 → Option β} (h : o = some (a1, a2, a3, a4, a5, a6, a7, a8, a9, a10, a11, a12)) : cz_b12 o K = K a1 a2 a3 a4 a5 a6 a7 a8 a9 a10 a11 a12 := by subst h; rfl
theorem pr_b13 {A1 A2 A3 A4 A5 A6 A7 A8 A9 A10 A11 A12 A13 β : Type} {o : Option (A1 × A2 × A3 × A4 × A5 × A6 × A7 × A8 × A9 × A10 × A11 × A12 × A13)} {a1 : A1} {a2 : A2} {a3 : A3} {a4 : A4} {a5 : A5} {a6 : A6} {a7 : A7} {a8 : A8} {a9 : A9} {a10 : A10} {a11 : A11} {a12 : A12} {a13 : A13} {K : A1 → A2 → A3 → A4 → A5 → A6 → A7 → A8 → A9 → A10 → A11 → A12 → A13 → Option β} (h : o = some (a1, a2, a3, a4, a5, a6, a7, a8, a9, a10, a11, a12, a13)) : cz_b13 o K = K a1 a2 a3 a4 a5 a6 a7 a8 a9 a10 a11 a12 a13 := by subst h; rfl
theorem pr_b14 {A1 A2 A3 A4 A5 A6 A7 A8 A9 A10 A11 A12 A13 A14 β : Type} {o : Option (A1 × A2 × A3 × A4 × A5 × A6 × A7 × A8 × A9 × A10 × A11 × A12 × A13 × A14)} {a1 : A1} {a2 : A2} {a3 : A3} {a4 : A4} {a5 : A5} {a6 : A6} {a7 : A7} {a8 : A8} {a9 : A9} {a10 : A10} {a11 : A11} {a12 : A12} {a13 : A13} {a14 : A14} {K : A1 → A2 → A3 → A4 → A5 → A6 → A7 → A8 → A9 → A10 → A11 → A12 → A13 → A14 → Option β} (h : o = some (a1, a2, a3, a4, a5, a6, a7, a8, a9, a10, a11, a12, a13, a14)) : cz_b14 o K = K a1 a2 a3 a4 a5 a6 a7 a8 a9 a10 a11 a12 a13 a14 := by subst h; rfl
theorem pr_b15 {A1 A2 A3 A4 A5 A6 A7 A8 A9 A10 A11 A12 A13 A14 A15 β : Type} {o : Option (A1 × A2 × A3 × A4 × A5 × A6 × A7 × A8 × A9 × A10 × A11 × A12 × A13 × A14 × A15)} {a1 : A1} {a2 : A2} {a3 : A3} {a4 : A4} {a5 : A5} {a6 : A6} {a7 : A7} {a8 : A8} {a9 : A9} {a10 : A10} {a11 : A11} {a12 : A12} {a13 : A13} {a14 : A14} {a15 : A15} {K : A1 → A2 → A3 → A4 → A5 → A6 → A7 → A8 → A9 → A10 → A11 → A12 → A13 → A14 → A15 → Option β} (h : o = some (a1, a2, a3, a4, a5, a6, a7, a8, a9, a10, a11, a12, a13, a14, a15)) : cz_b15 o K = K a1 a2 a3 a4 a5 a6 a7 a8 a9 a10 a11 a12 a13 a14 a15 := by subst h; rfl
theorem pr_b16 {A1 A2 A3 A4 A5 A6 A7 A8 A9 A10 A11 A12 A13 A14 A15 A16 β : Type} {o : Option (A1 × A2 × A3 × A4 × A5 × A6 × A7 × A8 × A9 × A10 × A11 × A12 × A13 × A14 × A15 × A16)} {a1 : A1} {a2 : A2} {a3 : A3} {a4 : A4} {a5 : A5} {a6 : A6} {a7 : A7} {a8 : A8} {a9 : A9} {a10 : A10} {a11 : A11} {a12 : A12} {a13 : A13} {a14 : A14} {a15 : A15} {a16 : A16} {K : A1 → A2 → A3 → A4 → A5 → A6 → A7 → A8 → A9 → A10 → A11 → A12 → A13 → A14 → A15 → A16 → Option β} (h : o = some (a1, a2, a3, a4, a5, a6, a7, a8, a9, a10, a11, a12, a13, a14, a15, a16)) : cz_b16 o K = K a1 a2 a3 a4 a5 a6 a7 a8 a9 a10 a11 a12 a13 a14 a15 a16 := by subst h; rfl
theorem pr_b17 {A1 A2 A3 A4 A5 A6 A7 A8 A9 A10 A11 A12 A13 A14 A15 A16 A17 β : Type} {o : Option (A1 × A2 × A3 × A4 × A5 × A6 × A7 × A8 × A9 × A10 × A11 × A12 × A13 × A14 × A15 × A16 × A17)} {a1 : A1} {a2 : A2} {a3 : A3} {a4 : A4} {a5 : A5} {a6 : A6} {a7 : A7} {a8 : A8} {a9 : A9} {a10 : A10} {a11 : A11} {a12 : A12} {a13 : A13} {a14 : A14} {a15 : A15} {a16 : A16} {a17 : A17} {K : A1 → A2 → A3 → A4 → A5 → A6 → A7 → A8 → A9 → A10 → A11 → A12 → A13 → A14 → A15 → A16 → A17 → Option β} (h : o = some (a1, a2, a3, a4, a5, a6, a7, a8, a9, a10, a11, a12, a13, a14, a15, a16, a17)) : cz_b17 o K = K a1 a2 a3 a4 a5 a6 a7 a8 a9 a10 a11 a12 a13 a14 a15 a16 a17 := by subst h; rfl
theorem pr_b18 {A1 A2 A3 A4 A5 A6 A7 A8 A9 A10 A11 A12 A13 A14 A15 A16 A17 A18 β : Type} {o : Option (A1 × A2 × A3 × A4 × A5 × A6 × A7 × A8 × A9 × A10 × A11 × A12 × A13 × A14 × A15 × A16 × A17 × A18)} {a1 : A1} {a2 : A2} {a3 : A3} {a4 : A4} {a5 : A5} {a6 : A6} {a7 : A7} {a8 : A8} {a9 : A9} {a10 : A10} {a11 : A11} {a12 : A12} {a13 : A13} {a14 : A14} {a15 : A15} {a16 : A16} {a17 : A17} {a18 : A18} {K : A1 → A2 → A3 → A4 → A5 → A6 → A7 → A8 → A9 → A10 → A11 → A12 → A13 → A14 → A15 → A16 → A17 → A18 → Option β} (h : o = some (a1, a2, a3, a4, a5, a6, a7, a8, a9, a10, a11, a12, a13, a14, a15, a16, a17, a18)) : cz_b18 o K = K a1 a2 a3 a4 a5 a6 a7 a8 a9 a10 a11 a12 a13 a14 a15 a16 a17 a18 := by subst h; rfl
theorem pr_b19 {A1 A2 A3 A4 A5 A6 A7 A8 A9 A10 A11 A12 A13 A14 A15 A16 A17 A18 A19 β : Type} {o : Option (A1 × A2 × A3 × A4 × A5 × A6 × A7 × A8 × A9 × A10 × A11 × A12 × A13 × A14 × A15 × A16 × A17 × A18 × A19)} {a1 : A1} {a2 : A2} {a3 : A3} {a4 : A4} {a5 : A5} {a6 : A6} {a7 : A7} {a8 : A8} {a9 : A9} {a10 : A10} {a11 : A11} {a12 : A12} {a13 : A13} {a14 : A14} {a15 : A15} {a16 : A16} {a17 : A17} {a18 : A18} {a19 : A19} {K : A1 → A2 → A3 → A4 → A5 → A6 → A7 → A8 → A9 → A10 → A11 → A12 → A13 → A14 → A15 → A16 → A17 → A18 → A19 → Option β} (h : o = some (a1, a2, a3, a4, a5, a6, a7, a8, a9, a10, a11, a12, a13, a14, a15, a16, a17, a18, a19)) : cz_b19 o K = K a1 a2 a3 a4 a5 a6 a7 a8 a9 a10 a11 a12 a13 a14 a15 a16 a17 a18 a19 := by subst h; rfl
theorem pr_b20 {A1 A2 A3 A4 A5 A6 A7 A8 A9 A10 A11 A12 A13 A14 A15 A16 A17 A18 A19 A20 β : Type} {o : Option (A1 × A2 × A3 × A4 × A5 × A6 × A7 × A8 × A9 × A10 × A11 × A12 × A13 × A14 × A15 × A16 × A17 × A18 × A19 × A20)} {a1 : A1} {a2 : A2} {a3 : A3} {a4 : A4} {a5 : A5} {a6 : A6} {a7 : A7} {a8 : A8} {a9 : A9} {a10 : A10} {a11 : A11} {a12 : A12} {a13 : A13} {a14 : A14} {a15 : A15} {a16 : A16} {a17 : A17} {a18 : A18} {a19 : A19} {a20 : A20} {K : A1 → A2 → A3 → A4 → A5 → A6 → A7 → A8 → A9 → A10 → A11 → A12 → A13 → A14 → A15 → A16 → A17 → A18 → A19 → A20 → Option β} (h : o = some (a1, a2, a3, a4, a5, a6, a7, a8, a9, a10, a11, a12, a13, a14, a15, a16, a17, a18, a19, a20)) : cz_b20 o K = K a1 a2 a3 a4 a5 a6 a7 a8 a9 a10 a11 a12 a13 a14 a15 a16 a17 a18 a19 a20 := by subst h; rfl
theorem pr_b21 {A1 A2 A3 A4 A5 A6 A7 A8 A9 A10 A11 A12 A13 A14 A15 A16 A17 A18 A19 A20 A21 β : Type} {o : Option (A1 × A2 × A3 × A4 × A5 × A6 × A7 × A8 × A9 × A10 × A11 × A12 × A13 × A14 × A15 × A16 × A17 × A18 × A19 × A20 × A21)} {a1 : A1} {a2 : A2} {a3 : A3} {a4 : A4} {a5 : A5} {a6 : A6} {a7 : A7} {a8 : A8} {a9 : A9} {a10 : A10} {a11 : A11} {a12 : A12} {a13 : A13} {a14 : A14} {a15 : A15} {a16 : A16} {a17 : A17} {a18 : A18} {a19 : A19} {a20 : A20} {a21 : A21} {K : A1 → A2 → A3 → A4 → A5 → A6 → A7 → A8 → A9 → A10 → A11 → A12 → A13 → A14 → A15 → A16 → A17 → A18 → A19 → A20 → A21 → Option β} (h : o = some (a1, a2, a3, a4, a5, a6, a7, a8, a9, a10, a11, a12, a13, a14, a15, a16, a17, a18, a19, a20, a21)) : cz_b21 o K = K a1 a2 a3 a4 a5 a6 a7 a8 a9 a10 a11 a12 a13 a14 a15 a16 a17 a18 a19 a20 a21 := by subst h; rfl
theorem pr_rd0 {β : Type} {f : Nat → Int32} {N : Nat} {K : Int32 → Option β} (h : 0 < N) (hN : N < 2 ^ 31) : cz_rd f N (0 : Int32) K = K (f 0) := pr_rd (i := 0) h hN
theorem pr_rd1 {β : Type} {f : Nat → Int32} {N : Nat} {K : Int32 → Option β} (h : 1 < N) (hN : N < 2 ^ 31) : cz_rd f N (1 : Int32) K = K (f 1) := pr_rd (i := 1) h hN
theorem pr_rd2 {β : Type} {f : Nat → Int32} {N : Nat} {K : Int32 → Option β} (h : 2 < N) (hN : N < 2 ^ 31) : cz_rd f N (2 : Int32) K = K (f 2) := pr_rd (i := 2) h hN
theorem pr_rd3 {β : Type} {f : Nat → Int32} {N : Nat} {K : Int32 → Option β} (h : 3 < N) (hN : N < 2 ^ 31) : cz_rd f N (3 : Int32) K = K (f 3) := pr_rd (i := 3) h hN
theorem pr_rd4 {β : Type} {f : Nat → Int32} {N : Nat} {K : Int32 → Option β} (h : 4 < N) (hN : N < 2 ^ 31) : cz_rd f N (4 : Int32) K = K (f 4) := pr_rd (i := 4) h hN
theorem pr_rd5 {β : Type} {f : Nat → Int32} {N : Nat} {K : Int32 → Option β} (h : 5 < N) (hN : N < 2 ^ 31) : cz_rd f N (5 : Int32) K = K (f 5) := pr_rd (i := 5) h hN
theorem pr_rd6 {β : Type} {f : Nat → Int32} {N : Nat} {K : Int32 → Option β} (h : 6 < N) (hN : N < 2 ^ 31) : cz_rd f N (6 : Int32) K = K (f 6) := pr_rd (i := 6) h hN
