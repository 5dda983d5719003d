/-! the pure side, 1: rows on numbers and on the words of the pure functions -/
theorem pr_rd {β : Type} {f : Nat → Int32} {N i : Nat} {K : Int32 → Option β} (h : i < N) (hN : N < 2 ^ 31) : cz_rd f N (nI i) K = K (f i) := by
  unfold cz_rd
  rw [if_neg (nI_in h hN), nI_clamp (by omega)]
theorem pr_wr {β : Type} {f : Nat → Int32} {N i : Nat} {x : Int32} {K : (Nat → Int32) → Option β} (h : i < N) (hN : N < 2 ^ 31) : cz_wr f N (nI i) x K = K (upd f i x) := by
  unfold cz_wr
  rw [if_neg (nI_in h hN), nI_clamp (by omega)]
theorem pr_lt {α β : Type} {x : α} {K : α → Option β} : cz_lt x K = K x := rfl
theorem pr_nz {β : Type} {y : Int32} {K : Option β} (h : ¬ y = 0) : cz_nz y K = K := by
  unfold cz_nz
  rw [if_neg h]
theorem pr_b1 {α β : Type} {o : Option α} {a : α} {K : α → Option β} (h : o = some a) : cz_b1 o K = K a := by subst h; rfl
theorem pr_b2 {α β γ : Type} {o : Option (α × β)} {a : α} {b : β} {K : α → β → Option γ} (h : o = some (a, b)) : cz_b2 o K = K a b := by subst h; rfl
theorem pr_b3 {α β δ γ : Type} {o : Option (α × β × δ)} {a : α} {b : β} {d : δ} {K : α → β → δ → Option γ} (h : o = some (a, b, d)) : cz_b3 o K = K a b d := by subst h; rfl
theorem pf_fill_L (n : Nat) (w : Int32) : ∀ (d i k : Nat) (g : Nat → Int32), i + d = 120 → d < k → f_J7_fill_53178_L5 n w k (nI i) (nI 120) g = some (nI 120, nI 120, fun j => if i ≤ j ∧ j < 120 then w else g j) := by
  intro d
  induction d with
  | zero =>
    intro i k g h1 h2
    obtain ⟨k, rfl⟩ : ∃ q, k = q + 1 := ⟨k - 1, by omega⟩
    have : i = 120 := by omega
    subst this
    rw [f_J7_fill_53178_L5, if_pos (Int32.le_refl _)]
    congr 3
    funext j
    rw [if_neg (by omega)]
  | succ d ih =>
    intro i k g h1 h2
    obtain ⟨k, rfl⟩ : ∃ q, k = q + 1 := ⟨k - 1, by omega⟩
    rw [f_J7_fill_53178_L5, if_neg (nI_ge (by omega) (by omega)), pr_wr (by omega) (by omega), pr_lt]
    show f_J7_fill_53178_L5 n w k (nI i + 1) (nI 120) _ = _
    rw [nI_1, ih (i + 1) k _ (by omega) (by omega)]
    congr 3
    funext j
    by_cases h3 : j = i
    · subst h3
      rw [if_neg (by omega), if_pos (by omega), pk_us]
    · rw [pk_un h3]
      by_cases h4 : i ≤ j ∧ j < 120
      · rw [if_pos (by omega), if_pos h4]
      · rw [if_neg (by omega), if_neg h4]
theorem pf_fill {n : Nat} (hn : 120 < n) (f : Nat → Int32) (w : Int32) : f_J7_fill_53178 n f w = some (fun j => if j < 120 then w else f j) := by
  unfold f_J7_fill_53178
  refine Eq.trans (pr_b3 (pf_fill_L n w 120 0 n f rfl hn)) ?_
  congr 1
  funext j
  simp
