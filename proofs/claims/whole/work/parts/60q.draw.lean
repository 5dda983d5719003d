/-! the pure side, 18: a drawn chart, and what the model finds -/
def cC (kinds inner : Nat → Int32) (weight : Int32) (l j : Nat) : Nat := cn (kinds j) (inner j) weight l
/-- what a chart holds -/
def Cha (kinds : Nat → Int32) (M : Nat) (weight : Int32) (inner nears : Nat → Int32) : Prop :=
  Inn (BayTo kinds M 120) inner ∧ ∀ y x l : Nat, y < 10 → x < 12 → l < 3 → kinds (12 * y + x) = 0 → inner (12 * y + x) = -9 → nears (3 * (12 * y + x) + l) = bestOf (NR (cC kinds inner weight) 12 y x l 120)
section DRW
variable {n M : Nat} {kinds : Nat → Int32} {weight : Int32}
theorem pk_bases (hn : 200 ≤ n) (hK : Kin kinds) (hM : M ≤ 9) (hW : ∃ a : Nat, a ≤ 2 ∧ weight = nI a) (z : Int32) (i0 p0 q0 s0 : Nat → Int32) : ∃ inner bp bf bs b, f_X0_closeBays n i0 kinds (nI M) = some inner ∧ f_X0_layBases n z inner p0 q0 s0 kinds weight = some (b, bp, bf, bs) ∧ Inn (BayTo kinds M 120) inner ∧ Laid (cC kinds inner weight) bp bf bs ∧ Excl (cC kinds inner weight) := by
  obtain ⟨inner, e1, e2⟩ := pk_closeBays hn hM hK i0
  have hE : Excl (cC kinds inner weight) := cn_excl e2
  obtain ⟨bp, bf, bs, e3, e4⟩ := pk_layBases (n := n) (c := cC kinds inner weight) hn (fun l j => rfl) hE hW z p0 q0 s0
  exact ⟨inner, bp, bf, bs, _, e1, e3, e2, e4, hE⟩
theorem cC_4 {inner : Nat → Int32} (l j : Nat) : cC kinds inner weight l j ≤ 4 := cn_le _ _ _ _
theorem pk_charted (hn : 200 ≤ n) (hK : Kin kinds) (hM : M ≤ 9) (hW : ∃ a : Nat, a ≤ 2 ∧ weight = nI a) (z : Int32) (i0 n0 p0 q0 s0 : Nat → Int32) : ∃ inner bp bf bs b nears, f_X0_closeBays n i0 kinds (nI M) = some inner ∧ f_X0_layBases n z inner p0 q0 s0 kinds weight = some (b, bp, bf, bs) ∧ f_X0_measure n inner n0 bp bf bs kinds = some nears ∧ Cha kinds M weight inner nears := by
  obtain ⟨inner, bp, bf, bs, b, e1, e2, e3, e4, e5⟩ := pk_bases hn hK hM hW z i0 p0 q0 s0
  obtain ⟨nears, e6, e7⟩ := pk_measure (n := n) (inner := inner) (kinds := kinds) hn e4 e5 cC_4 n0
  exact ⟨inner, bp, bf, bs, b, nears, e1, e2, e6, e3, e7⟩
theorem pk_draw (hn : 200 ≤ n) (hK : Kin kinds) (hM : M ≤ 9) (hW : ∃ a : Nat, a ≤ 2 ∧ weight = nI a) (reach bend z t : Int32) (i0 o0 n0 p0 q0 s0 : Nat → Int32) : ∃ inner owners nears bp bf bs b, f_X0_draw n z t i0 o0 n0 p0 q0 s0 kinds (nI M) weight reach bend = some (b, nI (ct (TP kinds inner nears reach bend) 120), inner, owners, nears, bp, bf, bs) ∧ Cha kinds M weight inner nears ∧ ∀ j : Nat, j < 120 → owners j = OW kinds inner nears reach bend j := by
  obtain ⟨inner, bp, bf, bs, b, nears, e1, e2, e3, e4⟩ := pk_charted hn hK hM hW z i0 n0 p0 q0 s0
  obtain ⟨owners, e5, e6⟩ := pk_shareOut (n := n) (kinds := kinds) (inner := inner) (nears := nears) hn reach bend t o0
  refine ⟨inner, owners, nears, bp, bf, bs, b, ?_, e4, e6⟩
  unfold f_X0_draw
  rw [pr_b1 e1, pr_b4 e2, pr_b1 e3, pr_b2 e5]
end DRW
theorem inn_val {S : Nat → Nat → Nat → Prop} {inner : Nat → Int32} (h : Inn S inner) {y x : Nat} (hy : y < 10) (hx : x < 12) : inner (12 * y + x) = -9 ∨ ∃ l : Nat, l < 3 ∧ inner (12 * y + x) = nI l := by
  rcases h y x hy hx with ⟨e, _⟩ | ⟨l, hl, e, _⟩
  · exact Or.inl e
  · exact Or.inr ⟨l, hl, e⟩
theorem pm_find {n w h M : Nat} {kinds s inner nears : Nat → Int32} {weight reach bend : Int32} (hn : 200 ≤ n) (H : Cel w h kinds s) (hM : M ≤ 9) (s2 : s 2 = nI M) (s3 : s 3 = weight) (s4 : s 4 = reach) (s5 : s 5 = bend) (hC : Cha kinds M weight inner nears) (z : Int32) (i0 w0 n0 f0 : Nat → Int32) : ∃ innerOf whoseOf nearOf fromOf, f_X6_find n z s i0 w0 n0 f0 = some (nI (ct (TP kinds inner nears reach bend) 120), innerOf, whoseOf, nearOf, fromOf) ∧ ∀ y x : Nat, y < h → x < w → innerOf (w * y + x) = inner (12 * y + x) ∧ whoseOf (w * y + x) = OW kinds inner nears reach bend (12 * y + x) ∧ ∀ l : Nat, l < 3 → nearOf (120 * l + (w * y + x)) = bestOf (NR (cC kinds inner weight) 12 y x l 120) ∧ fromOf (120 * l + (w * y + x)) = fromIn w (NR (cC kinds inner weight) 12 y x l 120) := by
  obtain ⟨a1, a2, a3, a4, s0, s1, hin, ho⟩ := id H
  have hwh := pr_wh a2 a4
  obtain ⟨innerOf, e1, e2⟩ := pm_inner_L (n := n) hn H hM s2 (nI 0) (w * h) 0 n i0 (by omega) (by omega) (fun y x hy hx hlt => by omega)
  have hi : ∀ y x : Nat, y < h → x < w → innerOf (w * y + x) = inner (12 * y + x) := fun y x hy hx => inner_eq H hC.1 e2 hy hx
  obtain ⟨nearOf, fromOf, e3, e4⟩ := pm_nears_L (n := n) (innerOf := innerOf) hn s0 s1 s3 a1 a2 a4 (c := fun l j => cn (s (7 + j)) (innerOf j) weight l) (fun l j => rfl) (w * h) 0 n n0 f0 (by omega) (by omega) (fun y x l hy hx hl hlt => by omega)
  have hnr : ∀ y x l : Nat, l < 3 → NR (cC kinds inner weight) 12 y x l 120 = NR (fun l j => cn (s (7 + j)) (innerOf j) weight l) w y x l (w * h) := fun y x l hl => NR_eq H hC.1 hi y x hl
  obtain ⟨whoseOf, e5, e6⟩ := pm_whose_L (n := n) (nearOf := nearOf) (innerOf := innerOf) (nears := nears) hn H s4 s5 hi (fun y x hy hx => inn_val hC.1 (by omega) (by omega)) (fun y x hy hx q1 q2 l hl => by
    rw [(e4 y x l hy hx hl).1, hC.2 y x l (by omega) (by omega) hl q1 q2, hnr y x l hl]) (w * h) 0 n w0 (by omega) (by omega) (fun y x hy hx hlt => by omega)
  have ht : ct (fun j => TP kinds inner nears reach bend (12 * (j / w) + j % w)) (w * h) = ct (TP kinds inner nears reach bend) 120 := by
    refine (ct_grid a2 a4 (fun y x hy hx => ?_) (fun y x hy hx hno => ?_)).symm
    · rw [(dmw hx).1, (dmw hx).2]
    · refine Bool.eq_false_iff.mpr fun q => ?_
      have := (TP_iff.mp q).1
      rw [ho y x hy hx hno] at this
      exact absurd this (by decide)
  rw [ht] at e5
  refine ⟨innerOf, whoseOf, nearOf, fromOf, ?_, fun y x hy hx => ⟨hi y x hy hx, e6 y x hy hx, fun l hl => ?_⟩⟩
  · unfold f_X6_find
    have e1' : f_X6_find_L7 n s n 0 0 i0 = some (nI (w * h), nI 0, innerOf) := e1
    have e3' : f_X6_find_L34 n s innerOf n 0 n0 f0 = some (nI (w * h), nearOf, fromOf) := e3
    have e5' : f_X6_find_L69 n s innerOf nearOf n 0 (nI 0) w0 = some (nI (w * h), nI (ct (TP kinds inner nears reach bend) 120), whoseOf) := e5
    rw [pr_b3 e1', pr_b3 e3', pr_b3 e5']
  · rw [hnr y x l hl]
    exact e4 y x l hy hx hl
theorem OW_out {w h : Nat} {kinds s inner nears : Nat → Int32} {reach bend : Int32} (H : Cel w h kinds s) {y x : Nat} (hy : y < 10) (hx : x < 12) (hno : ¬ (y < h ∧ x < w)) : OW kinds inner nears reach bend (12 * y + x) = -9 := by
  obtain ⟨a1, a2, a3, a4, s0, s1, hin, ho⟩ := id H
  unfold OW
  rw [ho y x hy hx hno, if_neg (by decide)]
