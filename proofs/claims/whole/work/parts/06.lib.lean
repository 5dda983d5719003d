/-! own kit, 1: contracts of methods that make nothing; a world of cells before, the same cells behind -/
abbrev cz_A (ws : va_W) : Nat → Prop := fun q => ∃ (k : Nat) (e : va_E), ws[k]? = some (q, e)
theorem cz_nt : cz_nw.all Cond.onTables = true := by decide +kernel
def cz_N (U : State) : Prop := ∀ w ∈ cz_nw, va_Nw w U
theorem cz_N.use {s : State} {args : Array Value} {w : Cond} (h : cz_N s) (hw : w ∈ cz_nw) : w.before args s = true := va_Nw.use (List.all_eq_true.mp cz_nt w hw) (h w hw)
theorem cz_N.same {u U : State} (h : u.vm = U.vm) (hZ : cz_N u) : cz_N U := fun w hw => va_Nw.same (List.all_eq_true.mp cz_nt w hw) h (hZ w hw)
def cz_isN : Cond → Bool
  | .fieldLinkNest _ _ _ _ _ _ => true
  | .methodLinkNest _ _ _ _ => true
  | _ => false
theorem cz_warm1 {w : Cond} {s U : State} (hc : cz_isN w = true) (hW : s.WarmedH U.vm) (h : va_Nw w s) : va_Nw w U := by
  cases w <;> first | exact va_Nw.warmF hW h | exact va_Nw.warmM hW h | (exact absurd hc (by simp [cz_isN]))
theorem cz_ni : cz_nw.all cz_isN = true := by decide +kernel
theorem cz_N.warm {s U : State} (hW : s.WarmedH U.vm) (h : cz_N s) : cz_N U := fun w hw => cz_warm1 (List.all_eq_true.mp cz_ni w hw) hW (h w hw)
def cz_upd : va_W → List Nat → va_W → va_W
  | ws, i :: is, e :: es => cz_upd (ws.set i e) is es
  | ws, _, _ => ws
theorem cz_upd_at : ∀ (is : List Nat) (es ws : va_W) (k : Nat) (q : Nat × va_E), es.length = is.length → (cz_upd ws is es)[k]? = some q → q ∈ es ∨ (k ∉ is ∧ ws[k]? = some q)
  | [], [], ws, k, q, _, h => Or.inr ⟨List.not_mem_nil, h⟩
  | [], e :: es, ws, k, q, hl, h => by simp at hl
  | i :: is, [], ws, k, q, hl, h => by simp at hl
  | i :: is, e :: es, ws, k, q, hl, h => by
    have hl' : es.length = is.length := by simpa using hl
    rcases cz_upd_at is es (ws.set i e) k q hl' h with h1 | ⟨h1, h2⟩
    · exact Or.inl (List.mem_cons_of_mem _ h1)
    · by_cases hk : k = i
      · subst hk
        rw [List.getElem?_set] at h2
        simp only [if_true] at h2
        split at h2
        · cases h2
          exact Or.inl List.mem_cons_self
        · cases h2
      · refine Or.inr ⟨fun hm => ?_, ?_⟩
        · rcases List.mem_cons.mp hm with h3 | h3
          · exact hk h3
          · exact h1 h3
        · rw [List.getElem?_set_ne (Ne.symm hk)] at h2
          exact h2
theorem cz_at {ws wc : va_W} {is : List Nat} (hC : is.map (fun i => ws[i]?) = wc.map some) {k : Nat} {q : Nat × va_E} (h : wc[k]? = some q) : ∃ i, is[k]? = some i ∧ ws[i]? = some q := by
  have h1 : (wc.map some)[k]? = some (some q) := by rw [List.getElem?_map, h]; rfl
  rw [← hC, List.getElem?_map] at h1
  cases hi : is[k]? with
  | none => rw [hi] at h1; cases h1
  | some i => rw [hi] at h1; exact ⟨i, rfl, Option.some.inj h1⟩
theorem cz_sub {D : va_G} {cl : List vw_C} {ws wc : va_W} {H : Heap} {is : List Nat} (hC : is.map (fun i => ws[i]?) = wc.map some) (hP : va_P D cl ws H) : va_P D cl wc H := fun k q h => by
  obtain ⟨i, -, h2⟩ := cz_at hC h
  exact hP i q h2
theorem cz_P_upd {D : va_G} {cl : List vw_C} {A : Nat → Prop} {ws wc w1 : va_W} {H H1 : Heap} {is : List Nat} (hP : va_P D cl ws H) (hD : va_D A ws) (hC : is.map (fun i => ws[i]?) = wc.map some) (hl : w1.length = is.length) (hP1 : va_P D cl w1 H1) (hk : ∀ q : Nat, q < H.size → ¬ cz_A wc q → H1[q]? = H[q]?) : va_P D cl (cz_upd ws is w1) H1 := fun k q h => by
  rcases cz_upd_at is w1 ws k q hl h with h1 | ⟨h1, h2⟩
  · obtain ⟨j, hj⟩ := List.getElem?_of_mem h1
    exact hP1 j q hj
  · refine (hP k q h2).kept (hk q.1 (hP k q h2).lt ?_)
    rintro ⟨j, e, hj⟩
    obtain ⟨i, h3, h4⟩ := cz_at hC hj
    have := hD.1 k i q (q.1, e) h2 h4 rfl
    subst this
    exact h1 (List.mem_of_getElem? h3)
theorem cz_D {A : Nat → Prop} {ws ws' : va_W} (h : ws.map Prod.fst = ws'.map Prod.fst) (hD : va_D A ws) : va_D A ws' := by
  have hg : ∀ (k : Nat) (q : Nat × va_E), ws'[k]? = some q → ∃ q0 : Nat × va_E, ws[k]? = some q0 ∧ q0.1 = q.1 := fun k q hk => by
    have h1 : (ws'.map Prod.fst)[k]? = some q.1 := by rw [List.getElem?_map, hk]; rfl
    rw [← h, List.getElem?_map] at h1
    cases hw : ws[k]? with
    | none => rw [hw] at h1; cases h1
    | some q0 => rw [hw] at h1; exact ⟨q0, rfl, Option.some.inj h1⟩
  refine ⟨fun i j a b hi hj hab => ?_, fun k q hk => ?_⟩
  · obtain ⟨a0, h1, h2⟩ := hg i a hi
    obtain ⟨b0, h3, h4⟩ := hg j b hj
    exact hD.1 i j a0 b0 h1 h3 (by rw [h2, h4, hab])
  · obtain ⟨q0, h1, h2⟩ := hg k q hk
    rw [← h2]
    exact hD.2 k q0 h1
theorem cz_P_up2 {D : va_G} {cl : List vw_C} {A : Nat → Prop} {ws wc w1 ws1 : va_W} {H H1 : Heap} {is isR : List Nat} (hP : va_P D cl ws H) (hD : va_D A ws) (hC : is.map (fun i => ws[i]?) = wc.map some) (hU : is.map (fun i => ws1[i]?) = w1.map some) (hR : isR.map (fun i => ws1[i]?) = isR.map (fun i => ws[i]?)) (hcov : ((List.range ws1.length).all fun k => is.contains k || isR.contains k) = true) (hP1 : va_P D cl w1 H1) (hk : ∀ q : Nat, q < H.size → ¬ cz_A wc q → H1[q]? = H[q]?) : va_P D cl ws1 H1 := fun k q h => by
  have hlt : k < ws1.length := (List.getElem?_eq_some_iff.mp h).1
  have hc := List.all_eq_true.mp hcov k (List.mem_range.mpr hlt)
  by_cases hi : k ∈ is
  · obtain ⟨j, hj⟩ := List.getElem?_of_mem hi
    have h1 : (is.map (fun i => ws1[i]?))[j]? = some (some q) := by rw [List.getElem?_map, hj]; exact congrArg some h
    rw [hU, List.getElem?_map] at h1
    cases hw : w1[j]? with
    | none => rw [hw] at h1; cases h1
    | some q1 => rw [hw] at h1; have := Option.some.inj (Option.some.inj h1); subst this; exact hP1 j q1 hw
  · have hr : k ∈ isR := by
      rcases Bool.or_eq_true_iff.mp hc with h1 | h1
      · exact absurd (List.contains_iff_mem.mp h1) hi
      · exact List.contains_iff_mem.mp h1
    obtain ⟨j, hj⟩ := List.getElem?_of_mem hr
    have h1 : (isR.map (fun i => ws1[i]?))[j]? = some (some q) := by rw [List.getElem?_map, hj]; exact congrArg some h
    rw [hR, List.getElem?_map, hj] at h1
    have h2 : ws[k]? = some q := Option.some.inj h1
    refine (hP k q h2).kept (hk q.1 (hP k q h2).lt ?_)
    rintro ⟨j, e, hj⟩
    obtain ⟨i, h3, h4⟩ := cz_at hC hj
    have := hD.1 k i q (q.1, e) h2 h4 rfl
    subst this
    exact hi (List.mem_of_getElem? h3)
def cz_Pc (D : va_G) (cI : ClassId) (av : List Value) (ws : va_W) : Array Value → State → Prop := va_Pc av (fun U => va_P D vwCl ws U.heap ∧ va_K D vwCl [(cI, .int)] U ∧ cz_N U ∧ va_D (fun _ => True) ws)
def cz_Qc (D : va_G) (res : Option Value) (ws ws' : va_W) : Array Value → State → Outcome → State → Prop := fun _ st oc t => oc = .returned res ∧ va_P D vwCl ws' t.heap ∧ va_F (cz_A ws) st t
abbrev cz_rm (fr lo : Nat) : Room := { frames := fr, cells := 0, slots := 0, locals := lo }
def cz_M (l : Launch) (y : MethodName) (cc : ByteArray) (mL : Nat) (rt : Option FieldType) (fr lo : Nat) (D : va_G) (cI : ClassId) (av : List Value) (ws : va_W) (res : Option Value) (ws' : va_W) : Prop :=
  Met l y (Cond.code y cc mL rt :: wA) (cz_rm fr lo) (cz_Pc D cI av ws) (cz_Qc D res ws ws') 0 0 (cz_A ws)
theorem cz_start {l : Launch} {y : MethodName} {cc : ByteArray} {mL : Nat} {rt : Option FieldType} {fr lo : Nat} {D : va_G} {cI : ClassId} {av : List Value} {ws : va_W} {res : Option Value} {ws' : va_W} (hy : plainName y.cls = true) (hn : (lg_sl av).length ≤ mL)
    (body : ∀ (p : Program) (e : Env) (s : State) (m : MethodId) (below : List Frame) (meth : Method) (c : Code), p.tables.exec = Jvm.exec → c.code = cc → meth.sig.returnType = rt → c.maxLocals = mL → meth.locks = false → s.vm.findClass y.cls = some m.cls → (∀ w ∈ wA, w.before av.toArray s = true) → va_K D vwCl [(cI, .int)] s → cz_N s → va_P D vwCl ws s.heap → va_D (cz_A ws) ws → va_S (cz_A ws) s.heap s.heap [] → ∀ ls : Array Slot, lv_has ls mL (lv_args 0 av) →
      W p l e (cz_rm fr lo) s m av.toArray below meth c s.heap [] 0 0 (MQ below (cz_Qc D res ws ws') av.toArray s 0 0 (cz_A ws)) (F0 m 0 ls [])) : cz_M l y cc mL rt fr lo D cI av ws res ws' := by
  refine Met.ofW (cc := cc) (maxL := mL) (ret := rt) hy rfl ?_
  intro p e s m args below meth c s₁ B hml hv
  obtain ⟨rfl, hP, hK, hN, hD0⟩ := hv
  have hts := atoms_spec (ws := Cond.code y cc mL rt :: wA) B.pre
  have hown : s.vm.findClass y.cls = some m.cls := findClass_of_methodNamed B.named
  have hl := lv_entry av (n := mL) hn
  rw [lg_entry_eq]
  exact body p e s m below meth c B.exec B.bytes B.returns hml B.notSynchronized hown (fun w h => hts w (List.mem_cons_of_mem _ h)) hK hN hP ⟨hD0.1, fun k q hk => ⟨k, q.2, hk⟩⟩ va_S.rf _ hl
theorem cz_iret {p : Program} {l : Launch} {e : Env} {R : Room} {s : State} {m : MethodId} {args : Array Value} {below : List Frame} {meth : Method} {c : Code} {H : Heap} {locs : List Loc} {cc : ByteArray} {D : va_G} {ws ws' : va_W} {v : Int32} {pc : Nat} {ls : Array Slot} (hx : p.tables.exec = Jvm.exec) (hb : c.code = cc) (hr : meth.sig.returnType = some .int) (hlk : meth.locks = false) (hP : va_P D vwCl ws' H) (hS : va_S (cz_A ws) s.heap H locs) (hdg : decode cc pc = .ok (.ireturn, 1)) :
    W p l e R s m args below meth c H locs 0 0 (MQ below (cz_Qc D (some (.int v)) ws ws') args s 0 0 (cz_A ws)) (F0 m pc ls [.int v]) :=
  W.iret hx hb hr (fun t ht _ => ⟨rfl, by rw [ht]; exact hP, hS.F ht⟩) hS.2.2 hdg hlk
theorem cz_zret {p : Program} {l : Launch} {e : Env} {R : Room} {s : State} {m : MethodId} {args : Array Value} {below : List Frame} {meth : Method} {c : Code} {H : Heap} {locs : List Loc} {cc : ByteArray} {D : va_G} {ws ws' : va_W} {v : Int32} {pc : Nat} {ls : Array Slot} (hx : p.tables.exec = Jvm.exec) (hb : c.code = cc) (hr : meth.sig.returnType = some .boolean) (hlk : meth.locks = false) (hn : narrow .boolean (.int v) = .int v) (hP : va_P D vwCl ws' H) (hS : va_S (cz_A ws) s.heap H locs) (hdg : decode cc pc = .ok (.ireturn, 1)) :
    W p l e R s m args below meth c H locs 0 0 (MQ below (cz_Qc D (some (.int v)) ws ws') args s 0 0 (cz_A ws)) (F0 m pc ls [.int v]) :=
  W.zret hx hb hr hn (fun t ht _ => ⟨rfl, by rw [ht]; exact hP, hS.F ht⟩) hS.2.2 hdg hlk
theorem cz_vret {p : Program} {l : Launch} {e : Env} {R : Room} {s : State} {m : MethodId} {args : Array Value} {below : List Frame} {meth : Method} {c : Code} {H : Heap} {locs : List Loc} {cc : ByteArray} {D : va_G} {ws ws' : va_W} {pc : Nat} {ls : Array Slot} (hx : p.tables.exec = Jvm.exec) (hb : c.code = cc) (hr : meth.sig.returnType = none) (hlk : meth.locks = false) (hP : va_P D vwCl ws' H) (hS : va_S (cz_A ws) s.heap H locs) (hdg : decode cc pc = .ok (.return_, 1)) :
    W p l e R s m args below meth c H locs 0 0 (MQ below (cz_Qc D none ws ws') args s 0 0 (cz_A ws)) (F0 m pc ls []) :=
  W.vret hx hb hr (fun t ht _ => ⟨rfl, by rw [ht]; exact hP, hS.F ht⟩) hS.2.2 hdg hlk
theorem cz_blind {D : va_G} {cI : ClassId} {av : List Value} {ws : va_W} : FrameBlind (cz_Pc D cI av ws) := fun a U g mk q => by
  obtain ⟨q0, qP, qK, qN, qD⟩ := q
  exact ⟨q0, qP, va_K.moved (u := U) (U := U.calling g mk a) (Vm.Alike.refl U.vm) qK, cz_N.same (u := U) (U := U.calling g mk a) rfl qN, qD⟩
theorem cz_good (y : MethodName) {bytes : ByteArray} {maxL : Nat} {ret : Option FieldType} (m5 : Cond.code y bytes maxL ret ∈ wA) : GoodIn wA (Cond.code y bytes maxL ret :: wA) := fun w h => by
  rcases List.mem_cons.mp h with rfl | h
  · exact ⟨m5, (wA_good _ m5).2⟩
  · exact ⟨h, (wA_good _ h).2⟩
section CZC
variable {p : Program} {l : Launch} {e : Env} {R : Room} {s : State} {m : MethodId} {args : Array Value} {below : List Frame} {meth : Method} {c : Code} {H : Heap} {locs : List Loc} {cells slots : Nat} {Q : State → Prop} {cc : ByteArray} {nL : Nat} {own C : String} {index maxL fr lo pc ci q0 : Nat} {y : MethodName} {bytes : ByteArray} {ret : Option FieldType} {D : va_G} {cI : ClassId} {As rest st0 : List Value} {b : Addr} {Wc Wc' ws ws1 rs : va_W} {isR as : List Nat} {res : Option Value} {A : Nat → Prop} {ls : Array Slot} {q : vw_C} {fs : List Value}
theorem cz_after {mc : Nat} {Qa : State → Outcome → State → Prop} {is : List Nat} (hr : va_Run p l e R s m args below meth c H locs cells slots 0 0 (F0 m pc ls st0) rest Qa (cz_A Wc)) (hQ : ∀ st o t, Qa st o t → o = .returned res ∧ va_P D vwCl Wc' t.heap ∧ va_F (cz_A Wc) st t) (hP : va_P D vwCl ws H) (hD : va_D A ws) (hS : va_S A s.heap H locs) (hC : is.map (fun i => ws[i]?) = Wc.map some) (hU : is.map (fun i => ws1[i]?) = Wc'.map some) (hR1 : isR.map (fun i => ws[i]?) = rs.map some) (hR2 : isR.map (fun i => ws1[i]?) = rs.map some) (hcov : ((List.range ws1.length).all fun k => is.contains k || isR.contains k) = true) (hf1 : ws.map Prod.fst = as) (hf2 : ws1.map Prod.fst = as)
    (kk : ∀ (H1 : Heap) (locs1 : List Loc), va_P D vwCl ws1 H1 → va_D A ws1 → va_S A s.heap H1 locs1 → W p l e R s m args below meth c H1 locs1 cells slots Q (F0 m (pc + 3) ls (res.toList ++ rest))) : W p l e R s m args below meth c H locs cells slots Q (F0 m pc ls st0) := by
  intro T hT X
  obtain ⟨v, st₀, t, T', L, h0, X', hL, e1, e2, hq, st⟩ := hr T hT X
  obtain ⟨hv, hp, hz, hk⟩ := hQ _ _ _ hq
  cases hv
  rw [h0] at hz hk
  have hfree : ∀ q, cz_A Wc q → A q := fun q hq => by
    obtain ⟨k, e, hk⟩ := hq
    obtain ⟨i, -, h2⟩ := cz_at hC hk
    exact hD.2 i _ h2
  obtain ⟨t2, a1, b1⟩ := kk T'.heap (locs ++ L) (by rw [e1]; exact cz_P_up2 hP hD hC hU (hR2.trans hR1.symm) hcov hp hk) (cz_D (hf1.trans hf2.symm) hD)
    ⟨Nat.le_trans hS.1 (by rw [e1]; exact hz), fun q h1 h2 => by rw [e1, hk q (Nat.lt_of_lt_of_le h1 hS.1) (fun z => h2 (hfree q z))]; exact hS.2.1 q h1 h2, fun q hq => by
      rcases List.mem_append.mp hq with h | h
      · exact hS.2.2 q h
      · exact hfree _ (hL q h)⟩ T' rfl X'
  exact ⟨t2, st t2 a1, b1⟩
theorem cz_pre {is : List Nat} {av : List Value} (hK : va_K D vwCl [(cI, .int)] s) (hN : cz_N s) (hP : va_P D vwCl ws H) (hD : va_D A ws) (hnd : va_nd is = true) (hC : is.map (fun i => ws[i]?) = Wc.map some) : ∀ U : State, U.heap = H → s.WarmedH U.vm → cz_Pc D cI av Wc av.toArray U := fun U hU hW =>
  ⟨rfl, by rw [hU]; exact cz_sub hC hP, va_K.moved hW.alike hK, hN.warm hW, (hD.sub is hnd hC).weaken (fun _ _ _ _ => trivial)⟩
theorem cz_callV {is : List Nat} {n : Nat} (S : CallFix p m c cc nL s args wA own) (hM : cz_M l y bytes maxL ret fr lo D cI (.ref b :: As) Wc res Wc') (m1 : Cond.methodLink own index y ∈ wA) (m2 : Cond.instanceMethod y ∈ wA) (m3 : Cond.selects C y y ∈ wA) (m4 : Cond.initialized C ∈ wA) (m5 : Cond.code y bytes maxL ret ∈ wA)
    (hd : y.cls = C ∧ y.cls ≠ "java/lang/invoke/MethodHandle" ∧ y.cls ≠ "java/lang/invoke/VarHandle" ∧ (parseMethodDescriptor y.desc).map (fun d => d.parameters.length) = some n) (hR : fr + 1 ≤ R.frames ∧ 8 + (maxL + 11) + lo ≤ R.locals)
    (hK : va_K D vwCl [(cI, .int)] s) (hN : cz_N s) (hP : va_P D vwCl ws H) (hD : va_D A ws) (hS : va_S A s.heap H locs) (hnd : va_nd is = true) (hC : is.map (fun i => ws[i]?) = Wc.map some) (hU : is.map (fun i => ws1[i]?) = Wc'.map some) (hR1 : isR.map (fun i => ws[i]?) = rs.map some) (hR2 : isR.map (fun i => ws1[i]?) = rs.map some) (hcov : ((List.range ws1.length).all fun k => is.contains k || isR.contains k) = true) (hf1 : ws.map Prod.fst = as) (hf2 : ws1.map Prod.fst = as)
    (hc : vwCl[ci]? = some q) (hq : q.1 = C) (he : Wc[q0]? = some (b, .inr (ci, fs))) (hn : As.length = n) (hsz : ls.size = nL) (hst : st0 = As.reverse ++ .ref b :: rest) (hW : (rest.map fun v => v.category).sum ≤ 8) (hdg : decode cc pc = .ok (.invokevirtual index, 3)) (hf : cells ≤ R.cells ∧ slots ≤ R.slots)
    (kk : ∀ (H1 : Heap) (locs1 : List Loc), va_P D vwCl ws1 H1 → va_D A ws1 → va_S A s.heap H1 locs1 → W p l e R s m args below meth c H1 locs1 cells slots Q (F0 m (pc + 3) ls (res.toList ++ rest))) : W p l e R s m args below meth c H locs cells slots Q (F0 m pc ls st0) := by
  obtain ⟨hC1, hd⟩ := hd
  subst hC1
  have ok : ∀ w ∈ wA, w.before args s = true := S.2.2.2.2
  have cw : CallW R s args own y.cls index y bytes maxL ret (Cond.code y bytes maxL ret :: wA) (cz_rm fr lo) 0 0 n := ⟨callB_of n ok (cz_good y m5) rfl rfl rfl (ok _ m4) (ok _ m1) hd hR, ok _ m2, ok _ m3⟩
  have hrv := va_recv hK (cz_sub hC hP) hc he
  rw [hq] at hrv
  refine cz_after (mc := 0) (va_runV (C := y.cls) S hM cw ⟨cz_blind, hrv, cz_pre hK hN hP hD hnd hC⟩ rfl hn hsz (by rw [← hst]) (lv_room hW) hdg hf) (fun _ _ _ h => h) hP hD hS hC hU hR1 hR2 hcov hf1 hf2 kk
theorem cz_callS {is : List Nat} {n : Nat} (S : CallFix p m c cc nL s args wA own) (hM : cz_M l y bytes maxL ret fr lo D cI As Wc res Wc') (m1 : Cond.methodLink own index y ∈ wA) (m2 : Cond.static y ∈ wA) (m4 : Cond.initialized y.cls ∈ wA) (m5 : Cond.code y bytes maxL ret ∈ wA)
    (hd : y.cls ≠ "java/lang/invoke/MethodHandle" ∧ y.cls ≠ "java/lang/invoke/VarHandle" ∧ (parseMethodDescriptor y.desc).map (fun d => d.parameters.length) = some n) (hR : fr + 1 ≤ R.frames ∧ 8 + (maxL + 11) + lo ≤ R.locals)
    (hK : va_K D vwCl [(cI, .int)] s) (hN : cz_N s) (hP : va_P D vwCl ws H) (hD : va_D A ws) (hS : va_S A s.heap H locs) (hnd : va_nd is = true) (hC : is.map (fun i => ws[i]?) = Wc.map some) (hU : is.map (fun i => ws1[i]?) = Wc'.map some) (hR1 : isR.map (fun i => ws[i]?) = rs.map some) (hR2 : isR.map (fun i => ws1[i]?) = rs.map some) (hcov : ((List.range ws1.length).all fun k => is.contains k || isR.contains k) = true) (hf1 : ws.map Prod.fst = as) (hf2 : ws1.map Prod.fst = as)
    (hn : As.length = n) (hsz : ls.size = nL) (hst : st0 = As.reverse ++ rest) (hW : (rest.map fun v => v.category).sum ≤ 8) (hdg : decode cc pc = .ok (.invokestatic index, 3)) (hf : cells ≤ R.cells ∧ slots ≤ R.slots)
    (kk : ∀ (H1 : Heap) (locs1 : List Loc), va_P D vwCl ws1 H1 → va_D A ws1 → va_S A s.heap H1 locs1 → W p l e R s m args below meth c H1 locs1 cells slots Q (F0 m (pc + 3) ls (res.toList ++ rest))) : W p l e R s m args below meth c H locs cells slots Q (F0 m pc ls st0) := by
  have ok : ∀ w ∈ wA, w.before args s = true := S.2.2.2.2
  have cw : CallB R s args own index y bytes maxL ret (Cond.code y bytes maxL ret :: wA) (cz_rm fr lo) 0 0 n := callB_of n ok (cz_good y m5) rfl rfl rfl (ok _ m4) (ok _ m1) hd hR
  refine cz_after (mc := 0) (va_runS S hM ⟨cw, ok _ m2⟩ ⟨cz_blind, cz_pre hK hN hP hD hnd hC⟩ rfl hn hsz (by rw [← hst]) (lv_room hW) hdg hf) (fun _ _ _ h => h) hP hD hS hC hU hR1 hR2 hcov hf1 hf2 kk
theorem cz_callSN {is : List Nat} {n : Nat} {host : String} (S : CallFix p m c cc nL s args wA own) (hM : cz_M l y bytes maxL ret fr lo D cI As Wc res Wc') (m1 : Cond.methodLinkNest own index y host ∈ cz_nw) (m2 : Cond.static y ∈ wA) (m4 : Cond.initialized y.cls ∈ wA) (m5 : Cond.code y bytes maxL ret ∈ wA)
    (hd : y.cls ≠ "java/lang/invoke/MethodHandle" ∧ y.cls ≠ "java/lang/invoke/VarHandle" ∧ (parseMethodDescriptor y.desc).map (fun d => d.parameters.length) = some n) (hR : fr + 1 ≤ R.frames ∧ 8 + (maxL + 11) + lo ≤ R.locals)
    (hK : va_K D vwCl [(cI, .int)] s) (hN : cz_N s) (hP : va_P D vwCl ws H) (hD : va_D A ws) (hS : va_S A s.heap H locs) (hnd : va_nd is = true) (hC : is.map (fun i => ws[i]?) = Wc.map some) (hU : is.map (fun i => ws1[i]?) = Wc'.map some) (hR1 : isR.map (fun i => ws[i]?) = rs.map some) (hR2 : isR.map (fun i => ws1[i]?) = rs.map some) (hcov : ((List.range ws1.length).all fun k => is.contains k || isR.contains k) = true) (hf1 : ws.map Prod.fst = as) (hf2 : ws1.map Prod.fst = as)
    (hn : As.length = n) (hsz : ls.size = nL) (hst : st0 = As.reverse ++ rest) (hW : (rest.map fun v => v.category).sum ≤ 8) (hdg : decode cc pc = .ok (.invokestatic index, 3)) (hf : cells ≤ R.cells ∧ slots ≤ R.slots)
    (kk : ∀ (H1 : Heap) (locs1 : List Loc), va_P D vwCl ws1 H1 → va_D A ws1 → va_S A s.heap H1 locs1 → W p l e R s m args below meth c H1 locs1 cells slots Q (F0 m (pc + 3) ls (res.toList ++ rest))) : W p l e R s m args below meth c H locs cells slots Q (F0 m pc ls st0) := by
  have ok : ∀ w ∈ wA, w.before args s = true := S.2.2.2.2
  have cw : va_CN R s args own index y host bytes maxL ret (Cond.code y bytes maxL ret :: wA) (cz_rm fr lo) 0 0 n := va_cnB n ok (cz_good y m5) rfl rfl rfl (hN _ m1) (ok _ m4) hd hR
  refine cz_after (mc := 0) (va_runSN S hM ⟨cw, ok _ m2, trivial⟩ ⟨cz_blind, cz_pre hK hN hP hD hnd hC⟩ rfl hn hsz (by rw [← hst]) (lv_room hW) hdg hf) (fun _ _ _ h => h) hP hD hS hC hU hR1 hR2 hcov hf1 hf2 kk
end CZC
/-! own kit, 2: the pure side: what a method answers, as a function that may fail -/
def cz_rd {β : Type} (f : Nat → Int32) (n : Nat) (i : Int32) (K : Int32 → Option β) : Option β := if i < 0 ∨ n ≤ i.toNatClampNeg then none else K (f i.toNatClampNeg)
def cz_wr {β : Type} (f : Nat → Int32) (n : Nat) (i x : Int32) (K : (Nat → Int32) → Option β) : Option β := if i < 0 ∨ n ≤ i.toNatClampNeg then none else K (upd f i.toNatClampNeg x)
def cz_nz {β : Type} (y : Int32) (K : Option β) : Option β := if y = 0 then none else K
def cz_lt {α β : Type} (x : α) (K : α → Option β) : Option β := K x
theorem cz_rdE {β : Type} {f : Nat → Int32} {n : Nat} {i : Int32} {K : Int32 → Option β} {r : β} (h : cz_rd f n i K = some r) : vp_in i n ∧ K (f i.toNatClampNeg) = some r := by
  unfold cz_rd at h
  split at h
  · cases h
  · rename_i hc
    exact ⟨hc, h⟩
theorem cz_wrE {β : Type} {f : Nat → Int32} {n : Nat} {i x : Int32} {K : (Nat → Int32) → Option β} {r : β} (h : cz_wr f n i x K = some r) : vp_in i n ∧ K (upd f i.toNatClampNeg x) = some r := by
  unfold cz_wr at h
  split at h
  · cases h
  · rename_i hc
    exact ⟨hc, h⟩
theorem cz_nzE {β : Type} {y : Int32} {K : Option β} {r : β} (h : cz_nz y K = some r) : ¬ y = 0 ∧ K = some r := by
  unfold cz_nz at h
  split at h
  · cases h
  · rename_i hc
    exact ⟨hc, h⟩
theorem cz_ltE {α β : Type} {x y : α} {K : α → Option β} {r : β} (e : y = x) (h : cz_lt x K = some r) : K y = some r := by subst e; exact h
theorem cz_ltX {α β : Type} {x : α} {K : α → Option β} {r : β} (h : cz_lt x K = some r) : ∃ y, x = y ∧ K y = some r := ⟨x, rfl, h⟩
theorem cz_t {α : Type} {c : Prop} [Decidable c] {a b r : α} (hc : c) (h : (if c then a else b) = r) : a = r := by rw [if_pos hc] at h; exact h
theorem cz_f {α : Type} {c : Prop} [Decidable c] {a b r : α} (hc : ¬ c) (h : (if c then a else b) = r) : b = r := by rw [if_neg hc] at h; exact h
theorem cz_i {α : Type} {a b : α} (h : some a = some b) : a = b := Option.some.inj h
def cz_b1 {A1 β : Type} (o : Option (A1)) (K : A1 → Option β) : Option β := o.bind (fun p => K p)
theorem cz_e1 {A1 β : Type} {o : Option (A1)} {K : A1 → Option β} {r : β} (h : cz_b1 o K = some r) : ∃ (a1 : A1), o = some a1 ∧ K a1 = some r := by
  cases o with
  | none => cases h
  | some p => exact ⟨p, rfl, h⟩
def cz_s1 {ρ γ A1 : Type} (o : Option (ρ ⊕ (A1))) (J : ρ → Option γ) (K : A1 → Option γ) : Option γ := o.bind (fun z => match z with | .inl r => J r | .inr p => K p)
theorem cz_z1 {ρ γ A1 : Type} {o : Option (ρ ⊕ (A1))} {J : ρ → Option γ} {K : A1 → Option γ} {r : γ} (h : cz_s1 o J K = some r) : ∃ z, o = some z ∧ ((∃ q, z = .inl q ∧ J q = some r) ∨ ∃ (a1 : A1), z = .inr a1 ∧ K a1 = some r) := by
  cases o with
  | none => cases h
  | some z =>
    cases z with
    | inl q => exact ⟨_, rfl, Or.inl ⟨q, rfl, h⟩⟩
    | inr p => exact ⟨_, rfl, Or.inr ⟨p, rfl, h⟩⟩
def cz_b2 {A1 A2 β : Type} (o : Option (A1 × A2)) (K : A1 → A2 → Option β) : Option β := o.bind (fun p => K (p.1) (p.2))
theorem cz_e2 {A1 A2 β : Type} {o : Option (A1 × A2)} {K : A1 → A2 → Option β} {r : β} (h : cz_b2 o K = some r) : ∃ (a1 : A1) (a2 : A2), o = some (a1, a2) ∧ K a1 a2 = some r := by
  cases o with
  | none => cases h
  | some p => exact ⟨p.1, p.2, rfl, h⟩
theorem cz_j2 {A1 A2 : Type} {a1 b1 : A1} {a2 b2 : A2} (h : (a1, a2) = (b1, b2)) : a1 = b1 ∧ a2 = b2 := by cases h; exact ⟨rfl, rfl⟩
def cz_s2 {ρ γ A1 A2 : Type} (o : Option (ρ ⊕ (A1 × A2))) (J : ρ → Option γ) (K : A1 → A2 → Option γ) : Option γ := o.bind (fun z => match z with | .inl r => J r | .inr p => K (p.1) (p.2))
theorem cz_z2 {ρ γ A1 A2 : Type} {o : Option (ρ ⊕ (A1 × A2))} {J : ρ → Option γ} {K : A1 → A2 → Option γ} {r : γ} (h : cz_s2 o J K = some r) : ∃ z, o = some z ∧ ((∃ q, z = .inl q ∧ J q = some r) ∨ ∃ (a1 : A1) (a2 : A2), z = .inr (a1, a2) ∧ K a1 a2 = some r) := by
  cases o with
  | none => cases h
  | some z =>
    cases z with
    | inl q => exact ⟨_, rfl, Or.inl ⟨q, rfl, h⟩⟩
    | inr p => exact ⟨_, rfl, Or.inr ⟨p.1, p.2, rfl, h⟩⟩
def cz_b3 {A1 A2 A3 β : Type} (o : Option (A1 × A2 × A3)) (K : A1 → A2 → A3 → Option β) : Option β := o.bind (fun p => K (p.1) (p.2.1) (p.2.2))
theorem cz_e3 {A1 A2 A3 β : Type} {o : Option (A1 × A2 × A3)} {K : A1 → A2 → A3 → Option β} {r : β} (h : cz_b3 o K = some r) : ∃ (a1 : A1) (a2 : A2) (a3 : A3), o = some (a1, a2, a3) ∧ K a1 a2 a3 = some r := by
  cases o with
  | none => cases h
  | some p => exact ⟨p.1, p.2.1, p.2.2, rfl, h⟩
theorem cz_j3 {A1 A2 A3 : Type} {a1 b1 : A1} {a2 b2 : A2} {a3 b3 : A3} (h : (a1, a2, a3) = (b1, b2, b3)) : a1 = b1 ∧ a2 = b2 ∧ a3 = b3 := by cases h; exact ⟨rfl, rfl, rfl⟩
def cz_s3 {ρ γ A1 A2 A3 : Type} (o : Option (ρ ⊕ (A1 × A2 × A3))) (J : ρ → Option γ) (K : A1 → A2 → A3 → Option γ) : Option γ := o.bind (fun z => match z with | .inl r => J r | .inr p => K (p.1) (p.2.1) (p.2.2))
theorem cz_z3 {ρ γ A1 A2 A3 : Type} {o : Option (ρ ⊕ (A1 × A2 × A3))} {J : ρ → Option γ} {K : A1 → A2 → A3 → Option γ} {r : γ} (h : cz_s3 o J K = some r) : ∃ z, o = some z ∧ ((∃ q, z = .inl q ∧ J q = some r) ∨ ∃ (a1 : A1) (a2 : A2) (a3 : A3), z = .inr (a1, a2, a3) ∧ K a1 a2 a3 = some r) := by
  cases o with
  | none => cases h
  | some z =>
    cases z with
    | inl q => exact ⟨_, rfl, Or.inl ⟨q, rfl, h⟩⟩
    | inr p => exact ⟨_, rfl, Or.inr ⟨p.1, p.2.1, p.2.2, rfl, h⟩⟩
def cz_b4 {A1 A2 A3 A4 β : Type} (o : Option (A1 × A2 × A3 × A4)) (K : A1 → A2 → A3 → A4 → Option β) : Option β := o.bind (fun p => K (p.1) (p.2.1) (p.2.2.1) (p.2.2.2))
theorem cz_e4 {A1 A2 A3 A4 β : Type} {o : Option (A1 × A2 × A3 × A4)} {K : A1 → A2 → A3 → A4 → Option β} {r : β} (h : cz_b4 o K = some r) : ∃ (a1 : A1) (a2 : A2) (a3 : A3) (a4 : A4), o = some (a1, a2, a3, a4) ∧ K a1 a2 a3 a4 = some r := by
  cases o with
  | none => cases h
  | some p => exact ⟨p.1, p.2.1, p.2.2.1, p.2.2.2, rfl, h⟩
theorem cz_j4 {A1 A2 A3 A4 : Type} {a1 b1 : A1} {a2 b2 : A2} {a3 b3 : A3} {a4 b4 : A4} (h : (a1, a2, a3, a4) = (b1, b2, b3, b4)) : a1 = b1 ∧ a2 = b2 ∧ a3 = b3 ∧ a4 = b4 := by cases h; exact ⟨rfl, rfl, rfl, rfl⟩
def cz_s4 {ρ γ A1 A2 A3 A4 : Type} (o : Option (ρ ⊕ (A1 × A2 × A3 × A4))) (J : ρ → Option γ) (K : A1 → A2 → A3 → A4 → Option γ) : Option γ := o.bind (fun z => match z with | .inl r => J r | .inr p => K (p.1) (p.2.1) (p.2.2.1) (p.2.2.2))
theorem cz_z4 {ρ γ A1 A2 A3 A4 : Type} {o : Option (ρ ⊕ (A1 × A2 × A3 × A4))} {J : ρ → Option γ} {K : A1 → A2 → A3 → A4 → Option γ} {r : γ} (h : cz_s4 o J K = some r) : ∃ z, o = some z ∧ ((∃ q, z = .inl q ∧ J q = some r) ∨ ∃ (a1 : A1) (a2 : A2) (a3 : A3) (a4 : A4), z = .inr (a1, a2, a3, a4) ∧ K a1 a2 a3 a4 = some r) := by
  cases o with
  | none => cases h
  | some z =>
    cases z with
    | inl q => exact ⟨_, rfl, Or.inl ⟨q, rfl, h⟩⟩
    | inr p => exact ⟨_, rfl, Or.inr ⟨p.1, p.2.1, p.2.2.1, p.2.2.2, rfl, h⟩⟩
def cz_b5 {A1 A2 A3 A4 A5 β : Type} (o : Option (A1 × A2 × A3 × A4 × A5)) (K : A1 → A2 → A3 → A4 → A5 → Option β) : Option β := o.bind (fun p => K (p.1) (p.2.1) (p.2.2.1) (p.2.2.2.1) (p.2.2.2.2))
theorem cz_e5 {A1 A2 A3 A4 A5 β : Type} {o : Option (A1 × A2 × A3 × A4 × A5)} {K : A1 → A2 → A3 → A4 → A5 → Option β} {r : β} (h : cz_b5 o K = some r) : ∃ (a1 : A1) (a2 : A2) (a3 : A3) (a4 : A4) (a5 : A5), o = some (a1, a2, a3, a4, a5) ∧ K a1 a2 a3 a4 a5 = some r := by
  cases o with
  | none => cases h
  | some p => exact ⟨p.1, p.2.1, p.2.2.1, p.2.2.2.1, p.2.2.2.2, rfl, h⟩
theorem cz_j5 {A1 A2 A3 A4 A5 : Type} {a1 b1 : A1} {a2 b2 : A2} {a3 b3 : A3} {a4 b4 : A4} {a5 b5 : A5} (h : (a1, a2, a3, a4, a5) = (b1, b2, b3, b4, b5)) : a1 = b1 ∧ a2 = b2 ∧ a3 = b3 ∧ a4 = b4 ∧ a5 = b5 := by cases h; exact ⟨rfl, rfl, rfl, rfl, rfl⟩
def cz_s5 {ρ γ A1 A2 A3 A4 A5 : Type} (o : Option (ρ ⊕ (A1 × A2 × A3 × A4 × A5))) (J : ρ → Option γ) (K : A1 → A2 → A3 → A4 → A5 → Option γ) : Option γ := o.bind (fun z => match z with | .inl r => J r | .inr p => K (p.1) (p.2.1) (p.2.2.1) (p.2.2.2.1) (p.2.2.2.2))
theorem cz_z5 {ρ γ A1 A2 A3 A4 A5 : Type} {o : Option (ρ ⊕ (A1 × A2 × A3 × A4 × A5))} {J : ρ → Option γ} {K : A1 → A2 → A3 → A4 → A5 → Option γ} {r : γ} (h : cz_s5 o J K = some r) : ∃ z, o = some z ∧ ((∃ q, z = .inl q ∧ J q = some r) ∨ ∃ (a1 : A1) (a2 : A2) (a3 : A3) (a4 : A4) (a5 : A5), z = .inr (a1, a2, a3, a4, a5) ∧ K a1 a2 a3 a4 a5 = some r) := by
  cases o with
  | none => cases h
  | some z =>
    cases z with
    | inl q => exact ⟨_, rfl, Or.inl ⟨q, rfl, h⟩⟩
    | inr p => exact ⟨_, rfl, Or.inr ⟨p.1, p.2.1, p.2.2.1, p.2.2.2.1, p.2.2.2.2, rfl, h⟩⟩
def cz_b6 {A1 A2 A3 A4 A5 A6 β : Type} (o : Option (A1 × A2 × A3 × A4 × A5 × A6)) (K : A1 → A2 → A3 → A4 → A5 → A6 → Option β) : Option β := o.bind (fun p => K (p.1) (p.2.1) (p.2.2.1) (p.2.2.2.1) (p.2.2.2.2.1) (p.2.2.2.2.2))
theorem cz_e6 {A1 A2 A3 A4 A5 A6 β : Type} {o : Option (A1 × A2 × A3 × A4 × A5 × A6)} {K : A1 → A2 → A3 → A4 → A5 → A6 → Option β} {r : β} (h : cz_b6 o K = some r) : ∃ (a1 : A1) (a2 : A2) (a3 : A3) (a4 : A4) (a5 : A5) (a6 : A6), o = some (a1, a2, a3, a4, a5, a6) ∧ K a1 a2 a3 a4 a5 a6 = some r := by
  cases o with
  | none => cases h
  | some p => exact ⟨p.1, p.2.1, p.2.2.1, p.2.2.2.1, p.2.2.2.2.1, p.2.2.2.2.2, rfl, h⟩
theorem cz_j6 {A1 A2 A3 A4 A5 A6 : Type} {a1 b1 : A1} {a2 b2 : A2} {a3 b3 : A3} {a4 b4 : A4} {a5 b5 : A5} {a6 b6 : A6} (h : (a1, a2, a3, a4, a5, a6) = (b1, b2, b3, b4, b5, b6)) : a1 = b1 ∧ a2 = b2 ∧ a3 = b3 ∧ a4 = b4 ∧ a5 = b5 ∧ a6 = b6 := by cases h; exact ⟨rfl, rfl, rfl, rfl, rfl, rfl⟩
def cz_s6 {ρ γ A1 A2 A3 A4 A5 A6 : Type} (o : Option (ρ ⊕ (A1 × A2 × A3 × A4 × A5 × A6))) (J : ρ → Option γ) (K : A1 → A2 → A3 → A4 → A5 → A6 → Option γ) : Option γ := o.bind (fun z => match z with | .inl r => J r | .inr p => K (p.1) (p.2.1) (p.2.2.1) (p.2.2.2.1) (p.2.2.2.2.1) (p.2.2.2.2.2))
theorem cz_z6 {ρ γ A1 A2 A3 A4 A5 A6 : Type} {o : Option (ρ ⊕ (A1 × A2 × A3 × A4 × A5 × A6))} {J : ρ → Option γ} {K : A1 → A2 → A3 → A4 → A5 → A6 → Option γ} {r : γ} (h : cz_s6 o J K = some r) : ∃ z, o = some z ∧ ((∃ q, z = .inl q ∧ J q = some r) ∨ ∃ (a1 : A1) (a2 : A2) (a3 : A3) (a4 : A4) (a5 : A5) (a6 : A6), z = .inr (a1, a2, a3, a4, a5, a6) ∧ K a1 a2 a3 a4 a5 a6 = some r) := by
  cases o with
  | none => cases h
  | some z =>
    cases z with
    | inl q => exact ⟨_, rfl, Or.inl ⟨q, rfl, h⟩⟩
    | inr p => exact ⟨_, rfl, Or.inr ⟨p.1, p.2.1, p.2.2.1, p.2.2.2.1, p.2.2.2.2.1, p.2.2.2.2.2, rfl, h⟩⟩
def cz_b7 {A1 A2 A3 A4 A5 A6 A7 β : Type} (o : Option (A1 × A2 × A3 × A4 × A5 × A6 × A7)) (K : A1 → A2 → A3 → A4 → A5 → A6 → A7 → Option β) : Option β := o.bind (fun p => K (p.1) (p.2.1) (p.2.2.1) (p.2.2.2.1) (p.2.2.2.2.1) (p.2.2.2.2.2.1) (p.2.2.2.2.2.2))
theorem cz_e7 {A1 A2 A3 A4 A5 A6 A7 β : Type} {o : Option (A1 × A2 × A3 × A4 × A5 × A6 × A7)} {K : A1 → A2 → A3 → A4 → A5 → A6 → A7 → Option β} {r : β} (h : cz_b7 o K = some r) : ∃ (a1 : A1) (a2 : A2) (a3 : A3) (a4 : A4) (a5 : A5) (a6 : A6) (a7 : A7), o = some (a1, a2, a3, a4, a5, a6, a7) ∧ K a1 a2 a3 a4 a5 a6 a7 = some r := by
  cases o with
  | none => cases h
  | some p => exact ⟨p.1, p.2.1, p.2.2.1, p.2.2.2.1, p.2.2.2.2.1, p.2.2.2.2.2.1, p.2.2.2.2.2.2, rfl, h⟩
theorem cz_j7 {A1 A2 A3 A4 A5 A6 A7 : Type} {a1 b1 : A1} {a2 b2 : A2} {a3 b3 : A3} {a4 b4 : A4} {a5 b5 : A5} {a6 b6 : A6} {a7 b7 : A7} (h : (a1, a2, a3, a4, a5, a6, a7) = (b1, b2, b3, b4, b5, b6, b7)) : a1 = b1 ∧ a2 = b2 ∧ a3 = b3 ∧ a4 = b4 ∧ a5 = b5 ∧ a6 = b6 ∧ a7 = b7 := by cases h; exact ⟨rfl, rfl, rfl, rfl, rfl, rfl, rfl⟩
def cz_s7 {ρ γ A1 A2 A3 A4 A5 A6 A7 : Type} (o : Option (ρ ⊕ (A1 × A2 × A3 × A4 × A5 × A6 × A7))) (J : ρ → Option γ) (K : A1 → A2 → A3 → A4 → A5 → A6 → A7 → Option γ) : Option γ := o.bind (fun z => match z with | .inl r => J r | .inr p => K (p.1) (p.2.1) (p.2.2.1) (p.2.2.2.1) (p.2.2.2.2.1) (p.2.2.2.2.2.1) (p.2.2.2.2.2.2))
theorem cz_z7 {ρ γ A1 A2 A3 A4 A5 A6 A7 : Type} {o : Option (ρ ⊕ (A1 × A2 × A3 × A4 × A5 × A6 × A7))} {J : ρ → Option γ} {K : A1 → A2 → A3 → A4 → A5 → A6 → A7 → Option γ} {r : γ} (h : cz_s7 o J K = some r) : ∃ z, o = some z ∧ ((∃ q, z = .inl q ∧ J q = some r) ∨ ∃ (a1 : A1) (a2 : A2) (a3 : A3) (a4 : A4) (a5 : A5) (a6 : A6) (a7 : A7), z = .inr (a1, a2, a3, a4, a5, a6, a7) ∧ K a1 a2 a3 a4 a5 a6 a7 = some r) := by
  cases o with
  | none => cases h
  | some z =>
    cases z with
    | inl q => exact ⟨_, rfl, Or.inl ⟨q, rfl, h⟩⟩
    | inr p => exact ⟨_, rfl, Or.inr ⟨p.1, p.2.1, p.2.2.1, p.2.2.2.1, p.2.2.2.2.1, p.2.2.2.2.2.1, p.2.2.2.2.2.2, rfl, h⟩⟩
def cz_b8 {A1 A2 A3 A4 A5 A6 A7 A8 β : Type} (o : Option (A1 × A2 × A3 × A4 × A5 × A6 × A7 × A8)) (K : A1 → A2 → A3 → A4 → A5 → A6 → A7 → A8 → Option β) : Option β := o.bind (fun p => K (p.1) (p.2.1) (p.2.2.1) (p.2.2.2.1) (p.2.2.2.2.1) (p.2.2.2.2.2.1) (p.2.2.2.2.2.2.1) (p.2.2.2.2.2.2.2))
theorem cz_e8 {A1 A2 A3 A4 A5 A6 A7 A8 β : Type} {o : Option (A1 × A2 × A3 × A4 × A5 × A6 × A7 × A8)} {K : A1 → A2 → A3 → A4 → A5 → A6 → A7 → A8 → Option β} {r : β} (h : cz_b8 o K = some r) : ∃ (a1 : A1) (a2 : A2) (a3 : A3) (a4 : A4) (a5 : A5) (a6 : A6) (a7 : A7) (a8 : A8), o = some (a1, a2, a3, a4, a5, a6, a7, a8) ∧ K a1 a2 a3 a4 a5 a6 a7 a8 = some r := by
  cases o with
  | none => cases h
  | some p => exact ⟨p.1, p.2.1, p.2.2.1, p.2.2.2.1, p.2.2.2.2.1, p.2.2.2.2.2.1, p.2.2.2.2.2.2.1, p.2.2.2.2.2.2.2, rfl, h⟩
theorem cz_j8 {A1 A2 A3 A4 A5 A6 A7 A8 : Type} {a1 b1 : A1} {a2 b2 : A2} {a3 b3 : A3} {a4 b4 : A4} {a5 b5 : A5} {a6 b6 : A6} {a7 b7 : A7} {a8 b8 : A8} (h : (a1, a2, a3, a4, a5, a6, a7, a8) = (b1, b2, b3, b4, b5, b6, b7, b8)) : a1 = b1 ∧ a2 = b2 ∧ a3 = b3 ∧ a4 = b4 ∧ a5 = b5 ∧ a6 = b6 ∧ a7 = b7 ∧ a8 = b8 := by cases h; exact ⟨rfl, rfl, rfl, rfl, rfl, rfl, rfl, rfl⟩
def cz_s8 {ρ γ A1 A2 A3 A4 A5 A6 A7 A8 : Type} (o : Option (ρ ⊕ (A1 × A2 × A3 × A4 × A5 × A6 × A7 × A8))) (J : ρ → Option γ) (K : A1 → A2 → A3 → A4 → A5 → A6 → A7 → A8 → Option γ) : Option γ := o.bind (fun z => match z with | .inl r => J r | .inr p => K (p.1) (p.2.1) (p.2.2.1) (p.2.2.2.1) (p.2.2.2.2.1) (p.2.2.2.2.2.1) (p.2.2.2.2.2.2.1) (p.2.2.2.2.2.2.2))
theorem cz_z8 {ρ γ A1 A2 A3 A4 A5 A6 A7 A8 : Type} {o : Option (ρ ⊕ (A1 × A2 × A3 × A4 × A5 × A6 × A7 × A8))} {J : ρ → Option γ} {K : A1 → A2 → A3 → A4 → A5 → A6 → A7 → A8 → Option γ} {r : γ} (h : cz_s8 o J K = some r) : ∃ z, o = some z ∧ ((∃ q, z = .inl q ∧ J q = some r) ∨ ∃ (a1 : A1) (a2 : A2) (a3 : A3) (a4 : A4) (a5 : A5) (a6 : A6) (a7 : A7) (a8 : A8), z = .inr (a1, a2, a3, a4, a5, a6, a7, a8) ∧ K a1 a2 a3 a4 a5 a6 a7 a8 = some r) := by
  cases o with
  | none => cases h
  | some z =>
    cases z with
    | inl q => exact ⟨_, rfl, Or.inl ⟨q, rfl, h⟩⟩
    | inr p => exact ⟨_, rfl, Or.inr ⟨p.1, p.2.1, p.2.2.1, p.2.2.2.1, p.2.2.2.2.1, p.2.2.2.2.2.1, p.2.2.2.2.2.2.1, p.2.2.2.2.2.2.2, rfl, h⟩⟩
def cz_b9 {A1 A2 A3 A4 A5 A6 A7 A8 A9 β : Type} (o : Option (A1 × A2 × A3 × A4 × A5 × A6 × A7 × A8 × A9)) (K : A1 → A2 → A3 → A4 → A5 → A6 → A7 → A8 → A9 → Option β) : Option β := o.bind (fun p => K (p.1) (p.2.1) (p.2.2.1) (p.2.2.2.1) (p.2.2.2.2.1) (p.2.2.2.2.2.1) (p.2.2.2.2.2.2.1) (p.2.2.2.2.2.2.2.1) (p.2.2.2.2.2.2.2.2))
theorem cz_e9 {A1 A2 A3 A4 A5 A6 A7 A8 A9 β : Type} {o : Option (A1 × A2 × A3 × A4 × A5 × A6 × A7 × A8 × A9)} {K : A1 → A2 → A3 → A4 → A5 → A6 → A7 → A8 → A9 → Option β} {r : β} (h : cz_b9 o K = some r) : ∃ (a1 : A1) (a2 : A2) (a3 : A3) (a4 : A4) (a5 : A5) (a6 : A6) (a7 : A7) (a8 : A8) (a9 : A9), o = some (a1, a2, a3, a4, a5, a6, a7, a8, a9) ∧ K a1 a2 a3 a4 a5 a6 a7 a8 a9 = some r := by
  cases o with
  | none => cases h
  | some p => exact ⟨p.1, p.2.1, p.2.2.1, p.2.2.2.1, p.2.2.2.2.1, p.2.2.2.2.2.1, p.2.2.2.2.2.2.1, p.2.2.2.2.2.2.2.1, p.2.2.2.2.2.2.2.2, rfl, h⟩
theorem cz_j9 {A1 A2 A3 A4 A5 A6 A7 A8 A9 : Type} {a1 b1 : A1} {a2 b2 : A2} {a3 b3 : A3} {a4 b4 : A4} {a5 b5 : A5} {a6 b6 : A6} {a7 b7 : A7} {a8 b8 : A8} {a9 b9 : A9} (h : (a1, a2, a3, a4, a5, a6, a7, a8, a9) = (b1, b2, b3, b4, b5, b6, b7, b8, b9)) : a1 = b1 ∧ a2 = b2 ∧ a3 = b3 ∧ a4 = b4 ∧ a5 = b5 ∧ a6 = b6 ∧ a7 = b7 ∧ a8 = b8 ∧ a9 = b9 := by cases h; exact ⟨rfl, rfl, rfl, rfl, rfl, rfl, rfl, rfl, rfl⟩
def cz_s9 {ρ γ A1 A2 A3 A4 A5 A6 A7 A8 A9 : Type} (o : Option (ρ ⊕ (A1 × A2 × A3 × A4 × A5 × A6 × A7 × A8 × A9))) (J : ρ → Option γ) (K : A1 → A2 → A3 → A4 → A5 → A6 → A7 → A8 → A9 → Option γ) : Option γ := o.bind (fun z => match z with | .inl r => J r | .inr p => K (p.1) (p.2.1) (p.2.2.1) (p.2.2.2.1) (p.2.2.2.2.1) (p.2.2.2.2.2.1) (p.2.2.2.2.2.2.1) (p.2.2.2.2.2.2.2.1) (p.2.2.2.2.2.2.2.2))
theorem cz_z9 {ρ γ A1 A2 A3 A4 A5 A6 A7 A8 A9 : Type} {o : Option (ρ ⊕ (A1 × A2 × A3 × A4 × A5 × A6 × A7 × A8 × A9))} {J : ρ → Option γ} {K : A1 → A2 → A3 → A4 → A5 → A6 → A7 → A8 → A9 → Option γ} {r : γ} (h : cz_s9 o J K = some r) : ∃ z, o = some z ∧ ((∃ q, z = .inl q ∧ J q = some r) ∨ ∃ (a1 : A1) (a2 : A2) (a3 : A3) (a4 : A4) (a5 : A5) (a6 : A6) (a7 : A7) (a8 : A8) (a9 : A9), z = .inr (a1, a2, a3, a4, a5, a6, a7, a8, a9) ∧ K a1 a2 a3 a4 a5 a6 a7 a8 a9 = some r) := by
  cases o with
  | none => cases h
  | some z =>
    cases z with
    | inl q => exact ⟨_, rfl, Or.inl ⟨q, rfl, h⟩⟩
    | inr p => exact ⟨_, rfl, Or.inr ⟨p.1, p.2.1, p.2.2.1, p.2.2.2.1, p.2.2.2.2.1, p.2.2.2.2.2.1, p.2.2.2.2.2.2.1, p.2.2.2.2.2.2.2.1, p.2.2.2.2.2.2.2.2, rfl, h⟩⟩
def cz_b10 {A1 A2 A3 A4 A5 A6 A7 A8 A9 A10 β : Type} (o : Option (A1 × A2 × A3 × A4 × A5 × A6 × A7 × A8 × A9 × A10)) (K : A1 → A2 → A3 → A4 → A5 → A6 → A7 → A8 → A9 → A10 → Option β) : Option β := o.bind (fun p => K (p.1) (p.2.1) (p.2.2.1) (p.2.2.2.1) (p.2.2.2.2.1) (p.2.2.2.2.2.1) (p.2.2.2.2.2.2.1) (p.2.2.2.2.2.2.2.1) (p.2.2.2.2.2.2.2.2.1) (p.2.2.2.2.2.2.2.2.2))
theorem cz_e10 {A1 A2 A3 A4 A5 A6 A7 A8 A9 A10 β : Type} {o : Option (A1 × A2 × A3 × A4 × A5 × A6 × A7 × A8 × A9 × A10)} {K : A1 → A2 → A3 → A4 → A5 → A6 → A7 → A8 → A9 → A10 → Option β} {r : β} (h : cz_b10 o K = some r) : ∃ (a1 : A1) (a2 : A2) (a3 : A3) (a4 : A4) (a5 : A5) (a6 : A6) (a7 : A7) (a8 : A8) (a9 : A9) (a10 : A10), o = some (a1, a2, a3, a4, a5, a6, a7, a8, a9, a10) ∧ K a1 a2 a3 a4 a5 a6 a7 a8 a9 a10 = some r := by
  cases o with
  | none => cases h
  | some p => exact ⟨p.1, p.2.1, p.2.2.1, p.2.2.2.1, p.2.2.2.2.1, p.2.2.2.2.2.1, p.2.2.2.2.2.2.1, p.2.2.2.2.2.2.2.1, p.2.2.2.2.2.2.2.2.1, p.2.2.2.2.2.2.2.2.2, rfl, h⟩
theorem cz_j10 {A1 A2 A3 A4 A5 A6 A7 A8 A9 A10 : Type} {a1 b1 : A1} {a2 b2 : A2} {a3 b3 : A3} {a4 b4 : A4} {a5 b5 : A5} {a6 b6 : A6} {a7 b7 : A7} {a8 b8 : A8} {a9 b9 : A9} {a10 b10 : A10} (h : (a1, a2, a3, a4, a5, a6, a7, a8, a9, a10) = (b1, b2, b3, b4, b5, b6, b7, b8, b9, b10)) : a1 = b1 ∧ a2 = b2 ∧ a3 = b3 ∧ a4 = b4 ∧ a5 = b5 ∧ a6 = b6 ∧ a7 = b7 ∧ a8 = b8 ∧ a9 = b9 ∧ a10 = b10 := by cases h; exact ⟨rfl, rfl, rfl, rfl, rfl, rfl, rfl, rfl, rfl, rfl⟩
def cz_s10 {ρ γ A1 A2 A3 A4 A5 A6 A7 A8 A9 A10 : Type} (o : Option (ρ ⊕ (A1 × A2 × A3 × A4 × A5 × A6 × A7 × A8 × A9 × A10))) (J : ρ → Option γ) (K : A1 → A2 → A3 → A4 → A5 → A6 → A7 → A8 → A9 → A10 → Option γ) : Option γ := o.bind (fun z => match z with | .inl r => J r | .inr p => K (p.1) (p.2.1) (p.2.2.1) (p.2.2.2.1) (p.2.2.2.2.1) (p.2.2.2.2.2.1) (p.2.2.2.2.2.2.1) (p.2.2.2.2.2.2.2.1) (p.2.2.2.2.2.2.2.2.1) (p.2.2.2.2.2.2.2.2.2))
theorem cz_z10 {ρ γ A1 A2 A3 A4 A5 A6 A7 A8 A9 A10 : Type} {o : Option (ρ ⊕ (A1 × A2 × A3 × A4 × A5 × A6 × A7 × A8 × A9 × A10))} {J : ρ → Option γ} {K : A1 → A2 → A3 → A4 → A5 → A6 → A7 → A8 → A9 → A10 → Option γ} {r : γ} (h : cz_s10 o J K = some r) : ∃ z, o = some z ∧ ((∃ q, z = .inl q ∧ J q = some r) ∨ ∃ (a1 : A1) (a2 : A2) (a3 : A3) (a4 : A4) (a5 : A5) (a6 : A6) (a7 : A7) (a8 : A8) (a9 : A9) (a10 : A10), z = .inr (a1, a2, a3, a4, a5, a6, a7, a8, a9, a10) ∧ K a1 a2 a3 a4 a5 a6 a7 a8 a9 a10 = some r) := by
  cases o with
  | none => cases h
  | some z =>
    cases z with
    | inl q => exact ⟨_, rfl, Or.inl ⟨q, rfl, h⟩⟩
    | inr p => exact ⟨_, rfl, Or.inr ⟨p.1, p.2.1, p.2.2.1, p.2.2.2.1, p.2.2.2.2.1, p.2.2.2.2.2.1, p.2.2.2.2.2.2.1, p.2.2.2.2.2.2.2.1, p.2.2.2.2.2.2.2.2.1, p.2.2.2.2.2.2.2.2.2, rfl, h⟩⟩
def cz_b11 {A1 A2 A3 A4 A5 A6 A7 A8 A9 A10 A11 β : Type} (o : Option (A1 × A2 × A3 × A4 × A5 × A6 × A7 × A8 × A9 × A10 × A11)) (K : A1 → A2 → A3 → A4 → A5 → A6 → A7 → A8 → A9 → A10 → A11 → Option β) : Option β := o.bind (fun p => K (p.1) (p.2.1) (p.2.2.1) (p.2.2.2.1) (p.2.2.2.2.1) (p.2.2.2.2.2.1) (p.2.2.2.2.2.2.1) (p.2.2.2.2.2.2.2.1) (p.2.2.2.2.2.2.2.2.1) (p.2.2.2.2.2.2.2.2.2.1) (p.2.2.2.2.2.2.2.2.2.2))
theorem cz_e11 {A1 A2 A3 A4 A5 A6 A7 A8 A9 A10 A11 β : Type} {o : Option (A1 × A2 × A3 × A4 × A5 × A6 × A7 × A8 × A9 × A10 × A11)} {K : A1 → A2 → A3 → A4 → A5 → A6 → A7 → A8 → A9 → A10 → A11 → Option β} {r : β} (h : cz_b11 o K = some r) : ∃ (a1 : A1) (a2 : A2) (a3 : A3) (a4 : A4) (a5 : A5) (a6 : A6) (a7 : A7) (a8 : A8) (a9 : A9) (a10 : A10) (a11 : A11), o = some (a1, a2, a3, a4, a5, a6, a7, a8, a9, a10, a11) ∧ K a1 a2 a3 a4 a5 a6 a7 a8 a9 a10 a11 = some r := by
  cases o with
  | none => cases h
  | some p => exact ⟨p.1, p.2.1, p.2.2.1, p.2.2.2.1, p.2.2.2.2.1, p.2.2.2.2.2.1, p.2.2.2.2.2.2.1, p.2.2.2.2.2.2.2.1, p.2.2.2.2.2.2.2.2.1, p.2.2.2.2.2.2.2.2.2.1, p.2.2.2.2.2.2.2.2.2.2, rfl, h⟩
theorem cz_j11 {A1 A2 A3 A4 A5 A6 A7 A8 A9 A10 A11 : Type} {a1 b1 : A1} {a2 b2 : A2} {a3 b3 : A3} {a4 b4 : A4} {a5 b5 : A5} {a6 b6 : A6} {a7 b7 : A7} {a8 b8 : A8} {a9 b9 : A9} {a10 b10 : A10} {a11 b11 : A11} (h : (a1, a2, a3, a4, a5, a6, a7, a8, a9, a10, a11) = (b1, b2, b3, b4, b5, b6, b7, b8, b9, b10, b11)) : a1 = b1 ∧ a2 = b2 ∧ a3 = b3 ∧ a4 = b4 ∧ a5 = b5 ∧ a6 = b6 ∧ a7 = b7 ∧ a8 = b8 ∧ a9 = b9 ∧ a10 = b10 ∧ a11 = b11 := by cases h; exact ⟨rfl, rfl, rfl, rfl, rfl, rfl, rfl, rfl, rfl, rfl, rfl⟩
def cz_s11 {ρ γ A1 A2 A3 A4 A5 A6 A7 A8 A9 A10 A11 : Type} (o : Option (ρ ⊕ (A1 × A2 × A3 × A4 × A5 × A6 × A7 × A8 × A9 × A10 × A11))) (J : ρ → Option γ) (K : A1 → A2 → A3 → A4 → A5 → A6 → A7 → A8 → A9 → A10 → A11 → Option γ) : Option γ := o.bind (fun z => match z with | .inl r => J r | .inr p => K (p.1) (p.2.1) (p.2.2.1) (p.2.2.2.1) (p.2.2.2.2.1) (p.2.2.2.2.2.1) (p.2.2.2.2.2.2.1) (p.2.2.2.2.2.2.2.1) (p.2.2.2.2.2.2.2.2.1) (p.2.2.2.2.2.2.2.2.2.1) (p.2.2.2.2.2.2.2.2.2.2))
theorem cz_z11 {ρ γ A1 A2 A3 A4 A5 A6 A7 A8 A9 A10 A11 : Type} {o : Option (ρ ⊕ (A1 × A2 × A3 × A4 × A5 × A6 × A7 × A8 × A9 × A10 × A11))} {J : ρ → Option γ} {K : A1 → A2 → A3 → A4 → A5 → A6 → A7 → A8 → A9 → A10 → A11 → Option γ} {r : γ} (h : cz_s11 o J K = some r) : ∃ z, o = some z ∧ ((∃ q, z = .inl q ∧ J q = some r) ∨ ∃ (a1 : A1) (a2 : A2) (a3 : A3) (a4 : A4) (a5 : A5) (a6 : A6) (a7 : A7) (a8 : A8) (a9 : A9) (a10 : A10) (a11 : A11), z = .inr (a1, a2, a3, a4, a5, a6, a7, a8, a9, a10, a11) ∧ K a1 a2 a3 a4 a5 a6 a7 a8 a9 a10 a11 = some r) := by
  cases o with
  | none => cases h
  | some z =>
    cases z with
    | inl q => exact ⟨_, rfl, Or.inl ⟨q, rfl, h⟩⟩
    | inr p => exact ⟨_, rfl, Or.inr ⟨p.1, p.2.1, p.2.2.1, p.2.2.2.1, p.2.2.2.2.1, p.2.2.2.2.2.1, p.2.2.2.2.2.2.1, p.2.2.2.2.2.2.2.1, p.2.2.2.2.2.2.2.2.1, p.2.2.2.2.2.2.2.2.2.1, p.2.2.2.2.2.2.2.2.2.2, rfl, h⟩⟩
def cz_b12 {A1 A2 A3 A4 A5 A6 A7 A8 A9 A10 A11 A12 β : Type} (o : Option (A1 × A2 × A3 × A4 × A5 × A6 × A7 × A8 × A9 × A10 × A11 × A12)) (K : A1 → A2 → A3 → A4 → A5 → A6 → A7 → A8 → A9 → A10 → A11 → A12 → Option β) : Option β := o.bind (fun p => K (p.1) (p.2.1) (p.2.2.1) (p.2.2.2.1) (p.2.2.2.2.1) (p.2.2.2.2.2.1) (p.2.2.2.2.2.2.1) (p.2.2.2.2.2.2.2.1) (p.2.2.2.2.2.2.2.2.1) (p.2.2.2.2.2.2.2.2.2.1) (p.2.2.2.2.2.2.2.2.2.2.1) (p.2.2.2.2.2.2.2.2.2.2.2))
theorem cz_e12 {A1 A2 A3 A4 A5 A6 A7 A8 A9 A10 A11 A12 β : Type} {o : Option (A1 × A2 × A3 × A4 × A5 × A6 × A7 × A8 × A9 × A10 × A11 × A12)} {K : A1 → A2 → A3 → A4 → A5 → A6 → A7 → A8 → A9 → A10 → A11 → A12 → Option β} {r : β} (h : cz_b12 o K = some r) : ∃ (a1 : A1) (a2 : A2) (a3 : A3) (a4 : A4) (a5 : A5) (a6 : A6) (a7 : A7) (a8 : A8) (a9 : A9) (a10 : A10) (a11 : A11) (a12 : A12), o = some (a1, a2, a3, a4, a5, a6, a7, a8, a9, a10, a11, a12) ∧ K a1 a2 a3 a4 a5 a6 a7 a8 a9 a10 a11 a12 = some r := by
  cases o with
  | none => cases h
  | some p => exact ⟨p.1, p.2.1, p.2.2.1, p.2.2.2.1, p.2.2.2.2.1, p.2.2.2.2.2.1, p.2.2.2.2.2.2.1, p.2.2.2.2.2.2.2.1, p.2.2.2.2.2.2.2.2.1, p.2.2.2.2.2.2.2.2.2.1, p.2.2.2.2.2.2.2.2.2.2.1, p.2.2.2.2.2.2.2.2.2.2.2, rfl, h⟩
theorem cz_j12 {A1 A2 A3 A4 A5 A6 A7 A8 A9 A10 A11 A12 : Type} {a1 b1 : A1} {a2 b2 : A2} {a3 b3 : A3} {a4 b4 : A4} {a5 b5 : A5} {a6 b6 : A6} {a7 b7 : A7} {a8 b8 : A8} {a9 b9 : A9} {a10 b10 : A10} {a11 b11 : A11} {a12 b12 : A12} (h : (a1, a2, a3, a4, a5, a6, a7, a8, a9, a10, a11, a12) = (b1, b2, b3, b4, b5, b6, b7, b8, b9, b10, b11, b12)) : a1 = b1 ∧ a2 = b2 ∧ a3 = b3 ∧ a4 = b4 ∧ a5 = b5 ∧ a6 = b6 ∧ a7 = b7 ∧ a8 = b8 ∧ a9 = b9 ∧ a10 = b10 ∧ a11 = b11 ∧ a12 = b12 := by cases h; exact ⟨rfl, rfl, rfl, rfl, rfl, rfl, rfl, rfl, rfl, rfl, rfl, rfl⟩
def cz_s12 {ρ γ A1 A2 A3 A4 A5 A6 A7 A8 A9 A10 A11 A12 : Type} (o : Option (ρ ⊕ (A1 × A2 × A3 × A4 × A5 × A6 × A7 × A8 × A9 × A10 × A11 × A12))) (J : ρ → Option γ) (K : A1 → A2 → A3 → A4 → A5 → A6 → A7 → A8 → A9 → A10 → A11 → A12 → Option γ) : Option γ := o.bind (fun z => match z with | .inl r => J r | .inr p => K (p.1) (p.2.1) (p.2.2.1) (p.2.2.2.1) (p.2.2.2.2.1) (p.2.2.2.2.2.1) (p.2.2.2.2.2.2.1) (p.2.2.2.2.2.2.2.1) (p.2.2.2.2.2.2.2.2.1) (p.2.2.2.2.2.2.2.2.2.1) (p.2.2.2.2.2.2.2.2.2.2.1) (p.2.2.2.2.2.2.2.2.2.2.2))
theorem cz_z12 {ρ γ A1 A2 A3 A4 A5 A6 A7 A8 A9 A10 A11 A12 : Type} {o : Option (ρ ⊕ (A1 × A2 × A3 × A4 × A5 × A6 × A7 × A8 × A9 × A10 × A11 × A12))} {J : ρ → Option γ} {K : A1 → A2 → A3 → A4 → A5 → A6 → A7 → A8 → A9 → A10 → A11 → A12 → Option γ} {r : γ} (h : cz_s12 o J K = some r) : ∃ z, o = some z ∧ ((∃ q, z = .inl q ∧ J q = some r) ∨ ∃ (a1 : A1) (a2 : A2) (a3 : A3) (a4 : A4) (a5 : A5) (a6 : A6) (a7 : A7) (a8 : A8) (a9 : A9) (a10 : A10) (a11 : A11) (a12 : A12), z = .inr (a1, a2, a3, a4, a5, a6, a7, a8, a9, a10, a11, a12) ∧ K a1 a2 a3 a4 a5 a6 a7 a8 a9 a10 a11 a12 = some r) := by
  cases o with
  | none => cases h
  | some z =>
    cases z with
    | inl q => exact ⟨_, rfl, Or.inl ⟨q, rfl, h⟩⟩
    | inr p => exact ⟨_, rfl, Or.inr ⟨p.1, p.2.1, p.2.2.1, p.2.2.2.1, p.2.2.2.2.1, p.2.2.2.2.2.1, p.2.2.2.2.2.2.1, p.2.2.2.2.2.2.2.1, p.2.2.2.2.2.2.2.2.1, p.2.2.2.2.2.2.2.2.2.1, p.2.2.2.2.2.2.2.2.2.2.1, p.2.2.2.2.2.2.2.2.2.2.2, rfl, h⟩⟩
