/-! own kit, 7: constructors: what they make -/
abbrev cz_rmC (fr mc ms lo : Nat) : Room := { frames := fr, cells := mc, slots := ms, locals := lo }
def cz_PC (D : va_G) (cI : ClassId) (h0 : Nat) (e0 : va_E) (sz : Nat) : Array Value → State → Prop := va_Pc [.ref h0] (fun U => U.heap.size = sz ∧ va_P D vwCl [(h0, e0)] U.heap ∧ va_K D vwCl [(cI, .int)] U ∧ cz_N U)
def cz_MC {S : Type} (l : Launch) (y : MethodName) (cc : ByteArray) (mL : Nat) (fr mc ms lo : Nat) (D : va_G) (cI : ClassId) (h0 : Nat) (e0 : va_E) (sz : Nat) (Wf : S → va_W) : Prop :=
  Met l y (Cond.code y cc mL none :: wA) (cz_rmC fr mc ms lo) (cz_PC D cI h0 e0 sz) (va_Qv (fun _ : S => True) (fun u t => va_P D vwCl (Wf u) t.heap ∧ va_D (va_A [(h0, e0)] sz) (Wf u)) (va_A [(h0, e0)] sz)) mc ms (va_A [(h0, e0)] sz)
theorem cz_blindC {D : va_G} {cI : ClassId} {h0 : Nat} {e0 : va_E} {sz : Nat} : FrameBlind (cz_PC D cI h0 e0 sz) := fun a U g mk q => by
  obtain ⟨q0, q1, qP, qK, qN⟩ := q
  exact ⟨q0, q1, qP, va_K.moved (u := U) (U := U.calling g mk a) (Vm.Alike.refl U.vm) qK, cz_N.same (u := U) (U := U.calling g mk a) rfl qN⟩
theorem cz_startC {S : Type} {l : Launch} {y : MethodName} {cc : ByteArray} {mL : Nat} {fr mc ms lo : Nat} {D : va_G} {cI : ClassId} {h0 : Nat} {e0 : va_E} {sz : Nat} {Wf : S → va_W} (hy : plainName y.cls = true) (hyi : y.name = "<init>") (hn : 1 ≤ mL)
    (body : ∀ (p : Program) (e : Env) (s : State) (m : MethodId) (ag : Array Value) (below : List Frame) (meth : Method) (c : Code) (A : Nat → Prop) (Q : State → Prop), p.tables.exec = Jvm.exec → c.code = cc → c.maxLocals = mL → s.vm.findClass y.cls = some m.cls → (∀ w ∈ wA, w.before ag s = true) → va_K D vwCl [(cI, .int)] s → cz_N s → meth.name = "<init>" → (∀ q : Nat, s.heap.size ≤ q → A q) → (∀ (H : Heap) (locs : List Loc) (pc : Nat) (ls : Array Slot) (u : S), va_P D vwCl (Wf u) H → va_D A (Wf u) → va_S A s.heap H locs → decode cc pc = .ok (.return_, 1) → W p l e (cz_rmC fr mc ms lo) s m ag below meth c H locs mc ms Q (F0 m pc ls [])) → ∀ (H : Heap) (locs : List Loc), va_P D vwCl [(h0, e0)] H → va_D A [(h0, e0)] → va_S A s.heap H locs → ∀ ls : Array Slot, lv_has ls mL [(0, .ref h0)] →
      W p l e (cz_rmC fr mc ms lo) s m ag below meth c H locs 0 0 Q (F0 m 0 ls [])) : cz_MC l y cc mL fr mc ms lo D cI h0 e0 sz Wf := by
  refine Met.ofW (cc := cc) (maxL := mL) (ret := none) hy rfl ?_
  intro p e s m args below meth c s₁ B hml hv
  obtain ⟨rfl, hsz, hP, hK, hN⟩ := hv
  subst hsz
  have hts := atoms_spec (ws := Cond.code y cc mL none :: wA) B.pre
  have hown : s.vm.findClass y.cls = some m.cls := findClass_of_methodNamed B.named
  have hin : meth.name = "<init>" := by rw [← hyi]; exact (name_of_methodNamed B.named B.method).1
  have hl := lv_entry [.ref h0] (n := mL) hn
  rw [lg_entry_eq]
  have hD0 : va_D (fun _ => True) [(h0, e0)] := ⟨fun i j a b hi hj _ => by
    have h1 : i < 1 := (List.getElem?_eq_some_iff.mp hi).1
    have h2 : j < 1 := (List.getElem?_eq_some_iff.mp hj).1
    omega, fun _ _ _ => trivial⟩
  exact body p e s m _ below meth c (va_A [(h0, e0)] s.heap.size) _ B.exec B.bytes hml hown (fun w h => hts w (List.mem_cons_of_mem _ h)) hK hN hin (fun q h => Or.inr h) (fun H locs pc ls u hP hD hS hd => W.vret B.exec B.bytes B.returns (fun t ht _ => ⟨⟨u, rfl, trivial, by rw [ht]; exact hP, hD⟩, hS.F ht⟩) hS.2.2 hd B.notSynchronized) s.heap [] hP hD0.self va_S.rf _ hl
section CZN
variable {p : Program} {l : Launch} {e : Env} {R : Room} {s : State} {m : MethodId} {args : Array Value} {below : List Frame} {meth : Method} {c : Code} {H : Heap} {locs : List Loc} {cells slots : Nat} {Q : State → Prop} {cc : ByteArray} {nL : Nat} {own C host : String} {index maxL fr mc ms lo pc : Nat} {y : MethodName} {bytes : ByteArray} {D : va_G} {cI : ClassId} {rest : List Value} {b : Addr} {e0 : va_E} {ws : va_W} {A : Nat → Prop} {ls : Array Slot} {S : Type} {Wf : S → va_W}
theorem cz_newa (hexec : p.tables.exec = Jvm.exec) (hb : c.code = cc) (harr : (Cond.arrayClass .int).before args s = true) (hK : va_K D vwCl [(cI, .int)] s) (hP : va_P D vwCl ws H) (hD : va_D A ws) (hS : va_S A s.heap H locs) (hA : ∀ q, s.heap.size ≤ q → A q)
    {n : Int32} {N' : Nat} (hn : ¬ n < 0) (hN : n.toNatClampNeg = N') (hbytes : N' * componentBytes .int ≤ 536870912) (hcells : cells + 1 ≤ R.cells) (hslots : slots + N' ≤ R.slots) (hdg : decode cc pc = .ok (.newarray .int, 2))
    (kk : ∀ (q : Nat) (H1 : Heap), va_P D vwCl (ws ++ [aI cI q N' (fun _ => 0)]) H1 → va_D A (ws ++ [aI cI q N' (fun _ => 0)]) → va_S A s.heap H1 locs →
      W p l e R s m args below meth c H1 locs (cells + 1) (slots + N') Q (F0 m (pc + 2) ls (.ref q :: rest))) : W p l e R s m args below meth c H locs cells slots Q (F0 m pc ls (.int n :: rest)) := by
  refine va_newa (atype := .int) (ty := .int) hexec hb harr rfl hK hP hD hS hA (a0 := (N', .inl (fun _ => 0))) (fun _ => rfl) hn hN hbytes hcells hslots hdg (fun q cA H1 hK' hP' hD' hS' => ?_)
  have e1 : cA = cI := Option.some.inj ((hK'.2 1 _ rfl).2.symm.trans (hK.2 0 _ rfl).2)
  subst e1
  exact kk q H1 hP' hD' hS'
theorem cz_range {x : Nat × va_E} : (List.range ws.length).map (fun i => (ws ++ [x])[i]?) = ws.map some := by
  apply List.ext_getElem?
  intro k
  rw [List.getElem?_map, List.getElem?_map]
  by_cases hk : k < ws.length
  · rw [List.getElem?_range hk]
    simp [List.getElem?_append_left hk, List.getElem?_eq_getElem hk]
  · rw [List.getElem?_eq_none (by simpa using hk), List.getElem?_eq_none (by simpa using hk)]
    rfl
theorem cz_rnd : ∀ (n : Nat), (List.range n).Nodup := fun n => List.nodup_range
theorem cz_ndOf : ∀ (l : List Nat), l.Nodup → va_nd l = true
  | [], _ => rfl
  | a :: l, h => by
    have h2 := List.nodup_cons.mp h
    show (decide (a ∉ l) && va_nd l) = true
    rw [cz_ndOf l h2.2, decide_eq_true h2.1]
    rfl
theorem cz_afterC (hr : va_Run p l e R s m args below meth c H locs cells slots mc ms (F0 m pc ls (.ref b :: rest)) rest (va_Qv (fun _ : S => True) (fun u t => va_P D vwCl (Wf u) t.heap ∧ va_D (va_A [(b, e0)] H.size) (Wf u)) (va_A [(b, e0)] H.size) #[Value.ref b]) (va_A [(b, e0)] H.size)) (hP : va_P D vwCl (ws ++ [(b, e0)]) H) (hD : va_D A (ws ++ [(b, e0)])) (hS : va_S A s.heap H locs) (hA : ∀ q, s.heap.size ≤ q → A q)
    (kk : ∀ (u : S) (H1 : Heap) (locs1 : List Loc), va_P D vwCl (ws ++ Wf u) H1 → va_D A (ws ++ Wf u) → va_S A s.heap H1 locs1 → W p l e R s m args below meth c H1 locs1 (cells + mc) (slots + ms) Q (F0 m (pc + 3) ls rest)) : W p l e R s m args below meth c H locs cells slots Q (F0 m pc ls (.ref b :: rest)) := by
  have hC : [ws.length].map (fun i => (ws ++ [(b, e0)])[i]?) = [(b, e0)].map some := by simp
  have hFc := va_free (wc := [(b, e0)]) hD hS hA [ws.length] hC
  refine va_callv hr hS (fun q _ h => hFc q h) hFc (fun u t H1 locs ht hvm hw hB hz1 hk1 hS => ?_)
  obtain ⟨hP1, hD1⟩ := hB
  rw [ht] at hP1
  obtain ⟨hP, hD⟩ := va_join (wr := ws) (w1 := Wf u) hP hD [ws.length] (List.range ws.length) hC cz_range (cz_ndOf _ List.nodup_range) (fun i hi h => by
    have h1 := List.mem_range.mp hi
    have h2 := List.mem_singleton.mp h
    omega) hk1 hFc hP1 hD1
  exact kk u H1 locs hP hD hS
theorem cz_preC (hK : va_K D vwCl [(cI, .int)] s) (hN : cz_N s) (hP : va_P D vwCl (ws ++ [(b, e0)]) H) : ∀ U : State, U.heap = H → s.WarmedH U.vm → cz_PC D cI b e0 H.size #[Value.ref b] U := fun U hU hW =>
  ⟨rfl, by rw [hU], by rw [hU]; exact fun k q hk => hP (ws.length + k) q (by rw [List.getElem?_append_right (by omega)]; simpa using hk), va_K.moved hW.alike hK, hN.warm hW⟩
theorem cz_callCN {n : Nat} (S' : CallFix p m c cc nL s args wA own) (hM : cz_MC l y bytes maxL fr mc ms lo D cI b e0 H.size Wf) (m1 : Cond.methodLinkNest own index y host ∈ cz_nw) (m2 : Cond.instanceMethod y ∈ wA) (m4 : Cond.initialized y.cls ∈ wA) (m5 : Cond.code y bytes maxL none ∈ wA) (hyi : y.name = "<init>")
    (hd : y.cls ≠ "java/lang/invoke/MethodHandle" ∧ y.cls ≠ "java/lang/invoke/VarHandle" ∧ (parseMethodDescriptor y.desc).map (fun d => d.parameters.length) = some 0) (hR : fr + 1 ≤ R.frames ∧ 8 + (maxL + 11) + lo ≤ R.locals)
    (hK : va_K D vwCl [(cI, .int)] s) (hN : cz_N s) (hP : va_P D vwCl (ws ++ [(b, e0)]) H) (hD : va_D A (ws ++ [(b, e0)])) (hS : va_S A s.heap H locs) (hA : ∀ q, s.heap.size ≤ q → A q)
    (hsz : ls.size = nL) (hW : (rest.map fun v => v.category).sum ≤ 8) (hdg : decode cc pc = .ok (.invokespecial index, 3)) (hf : cells + mc ≤ R.cells ∧ slots + ms ≤ R.slots)
    (kk : ∀ (u : S) (H1 : Heap) (locs1 : List Loc), va_P D vwCl (ws ++ Wf u) H1 → va_D A (ws ++ Wf u) → va_S A s.heap H1 locs1 → W p l e R s m args below meth c H1 locs1 (cells + mc) (slots + ms) Q (F0 m (pc + 3) ls rest)) : W p l e R s m args below meth c H locs cells slots Q (F0 m pc ls (.ref b :: rest)) := by
  have ok : ∀ w ∈ wA, w.before args s = true := S'.2.2.2.2
  have cw : va_CN R s args own index y host bytes maxL none (Cond.code y bytes maxL none :: wA) (cz_rmC fr mc ms lo) mc ms 0 := va_cnB 0 ok (cz_good y m5) rfl rfl rfl (hN _ m1) (ok _ m4) hd hR
  exact cz_afterC (va_runIN (As := []) S' hM ⟨cw, hyi, ok _ m2⟩ ⟨cz_blindC, cz_preC hK hN hP⟩ rfl rfl hsz rfl (lv_room hW) hdg hf) hP hD hS hA kk
theorem cz_callC {n : Nat} (S' : CallFix p m c cc nL s args wA own) (hM : cz_MC l y bytes maxL fr mc ms lo D cI b e0 H.size Wf) (m1 : Cond.methodLink own index y ∈ wA) (m2 : Cond.instanceMethod y ∈ wA) (m4 : Cond.initialized y.cls ∈ wA) (m5 : Cond.code y bytes maxL none ∈ wA) (hyi : y.name = "<init>")
    (hd : y.cls ≠ "java/lang/invoke/MethodHandle" ∧ y.cls ≠ "java/lang/invoke/VarHandle" ∧ (parseMethodDescriptor y.desc).map (fun d => d.parameters.length) = some 0) (hR : fr + 1 ≤ R.frames ∧ 8 + (maxL + 11) + lo ≤ R.locals)
    (hK : va_K D vwCl [(cI, .int)] s) (hN : cz_N s) (hP : va_P D vwCl (ws ++ [(b, e0)]) H) (hD : va_D A (ws ++ [(b, e0)])) (hS : va_S A s.heap H locs) (hA : ∀ q, s.heap.size ≤ q → A q)
    (hsz : ls.size = nL) (hW : (rest.map fun v => v.category).sum ≤ 8) (hdg : decode cc pc = .ok (.invokespecial index, 3)) (hf : cells + mc ≤ R.cells ∧ slots + ms ≤ R.slots)
    (kk : ∀ (u : S) (H1 : Heap) (locs1 : List Loc), va_P D vwCl (ws ++ Wf u) H1 → va_D A (ws ++ Wf u) → va_S A s.heap H1 locs1 → W p l e R s m args below meth c H1 locs1 (cells + mc) (slots + ms) Q (F0 m (pc + 3) ls rest)) : W p l e R s m args below meth c H locs cells slots Q (F0 m pc ls (.ref b :: rest)) := by
  have ok : ∀ w ∈ wA, w.before args s = true := S'.2.2.2.2
  have cw : CallB R s args own index y bytes maxL none (Cond.code y bytes maxL none :: wA) (cz_rmC fr mc ms lo) mc ms 0 := callB_of 0 ok (cz_good y m5) rfl rfl rfl (ok _ m4) (ok _ m1) hd hR
  exact cz_afterC (va_runI (As := []) S' hM ⟨cw, hyi, ok _ m2⟩ ⟨cz_blindC, cz_preC hK hN hP⟩ rfl rfl hsz rfl (lv_room hW) hdg hf) hP hD hS hA kk
end CZN
