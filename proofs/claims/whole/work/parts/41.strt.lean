/-! own kit, 6: contracts that also take the String constant as it is -/
def cz_PT (D : va_G) (cI : ClassId) (adK adV : Nat → Nat) (av : List Value) (ws : va_W) : Array Value → State → Prop := va_Pc av (fun U => (va_P D vwCl ws U.heap ∧ va_K D vwCl [(cI, .int)] U ∧ cz_N U ∧ va_D (fun _ => True) ws) ∧ cz_T adK adV (cz_A ws) U U.heap)
def cz_MT (l : Launch) (y : MethodName) (cc : ByteArray) (mL : Nat) (rt : Option FieldType) (fr lo : Nat) (D : va_G) (cI : ClassId) (adK adV : Nat → Nat) (av : List Value) (ws : va_W) (res : Option Value) (ws' : va_W) : Prop :=
  Met l y (Cond.code y cc mL rt :: wA) (cz_rm fr lo) (cz_PT D cI adK adV av ws) (cz_Qc D res ws ws') 0 0 (cz_A ws)
section CZTS
variable {l : Launch} {y : MethodName} {cc : ByteArray} {mL : Nat} {fr lo : Nat} {D : va_G} {cI : ClassId} {adK adV : Nat → Nat} {av : List Value} {ws ws' : va_W} {rt : Option FieldType} {res : Option Value}
theorem cz_startT (hy : plainName y.cls = true) (hn : (lg_sl av).length ≤ mL)
    (body : ∀ (p : Program) (e : Env) (s : State) (m : MethodId) (below : List Frame) (meth : Method) (c : Code), p.tables.exec = Jvm.exec → c.code = cc → meth.sig.returnType = rt → c.maxLocals = mL → meth.locks = false → s.vm.findClass y.cls = some m.cls → (∀ w ∈ wA, w.before av.toArray s = true) → va_K D vwCl [(cI, .int)] s → cz_N s → cz_T adK adV (cz_A ws) s s.heap → va_P D vwCl ws s.heap → va_D (cz_A ws) ws → va_S (cz_A ws) s.heap s.heap [] → ∀ ls : Array Slot, lv_has ls mL (lv_args 0 av) →
      W p l e (cz_rm fr lo) s m av.toArray below meth c s.heap [] 0 0 (MQ below (cz_Qc D res ws ws') av.toArray s 0 0 (cz_A ws)) (F0 m 0 ls [])) : cz_MT l y cc mL rt fr lo D cI adK adV av ws res ws' := by
  refine Met.ofW (cc := cc) (maxL := mL) (ret := rt) hy rfl ?_
  intro p e s m args below meth c s₁ B hml hv
  obtain ⟨rfl, ⟨hP, hK, hN, hD0⟩, hT⟩ := hv
  have hts := atoms_spec (ws := Cond.code y cc mL rt :: wA) B.pre
  have hown : s.vm.findClass y.cls = some m.cls := findClass_of_methodNamed B.named
  have hl := lv_entry av (n := mL) hn
  rw [lg_entry_eq]
  exact body p e s m below meth c B.exec B.bytes B.returns hml B.notSynchronized hown (fun w h => hts w (List.mem_cons_of_mem _ h)) hK hN hT hP ⟨hD0.1, fun k q hk => ⟨k, q.2, hk⟩⟩ va_S.rf _ hl
abbrev cz_BodyT (l : Launch) (y : MethodName) (cc : ByteArray) (mL : Nat) (fr lo : Nat) (D : va_G) (cI : ClassId) (adK adV : Nat → Nat) (av : List Value) (ws : va_W) (RET : Program → Env → State → MethodId → Array Value → List Frame → Method → Code → (Nat → Prop) → (State → Prop) → Prop) : Prop :=
  ∀ (p : Program) (e : Env) (s : State) (m : MethodId) (ag : Array Value) (below : List Frame) (meth : Method) (c : Code) (A : Nat → Prop) (Q : State → Prop), p.tables.exec = Jvm.exec → c.code = cc → c.maxLocals = mL → s.vm.findClass y.cls = some m.cls → (∀ w ∈ wA, w.before ag s = true) → va_K D vwCl [(cI, .int)] s → cz_N s → cz_T adK adV A s s.heap → RET p e s m ag below meth c A Q → ∀ (H : Heap) (locs : List Loc), va_P D vwCl ws H → va_D A ws → va_S A s.heap H locs → ∀ ls : Array Slot, lv_has ls mL (lv_args 0 av) →
      W p l e (cz_rm fr lo) s m ag below meth c H locs 0 0 Q (F0 m 0 ls [])
theorem cz_startIT {v : Int32} (hy : plainName y.cls = true) (hn : (lg_sl av).length ≤ mL) (body : cz_BodyT l y cc mL fr lo D cI adK adV av ws (cz_RI l cc fr lo D ws' v)) : cz_MT l y cc mL (some .int) fr lo D cI adK adV av ws (some (.int v)) ws' :=
  cz_startT hy hn (fun p e s m below meth c hx hb hr hml hlk hown hts hK hN hT hP hD hS ls hl => body p e s m _ below meth c _ _ hx hb hml hown hts hK hN hT (fun _ _ _ _ hP hS hd => cz_iret hx hb hr hlk hP hS hd) _ _ hP hD hS ls hl)
theorem cz_startVT (hy : plainName y.cls = true) (hn : (lg_sl av).length ≤ mL) (body : cz_BodyT l y cc mL fr lo D cI adK adV av ws (cz_RV l cc fr lo D ws')) : cz_MT l y cc mL none fr lo D cI adK adV av ws none ws' :=
  cz_startT hy hn (fun p e s m below meth c hx hb hr hml hlk hown hts hK hN hT hP hD hS ls hl => body p e s m _ below meth c _ _ hx hb hml hown hts hK hN hT (fun _ _ _ _ hP hS hd => cz_vret hx hb hr hlk hP hS hd) _ _ hP hD hS ls hl)
theorem cz_blindT : FrameBlind (cz_PT D cI adK adV av ws) := fun a U g mk q => by
  obtain ⟨q0, ⟨qP, qK, qN, qD⟩, qT⟩ := q
  exact ⟨q0, ⟨qP, va_K.moved (u := U) (U := U.calling g mk a) (Vm.Alike.refl U.vm) qK, cz_N.same (u := U) (U := U.calling g mk a) rfl qN, qD⟩, cz_T.same (u := U) (U := U.calling g mk a) rfl qT⟩
end CZTS
section CZTC
variable {p : Program} {l : Launch} {e : Env} {R : Room} {s : State} {m : MethodId} {args : Array Value} {below : List Frame} {meth : Method} {c : Code} {H : Heap} {locs : List Loc} {cells slots : Nat} {Q : State → Prop} {cc : ByteArray} {nL : Nat} {own C : String} {index maxL fr lo pc ci q0 : Nat} {y : MethodName} {bytes : ByteArray} {ret : Option FieldType} {D : va_G} {cI : ClassId} {As rest st0 : List Value} {b : Addr} {Wc Wc' ws ws1 rs : va_W} {isR as : List Nat} {res : Option Value} {A : Nat → Prop} {ls : Array Slot} {q : vw_C} {fs : List Value} {adK adV : Nat → Nat}
theorem cz_callVT {is : List Nat} {n : Nat} (S : CallFix p m c cc nL s args wA own) (hM : cz_MT l y bytes maxL ret fr lo D cI adK adV (.ref b :: As) Wc res Wc') (m1 : Cond.methodLink own index y ∈ wA) (m2 : Cond.instanceMethod y ∈ wA) (m3 : Cond.selects C y y ∈ wA) (m4 : Cond.initialized C ∈ wA) (m5 : Cond.code y bytes maxL ret ∈ wA)
    (hd : y.cls = C ∧ y.cls ≠ "java/lang/invoke/MethodHandle" ∧ y.cls ≠ "java/lang/invoke/VarHandle" ∧ (parseMethodDescriptor y.desc).map (fun d => d.parameters.length) = some n) (hR : fr + 1 ≤ R.frames ∧ 8 + (maxL + 11) + lo ≤ R.locals)
    (hK : va_K D vwCl [(cI, .int)] s) (hN : cz_N s) (hT : cz_T adK adV A s s.heap) (hP : va_P D vwCl ws H) (hD : va_D A ws) (hS : va_S A s.heap H locs) (hnd : va_nd is = true) (hC : is.map (fun i => ws[i]?) = Wc.map some) (hU : is.map (fun i => ws1[i]?) = Wc'.map some) (hR1 : isR.map (fun i => ws[i]?) = rs.map some) (hR2 : isR.map (fun i => ws1[i]?) = rs.map some) (hcov : ((List.range ws1.length).all fun k => is.contains k || isR.contains k) = true) (hf1 : ws.map Prod.fst = as) (hf2 : ws1.map Prod.fst = as)
    (hc : vwCl[ci]? = some q) (hq : q.1 = C) (he : Wc[q0]? = some (b, .inr (ci, fs))) (hn : As.length = n) (hsz : ls.size = nL) (hst : st0 = As.reverse ++ .ref b :: rest) (hW : (rest.map fun v => v.category).sum ≤ 8) (hdg : decode cc pc = .ok (.invokevirtual index, 3)) (hf : cells ≤ R.cells ∧ slots ≤ R.slots)
    (kk : ∀ (H1 : Heap) (locs1 : List Loc), va_P D vwCl ws1 H1 → va_D A ws1 → va_S A s.heap H1 locs1 → W p l e R s m args below meth c H1 locs1 cells slots Q (F0 m (pc + 3) ls (res.toList ++ rest))) : W p l e R s m args below meth c H locs cells slots Q (F0 m pc ls st0) := by
  obtain ⟨hC1, hd⟩ := hd
  subst hC1
  have ok : ∀ w ∈ wA, w.before args s = true := S.2.2.2.2
  have cw : CallW R s args own y.cls index y bytes maxL ret (Cond.code y bytes maxL ret :: wA) (cz_rm fr lo) 0 0 n := ⟨callB_of n ok (cz_good y m5) rfl rfl rfl (ok _ m4) (ok _ m1) hd hR, ok _ m2, ok _ m3⟩
  have hrv := va_recv hK (cz_sub hC hP) hc he
  rw [hq] at hrv
  have hfree : ∀ q, cz_A Wc q → A q := fun q hq => by
    obtain ⟨k, e, hk⟩ := hq
    obtain ⟨i, -, h2⟩ := cz_at hC hk
    exact hD.2 i _ h2
  have hpre : ∀ U : State, U.heap = H → s.WarmedH U.vm → cz_PT D cI adK adV (.ref b :: As) Wc (Value.ref b :: As).toArray U := fun U hU hW =>
    ⟨rfl, ⟨by rw [hU]; exact cz_sub hC hP, va_K.moved hW.alike hK, hN.warm hW, (hD.sub is hnd hC).weaken (fun _ _ _ _ => trivial)⟩, by rw [hU]; exact hT.at hS.2.1 hW hfree⟩
  refine cz_after (mc := 0) (va_runV (C := y.cls) S hM cw ⟨cz_blindT, hrv, hpre⟩ rfl hn hsz (by rw [← hst]) (lv_room hW) hdg hf) (fun _ _ _ h => h) hP hD hS hC hU hR1 hR2 hcov hf1 hf2 kk
end CZTC
set_option maxHeartbeats 4000000 in
set_option maxRecDepth 100000 in
theorem c_X3_kindAt (l : Launch) (D : va_G) (cI : ClassId) (adK adV : Nat → Nat) (a_o a_o_signs : Nat) (v_o_length : Int32) (f_o_signs : (Nat → Int32)) (w1 : Int32) (n : Nat) (r : Int32) (h : f_X3_kindAt n v_o_length f_o_signs w1 = some r) : cz_MT l yX3_kindAt cX3_kindAt 3 (some .int) 6 140 D cI adK adV [.ref a_o, .int w1] [oX3 a_o a_o_signs v_o_length, aI cI a_o_signs 129 f_o_signs] (some (.int r)) [oX3 a_o a_o_signs v_o_length, aI cI a_o_signs 129 f_o_signs] := by
  refine cz_startIT (by decide) (Nat.le_of_ble_eq_true rfl) ?_
  intro p e s m ag below meth c A Q hx hb hml hown hts hK hN hT hQ H locs hP hD hS ls hl
  replace hown : s.vm.findClass RX3 = some m.cls := hown
  replace hl : lv_has ls 3 [(0, .ref a_o), (1, .int w1)] := hl
  unfold f_X3_kindAt at h
  refine lv_aload_n hx hb dX3_kindAt_0 rfl (lv_at hl 0 rfl) ?_
  refine lv_iload_n hx hb dX3_kindAt_1 rfl (lv_at hl 1 rfl) ?_
  obtain ⟨x1, hc1, h⟩ := cz_e1 h
  refine cz_callV (As := [.int w1]) (rest := []) (is := [0, 1]) (isR := []) (rs := []) (as := [a_o, a_o_signs]) (ws1 := [oX3 a_o a_o_signs v_o_length, aI cI a_o_signs 129 f_o_signs]) (q0 := 0) (ci := 3) ⟨hx, hb, hml, hown, hts⟩ (c_X3_signAt l D cI a_o a_o_signs v_o_length f_o_signs w1 n x1 hc1) mw_1_213 mw_1_214 mw_1_215 mw_1_2 mw_1_216 hd_X3_signAt ⟨Nat.le_of_ble_eq_true rfl, Nat.le_of_ble_eq_true rfl⟩ hK hN hP hD hS rfl rfl rfl rfl rfl rfl rfl rfl rfl rfl rfl rfl hl.1 rfl (Nat.le_of_ble_eq_true rfl) dX3_kindAt_2 ⟨Nat.le_of_ble_eq_true rfl, Nat.le_of_ble_eq_true rfl⟩ (fun H locs hP hD hS => ?_)
  refine W.eq (g2 := F0 m 5 ls [.int x1]) rfl ?_
  refine lv_istore_n (lv' := [(2, .int x1), (0, .ref a_o), (1, .int w1)]) hx hb dX3_kindAt_5 rfl hl (by decide) rfl (fun ls hl => ?_)
  refine lv_iload_n hx hb dX3_kindAt_6 rfl (lv_at hl 0 rfl) ?_
  refine lv_if_ge (tgt := 14) hx hb dX3_kindAt_7 (by decide) (fun c1 => ?_) (fun c1 => ?_)
  · replace h := cz_f (Int32.not_lt.mpr c1) h
    refine va_ldcS hx hb hown hT.1 dX3_kindAt_14 ?_
    refine lv_iload_n hx hb dX3_kindAt_16 rfl (lv_at hl 0 rfl) ?_
    refine lv_i2c hx hb dX3_kindAt_17 rfl ?_
    refine cz_callVS (As := [.int (x1.toUInt32 % 65536).toInt32]) (rest := []) ⟨hx, hb, hml, hown, hts⟩ (s_indexOf1 l adK adV (x1.toUInt32 % 65536).toInt32) mw_1_218 mw_1_219 mw_1_220 mw_1_9 mw_1_221 hd_J0_indexOf_0f7a4 ⟨Nat.le_of_ble_eq_true rfl, Nat.le_of_ble_eq_true rfl⟩ hT hS rfl hl.1 rfl (Nat.le_of_ble_eq_true rfl) dX3_kindAt_18 ⟨Nat.le_of_ble_eq_true rfl, Nat.le_of_ble_eq_true rfl⟩ ?_
    obtain rfl := cz_i h
    exact hQ _ _ _ _ hP hS dX3_kindAt_21
  · replace h := cz_t (Int32.not_le.mp c1) h
    refine lv_iconst (v := (-1 : Int32)) hx hb dX3_kindAt_10 (by decide) ?_
    refine lv_goto (tgt := 21) hx hb dX3_kindAt_11 (by decide) ?_
    obtain rfl := cz_i h
    exact hQ _ _ _ _ hP hS dX3_kindAt_21
