/-! own kit, 5: the String constant of the signs, and methods that ask it -/
abbrev cz_F : Nat → Prop := fun _ => False
def cz_T (adK adV : Nat → Nat) (A : Nat → Prop) (U : State) (H : Heap) : Prop := vk_R RX3 23 ".ABCabcr" (adK 0) U ∧ vk_S 1 [8] [[46, 65, 66, 67, 97, 98, 99, 114]] adK adV A U H ∧ va_Z "java/lang/String" "COMPACT_STRINGS" "Z" (.int 1) A U H
theorem cz_T.at {adK adV : Nat → Nat} {A B : Nat → Prop} {s U : State} {H H1 : Heap} (h : cz_T adK adV A s H) (hk : ∀ a : Nat, a < H.size → ¬ A a → H1[a]? = H[a]?) (hW : s.WarmedH U.vm) (hAB : ∀ q, B q → A q) : cz_T adK adV B U H1 :=
  ⟨h.1.warm hW, ((h.2.1.kept hk).moved hW.alike).narrow hAB, ((h.2.2.kept hk).moved hW.alike).narrow hAB⟩
theorem cz_T.same {adK adV : Nat → Nat} {A : Nat → Prop} {u U : State} {H : Heap} (hv : U.vm = u.vm) (h : cz_T adK adV A u H) : cz_T adK adV A U H :=
  ⟨h.1.same hv, h.2.1.moved (by rw [hv]; exact Vm.Alike.refl _), h.2.2.moved (by rw [hv]; exact Vm.Alike.refl _)⟩
def cz_PS (adK adV : Nat → Nat) (av : List Value) : Array Value → State → Prop := va_Pc av (fun U => cz_T adK adV cz_F U U.heap)
def cz_MS (l : Launch) (y : MethodName) (cc : ByteArray) (mL : Nat) (ty : FieldType) (fr lo : Nat) (adK adV : Nat → Nat) (av : List Value) (r : Int32) : Prop :=
  Met l y (Cond.code y cc mL (some ty) :: wA) (cz_rm fr lo) (cz_PS adK adV av) (vp_Si (fun z => z = r)) 0 0 cz_F
theorem cz_blindS {adK adV : Nat → Nat} {av : List Value} : FrameBlind (cz_PS adK adV av) := fun a U g mk q => ⟨q.1, cz_T.same (u := U) (U := U.calling g mk a) rfl q.2⟩
theorem cz_startS {l : Launch} {y : MethodName} {cc : ByteArray} {mL : Nat} {ty : FieldType} {fr lo : Nat} {adK adV : Nat → Nat} {av : List Value} {r : Int32} (hy : plainName y.cls = true) (hn : (lg_sl av).length ≤ mL)
    (body : ∀ (p : Program) (e : Env) (s : State) (m : MethodId) (ag : Array Value) (below : List Frame) (meth : Method) (c : Code) (Q : State → Prop), p.tables.exec = Jvm.exec → c.code = cc → c.maxLocals = mL → s.vm.findClass y.cls = some m.cls → (∀ w ∈ wA, w.before ag s = true) → cz_T adK adV cz_F s s.heap → (∀ (pc : Nat) (ls : Array Slot) (v : Int32), v = r → narrow ty (.int v) = .int v → decode cc pc = .ok (.ireturn, 1) → W p l e (cz_rm fr lo) s m ag below meth c s.heap [] 0 0 Q (F0 m pc ls [.int v])) → va_S cz_F s.heap s.heap [] → ∀ ls : Array Slot, lv_has ls mL (lv_args 0 av) →
      W p l e (cz_rm fr lo) s m ag below meth c s.heap [] 0 0 Q (F0 m 0 ls [])) : cz_MS l y cc mL ty fr lo adK adV av r := by
  refine Met.ofW (cc := cc) (maxL := mL) (ret := some ty) hy rfl ?_
  intro p e s m args below meth c s₁ B hml hv
  obtain ⟨rfl, hT⟩ := hv
  have hts := atoms_spec (ws := Cond.code y cc mL (some ty) :: wA) B.pre
  have hown : s.vm.findClass y.cls = some m.cls := findClass_of_methodNamed B.named
  have hl := lv_entry av (n := mL) hn
  rw [lg_entry_eq]
  exact body p e s m _ below meth c _ B.exec B.bytes hml hown (fun w h => hts w (List.mem_cons_of_mem _ h)) hT (fun pc ls v ev hz hd => W.zret B.exec B.bytes B.returns hz (fun t ht _ => ⟨v, rfl, ev, ht⟩) (fun q hq => by cases hq) hd B.notSynchronized) va_S.rf _ hl
section CZT
variable {p : Program} {l : Launch} {e : Env} {R : Room} {s : State} {m : MethodId} {args : Array Value} {below : List Frame} {meth : Method} {c : Code} {H : Heap} {locs : List Loc} {cells slots : Nat} {Q : State → Prop} {cc : ByteArray} {nL : Nat} {own C : String} {index maxL fr lo pc ci q0 : Nat} {y : MethodName} {bytes : ByteArray} {ret : Option FieldType} {D : va_G} {cI : ClassId} {As rest st0 : List Value} {b : Addr} {Wc Wc' ws ws1 rs : va_W} {isR as : List Nat} {res : Option Value} {A : Nat → Prop} {ls : Array Slot} {q : vw_C} {fs : List Value} {adK adV : Nat → Nat} {ty : FieldType} {r : Int32}
theorem cz_preS {av : List Value} (hT : cz_T adK adV A s s.heap) (hS : va_S A s.heap H locs) : ∀ U : State, U.heap = H → s.WarmedH U.vm → cz_PS adK adV av av.toArray U := fun U hU hW =>
  ⟨rfl, by show cz_T adK adV cz_F U U.heap; rw [hU]; exact hT.at hS.2.1 hW (fun _ h => h.elim)⟩
theorem cz_callVS {n : Nat} (S : CallFix p m c cc nL s args wA own) (hM : cz_MS l y bytes maxL ty fr lo adK adV (.ref (adK 0) :: As) r) (m1 : Cond.methodLink own index y ∈ wA) (m2 : Cond.instanceMethod y ∈ wA) (m3 : Cond.selects "java/lang/String" y y ∈ wA) (m4 : Cond.initialized "java/lang/String" ∈ wA) (m5 : Cond.code y bytes maxL (some ty) ∈ wA)
    (hd : y.cls = "java/lang/String" ∧ y.cls ≠ "java/lang/invoke/MethodHandle" ∧ y.cls ≠ "java/lang/invoke/VarHandle" ∧ (parseMethodDescriptor y.desc).map (fun d => d.parameters.length) = some n) (hR : fr + 1 ≤ R.frames ∧ 8 + (maxL + 11) + lo ≤ R.locals)
    (hT : cz_T adK adV A s s.heap) (hS : va_S A s.heap H locs) (hn : As.length = n) (hsz : ls.size = nL) (hst : st0 = As.reverse ++ .ref (adK 0) :: rest) (hW : (rest.map fun v => v.category).sum ≤ 8) (hdg : decode cc pc = .ok (.invokevirtual index, 3)) (hf : cells ≤ R.cells ∧ slots ≤ R.slots)
    (kk : W p l e R s m args below meth c H locs cells slots Q (F0 m (pc + 3) ls (.int r :: rest))) : W p l e R s m args below meth c H locs cells slots Q (F0 m pc ls st0) := by
  obtain ⟨hC1, hd⟩ := hd
  have ok : ∀ w ∈ wA, w.before args s = true := S.2.2.2.2
  have cw : CallW R s args own "java/lang/String" index y bytes maxL (some ty) (Cond.code y bytes maxL (some ty) :: wA) (cz_rm fr lo) 0 0 n := ⟨callB_of n ok (cz_good y m5) rfl rfl rfl (by rw [hC1]; exact ok _ m4) (ok _ m1) hd hR, ok _ m2, ok _ m3⟩
  refine vp_callSi (va_Run.run (va_runV (C := "java/lang/String") S hM cw ⟨cz_blindS, vk_recv hT.2.1 (Nat.zero_lt_one) hS, cz_preS hT hS⟩ rfl hn hsz (by rw [← hst]) (lv_room hW) hdg hf)) (fun z hz => ?_)
  subst hz
  exact kk
theorem cz_callSS {n : Nat} (S : CallFix p m c cc nL s args wA own) (hM : cz_MS l y bytes maxL ty fr lo adK adV As r) (m1 : Cond.methodLink own index y ∈ wA) (m2 : Cond.static y ∈ wA) (m4 : Cond.initialized y.cls ∈ wA) (m5 : Cond.code y bytes maxL (some ty) ∈ wA)
    (hd : y.cls ≠ "java/lang/invoke/MethodHandle" ∧ y.cls ≠ "java/lang/invoke/VarHandle" ∧ (parseMethodDescriptor y.desc).map (fun d => d.parameters.length) = some n) (hR : fr + 1 ≤ R.frames ∧ 8 + (maxL + 11) + lo ≤ R.locals)
    (hT : cz_T adK adV A s s.heap) (hS : va_S A s.heap H locs) (hn : As.length = n) (hsz : ls.size = nL) (hst : st0 = As.reverse ++ rest) (hW : (rest.map fun v => v.category).sum ≤ 8) (hdg : decode cc pc = .ok (.invokestatic index, 3)) (hf : cells ≤ R.cells ∧ slots ≤ R.slots)
    (kk : W p l e R s m args below meth c H locs cells slots Q (F0 m (pc + 3) ls (.int r :: rest))) : W p l e R s m args below meth c H locs cells slots Q (F0 m pc ls st0) := by
  have ok : ∀ w ∈ wA, w.before args s = true := S.2.2.2.2
  have cw : CallB R s args own index y bytes maxL (some ty) (Cond.code y bytes maxL (some ty) :: wA) (cz_rm fr lo) 0 0 n := callB_of n ok (cz_good y m5) rfl rfl rfl (ok _ m4) (ok _ m1) hd hR
  refine vp_callSi (va_Run.run (va_runS S hM ⟨cw, ok _ m2⟩ ⟨cz_blindS, cz_preS hT hS⟩ rfl hn hsz (by rw [← hst]) (lv_room hW) hdg hf)) (fun z hz => ?_)
  subst hz
  exact kk
end CZT
theorem cz_ltop {p : Program} {l : Launch} {e : Env} {R : Room} {s : State} {m : MethodId} {args : Array Value} {below : List Frame} {meth : Method} {c : Code} {H : Heap} {locs : List Loc} {cells slots : Nat} {Q : State → Prop} {pc : Nat} {ls : Array Slot} {rest : List Value} {x y : Int32} (h : x = y) (k : W p l e R s m args below meth c H locs cells slots Q (F0 m pc ls (.int y :: rest))) : W p l e R s m args below meth c H locs cells slots Q (F0 m pc ls (.int x :: rest)) := by rw [h]; exact k
theorem cz_minC : Cond.code yJ9_min_7cf53 cJ9_min_7cf53 2 (some .int) = Cond.code Lib.Math.min.name Lib.Math.min.code 2 (some .int) := by decide +kernel
theorem cz_maxC : Cond.code yJ9_max_7cf53 cJ9_max_7cf53 2 (some .int) = Cond.code Lib.Math.max.name Lib.Math.max.code 2 (some .int) := by decide +kernel
theorem hd_J0_indexOf_0f7a4 : yJ0_indexOf_0f7a4.cls = "java/lang/String" ∧ yJ0_indexOf_0f7a4.cls ≠ "java/lang/invoke/MethodHandle" ∧ yJ0_indexOf_0f7a4.cls ≠ "java/lang/invoke/VarHandle" ∧ (parseMethodDescriptor yJ0_indexOf_0f7a4.desc).map (fun d => d.parameters.length) = some 1 := by decide +kernel
theorem hd_J0_indexOf_7cf53 : yJ0_indexOf_7cf53.cls = "java/lang/String" ∧ yJ0_indexOf_7cf53.cls ≠ "java/lang/invoke/MethodHandle" ∧ yJ0_indexOf_7cf53.cls ≠ "java/lang/invoke/VarHandle" ∧ (parseMethodDescriptor yJ0_indexOf_7cf53.desc).map (fun d => d.parameters.length) = some 2 := by decide +kernel
theorem hd_J0_isLatin1_aae02 : yJ0_isLatin1_aae02.cls = "java/lang/String" ∧ yJ0_isLatin1_aae02.cls ≠ "java/lang/invoke/MethodHandle" ∧ yJ0_isLatin1_aae02.cls ≠ "java/lang/invoke/VarHandle" ∧ (parseMethodDescriptor yJ0_isLatin1_aae02.desc).map (fun d => d.parameters.length) = some 0 := by decide +kernel
theorem hd_J0_length_8abf5 : yJ0_length_8abf5.cls = "java/lang/String" ∧ yJ0_length_8abf5.cls ≠ "java/lang/invoke/MethodHandle" ∧ yJ0_length_8abf5.cls ≠ "java/lang/invoke/VarHandle" ∧ (parseMethodDescriptor yJ0_length_8abf5.desc).map (fun d => d.parameters.length) = some 0 := by decide +kernel
theorem hd_J0_coder_7d493 : yJ0_coder_7d493.cls = "java/lang/String" ∧ yJ0_coder_7d493.cls ≠ "java/lang/invoke/MethodHandle" ∧ yJ0_coder_7d493.cls ≠ "java/lang/invoke/VarHandle" ∧ (parseMethodDescriptor yJ0_coder_7d493.desc).map (fun d => d.parameters.length) = some 0 := by decide +kernel
theorem hd_J1_canEncode_9a6ad : yJ1_canEncode_9a6ad.cls ≠ "java/lang/invoke/MethodHandle" ∧ yJ1_canEncode_9a6ad.cls ≠ "java/lang/invoke/VarHandle" ∧ (parseMethodDescriptor yJ1_canEncode_9a6ad.desc).map (fun d => d.parameters.length) = some 1 := by decide +kernel
theorem hd_J1_indexOf_4cfef : yJ1_indexOf_4cfef.cls ≠ "java/lang/invoke/MethodHandle" ∧ yJ1_indexOf_4cfef.cls ≠ "java/lang/invoke/VarHandle" ∧ (parseMethodDescriptor yJ1_indexOf_4cfef.desc).map (fun d => d.parameters.length) = some 4 := by decide +kernel
theorem hd_J1_indexOfChar_4cfef : yJ1_indexOfChar_4cfef.cls ≠ "java/lang/invoke/MethodHandle" ∧ yJ1_indexOfChar_4cfef.cls ≠ "java/lang/invoke/VarHandle" ∧ (parseMethodDescriptor yJ1_indexOfChar_4cfef.desc).map (fun d => d.parameters.length) = some 4 := by decide +kernel
set_option maxHeartbeats 4000000 in
set_option maxRecDepth 100000 in
theorem s_canEncode (l : Launch) (adK adV : Nat → Nat) (x : Int32) : cz_MS l yJ1_canEncode_9a6ad cJ1_canEncode_9a6ad 1 .boolean 0 0 adK adV [.int x] (if x < 0 then 0 else if 255 < x then 0 else 1) := by
  refine cz_startS (by decide) (Nat.le_of_ble_eq_true rfl) ?_
  intro p e s m ag below meth c Q hx hb hml hown hts hT hQ hS ls hl
  replace hown : s.vm.findClass RJ1 = some m.cls := hown
  replace hl : lv_has ls 1 [(0, .int x)] := hl
  refine lv_iload_n hx hb dJ1_canEncode_9a6ad_0 rfl (lv_at hl 0 rfl) ?_
  refine lv_if_lt (tgt := 15) hx hb dJ1_canEncode_9a6ad_1 (by decide) (fun c1 => ?_) (fun c1 => ?_)
  · refine lv_iconst (v := (0 : Int32)) hx hb dJ1_canEncode_9a6ad_15 (by decide) ?_
    exact hQ _ _ _ (by rw [if_pos c1]) (by decide) dJ1_canEncode_9a6ad_16
  · refine lv_iload_n hx hb dJ1_canEncode_9a6ad_4 rfl (lv_at hl 0 rfl) ?_
    refine lv_sipush (v := (255 : Int32)) hx hb dJ1_canEncode_9a6ad_5 (by decide) ?_
    refine lv_icmp_gt (tgt := 15) hx hb dJ1_canEncode_9a6ad_8 (by decide) (fun c2 => ?_) (fun c2 => ?_)
    · refine lv_iconst (v := (0 : Int32)) hx hb dJ1_canEncode_9a6ad_15 (by decide) ?_
      exact hQ _ _ _ (by rw [if_neg c1, if_pos c2]) (by decide) dJ1_canEncode_9a6ad_16
    · refine lv_iconst (v := (1 : Int32)) hx hb dJ1_canEncode_9a6ad_11 (by decide) ?_
      refine lv_goto (tgt := 16) hx hb dJ1_canEncode_9a6ad_12 (by decide) ?_
      exact hQ _ _ _ (by rw [if_neg c1, if_neg c2]) (by decide) dJ1_canEncode_9a6ad_16
theorem cz_byt8 : ∀ j : Fin 256, ∀ b ∈ ([46, 65, 66, 67, 97, 98, 99, 114] : List Int32), b = (nI j.val).toInt8.toInt32 → nI j.val = b := by decide +kernel
set_option maxHeartbeats 4000000 in
set_option maxRecDepth 100000 in
theorem s_indexOfChar (l : Launch) (adK adV : Nat → Nat) (x : Int32) (h0 : ¬ x < 0) (h1 : ¬ 255 < x) : cz_MS l yJ1_indexOfChar_4cfef cJ1_indexOfChar_4cfef 6 .int 0 0 adK adV [.ref (adV 0), .int x, .int 0, .int 8] (cz_ix x) := by
  refine cz_startS (by decide) (Nat.le_of_ble_eq_true rfl) ?_
  intro p e s m ag below meth c Q hx hb hml hown hts hT hQ hS ls hl
  replace hown : s.vm.findClass RJ1 = some m.cls := hown
  replace hl : lv_has ls 6 [(0, .ref (adV 0)), (1, .int x), (2, .int 0), (3, .int 8)] := hl
  have hb8 : ∀ b ∈ ([46, 65, 66, 67, 97, 98, 99, 114] : List Int32), b = x.toInt8.toInt32 → x = b := by
    obtain ⟨j, hj, rfl⟩ := nI_of2 (M := 255) (n := 255) (by decide) h0 (Int32.not_lt.mp h1)
    exact cz_byt8 ⟨j, by omega⟩
  have hE := (hT.2.1.1 0 Nat.zero_lt_one).2.2.2
  refine lv_iload_n hx hb dJ1_indexOfChar_4cfef_0 rfl (lv_at hl 1 rfl) ?_
  refine lv_i2b hx hb dJ1_indexOfChar_4cfef_1 rfl ?_
  refine lv_topi (fun z ez => ?_)
  rw [← ez] at hb8
  refine lv_istore (lv' := [(4, .int z), (0, .ref (adV 0)), (1, .int x), (2, .int 0), (3, .int 8)]) hx hb dJ1_indexOfChar_4cfef_2 hl (by decide) rfl (fun ls hl => ?_)
  refine lv_iload_n hx hb dJ1_indexOfChar_4cfef_4 rfl (lv_at hl 3 rfl) ?_
  refine lv_istore (lv' := [(5, .int 0), (4, .int z), (0, .ref (adV 0)), (1, .int x), (2, .int 0), (3, .int 8)]) hx hb dJ1_indexOfChar_4cfef_5 hl (by decide) rfl (fun ls hl => ?_)
  refine W.eq (g2 := F0 m 7 ls []) rfl ?_
  refine lv_iload hx hb dJ1_indexOfChar_4cfef_7 (lv_at hl 0 rfl) ?_
  refine lv_iload_n hx hb dJ1_indexOfChar_4cfef_9 rfl (lv_at hl 5 rfl) ?_
  refine lv_icmp_ge (tgt := 31) hx hb dJ1_indexOfChar_4cfef_10 (by decide) (fun c9 => absurd c9 (by decide)) (fun _ => ?_)
  refine lv_aload_n hx hb dJ1_indexOfChar_4cfef_13 rfl (lv_at hl 2 rfl) ?_
  refine lv_iload hx hb dJ1_indexOfChar_4cfef_14 (lv_at hl 0 rfl) ?_
  refine va_tb (v := .int 46) hx hb hE hS (i := 0) (by rw [vp_in_iff]; decide) rfl dJ1_indexOfChar_4cfef_16 ?_
  refine lv_iload hx hb dJ1_indexOfChar_4cfef_17 (lv_at hl 1 rfl) ?_
  refine lv_icmp_ne (tgt := 25) hx hb dJ1_indexOfChar_4cfef_19 (by decide) (fun n0 => ?_) (fun y0 => ?_)
  rotate_left
  · have e := hb8 46 (by decide) y0
    refine lv_iload hx hb dJ1_indexOfChar_4cfef_22 (lv_at hl 0 rfl) ?_
    exact hQ _ _ _ (by rw [e]; decide) rfl dJ1_indexOfChar_4cfef_24
  refine lv_iinc (v := 1) (lv' := [(5, .int 1), (4, .int z), (0, .ref (adV 0)), (1, .int x), (2, .int 0), (3, .int 8)]) hx hb dJ1_indexOfChar_4cfef_25 hl (k := 0) rfl (by decide) (by decide) rfl (fun ls hl => ?_)
  refine lv_goto (tgt := 7) hx hb dJ1_indexOfChar_4cfef_28 (by decide) ?_
  refine W.eq (g2 := F0 m 7 ls []) rfl ?_
  refine lv_iload hx hb dJ1_indexOfChar_4cfef_7 (lv_at hl 0 rfl) ?_
  refine lv_iload_n hx hb dJ1_indexOfChar_4cfef_9 rfl (lv_at hl 5 rfl) ?_
  refine lv_icmp_ge (tgt := 31) hx hb dJ1_indexOfChar_4cfef_10 (by decide) (fun c9 => absurd c9 (by decide)) (fun _ => ?_)
  refine lv_aload_n hx hb dJ1_indexOfChar_4cfef_13 rfl (lv_at hl 2 rfl) ?_
  refine lv_iload hx hb dJ1_indexOfChar_4cfef_14 (lv_at hl 0 rfl) ?_
  refine va_tb (v := .int 65) hx hb hE hS (i := 1) (by rw [vp_in_iff]; decide) rfl dJ1_indexOfChar_4cfef_16 ?_
  refine lv_iload hx hb dJ1_indexOfChar_4cfef_17 (lv_at hl 1 rfl) ?_
  refine lv_icmp_ne (tgt := 25) hx hb dJ1_indexOfChar_4cfef_19 (by decide) (fun n1 => ?_) (fun y1 => ?_)
  rotate_left
  · have e := hb8 65 (by decide) y1
    refine lv_iload hx hb dJ1_indexOfChar_4cfef_22 (lv_at hl 0 rfl) ?_
    exact hQ _ _ _ (by rw [e]; decide) rfl dJ1_indexOfChar_4cfef_24
  refine lv_iinc (v := 2) (lv' := [(5, .int 2), (4, .int z), (0, .ref (adV 0)), (1, .int x), (2, .int 0), (3, .int 8)]) hx hb dJ1_indexOfChar_4cfef_25 hl (k := 0) rfl (by decide) (by decide) rfl (fun ls hl => ?_)
  refine lv_goto (tgt := 7) hx hb dJ1_indexOfChar_4cfef_28 (by decide) ?_
  refine W.eq (g2 := F0 m 7 ls []) rfl ?_
  refine lv_iload hx hb dJ1_indexOfChar_4cfef_7 (lv_at hl 0 rfl) ?_
  refine lv_iload_n hx hb dJ1_indexOfChar_4cfef_9 rfl (lv_at hl 5 rfl) ?_
  refine lv_icmp_ge (tgt := 31) hx hb dJ1_indexOfChar_4cfef_10 (by decide) (fun c9 => absurd c9 (by decide)) (fun _ => ?_)
  refine lv_aload_n hx hb dJ1_indexOfChar_4cfef_13 rfl (lv_at hl 2 rfl) ?_
  refine lv_iload hx hb dJ1_indexOfChar_4cfef_14 (lv_at hl 0 rfl) ?_
  refine va_tb (v := .int 66) hx hb hE hS (i := 2) (by rw [vp_in_iff]; decide) rfl dJ1_indexOfChar_4cfef_16 ?_
  refine lv_iload hx hb dJ1_indexOfChar_4cfef_17 (lv_at hl 1 rfl) ?_
  refine lv_icmp_ne (tgt := 25) hx hb dJ1_indexOfChar_4cfef_19 (by decide) (fun n2 => ?_) (fun y2 => ?_)
  rotate_left
  · have e := hb8 66 (by decide) y2
    refine lv_iload hx hb dJ1_indexOfChar_4cfef_22 (lv_at hl 0 rfl) ?_
    exact hQ _ _ _ (by rw [e]; decide) rfl dJ1_indexOfChar_4cfef_24
  refine lv_iinc (v := 3) (lv' := [(5, .int 3), (4, .int z), (0, .ref (adV 0)), (1, .int x), (2, .int 0), (3, .int 8)]) hx hb dJ1_indexOfChar_4cfef_25 hl (k := 0) rfl (by decide) (by decide) rfl (fun ls hl => ?_)
  refine lv_goto (tgt := 7) hx hb dJ1_indexOfChar_4cfef_28 (by decide) ?_
  refine W.eq (g2 := F0 m 7 ls []) rfl ?_
  refine lv_iload hx hb dJ1_indexOfChar_4cfef_7 (lv_at hl 0 rfl) ?_
  refine lv_iload_n hx hb dJ1_indexOfChar_4cfef_9 rfl (lv_at hl 5 rfl) ?_
  refine lv_icmp_ge (tgt := 31) hx hb dJ1_indexOfChar_4cfef_10 (by decide) (fun c9 => absurd c9 (by decide)) (fun _ => ?_)
  refine lv_aload_n hx hb dJ1_indexOfChar_4cfef_13 rfl (lv_at hl 2 rfl) ?_
  refine lv_iload hx hb dJ1_indexOfChar_4cfef_14 (lv_at hl 0 rfl) ?_
  refine va_tb (v := .int 67) hx hb hE hS (i := 3) (by rw [vp_in_iff]; decide) rfl dJ1_indexOfChar_4cfef_16 ?_
  refine lv_iload hx hb dJ1_indexOfChar_4cfef_17 (lv_at hl 1 rfl) ?_
  refine lv_icmp_ne (tgt := 25) hx hb dJ1_indexOfChar_4cfef_19 (by decide) (fun n3 => ?_) (fun y3 => ?_)
  rotate_left
  · have e := hb8 67 (by decide) y3
    refine lv_iload hx hb dJ1_indexOfChar_4cfef_22 (lv_at hl 0 rfl) ?_
    exact hQ _ _ _ (by rw [e]; decide) rfl dJ1_indexOfChar_4cfef_24
  refine lv_iinc (v := 4) (lv' := [(5, .int 4), (4, .int z), (0, .ref (adV 0)), (1, .int x), (2, .int 0), (3, .int 8)]) hx hb dJ1_indexOfChar_4cfef_25 hl (k := 0) rfl (by decide) (by decide) rfl (fun ls hl => ?_)
  refine lv_goto (tgt := 7) hx hb dJ1_indexOfChar_4cfef_28 (by decide) ?_
  refine W.eq (g2 := F0 m 7 ls []) rfl ?_
  refine lv_iload hx hb dJ1_indexOfChar_4cfef_7 (lv_at hl 0 rfl) ?_
  refine lv_iload_n hx hb dJ1_indexOfChar_4cfef_9 rfl (lv_at hl 5 rfl) ?_
  refine lv_icmp_ge (tgt := 31) hx hb dJ1_indexOfChar_4cfef_10 (by decide) (fun c9 => absurd c9 (by decide)) (fun _ => ?_)
  refine lv_aload_n hx hb dJ1_indexOfChar_4cfef_13 rfl (lv_at hl 2 rfl) ?_
  refine lv_iload hx hb dJ1_indexOfChar_4cfef_14 (lv_at hl 0 rfl) ?_
  refine va_tb (v := .int 97) hx hb hE hS (i := 4) (by rw [vp_in_iff]; decide) rfl dJ1_indexOfChar_4cfef_16 ?_
  refine lv_iload hx hb dJ1_indexOfChar_4cfef_17 (lv_at hl 1 rfl) ?_
  refine lv_icmp_ne (tgt := 25) hx hb dJ1_indexOfChar_4cfef_19 (by decide) (fun n4 => ?_) (fun y4 => ?_)
  rotate_left
  · have e := hb8 97 (by decide) y4
    refine lv_iload hx hb dJ1_indexOfChar_4cfef_22 (lv_at hl 0 rfl) ?_
    exact hQ _ _ _ (by rw [e]; decide) rfl dJ1_indexOfChar_4cfef_24
  refine lv_iinc (v := 5) (lv' := [(5, .int 5), (4, .int z), (0, .ref (adV 0)), (1, .int x), (2, .int 0), (3, .int 8)]) hx hb dJ1_indexOfChar_4cfef_25 hl (k := 0) rfl (by decide) (by decide) rfl (fun ls hl => ?_)
  refine lv_goto (tgt := 7) hx hb dJ1_indexOfChar_4cfef_28 (by decide) ?_
  refine W.eq (g2 := F0 m 7 ls []) rfl ?_
  refine lv_iload hx hb dJ1_indexOfChar_4cfef_7 (lv_at hl 0 rfl) ?_
  refine lv_iload_n hx hb dJ1_indexOfChar_4cfef_9 rfl (lv_at hl 5 rfl) ?_
  refine lv_icmp_ge (tgt := 31) hx hb dJ1_indexOfChar_4cfef_10 (by decide) (fun c9 => absurd c9 (by decide)) (fun _ => ?_)
  refine lv_aload_n hx hb dJ1_indexOfChar_4cfef_13 rfl (lv_at hl 2 rfl) ?_
  refine lv_iload hx hb dJ1_indexOfChar_4cfef_14 (lv_at hl 0 rfl) ?_
  refine va_tb (v := .int 98) hx hb hE hS (i := 5) (by rw [vp_in_iff]; decide) rfl dJ1_indexOfChar_4cfef_16 ?_
  refine lv_iload hx hb dJ1_indexOfChar_4cfef_17 (lv_at hl 1 rfl) ?_
  refine lv_icmp_ne (tgt := 25) hx hb dJ1_indexOfChar_4cfef_19 (by decide) (fun n5 => ?_) (fun y5 => ?_)
  rotate_left
  · have e := hb8 98 (by decide) y5
    refine lv_iload hx hb dJ1_indexOfChar_4cfef_22 (lv_at hl 0 rfl) ?_
    exact hQ _ _ _ (by rw [e]; decide) rfl dJ1_indexOfChar_4cfef_24
  refine lv_iinc (v := 6) (lv' := [(5, .int 6), (4, .int z), (0, .ref (adV 0)), (1, .int x), (2, .int 0), (3, .int 8)]) hx hb dJ1_indexOfChar_4cfef_25 hl (k := 0) rfl (by decide) (by decide) rfl (fun ls hl => ?_)
  refine lv_goto (tgt := 7) hx hb dJ1_indexOfChar_4cfef_28 (by decide) ?_
  refine W.eq (g2 := F0 m 7 ls []) rfl ?_
  refine lv_iload hx hb dJ1_indexOfChar_4cfef_7 (lv_at hl 0 rfl) ?_
  refine lv_iload_n hx hb dJ1_indexOfChar_4cfef_9 rfl (lv_at hl 5 rfl) ?_
  refine lv_icmp_ge (tgt := 31) hx hb dJ1_indexOfChar_4cfef_10 (by decide) (fun c9 => absurd c9 (by decide)) (fun _ => ?_)
  refine lv_aload_n hx hb dJ1_indexOfChar_4cfef_13 rfl (lv_at hl 2 rfl) ?_
  refine lv_iload hx hb dJ1_indexOfChar_4cfef_14 (lv_at hl 0 rfl) ?_
  refine va_tb (v := .int 99) hx hb hE hS (i := 6) (by rw [vp_in_iff]; decide) rfl dJ1_indexOfChar_4cfef_16 ?_
  refine lv_iload hx hb dJ1_indexOfChar_4cfef_17 (lv_at hl 1 rfl) ?_
  refine lv_icmp_ne (tgt := 25) hx hb dJ1_indexOfChar_4cfef_19 (by decide) (fun n6 => ?_) (fun y6 => ?_)
  rotate_left
  · have e := hb8 99 (by decide) y6
    refine lv_iload hx hb dJ1_indexOfChar_4cfef_22 (lv_at hl 0 rfl) ?_
    exact hQ _ _ _ (by rw [e]; decide) rfl dJ1_indexOfChar_4cfef_24
  refine lv_iinc (v := 7) (lv' := [(5, .int 7), (4, .int z), (0, .ref (adV 0)), (1, .int x), (2, .int 0), (3, .int 8)]) hx hb dJ1_indexOfChar_4cfef_25 hl (k := 0) rfl (by decide) (by decide) rfl (fun ls hl => ?_)
  refine lv_goto (tgt := 7) hx hb dJ1_indexOfChar_4cfef_28 (by decide) ?_
  refine W.eq (g2 := F0 m 7 ls []) rfl ?_
  refine lv_iload hx hb dJ1_indexOfChar_4cfef_7 (lv_at hl 0 rfl) ?_
  refine lv_iload_n hx hb dJ1_indexOfChar_4cfef_9 rfl (lv_at hl 5 rfl) ?_
  refine lv_icmp_ge (tgt := 31) hx hb dJ1_indexOfChar_4cfef_10 (by decide) (fun c9 => absurd c9 (by decide)) (fun _ => ?_)
  refine lv_aload_n hx hb dJ1_indexOfChar_4cfef_13 rfl (lv_at hl 2 rfl) ?_
  refine lv_iload hx hb dJ1_indexOfChar_4cfef_14 (lv_at hl 0 rfl) ?_
  refine va_tb (v := .int 114) hx hb hE hS (i := 7) (by rw [vp_in_iff]; decide) rfl dJ1_indexOfChar_4cfef_16 ?_
  refine lv_iload hx hb dJ1_indexOfChar_4cfef_17 (lv_at hl 1 rfl) ?_
  refine lv_icmp_ne (tgt := 25) hx hb dJ1_indexOfChar_4cfef_19 (by decide) (fun n7 => ?_) (fun y7 => ?_)
  rotate_left
  · have e := hb8 114 (by decide) y7
    refine lv_iload hx hb dJ1_indexOfChar_4cfef_22 (lv_at hl 0 rfl) ?_
    exact hQ _ _ _ (by rw [e]; decide) rfl dJ1_indexOfChar_4cfef_24
  refine lv_iinc (v := 8) (lv' := [(5, .int 8), (4, .int z), (0, .ref (adV 0)), (1, .int x), (2, .int 0), (3, .int 8)]) hx hb dJ1_indexOfChar_4cfef_25 hl (k := 0) rfl (by decide) (by decide) rfl (fun ls hl => ?_)
  refine lv_goto (tgt := 7) hx hb dJ1_indexOfChar_4cfef_28 (by decide) ?_
  refine W.eq (g2 := F0 m 7 ls []) rfl ?_
  refine lv_iload hx hb dJ1_indexOfChar_4cfef_7 (lv_at hl 0 rfl) ?_
  refine lv_iload_n hx hb dJ1_indexOfChar_4cfef_9 rfl (lv_at hl 5 rfl) ?_
  refine lv_icmp_ge (tgt := 31) hx hb dJ1_indexOfChar_4cfef_10 (by decide) (fun _ => ?_) (fun c9 => absurd (by decide) c9)
  refine lv_iconst (v := (-1 : Int32)) hx hb dJ1_indexOfChar_4cfef_31 (by decide) ?_
  have hne : ∀ b : Int32, ¬ b = z → b.toInt8.toInt32 = b → ¬ x = b := fun b hn hb e => hn (by rw [ez, e, hb])
  exact hQ _ _ _ (by unfold cz_ix; rw [if_neg (hne 46 n0 (by decide)), if_neg (hne 65 n1 (by decide)), if_neg (hne 66 n2 (by decide)), if_neg (hne 67 n3 (by decide)), if_neg (hne 97 n4 (by decide)), if_neg (hne 98 n5 (by decide)), if_neg (hne 99 n6 (by decide)), if_neg (hne 114 n7 (by decide))]) rfl dJ1_indexOfChar_4cfef_32
set_option maxHeartbeats 4000000 in
set_option maxRecDepth 100000 in
theorem s_latinIndexOf (l : Launch) (adK adV : Nat → Nat) (x : Int32) : cz_MS l yJ1_indexOf_4cfef cJ1_indexOf_4cfef 4 .int 1 25 adK adV [.ref (adV 0), .int x, .int 0, .int 8] (cz_ix x) := by
  refine cz_startS (by decide) (Nat.le_of_ble_eq_true rfl) ?_
  intro p e s m ag below meth c Q hx hb hml hown hts hT hQ hS ls hl
  replace hown : s.vm.findClass RJ1 = some m.cls := hown
  replace hl : lv_has ls 4 [(0, .ref (adV 0)), (1, .int x), (2, .int 0), (3, .int 8)] := hl
  have hE := (hT.2.1.1 0 Nat.zero_lt_one).2.2.2
  refine lv_iload_n hx hb dJ1_indexOf_4cfef_0 rfl (lv_at hl 1 rfl) ?_
  refine cz_callSS (As := [.int x]) (rest := []) ⟨hx, hb, hml, hown, hts⟩ (s_canEncode l adK adV x) mw_2_3 mw_2_4 mw_1_10 mw_2_5 hd_J1_canEncode_9a6ad ⟨Nat.le_of_ble_eq_true rfl, Nat.le_of_ble_eq_true rfl⟩ hT hS rfl hl.1 rfl (Nat.le_of_ble_eq_true rfl) dJ1_indexOf_4cfef_1 ⟨Nat.le_of_ble_eq_true rfl, Nat.le_of_ble_eq_true rfl⟩ ?_
  refine lv_topi (fun z ez => ?_)
  have hix : z = 0 → cz_ix x = -1 := fun h => by
    have hx2 : x < 0 ∨ 255 < x := by
      by_cases c1 : x < 0
      · exact Or.inl c1
      · by_cases c2 : 255 < x
        · exact Or.inr c2
        · rw [if_neg c1, if_neg c2] at ez; rw [ez] at h; exact absurd h (by decide)
    have hne : ∀ b ∈ ([46, 65, 66, 67, 97, 98, 99, 114] : List Int32), ¬ x = b := fun b hb e => by
      subst e
      revert hb hx2
      clear ez
      intro hx2 hb
      simp only [List.mem_cons, List.not_mem_nil, or_false] at hb
      rcases hb with rfl | rfl | rfl | rfl | rfl | rfl | rfl | rfl <;> revert hx2 <;> decide
    unfold cz_ix
    rw [if_neg (hne 46 (by decide)), if_neg (hne 65 (by decide)), if_neg (hne 66 (by decide)), if_neg (hne 67 (by decide)), if_neg (hne 97 (by decide)), if_neg (hne 98 (by decide)), if_neg (hne 99 (by decide)), if_neg (hne 114 (by decide))]
  refine lv_if_ne (tgt := 9) hx hb dJ1_indexOf_4cfef_4 (by decide) (fun c1 => ?_) (fun c1 => ?_)
  rotate_left
  · refine lv_iconst (v := (-1 : Int32)) hx hb dJ1_indexOf_4cfef_7 (by decide) ?_
    exact hQ _ _ _ (hix c1).symm rfl dJ1_indexOf_4cfef_8
  have h0 : ¬ x < 0 := fun h => c1 (by rw [ez, if_pos h])
  have h1 : ¬ 255 < x := fun h => c1 (by rw [ez, if_neg h0, if_pos h])
  refine lv_iload_n hx hb dJ1_indexOf_4cfef_9 rfl (lv_at hl 2 rfl) ?_
  refine lv_iconst (v := (0 : Int32)) hx hb dJ1_indexOf_4cfef_10 (by decide) ?_
  refine va_mmax hx hb (by rw [hml]; exact hl.1.symm) hown (hts _ mw_2_6) (hts _ mw_2_7) (hts _ mw_1_11) (cz_maxC ▸ hts _ mw_2_8) (Nat.le_of_ble_eq_true rfl) (Nat.le_of_ble_eq_true rfl) (Nat.le_of_ble_eq_true rfl) (Nat.le_of_ble_eq_true rfl) dJ1_indexOf_4cfef_11 ?_
  refine cz_ltop (y := 0) (by decide) ?_
  refine lv_istore_n (lv' := [(2, .int 0), (0, .ref (adV 0)), (1, .int x), (3, .int 8)]) hx hb dJ1_indexOf_4cfef_14 rfl hl (by decide) rfl (fun ls hl => ?_)
  refine lv_iload_n hx hb dJ1_indexOf_4cfef_15 rfl (lv_at hl 3 rfl) ?_
  refine lv_aload_n hx hb dJ1_indexOf_4cfef_16 rfl (lv_at hl 1 rfl) ?_
  refine va_tlen (v := 8) hx hb hE hS rfl dJ1_indexOf_4cfef_17 ?_
  refine va_mmin hx hb (by rw [hml]; exact hl.1.symm) hown (hts _ mw_2_9) (hts _ mw_2_10) (hts _ mw_1_11) (cz_minC ▸ hts _ mw_2_11) (Nat.le_of_ble_eq_true rfl) (Nat.le_of_ble_eq_true rfl) (Nat.le_of_ble_eq_true rfl) (Nat.le_of_ble_eq_true rfl) dJ1_indexOf_4cfef_18 ?_
  refine cz_ltop (y := 8) (by decide) ?_
  refine lv_istore_n (lv' := [(3, .int 8), (2, .int 0), (0, .ref (adV 0)), (1, .int x)]) hx hb dJ1_indexOf_4cfef_21 rfl hl (by decide) rfl (fun ls hl => ?_)
  refine lv_iload_n hx hb dJ1_indexOf_4cfef_22 rfl (lv_at hl 1 rfl) ?_
  refine lv_iload_n hx hb dJ1_indexOf_4cfef_23 rfl (lv_at hl 0 rfl) ?_
  refine lv_icmp_lt (tgt := 29) hx hb dJ1_indexOf_4cfef_24 (by decide) (fun _ => ?_) (fun c9 => absurd (by decide) c9)
  refine lv_aload_n hx hb dJ1_indexOf_4cfef_29 rfl (lv_at hl 2 rfl) ?_
  refine lv_iload_n hx hb dJ1_indexOf_4cfef_30 rfl (lv_at hl 3 rfl) ?_
  refine lv_iload_n hx hb dJ1_indexOf_4cfef_31 rfl (lv_at hl 1 rfl) ?_
  refine lv_iload_n hx hb dJ1_indexOf_4cfef_32 rfl (lv_at hl 0 rfl) ?_
  refine cz_callSS (As := [.ref (adV 0), .int x, .int 0, .int 8]) (rest := []) ⟨hx, hb, hml, hown, hts⟩ (s_indexOfChar l adK adV x h0 h1) mw_2_12 mw_2_13 mw_1_10 mw_2_14 hd_J1_indexOfChar_4cfef ⟨Nat.le_of_ble_eq_true rfl, Nat.le_of_ble_eq_true rfl⟩ hT hS rfl hl.1 rfl (Nat.le_of_ble_eq_true rfl) dJ1_indexOf_4cfef_33 ⟨Nat.le_of_ble_eq_true rfl, Nat.le_of_ble_eq_true rfl⟩ ?_
  exact hQ _ _ _ rfl rfl dJ1_indexOf_4cfef_36
set_option maxHeartbeats 4000000 in
set_option maxRecDepth 100000 in
theorem s_coder (l : Launch) (adK adV : Nat → Nat) : cz_MS l yJ0_coder_7d493 cJ0_coder_7d493 1 .byte 0 0 adK adV [.ref (adK 0)] 0 := by
  refine cz_startS (by decide) (Nat.le_of_ble_eq_true rfl) ?_
  intro p e s m ag below meth c Q hx hb hml hown hts hT hQ hS ls hl
  replace hown : s.vm.findClass RJ0 = some m.cls := hown
  replace hl : lv_has ls 1 [(0, .ref (adK 0))] := hl
  refine va_gets hx hb hT.2.2 hS hown (hts _ mw_1_230) (fun _ h9 => h9) dJ0_coder_7d493_0 ?_
  refine lv_if_eq (tgt := 13) hx hb dJ0_coder_7d493_3 (by decide) (fun c9 => absurd c9 (by decide)) (fun _ => ?_)
  refine lv_aload_n hx hb dJ0_coder_7d493_6 rfl (lv_at hl 0 rfl) ?_
  refine vk_getf hx hb (hT.2.1.1 0 Nat.zero_lt_one).2.1 hS hown (hts _ mw_5_17) (fun _ h9 => h9) dJ0_coder_7d493_7 ?_
  refine lv_goto (tgt := 14) hx hb dJ0_coder_7d493_10 (by decide) ?_
  exact hQ _ _ _ rfl (by decide) dJ0_coder_7d493_14
set_option maxHeartbeats 4000000 in
set_option maxRecDepth 100000 in
theorem s_isLatin1 (l : Launch) (adK adV : Nat → Nat) : cz_MS l yJ0_isLatin1_aae02 cJ0_isLatin1_aae02 1 .boolean 0 0 adK adV [.ref (adK 0)] 1 := by
  refine cz_startS (by decide) (Nat.le_of_ble_eq_true rfl) ?_
  intro p e s m ag below meth c Q hx hb hml hown hts hT hQ hS ls hl
  replace hown : s.vm.findClass RJ0 = some m.cls := hown
  replace hl : lv_has ls 1 [(0, .ref (adK 0))] := hl
  refine va_gets hx hb hT.2.2 hS hown (hts _ mw_1_230) (fun _ h9 => h9) dJ0_isLatin1_aae02_0 ?_
  refine lv_if_eq (tgt := 17) hx hb dJ0_isLatin1_aae02_3 (by decide) (fun c9 => absurd c9 (by decide)) (fun _ => ?_)
  refine lv_aload_n hx hb dJ0_isLatin1_aae02_6 rfl (lv_at hl 0 rfl) ?_
  refine vk_getf hx hb (hT.2.1.1 0 Nat.zero_lt_one).2.1 hS hown (hts _ mw_5_17) (fun _ h9 => h9) dJ0_isLatin1_aae02_7 ?_
  refine lv_if_ne (tgt := 17) hx hb dJ0_isLatin1_aae02_10 (by decide) (fun c9 => absurd rfl c9) (fun _ => ?_)
  refine lv_iconst (v := (1 : Int32)) hx hb dJ0_isLatin1_aae02_13 (by decide) ?_
  refine lv_goto (tgt := 18) hx hb dJ0_isLatin1_aae02_14 (by decide) ?_
  exact hQ _ _ _ rfl (by decide) dJ0_isLatin1_aae02_18
set_option maxHeartbeats 4000000 in
set_option maxRecDepth 100000 in
theorem s_length (l : Launch) (adK adV : Nat → Nat) : cz_MS l yJ0_length_8abf5 cJ0_length_8abf5 1 .int 1 20 adK adV [.ref (adK 0)] 8 := by
  refine cz_startS (by decide) (Nat.le_of_ble_eq_true rfl) ?_
  intro p e s m ag below meth c Q hx hb hml hown hts hT hQ hS ls hl
  replace hown : s.vm.findClass RJ0 = some m.cls := hown
  replace hl : lv_has ls 1 [(0, .ref (adK 0))] := hl
  have hE := (hT.2.1.1 0 Nat.zero_lt_one).2.2.2
  refine lv_aload_n hx hb dJ0_length_8abf5_0 rfl (lv_at hl 0 rfl) ?_
  refine vk_getf hx hb (hT.2.1.1 0 Nat.zero_lt_one).2.2.1 hS hown (hts _ mw_5_18) (fun _ h9 => h9) dJ0_length_8abf5_1 ?_
  refine va_tlen (v := 8) hx hb hE hS rfl dJ0_length_8abf5_4 ?_
  refine lv_aload_n hx hb dJ0_length_8abf5_5 rfl (lv_at hl 0 rfl) ?_
  refine cz_callVS (As := []) (rest := [.int 8]) ⟨hx, hb, hml, hown, hts⟩ (s_coder l adK adV) mw_1_236 mw_1_237 mw_1_238 mw_1_9 mw_1_239 hd_J0_coder_7d493 ⟨Nat.le_of_ble_eq_true rfl, Nat.le_of_ble_eq_true rfl⟩ hT hS rfl hl.1 rfl (Nat.le_of_ble_eq_true rfl) dJ0_length_8abf5_6 ⟨Nat.le_of_ble_eq_true rfl, Nat.le_of_ble_eq_true rfl⟩ ?_
  refine lv_ishr hx hb dJ0_length_8abf5_9 ?_
  exact hQ _ _ _ (by decide) rfl dJ0_length_8abf5_10
set_option maxHeartbeats 4000000 in
set_option maxRecDepth 100000 in
theorem s_indexOf2 (l : Launch) (adK adV : Nat → Nat) (x : Int32) : cz_MS l yJ0_indexOf_7cf53 cJ0_indexOf_7cf53 3 .int 2 48 adK adV [.ref (adK 0), .int x, .int 0] (cz_ix x) := by
  refine cz_startS (by decide) (Nat.le_of_ble_eq_true rfl) ?_
  intro p e s m ag below meth c Q hx hb hml hown hts hT hQ hS ls hl
  replace hown : s.vm.findClass RJ0 = some m.cls := hown
  replace hl : lv_has ls 3 [(0, .ref (adK 0)), (1, .int x), (2, .int 0)] := hl
  refine lv_aload_n hx hb dJ0_indexOf_7cf53_0 rfl (lv_at hl 0 rfl) ?_
  refine cz_callVS (As := []) (rest := []) ⟨hx, hb, hml, hown, hts⟩ (s_isLatin1 l adK adV) mw_1_226 mw_1_227 mw_1_228 mw_1_9 mw_1_229 hd_J0_isLatin1_aae02 ⟨Nat.le_of_ble_eq_true rfl, Nat.le_of_ble_eq_true rfl⟩ hT hS rfl hl.1 rfl (Nat.le_of_ble_eq_true rfl) dJ0_indexOf_7cf53_1 ⟨Nat.le_of_ble_eq_true rfl, Nat.le_of_ble_eq_true rfl⟩ ?_
  refine lv_if_eq (tgt := 23) hx hb dJ0_indexOf_7cf53_4 (by decide) (fun c9 => absurd c9 (by decide)) (fun _ => ?_)
  refine lv_aload_n hx hb dJ0_indexOf_7cf53_7 rfl (lv_at hl 0 rfl) ?_
  refine vk_getf hx hb (hT.2.1.1 0 Nat.zero_lt_one).2.2.1 hS hown (hts _ mw_5_18) (fun _ h9 => h9) dJ0_indexOf_7cf53_8 ?_
  refine lv_iload_n hx hb dJ0_indexOf_7cf53_11 rfl (lv_at hl 1 rfl) ?_
  refine lv_iload_n hx hb dJ0_indexOf_7cf53_12 rfl (lv_at hl 2 rfl) ?_
  refine lv_aload_n hx hb dJ0_indexOf_7cf53_13 rfl (lv_at hl 0 rfl) ?_
  refine cz_callVS (As := []) (rest := [.int 0, .int x, .ref (adV 0)]) ⟨hx, hb, hml, hown, hts⟩ (s_length l adK adV) mw_1_232 mw_1_233 mw_1_234 mw_1_9 mw_1_235 hd_J0_length_8abf5 ⟨Nat.le_of_ble_eq_true rfl, Nat.le_of_ble_eq_true rfl⟩ hT hS rfl hl.1 rfl (Nat.le_of_ble_eq_true rfl) dJ0_indexOf_7cf53_14 ⟨Nat.le_of_ble_eq_true rfl, Nat.le_of_ble_eq_true rfl⟩ ?_
  refine cz_callSS (As := [.ref (adV 0), .int x, .int 0, .int 8]) (rest := []) ⟨hx, hb, hml, hown, hts⟩ (s_latinIndexOf l adK adV x) mw_2_0 mw_2_1 mw_1_10 mw_2_2 hd_J1_indexOf_4cfef ⟨Nat.le_of_ble_eq_true rfl, Nat.le_of_ble_eq_true rfl⟩ hT hS rfl hl.1 rfl (Nat.le_of_ble_eq_true rfl) dJ0_indexOf_7cf53_17 ⟨Nat.le_of_ble_eq_true rfl, Nat.le_of_ble_eq_true rfl⟩ ?_
  refine lv_goto (tgt := 36) hx hb dJ0_indexOf_7cf53_20 (by decide) ?_
  exact hQ _ _ _ rfl rfl dJ0_indexOf_7cf53_36
set_option maxHeartbeats 4000000 in
set_option maxRecDepth 100000 in
theorem s_indexOf1 (l : Launch) (adK adV : Nat → Nat) (x : Int32) : cz_MS l yJ0_indexOf_0f7a4 cJ0_indexOf_0f7a4 2 .int 3 70 adK adV [.ref (adK 0), .int x] (cz_ix x) := by
  refine cz_startS (by decide) (Nat.le_of_ble_eq_true rfl) ?_
  intro p e s m ag below meth c Q hx hb hml hown hts hT hQ hS ls hl
  replace hown : s.vm.findClass RJ0 = some m.cls := hown
  replace hl : lv_has ls 2 [(0, .ref (adK 0)), (1, .int x)] := hl
  refine lv_aload_n hx hb dJ0_indexOf_0f7a4_0 rfl (lv_at hl 0 rfl) ?_
  refine lv_iload_n hx hb dJ0_indexOf_0f7a4_1 rfl (lv_at hl 1 rfl) ?_
  refine lv_iconst (v := (0 : Int32)) hx hb dJ0_indexOf_0f7a4_2 (by decide) ?_
  refine cz_callVS (As := [.int x, .int 0]) (rest := []) ⟨hx, hb, hml, hown, hts⟩ (s_indexOf2 l adK adV x) mw_1_222 mw_1_223 mw_1_224 mw_1_9 mw_1_225 hd_J0_indexOf_7cf53 ⟨Nat.le_of_ble_eq_true rfl, Nat.le_of_ble_eq_true rfl⟩ hT hS rfl hl.1 rfl (Nat.le_of_ble_eq_true rfl) dJ0_indexOf_0f7a4_3 ⟨Nat.le_of_ble_eq_true rfl, Nat.le_of_ble_eq_true rfl⟩ ?_
  exact hQ _ _ _ rfl rfl dJ0_indexOf_0f7a4_6
