/-! given: it returns or throws; the law's helper catches -/
def zx_tx : String := "the odds of the given question are 0"
def zx_G (U : State) : Prop := va_Nw (.declares (Bundle.initS "java/lang/RuntimeException")) U ∧ va_Nw (.declares (Bundle.initS "java/lang/Exception")) U ∧ va_Nw (.declares (Bundle.initS "java/lang/Throwable")) U ∧ va_Nw (.castable "java/lang/ArithmeticException" "java/lang/ArithmeticException") U
theorem zx_G.warm {s U : State} (hW : s.WarmedH U.vm) (h : zx_G s) : zx_G U :=
  ⟨va_tabs rfl (rfl : (s.setVm U.vm).vm = U.vm) (by rw [Cond.declares_setVm hW.alike]; exact h.1), va_tabs rfl (rfl : (s.setVm U.vm).vm = U.vm) (by rw [Cond.declares_setVm hW.alike]; exact h.2.1), va_tabs rfl (rfl : (s.setVm U.vm).vm = U.vm) (by rw [Cond.declares_setVm hW.alike]; exact h.2.2.1), va_Nw.warmC hW h.2.2.2⟩
theorem zx_G.same {u U : State} (hv : u.vm = U.vm) (h : zx_G u) : zx_G U := ⟨va_tabs rfl hv h.1, va_tabs rfl hv h.2.1, va_tabs rfl hv h.2.2.1, va_tabs rfl hv h.2.2.2⟩
def zx_St (sa : Nat) (A : Nat → Prop) (U : State) (H : Heap) : Prop := vk_R RX0 115 zx_tx sa U ∧ vx_Zq Bundle.tN "UNASSIGNED_STACK" Bundle.steD A U H ∧ vx_Zq Bundle.tN "SUPPRESSED_SENTINEL" Bundle.listD A U H ∧ zx_G U
theorem zx_St.to {sa : Nat} {A : Nat → Prop} {s U : State} {H : Heap} {locs : List Loc} (h : zx_St sa A s s.heap) (hS : va_S A s.heap H locs) (hU : U.heap = H) (hW : s.WarmedH U.vm) : zx_St sa oo_N U U.heap := by
  refine ⟨h.1.warm hW, ?_, ?_, zx_G.warm hW h.2.2.2⟩
  · rw [hU]; exact (vx_Zq.moved hW.alike (h.2.1.kept (fun a h1 h2 => hS.2.1 a h1 h2))).narrow (fun q h => h.elim)
  · rw [hU]; exact (vx_Zq.moved hW.alike (h.2.2.1.kept (fun a h1 h2 => hS.2.1 a h1 h2))).narrow (fun q h => h.elim)
theorem zx_St.same {sa : Nat} {A : Nat → Prop} {u U : State} (hv : u.vm = U.vm) (hh : u.heap = U.heap) (h : zx_St sa A u u.heap) : zx_St sa A U U.heap := by
  have al : u.vm.Alike U.vm := by rw [hv]; exact Vm.Alike.refl U.vm
  refine ⟨h.1.same hv.symm, ?_, ?_, zx_G.same hv h.2.2.2⟩
  · rw [← hh]; exact vx_Zq.moved al h.2.1
  · rw [← hh]; exact vx_Zq.moved al h.2.2.1
def zx_pre (D : va_G) (ws : va_W) (tys : List (ClassId × FieldType)) (sa : Nat) : State → Prop := fun U => oo_pre D ws tys U ∧ zx_St sa oo_N U U.heap
theorem zx_blind {av : List Value} {D : va_G} {ws : va_W} {tys : List (ClassId × FieldType)} {sa : Nat} : FrameBlind (va_Pc av (zx_pre D ws tys sa)) := fun a U g mk q => ⟨q.1, ⟨q.2.1.1, va_K.moved (u := U) (U := U.calling g mk a) (Vm.Alike.refl U.vm) q.2.1.2⟩, zx_St.same (u := U) (U := U.calling g mk a) rfl rfl q.2.2⟩
theorem zx_ps {s : State} {H : Heap} {locs : List Loc} {A : Nat → Prop} {D : va_G} {ws wc : va_W} {tys Rc : List (ClassId × FieldType)} {av : List Value} {sa : Nat} (hP : va_P D vwCl ws H) (hK : va_K D vwCl tys s) (hG : zx_St sa A s s.heap) (hS : va_S A s.heap H locs)
    (is : List Nat) (hs : is.filterMap (fun i => ws[i]?) = wc) (js : List Nat) (ht : js.filterMap (fun i => tys[i]?) = Rc) :
    ∀ U : State, U.heap = H → s.WarmedH U.vm → va_Pc av (zx_pre D wc Rc sa) av.toArray U := fun U hU hW => ⟨rfl, ⟨by rw [hU]; exact hP.sub is hs, va_K.moved hW.alike (hK.sub js ht)⟩, hG.to hS hU hW⟩
def zx_preM (D : va_G) (ws : va_W) (tys : List (ClassId × FieldType)) (sa sz : Nat) : State → Prop := fun U => oo_preM D ws tys sz U ∧ zx_St sa oo_N U U.heap ∧ zx_St sa (va_A ws sz) U U.heap
theorem zx_blindM {av : List Value} {D : va_G} {ws : va_W} {tys : List (ClassId × FieldType)} {sa sz : Nat} : FrameBlind (va_Pc av (zx_preM D ws tys sa sz)) := fun a U g mk q => ⟨q.1, ⟨q.2.1.1, q.2.1.2.1, va_K.moved (u := U) (U := U.calling g mk a) (Vm.Alike.refl U.vm) q.2.1.2.2.1, q.2.1.2.2.2⟩, zx_St.same (u := U) (U := U.calling g mk a) rfl rfl q.2.2.1, zx_St.same (u := U) (U := U.calling g mk a) rfl rfl q.2.2.2⟩
theorem zx_head {l : Launch} {C : String} {y : MethodName} {ws ws' : List Cond} {rm : Room} {Pre : State → Prop} {Qc : Array Value → State → Outcome → State → Prop} {XC : String → State → State → Prop} {mc ms : Nat} {free : Addr → Prop} {cc : ByteArray} {maxL : Nat} {ret : Option FieldType} {av : List Value}
    (hy : plainName y.cls = true) (hyc : y.cls = C) (hw : ws = Cond.code y cc maxL ret :: ws') (hlen : (lg_sl av).length ≤ maxL)
    (body : ∀ (p : Program) (e : Env) (s : State) (m : MethodId) (below : List Frame) (meth : Method) (c : Code), p.tables.exec = Jvm.exec → c.code = cc → meth.sig.returnType = ret → meth.locks = false → c.maxLocals = maxL → s.vm.findClass C = some m.cls → (∀ x ∈ c.exceptionTable.toList, False) →
      (∀ w ∈ ws, w.before av.toArray s = true) → Pre s → ∀ ls : Array Slot, lv_has ls maxL (lv_args 0 av) →
      W p l e rm s m av.toArray below meth c s.heap [] 0 0 (vx_MQ below Qc XC av.toArray s mc ms free) (F0 m 0 ls [])) : vx_Met l y ws rm (va_Pc av Pre) Qc XC mc ms free := by
  refine vx_ofW (cc := cc) (maxL := maxL) (ret := ret) hy hw ?_
  intro p e s m args below meth c s₁ B hml ht hP
  obtain ⟨rfl, hpre⟩ := hP
  have hts := atoms_spec (ws := ws) B.pre
  have hown : s.vm.findClass C = some m.cls := hyc ▸ findClass_of_methodNamed B.named
  have hl := lv_entry av (n := maxL) hlen
  rw [lg_entry_eq]
  exact body p e s m below meth c B.exec B.bytes B.returns B.notSynchronized hml hown ht hts hpre _ hl
theorem zx_headW {l : Launch} {C : String} {y : MethodName} {ws ws' : List Cond} {rm : Room} {Pre : State → Prop} {Qc : Array Value → State → Outcome → State → Prop} {mc ms : Nat} {free : Addr → Prop} {cc : ByteArray} {maxL : Nat} {ret : Option FieldType} {hh : List (Nat × Nat × Nat × Nat)} {av : List Value}
    (hy : plainName y.cls = true) (hyc : y.cls = C) (hw : ws = Cond.codeWith y cc maxL ret hh :: ws') (hlen : (lg_sl av).length ≤ maxL)
    (body : ∀ (p : Program) (e : Env) (s : State) (m : MethodId) (below : List Frame) (meth : Method) (c : Code), p.tables.exec = Jvm.exec → c.code = cc → meth.sig.returnType = ret → meth.locks = false → c.maxLocals = maxL → s.vm.findClass C = some m.cls → c.exceptionTable.toList = tableOf hh →
      (∀ w ∈ ws, w.before av.toArray s = true) → Pre s → ∀ ls : Array Slot, lv_has ls maxL (lv_args 0 av) →
      W p l e rm s m av.toArray below meth c s.heap [] 0 0 (MQ below Qc av.toArray s mc ms free) (F0 m 0 ls [])) : Met l y ws rm (va_Pc av Pre) Qc mc ms free := by
  refine MetFree.of_bodyS (code := cc) (maxLocals := maxL) (ret := ret) hy ?_ ?_
  · intro args s m h hn
    obtain ⟨m9, meth, c, hn9, h1, h2, h3, h4, -, h5, h6, -⟩ := Cond.codeWith_spec (atoms_spec (ws := ws) h _ (by rw [hw]; exact List.mem_cons_self))
    cases hn.symm.trans hn9
    exact ⟨meth, c, h1, h2, h3, h4, h5, h6⟩
  · intro p e s m args below meth c s₁ B hml hP _
    have hh0 : s₁.heap = s.heap := by rw [B.state]; rfl
    obtain ⟨rfl, hpre⟩ := hP
    have hts := atoms_spec (ws := ws) B.pre
    have hown : s.vm.findClass C = some m.cls := hyc ▸ findClass_of_methodNamed B.named
    have htab := vx_table (x := y) B (hts _ (by rw [hw]; exact List.mem_cons_self))
    have hl := lv_entry av (n := maxL) hlen
    have K := body p e s m below meth c B.exec B.bytes B.returns B.notSynchronized hml hown htab hts hpre _ hl
    rw [← lg_entry_eq] at K
    obtain ⟨t, a1, o, b1, b2, b3⟩ := K s₁ hh0 (Stand.of_body B)
    exact ⟨t, o, a1, b1, b2, ⟨b3.1, b3.2⟩⟩
def zx_thr (lw uw an : Nat → Int64) (qn : Nat) (q r : Int32) : Prop := ¬ kvX0_isQuestion qn q = 0 ∧ ¬ kvX0_isQuestion qn r = 0 ∧ lg_cmp (kvX0_sumOfBoth lw uw an qn r r) 0 = 0
def kvX0_given (lw uw an : Nat → Int64) (qn : Nat) (q r : Int32) : Int64 := if kvX0_isQuestion qn q = 0 then 0 else (if kvX0_isQuestion qn r = 0 then 0 else ((1000000 : Int64) * kvX0_sumOfBoth lw uw an qn q r) / kvX0_sumOfBoth lw uw an qn r r)
theorem ok_X0_given : yX0_given.cls = RX0 ∧ yX0_given.cls ≠ "java/lang/invoke/MethodHandle" ∧ yX0_given.cls ≠ "java/lang/invoke/VarHandle" ∧ (parseMethodDescriptor yX0_given.desc).map (fun d => d.parameters.length) = some 2 := by decide +kernel
theorem ok_L_given : yL_given.cls ≠ "java/lang/invoke/MethodHandle" ∧ yL_given.cls ≠ "java/lang/invoke/VarHandle" ∧ (parseMethodDescriptor yL_given.desc).map (fun d => d.parameters.length) = some 4 := by decide +kernel
theorem zx_sub : ∀ w ∈ (vx_atS RX0 117 "java/lang/ArithmeticException" ["java/lang/RuntimeException", "java/lang/Exception"]).filter (fun w => !goodWord w), w ∈ ([.declares (Bundle.initS "java/lang/RuntimeException"), .declares (Bundle.initS "java/lang/Exception"), .declares (Bundle.initS "java/lang/Throwable"), .castable "java/lang/ArithmeticException" "java/lang/ArithmeticException"] : List Cond) := by decide +kernel
theorem zx_good : ∀ w ∈ Cond.classLink RX0 113 "java/lang/ArithmeticException" :: Cond.initialized "java/lang/ArithmeticException" :: vx_atS RX0 117 "java/lang/ArithmeticException" ["java/lang/RuntimeException", "java/lang/Exception"], vx_ot w = true := by decide +kernel
set_option maxHeartbeats 4000000 in
set_option maxRecDepth 100000 in
theorem kX0_given (l : Launch) (D : va_G) (cJ : ClassId) (h a1 a2 a3 a4 a5 : Nat) (u d lw uw an : Nat → Int64) (fn qn : Nat) (sd : Int64) (q r : Int32) (sa : Nat) (hl9 : l.stackTraces = false) : vx_Met l yX0_given wsX0_given ({ frames := 6, cells := 1, slots := 6, locals := 82 } : Room) (va_Pc [.ref h, .int q, .int r] (zx_pre D (xW cJ h a1 a2 a3 a4 a5 u d lw uw an (nI fn) (nI qn) sd) [(cJ, .long)] sa)) (va_Ql (fun r9 (_ : Unit) => r9 = kvX0_given lw uw an qn q r ∧ ¬ zx_thr lw uw an qn q r) (fun _ _ => True) oo_N) (vx_X (fun (_ : Unit) => zx_thr lw uw an qn q r) (fun E _ _ => E = "java/lang/ArithmeticException") oo_N) 1 6 oo_N := by
  refine zx_head (C := RX0) (cc := cX0_given) (maxL := 5) (ret := (some .long)) (by decide) rfl rfl (Nat.le_of_ble_eq_true rfl) ?_
  intro p e s m below meth c hx hb hr hlocks hml hown htab hts hpre ls hl
  have hl : lv_has ls 5 [(0, .ref h), (1, .int q), (2, .int r)] := hl
  obtain ⟨⟨hP, hK⟩, hG⟩ := hpre
  have hS : va_S oo_N s.heap s.heap [] := va_S.rf
  have hin : ∀ w ∈ wsX00, w ∈ wsX0_given := fun w h => List.mem_cons_of_mem _ (List.mem_append_left _ (List.mem_append_right _ h))
  have hat : ∀ w ∈ vx_atS RX0 117 "java/lang/ArithmeticException" ["java/lang/RuntimeException", "java/lang/Exception"], w.before #[.ref h, .int q, .int r] s = true := vx_hat (fun w h => hts w (List.mem_cons_of_mem _ (List.mem_append_right _ h))) zx_sub (vx_c (va_tabs rfl rfl hG.2.2.2.1) (vx_c (va_tabs rfl rfl hG.2.2.2.2.1) (vx_c (va_tabs rfl rfl hG.2.2.2.2.2.1) (vx_c (va_tabs rfl rfl hG.2.2.2.2.2.2) vx_n))))
  refine lv_aload_n hx hb dX0_given_0 rfl (lv_at hl 0 rfl) ?_
  refine lv_iload_n hx hb dX0_given_1 rfl (lv_at hl 1 rfl) ?_
  refine ro_calli (va_runV (As := [.int q]) (rest := []) ⟨hx, hb, hml, hown, hts⟩ (kX0_isQuestion l D cJ h a1 a2 a3 a4 a5 u d lw uw an fn qn sd q) (cwV 1 hts gX0_given_X0_isQuestion rfl rfl rfl ok_X0_isQuestion ⟨Nat.le_of_ble_eq_true rfl, Nat.le_of_ble_eq_true rfl⟩) ⟨oo_blind, va_recv hK hP (ci := 0) (q0 := 0) rfl rfl, oo_ps hP hK [0, 1, 2, 3, 4, 5] rfl [0] rfl⟩ rfl rfl hl.1 rfl (lv_room (Nat.le_of_ble_eq_true rfl)) dX0_given_2 ⟨Nat.le_of_ble_eq_true rfl, Nat.le_of_ble_eq_true rfl⟩) hP hS (fun H locs hP hS => ?_)
  refine lv_if_eq (tgt := 16) hx hb dX0_given_5 (by decide) (fun c_5 => ?_) (fun c_5 => ?_)
  · refine lv_lconst (v := (0 : Int64)) hx hb dX0_given_16 (by decide) ?_
    refine vx_ret ?_
    refine W.widen (k := 1) (n := 6) (by omega) (by omega) ?_
    exact W.lret (v := (0 : Int64)) hx hb hr (fun t ht hW => ⟨⟨_, (), rfl, ⟨(by unfold kvX0_given; rw [if_pos c_5]), (fun h9 => h9.1 c_5)⟩, trivial⟩, hS.F ht⟩) hS.2.2 dX0_given_17 hlocks
  · refine lv_aload_n hx hb dX0_given_8 rfl (lv_at hl 0 rfl) ?_
    refine lv_iload_n hx hb dX0_given_9 rfl (lv_at hl 2 rfl) ?_
    refine ro_calli (va_runV (As := [.int r]) (rest := []) ⟨hx, hb, hml, hown, hts⟩ (kX0_isQuestion l D cJ h a1 a2 a3 a4 a5 u d lw uw an fn qn sd r) (cwV 1 hts gX0_given_X0_isQuestion rfl rfl rfl ok_X0_isQuestion ⟨Nat.le_of_ble_eq_true rfl, Nat.le_of_ble_eq_true rfl⟩) ⟨oo_blind, va_recv hK hP (ci := 0) (q0 := 0) rfl rfl, oo_ps hP hK [0, 1, 2, 3, 4, 5] rfl [0] rfl⟩ rfl rfl hl.1 rfl (lv_room (Nat.le_of_ble_eq_true rfl)) dX0_given_10 ⟨Nat.le_of_ble_eq_true rfl, Nat.le_of_ble_eq_true rfl⟩) hP hS (fun H locs hP hS => ?_)
    refine lv_if_ne (tgt := 18) hx hb dX0_given_13 (by decide) (fun c_13 => ?_) (fun c_13 => ?_)
    · refine lv_aload_n hx hb dX0_given_18 rfl (lv_at hl 0 rfl) ?_
      refine lv_iload_n hx hb dX0_given_19 rfl (lv_at hl 2 rfl) ?_
      refine lv_iload_n hx hb dX0_given_20 rfl (lv_at hl 2 rfl) ?_
      refine ro_calll (va_runV (As := [.int r, .int r]) (rest := []) ⟨hx, hb, hml, hown, hts⟩ (kX0_sumOfBoth l D cJ h a1 a2 a3 a4 a5 u d lw uw an fn qn sd r r) (cwV 2 hts gX0_given_X0_sumOfBoth rfl rfl rfl ok_X0_sumOfBoth ⟨Nat.le_of_ble_eq_true rfl, Nat.le_of_ble_eq_true rfl⟩) ⟨oo_blind, va_recv hK hP (ci := 0) (q0 := 0) rfl rfl, oo_ps hP hK [0, 1, 2, 3, 4, 5] rfl [0] rfl⟩ rfl rfl hl.1 rfl (lv_room (Nat.le_of_ble_eq_true rfl)) dX0_given_21 ⟨Nat.le_of_ble_eq_true rfl, Nat.le_of_ble_eq_true rfl⟩) hP hS (fun H locs hP hS => ?_)
      refine lv_lstore_n (lv' := [(3, .long (kvX0_sumOfBoth lw uw an qn r r)), (0, .ref h), (1, .int q), (2, .int r)]) hx hb dX0_given_24 rfl hl (by decide) rfl (fun ls hl => ?_)
      refine lv_lload_n hx hb dX0_given_25 rfl (lv_at hl 0 rfl) ?_
      refine lv_lconst (v := (0 : Int64)) hx hb dX0_given_26 (by decide) ?_
      refine W.lcmp hx hb dX0_given_27 ?_
      refine lv_if_ne (tgt := 41) hx hb dX0_given_28 (by decide) (fun c_28 => ?_) (fun c_28 => ?_)
      · refine lv_ldc2 hx hb hown (hts (.constantLong RX0 120 (1000000)) (by decide +kernel)) dX0_given_41 ?_
        refine lv_aload_n hx hb dX0_given_44 rfl (lv_at hl 1 rfl) ?_
        refine lv_iload_n hx hb dX0_given_45 rfl (lv_at hl 2 rfl) ?_
        refine lv_iload_n hx hb dX0_given_46 rfl (lv_at hl 3 rfl) ?_
        refine ro_calll (va_runV (As := [.int q, .int r]) (rest := [.long (1000000 : Int64)]) ⟨hx, hb, hml, hown, hts⟩ (kX0_sumOfBoth l D cJ h a1 a2 a3 a4 a5 u d lw uw an fn qn sd q r) (cwV 2 hts gX0_given_X0_sumOfBoth rfl rfl rfl ok_X0_sumOfBoth ⟨Nat.le_of_ble_eq_true rfl, Nat.le_of_ble_eq_true rfl⟩) ⟨oo_blind, va_recv hK hP (ci := 0) (q0 := 0) rfl rfl, oo_ps hP hK [0, 1, 2, 3, 4, 5] rfl [0] rfl⟩ rfl rfl hl.1 rfl (lv_room (Nat.le_of_ble_eq_true rfl)) dX0_given_47 ⟨Nat.le_of_ble_eq_true rfl, Nat.le_of_ble_eq_true rfl⟩) hP hS (fun H locs hP hS => ?_)
        refine lv_lmul hx hb dX0_given_50 ?_
        refine lv_lload_n hx hb dX0_given_51 rfl (lv_at hl 0 rfl) ?_
        refine lv_ldiv hx hb dX0_given_52 (oo_nz2 c_28) ?_
        refine vx_ret ?_
        refine W.widen (k := 1) (n := 6) (by omega) (by omega) ?_
        exact W.lret (v := ((1000000 : Int64) * (kvX0_sumOfBoth lw uw an qn q r)) / (kvX0_sumOfBoth lw uw an qn r r)) hx hb hr (fun t ht hW => ⟨⟨_, (), rfl, ⟨(by unfold kvX0_given; rw [if_neg c_5, if_neg c_13]), (fun h9 => c_28 h9.2.2)⟩, trivial⟩, hS.F ht⟩) hS.2.2 dX0_given_53 hlocks
      · exact vx_throwS (own := RX0) (cls := "java/lang/ArithmeticException") (text := zx_tx) (names := ["java/lang/RuntimeException", "java/lang/Exception"]) (ik := 113) (is := 115) (ic := 117) (A := oo_N) (rest := []) hx hb hl9 hown (by decide) (by decide) (hts (.classLink RX0 113 "java/lang/ArithmeticException") (by decide +kernel)) (hts (.initialized "java/lang/ArithmeticException") (by decide +kernel)) hG.1 hat zx_good hG.2.1 hG.2.2.1 hS (hl.1.trans hml.symm) dX0_given_31 dX0_given_34 dX0_given_35 dX0_given_37 dX0_given_40 (fun x hx9 => (htab x hx9).elim) (Nat.le_of_ble_eq_true rfl) (Nat.le_of_ble_eq_true rfl) (Nat.le_of_ble_eq_true rfl) (Nat.le_of_ble_eq_true rfl) hlocks (fun t _ h2 h3 => ⟨(), ⟨c_5, c_13, c_28⟩, rfl, Nat.le_trans hS.1 h2, fun q9 g1 _ => (h3 q9 (Nat.lt_of_lt_of_le g1 hS.1)).trans (hS.2.1 q9 g1 (fun z => z))⟩) hS.2.2 (Nat.le_of_ble_eq_true rfl) (Nat.le_of_ble_eq_true rfl)
    · refine lv_lconst (v := (0 : Int64)) hx hb dX0_given_16 (by decide) ?_
      refine vx_ret ?_
      refine W.widen (k := 1) (n := 6) (by omega) (by omega) ?_
      exact W.lret (v := (0 : Int64)) hx hb hr (fun t ht hW => ⟨⟨_, (), rfl, ⟨(by unfold kvX0_given; rw [if_neg c_5, if_pos c_13]), (fun h9 => h9.2.1 c_13)⟩, trivial⟩, hS.F ht⟩) hS.2.2 dX0_given_17 hlocks
def kvL_given (lw uw an : Nat → Int64) (qn : Nat) (q r : Int32) : Int32 := if kvX0_isQuestion qn q = 0 then 0 else (if kvX0_isQuestion qn r = 0 then 0 else (if lg_cmp (kvX0_sumOfBoth lw uw an qn r r) 0 = 0 then 1 else 0))
def kvL_out (lw uw an : Nat → Int64) (qn : Nat) (q r : Int32) (f : Nat → Int64) : Nat → Int64 := if kvX0_isQuestion qn q = 0 then vp_updL f 0 (kvX0_given lw uw an qn q r) else (if kvX0_isQuestion qn r = 0 then vp_updL f 0 (kvX0_given lw uw an qn q r) else (if lg_cmp (kvX0_sumOfBoth lw uw an qn r r) 0 = 0 then f else vp_updL f 0 (kvX0_given lw uw an qn q r)))
theorem zx_t1 {lw uw an : Nat → Int64} {qn : Nat} {q r : Int32} (h : zx_thr lw uw an qn q r) (f : Nat → Int64) : kvL_given lw uw an qn q r = 1 ∧ kvL_out lw uw an qn q r f = f := by
  obtain ⟨h1, h2, h3⟩ := h
  unfold kvL_given kvL_out
  rw [if_neg h1, if_neg h2, if_pos h3, if_neg h1, if_neg h2, if_pos h3]
  exact ⟨rfl, rfl⟩
theorem zx_t0 {lw uw an : Nat → Int64} {qn : Nat} {q r : Int32} (h : ¬ zx_thr lw uw an qn q r) (f : Nat → Int64) : kvL_given lw uw an qn q r = 0 ∧ kvL_out lw uw an qn q r f = vp_updL f 0 (kvX0_given lw uw an qn q r) := by
  unfold kvL_given kvL_out
  by_cases h1 : kvX0_isQuestion qn q = 0
  · rw [if_pos h1, if_pos h1]; exact ⟨rfl, rfl⟩
  · by_cases h2 : kvX0_isQuestion qn r = 0
    · rw [if_neg h1, if_pos h2, if_neg h1, if_pos h2]; exact ⟨rfl, rfl⟩
    · have h3 : ¬ lg_cmp (kvX0_sumOfBoth lw uw an qn r r) 0 = 0 := fun z => h ⟨h1, h2, z⟩
      rw [if_neg h1, if_neg h2, if_neg h3, if_neg h1, if_neg h2, if_neg h3]; exact ⟨rfl, rfl⟩
set_option maxHeartbeats 4000000 in
set_option maxRecDepth 100000 in
theorem kL_given (l : Launch) (D : va_G) (cJ : ClassId) (h a1 a2 a3 a4 a5 : Nat) (u d lw uw an : Nat → Int64) (fn qn : Nat) (sd : Int64) (o : Nat) (f : Nat → Int64) (q r : Int32) (sa sz : Nat) (hl9 : l.stackTraces = false) : Met l yL_given wsL_given ({ frames := 7, cells := 1, slots := 6, locals := 106 } : Room) (va_Pc [.ref h, .int q, .int r, .ref o] (zx_preM D ((xW cJ h a1 a2 a3 a4 a5 u d lw uw an (nI fn) (nI qn) sd ++ [(o, .inl (cJ, 1, .inr (.inl f)))])) [(cJ, .long)] sa sz)) (va_Qi (fun r9 (_ : Unit) => r9 = kvL_given lw uw an qn q r) (fun _ t => va_P D vwCl ((xW cJ h a1 a2 a3 a4 a5 u d lw uw an (nI fn) (nI qn) sd ++ [(o, .inl (cJ, 1, .inr (.inl (kvL_out lw uw an qn q r f))))])) t.heap ∧ va_D (va_A ((xW cJ h a1 a2 a3 a4 a5 u d lw uw an (nI fn) (nI qn) sd ++ [(o, .inl (cJ, 1, .inr (.inl f)))])) sz) ((xW cJ h a1 a2 a3 a4 a5 u d lw uw an (nI fn) (nI qn) sd ++ [(o, .inl (cJ, 1, .inr (.inl (kvL_out lw uw an qn q r f))))]))) (va_A ((xW cJ h a1 a2 a3 a4 a5 u d lw uw an (nI fn) (nI qn) sd ++ [(o, .inl (cJ, 1, .inr (.inl f)))])) sz)) 1 6 (va_A ((xW cJ h a1 a2 a3 a4 a5 u d lw uw an (nI fn) (nI qn) sd ++ [(o, .inl (cJ, 1, .inr (.inl f)))])) sz) := by
  refine zx_headW (C := RL) (cc := cL_given) (maxL := 5) (ret := (some .int)) (hh := [(0, 9, 12, 13)]) (by decide) rfl rfl (Nat.le_of_ble_eq_true rfl) ?_
  intro p e s m below meth c hx hb hr hlocks hml hown htab hts hpre ls hl
  have hl : lv_has ls 5 [(0, .ref h), (1, .int q), (2, .int r), (3, .ref o)] := hl
  obtain ⟨⟨rfl, hP, hK, hD0⟩, -, hG⟩ := hpre
  have hD := hD0.self (sz := s.heap.size)
  have hA := oo_A ((xW cJ h a1 a2 a3 a4 a5 u d lw uw an (nI fn) (nI qn) sd ++ [(o, .inl (cJ, 1, .inr (.inl f)))])) s
  have hS : va_S (va_A ((xW cJ h a1 a2 a3 a4 a5 u d lw uw an (nI fn) (nI qn) sd ++ [(o, .inl (cJ, 1, .inr (.inl f)))])) s.heap.size) s.heap s.heap [] := va_S.rf
  refine lv_aload_n hx hb dL_given_0 rfl (lv_at hl 3 rfl) ?_
  refine lv_iconst (v := nI 0) hx hb dL_given_1 (by decide) ?_
  refine lv_aload_n hx hb dL_given_2 rfl (lv_at hl 0 rfl) ?_
  refine lv_iload_n hx hb dL_given_3 rfl (lv_at hl 1 rfl) ?_
  refine lv_iload_n hx hb dL_given_4 rfl (lv_at hl 2 rfl) ?_
  refine vx_calll (vx_runV (As := [.int q, .int r]) (rest := [.int (nI 0), .ref o]) ⟨hx, hb, hml, hown, hts⟩ (kX0_given l D cJ h a1 a2 a3 a4 a5 u d lw uw an fn qn sd q r sa hl9) (cwV 2 hts gL_given_X0_given rfl rfl rfl ok_X0_given ⟨Nat.le_of_ble_eq_true rfl, Nat.le_of_ble_eq_true rfl⟩) ⟨zx_blind, va_recv hK hP (ci := 0) (q0 := 0) rfl rfl, zx_ps hP hK hG hS [0, 1, 2, 3, 4, 5] rfl [0] rfl⟩ rfl rfl hl.1 rfl (lv_room (Nat.le_of_ble_eq_true rfl)) dL_given_5 ⟨Nat.le_of_ble_eq_true rfl, Nat.le_of_ble_eq_true rfl⟩) hS (fun q9 _ h9 => h9.elim) (fun q9 h9 => h9.elim) (fun q9 _ h9 => h9.elim) (fun E ce q9 z t H locs ht hvm hpx hB hz1 hk1 hS hce hcv hcl => ?_) (fun r9 z t H locs ht hvm hpp hB hz1 hk1 hS => ?_)
  · have hP := hP.kept (H1 := H) (fun k q9 h9 => hk1 q9.1 (hP k q9 h9).lt (fun z9 => z9))
    subst hB
    refine vx_catch (own := RL) (name := "java/lang/ArithmeticException") hown [] ⟨0, 9, 12, 13⟩ [] (by rw [htab]; rfl) (fun z9 hz9 => absurd hz9 List.not_mem_nil) (by decide) (by decide) (hts (.classLink RL 13 "java/lang/ArithmeticException") (by decide +kernel)) (va_tabs rfl rfl hG.2.2.2.2.2.2) hce hcv hcl ?_
    refine lv_astore (lv' := [(4, .ref q9), (0, .ref h), (1, .int q), (2, .int r), (3, .ref o)]) hx hb dL_given_12 hl (by decide) rfl (fun ls hl => ?_)
    refine lv_iconst (v := (1 : Int32)) hx hb dL_given_14 (by decide) ?_
    obtain ⟨e1, e2⟩ := zx_t1 hpx f
    exact W.iret hx hb hr (fun t9 ht9 hW9 => ⟨⟨_, (), rfl, e1.symm, by rw [ht9, e2]; exact hP, by rw [e2]; exact hD⟩, hS.F ht9⟩) hS.2.2 dL_given_15 hlocks
  · have hP := hP.kept (H1 := H) (fun k q9 h9 => hk1 q9.1 (hP k q9 h9).lt (fun z9 => z9))
    obtain ⟨rfl, hnt⟩ := hpp
    refine va_last hx hb hK hP hD hS 6 0 rfl rfl (vp_in_nI (by omega) (by omega)) dL_given_8 (fun H locs hP hD hS => ?_)
    have hP : va_P D vwCl ((xW cJ h a1 a2 a3 a4 a5 u d lw uw an (nI fn) (nI qn) sd ++ [(o, .inl (cJ, 1, .inr (.inl (vp_updL f (nI 0).toNatClampNeg (kvX0_given lw uw an qn q r)))))])) H := hP
    refine lv_goto (tgt := 16) hx hb dL_given_9 (by decide) ?_
    refine lv_iconst (v := (0 : Int32)) hx hb dL_given_16 (by decide) ?_
    obtain ⟨e1, e2⟩ := zx_t0 hnt f
    have hP := Eq.mp (congrArg (fun z9 => va_P D vwCl ((xW cJ h a1 a2 a3 a4 a5 u d lw uw an (nI fn) (nI qn) sd ++ [(o, .inl (cJ, 1, .inr (.inl z9)))])) H) (show vp_updL f (nI 0).toNatClampNeg (kvX0_given lw uw an qn q r) = kvL_out lw uw an qn q r f from (by rw [e2, nI_clamp (by omega)]))) hP
    have hD : va_D _ ((xW cJ h a1 a2 a3 a4 a5 u d lw uw an (nI fn) (nI qn) sd ++ [(o, .inl (cJ, 1, .inr (.inl (kvL_out lw uw an qn q r f))))])) := oo_Dre hD (oo_fc (oo_fc (oo_fc (oo_fc (oo_fc (oo_fc (oo_fc rfl)))))))
    exact W.iret hx hb hr (fun t9 ht9 hW9 => ⟨⟨_, (), rfl, e1.symm, by rw [ht9]; exact hP, hD⟩, hS.F ht9⟩) hS.2.2 dL_given_17 hlocks
